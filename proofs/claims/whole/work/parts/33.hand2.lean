/-! slots and what stands in them -/
def permP (pi : Nat → Nat) : Prop := ∀ i, i < 20 → pi i < 20 ∧ ∀ k, k < 20 → pi i = pi k → i = k
theorem permP.comp {pi sg pi2 : Nat → Nat} (h : permP pi) (h1 : ∀ k, k < 20 → pi2 k = pi (sg k)) (h2 : ∀ k, k < 20 → sg k < 20) (h3 : ∀ i k, i < 20 → k < 20 → sg i = sg k → i = k) : permP pi2 := by
  intro i hi
  rw [h1 i hi]
  refine ⟨(h _ (h2 i hi)).1, fun k hk e => ?_⟩
  rw [h1 k hk] at e
  exact h3 i k hi hk ((h _ (h2 i hi)).2 _ (h2 k hk) e)
theorem shF_stepN {α : Type} (f : Nat → α) {i n : Nat} (hi : i < n) : updF (shF f (i + 1) n) (i + 1) (shF f (i + 1) n i) = shF f i n := by
  funext k
  unfold updF shF
  by_cases q : k = i + 1
  · subst q
    simp only [if_true]
    rw [if_neg (by omega), if_pos (by omega)]
    rfl
  · simp only [q, if_false]
    by_cases q2 : i + 1 < k ∧ k ≤ n
    · rw [if_pos q2, if_pos (by omega)]
    · rw [if_neg q2, if_neg (by omega)]
theorem slF_stepN {α : Type} (f : Nat → α) {j i : Nat} (hi : j ≤ i) : updF (slF f j i) i (slF f j i (i + 1)) = slF f j (i + 1) := by
  funext k
  unfold updF slF
  by_cases q : k = i
  · subst q
    simp only [if_true]
    rw [if_neg (by omega), if_pos (by omega)]
  · simp only [q, if_false]
    by_cases q2 : j ≤ k ∧ k < i
    · rw [if_pos q2, if_pos (by omega)]
    · rw [if_neg q2, if_neg (by omega)]
def piI (pi : Nat → Nat) (j n : Nat) : Nat → Nat := updF (shF pi j n) j (pi n)
theorem piI_at {pi : Nat → Nat} {j n k : Nat} : piI pi j n k = pi (if k = j then n else if j < k ∧ k ≤ n then k - 1 else k) := by
  unfold piI updF shF
  by_cases q : k = j
  · rw [if_pos q, if_pos q]
  · rw [if_neg q, if_neg q]
    by_cases q2 : j < k ∧ k ≤ n
    · rw [if_pos q2, if_pos q2]
    · rw [if_neg q2, if_neg q2]
theorem piI_perm {pi : Nat → Nat} {j n : Nat} (h : permP pi) (hj : j ≤ n) (hn : n < 20) : permP (piI pi j n) := by
  refine h.comp (sg := fun k => if k = j then n else if j < k ∧ k ≤ n then k - 1 else k) (fun k _ => piI_at) (fun k hk => ?_) (fun i k hi hk e => ?_)
  · show (if k = j then n else if j < k ∧ k ≤ n then k - 1 else k) < 20
    split
    · exact hn
    · split <;> omega
  · have e : (if i = j then n else if j < i ∧ i ≤ n then i - 1 else i) = (if k = j then n else if j < k ∧ k ≤ n then k - 1 else k) := e
    (repeat' split at e) <;> omega
def piR (pi : Nat → Nat) (j n : Nat) : Nat → Nat := updF (slF pi j (n - 1)) (n - 1) (pi j)
theorem piR_at {pi : Nat → Nat} {j n k : Nat} : piR pi j n k = pi (if k = n - 1 then j else if j ≤ k ∧ k < n - 1 then k + 1 else k) := by
  unfold piR updF slF
  by_cases q : k = n - 1
  · rw [if_pos q, if_pos q]
  · rw [if_neg q, if_neg q]
    by_cases q2 : j ≤ k ∧ k < n - 1
    · rw [if_pos q2, if_pos q2]
    · rw [if_neg q2, if_neg q2]
theorem piR_perm {pi : Nat → Nat} {j n : Nat} (h : permP pi) (hj : j < n) (hn : n ≤ 20) : permP (piR pi j n) := by
  refine h.comp (sg := fun k => if k = n - 1 then j else if j ≤ k ∧ k < n - 1 then k + 1 else k) (fun k _ => piR_at) (fun k hk => ?_) (fun i k hi hk e => ?_)
  · show (if k = n - 1 then j else if j ≤ k ∧ k < n - 1 then k + 1 else k) < 20
    split
    · omega
    · split <;> omega
  · have e : (if i = n - 1 then j else if j ≤ i ∧ i < n - 1 then i + 1 else i) = (if k = n - 1 then j else if j ≤ k ∧ k < n - 1 then k + 1 else k) := e
    (repeat' split at e) <;> omega
theorem piI_lt {pi : Nat → Nat} {j n k : Nat} (hk : k < n + 1) (hkj : k ≠ j) (hj : j ≤ n) : piI pi j n k = insF pi j 0 k ∧ ∃ i, i < n ∧ piI pi j n k = pi i ∧ ∀ (f : Nat → Nat) (v : Nat), insF f j v k = f i := by
  rw [piI_at, if_neg hkj]
  by_cases q : j < k ∧ k ≤ n
  · rw [if_pos q]
    refine ⟨?_, k - 1, by omega, rfl, fun f v => ?_⟩
    · unfold insF; rw [if_neg (by omega), if_neg hkj]
    · unfold insF; rw [if_neg (by omega), if_neg hkj]
  · rw [if_neg q]
    refine ⟨?_, k, by omega, rfl, fun f v => ?_⟩
    · unfold insF; rw [if_pos (by omega)]
    · unfold insF; rw [if_pos (by omega)]
theorem insF_pi {α : Type} {f : Nat → α} {pi : Nat → Nat} {j n k : Nat} {v : α} (hk : k < n + 1) (hkj : k ≠ j) : insF (fun i => f (pi i)) j v k = f (piI pi j n k) := by
  rw [piI_at, if_neg hkj]
  unfold insF
  by_cases q : k < j
  · rw [if_pos q, if_neg (by omega)]
  · rw [if_neg q, if_neg hkj, if_pos (by omega)]
theorem delF_pi {α : Type} {f : Nat → α} {pi : Nat → Nat} {j n k : Nat} (hk : k < n - 1) : delF (fun i => f (pi i)) j k = f (piR pi j n k) := by
  rw [piR_at, if_neg (by omega)]
  unfold delF
  by_cases q : k < j
  · rw [if_pos q, if_neg (by omega)]
  · rw [if_neg q, if_pos (by omega)]
theorem PL_ins {n : Nat} {rn pi tl ct ps : Nat → Nat} {tk : Nat → Nat → Int32} {j t : Nat} {tk1 : Nat → Int32} (h : PL n rn pi tl ct ps tk) (hp : permP pi) (hj : j ≤ n) (hn : n < 20) (h1 : ∀ k, k < len t → tk1 k = nI (tok t k)) :
    PL (n + 1) (insF rn j t) (piI pi j n) (updF tl (pi n) t) (updF ct (pi n) (len t)) (updF ps (pi n) (pres t)) (updF tk (pi n) tk1) := by
  intro k hk
  by_cases q : k = j
  · subst q
    have e : piI pi k n k = pi n := by rw [piI_at, if_pos rfl]
    have e2 : insF rn k t k = t := by unfold insF; rw [if_neg (by omega), if_pos rfl]
    rw [e, e2, updF_s, updF_s, updF_s, updF_s]
    exact ⟨(hp n hn).1, rfl, rfl, rfl, h1⟩
  · obtain ⟨-, i, hi, e, e2⟩ := piI_lt (pi := pi) hk q hj
    have hne : pi i ≠ pi n := fun z => by have := (hp i (by omega)).2 n hn z; omega
    rw [e, e2 rn t, updF_n hne, updF_n hne, updF_n hne, updF_n hne]
    exact h i hi
theorem PL_del {n : Nat} {rn pi tl ct ps : Nat → Nat} {tk : Nat → Nat → Int32} {j : Nat} (h : PL n rn pi tl ct ps tk) (hj : j < n) : PL (n - 1) (delF rn j) (piR pi j n) tl ct ps tk := by
  intro k hk
  rw [piR_at, if_neg (by omega)]
  unfold delF
  by_cases q : k < j
  · rw [if_pos q, if_neg (by omega)]
    exact h k (by omega)
  · rw [if_neg q, if_pos (by omega)]
    exact h (k + 1) (by omega)
theorem PL_upd {n : Nat} {rn pi tl ct ps : Nat → Nat} {tk : Nat → Nat → Int32} {j t : Nat} {tk1 : Nat → Int32} (h : PL n rn pi tl ct ps tk) (hp : permP pi) (hj : j < n) (hn : n ≤ 20) (h1 : ∀ k, k < len t → tk1 k = nI (tok t k)) :
    PL n (updF rn j t) pi (updF tl (pi j) t) (updF ct (pi j) (len t)) (updF ps (pi j) (pres t)) (updF tk (pi j) tk1) := by
  intro k hk
  by_cases q : k = j
  · subst q
    rw [updF_s, updF_s, updF_s, updF_s, updF_s]
    exact ⟨(hp k (by omega)).1, rfl, rfl, rfl, h1⟩
  · have hne : pi k ≠ pi j := fun z => q ((hp k (by omega)).2 j (by omega) z)
    rw [updF_n q, updF_n hne, updF_n hne, updF_n hne, updF_n hne]
    exact h k hk
/-- what was seen, in slots -/
def SN (n : Nat) (pi : Nat → Nat) (sn sA : Nat → Int32) : Prop := ∀ j, j < n → sn (pi j) = sA j
theorem SN_ins {n : Nat} {pi : Nat → Nat} {sn sA : Nat → Int32} {j : Nat} {v : Int32} (h : SN n pi sn sA) (hp : permP pi) (hj : j ≤ n) (hn : n < 20) : SN (n + 1) (piI pi j n) (upd sn (pi n) v) (insF sA j v) := by
  intro k hk
  by_cases q : k = j
  · subst q
    rw [piI_at, if_pos rfl, upd_s]
    unfold insF; rw [if_neg (by omega), if_pos rfl]
  · have e : insF (fun i => sn (pi i)) j v k = insF sA j v k := by
      unfold insF
      by_cases z : k < j
      · rw [if_pos z, if_pos z]; exact h k (by omega)
      · rw [if_neg z, if_neg z, if_neg q, if_neg q]; exact h _ (by omega)
    rw [← e, insF_pi hk q]
    obtain ⟨-, i, hi, e1, -⟩ := piI_lt (pi := pi) hk q hj
    rw [e1]
    exact upd_n (fun z => by have := (hp i (by omega)).2 n hn z; omega)
theorem SN_del {n : Nat} {pi : Nat → Nat} {sn sA : Nat → Int32} {j : Nat} (h : SN n pi sn sA) : SN (n - 1) (piR pi j n) sn (delF sA j) := by
  intro k hk
  rw [← delF_pi (f := sn) hk]
  unfold delF
  by_cases z : k < j
  · rw [if_pos z, if_pos z]; exact h k (by omega)
  · rw [if_neg z, if_neg z]; exact h _ (by omega)
theorem SN_upd {n : Nat} {pi : Nat → Nat} {sn sA : Nat → Int32} {j : Nat} {v : Int32} (h : SN n pi sn sA) (hp : permP pi) (hj : j < n) (hn : n ≤ 20) : SN n pi (upd sn (pi j) v) (updF sA j v) := by
  intro k hk
  by_cases q : k = j
  · subst q; rw [upd_s, updF_s]
  · rw [updF_n q, upd_n (fun z => q ((hp k (by omega)).2 j (by omega) z))]
    exact h k hk
section KF
variable {p : Program} {l : Launch} {e : Env} {R : Room} {s : State} {m : MethodId} {args : Array Value} {below : List Frame} {meth : Method} {c : Code} {H : Heap} {locs : List Loc} {cells slots : Nat} {Q : State → Prop}
variable {cc : ByteArray} {pc : Nat} {ls : Array Slot} {rest st0 As : List Value} {A : Nat → Prop} {a : Nat} {ws : va_W} {H0 : Heap} {G : va_G} {E : cEnv}
theorem slot_up {oa pi : Nat → Nat} {j x : Nat} : va_up (fun k => some (slot oa pi k)) j (some (oa x)) = fun k => some (slot oa (updF pi j x) k) := by
  funext k
  unfold va_up slot updF
  by_cases q : k = j
  · rw [if_pos q, if_pos q]
  · rw [if_neg q, if_neg q]
theorem k_aast (hexec : p.tables.exec = Jvm.exec) (hb : c.code = cc) (hK : KK G E s) (hP : va_P G vwCl ws H) (hD : va_D A ws) (hS : va_S A H0 H locs) (q0 qk : Nat) {oa pi : Nat → Nat} {n x : Nat} {vs : List Value} (ha : ws[q0]? = some (a, .inl (E.2.2.1, n, .inr (.inr (.inr (.inr (fun k => some (slot oa pi k)))))))) (hv : ws[qk]? = some (oa x, .inr (1, vs))) {j : Nat} (hj : j < n) (hn : n < 2 ^ 31) (hdg : decode cc pc = .ok (.aastore, 1))
    (kk : ∀ (H1 : Heap) (locs1 : List Loc), va_P G vwCl (ws.set q0 (a, .inl (E.2.2.1, n, .inr (.inr (.inr (.inr (fun k => some (slot oa (updF pi j x) k)))))))) H1 → va_D A (ws.set q0 (a, .inl (E.2.2.1, n, .inr (.inr (.inr (.inr (fun k => some (slot oa (updF pi j x) k)))))))) → va_S A H0 H1 locs1 → W p l e R s m args below meth c H1 locs1 cells slots Q (F0 m (pc + 1) ls rest)) : W p l e R s m args below meth c H locs cells slots Q (F0 m pc ls (.ref (oa x) :: .int (nI j) :: .ref a :: rest)) :=
  va_astq (r := (RX1, TX1, 6)) hexec hb hK hP hD hS q0 2 qk 1 ha rfl hv rfl (vp_in_nI hj hn) hdg (by rw [nI_clamp (Nat.lt_trans hj hn), slot_up]; exact kk)
variable {bytes : ByteArray} {nL maxL index n : Nat} {own : String} {y : MethodName} {ret : Option FieldType} {rm : Room} {Ts wl ws' : List Cond}
/-- a call of a line's method that tells it anew -/
theorem wl_v {post : (Nat → Int32) → Prop} {X : va_W} {oa ta : Nat → Nat} {tl ct ps : Nat → Nat} {sn cb : Nat → Int32} {tk : Nat → Nat → Int32} {i t1 c1 p1 : Nat} (S : CallFix p m c cc nL s args Ts own) (hK : KK G E s) (hZ : SW A s s.heap) (hS : va_S A s.heap H locs) (hA : ∀ q, s.heap.size ≤ q → A q)
    (hM : ∀ sz, Met l y wl rm (va_Pc (.ref (oa i) :: As) (PW G E [(oa i, .inr (1, [.ref (ta i), .int (nI (tl i)), .int (nI (ct i)), .int (nI (ps i)), .int (sn i), .int (cb i)])), (ta i, .inl (E.1, 9, .inl (tk i)))] sz)) (va_Qv post (fun u t => va_P G vwCl [(oa i, .inr (1, [.ref (ta i), .int (nI t1), .int (nI c1), .int (nI p1), .int (sn i), .int (cb i)])), (ta i, .inl (E.1, 9, .inl u))] t.heap) (va_A [(oa i, .inr (1, [.ref (ta i), .int (nI (tl i)), .int (nI (ct i)), .int (nI (ps i)), .int (sn i), .int (cb i)])), (ta i, .inl (E.1, 9, .inl (tk i)))] sz)) 0 0 (va_A [(oa i, .inr (1, [.ref (ta i), .int (nI (tl i)), .int (nI (ct i)), .int (nI (ps i)), .int (sn i), .int (cb i)])), (ta i, .inl (E.1, 9, .inl (tk i)))] sz))
    (hG : GoodIn Ts (wsV own index RX1 y wl)) (hw : wl = Cond.code y bytes maxL ret :: ws') (hrc : rm.cells = 0) (hrs : rm.slots = 0)
    (hd : y.cls = RX1 ∧ y.cls ≠ "java/lang/invoke/MethodHandle" ∧ y.cls ≠ "java/lang/invoke/VarHandle" ∧ (parseMethodDescriptor y.desc).map (fun d => d.parameters.length) = some n) (hR : rm.frames + 1 ≤ R.frames ∧ 8 + (maxL + 11) + rm.locals ≤ R.locals) (hi : i < 20) (hP : va_P G vwCl (X ++ poW E oa ta tl ct ps sn cb tk) H) (hD : va_D A (X ++ poW E oa ta tl ct ps sn cb tk))
    (hl : ls.size = nL) (hn : As.length = n) (hst : st0 = As.reverse ++ .ref (oa i) :: rest) (hW : (rest.map fun v => v.category).sum ≤ 8) (hdg : decode cc pc = .ok (.invokevirtual index, 3)) (hf : cells + 0 ≤ R.cells ∧ slots + 0 ≤ R.slots)
    (kk : ∀ (u : Nat → Int32) (H1 : Heap) (locs1 : List Loc), post u → va_P G vwCl (X ++ poW E oa ta (updF tl i t1) (updF ct i c1) (updF ps i p1) sn cb (updF tk i u)) H1 → va_D A (X ++ poW E oa ta (updF tl i t1) (updF ct i c1) (updF ps i p1) sn cb (updF tk i u)) → va_S A s.heap H1 locs1 → W p l e R s m args below meth c H1 locs1 cells slots Q (F0 m (pc + 3) ls rest)) : W p l e R s m args below meth c H locs cells slots Q (F0 m pc ls st0) := by
  have hPc := po_P2 hP hi
  have hDc : va_D A [(oa i, .inr (1, [.ref (ta i), .int (nI (tl i)), .int (nI (ct i)), .int (nI (ps i)), .int (sn i), .int (cb i)])), (ta i, .inl (E.1, 9, .inl (tk i)))] := by
    have := (sub_E (cx := []) hP hD [] rfl rfl (fun k => if k = 0 then i else 20 + i) (po_e2 hi) (fun _ _ ha hb h => po_i2 ha hb h)).2
    exact this
  have hF := free_A hDc hS hA
  refine va_callv (va_runV S (hM H.size) (cwV n S.2.2.2.2 hG hw hrc hrs hd hR) ⟨PW.blind, va_recv (q := (RX1, TX1, 6)) hK hP rfl (po_lnX rfl hi), PW.pre hK hZ hS hPc hDc hF⟩ rfl hn hl hst (lv_room hW) hdg hf) hS (fun q _ h => hF q h) (fun q h => hF q h) ?_
  intro u t H1 locs1 ht _ hp hB _ hk1 hS1
  rw [ht] at hB
  obtain ⟨h1, h2⟩ := k_joinL (tl2 := updF tl i t1) (ct2 := updF ct i c1) (ps2 := updF ps i p1) (sn2 := sn) (cb2 := cb) (tk2 := updF tk i u) hi hP hD (fun j hj => ⟨by unfold lnE; rw [updF_n hj, updF_n hj, updF_n hj], updF_n hj⟩) hk1 (by
    unfold lnE tkE
    rw [updF_s, updF_s, updF_s, updF_s]
    exact hB)
  exact kk u H1 locs1 hp h1 h2 hS1
variable {C : String} {b : Nat}
/-- a call that has cells of X and the whole pool, and changes it -/
theorem wp_v {Sg : Type} {post : Sg → Prop} {wn : Sg → va_W} {pn : Sg → va_W} {X pl cx : va_W} (S : CallFix p m c cc nL s args Ts own) (hK : KK G E s) (hZ : SW A s s.heap) (hS : va_S A s.heap H locs) (hA : ∀ q, s.heap.size ≤ q → A q) (hM : ∀ sz, Met l y wl rm (va_Pc (.ref b :: As) (PW G E (cx ++ pl) sz)) (va_Qv post (fun u t => va_P G vwCl (wn u ++ pn u) t.heap) (va_A (cx ++ pl) sz)) 0 0 (va_A (cx ++ pl) sz)) (hG : GoodIn Ts (wsV own index C y wl)) (hw : wl = Cond.code y bytes maxL ret :: ws') (hrc : rm.cells = 0) (hrs : rm.slots = 0)
    (hd : y.cls = C ∧ y.cls ≠ "java/lang/invoke/MethodHandle" ∧ y.cls ≠ "java/lang/invoke/VarHandle" ∧ (parseMethodDescriptor y.desc).map (fun d => d.parameters.length) = some n) (hR : rm.frames + 1 ≤ R.frames ∧ 8 + (maxL + 11) + rm.locals ≤ R.locals) (hP : va_P G vwCl (X ++ pl) H) (hD : va_D A (X ++ pl)) (is : List Nat) (hC : is.map (fun i => X[i]?) = cx.map some) (hnd : va_nd is = true) (ha : ∀ u, (wn u).map Prod.fst = cx.map Prod.fst) (hb2 : ∀ u, (pn u).map Prod.fst = pl.map Prod.fst) {ci q0 : Nat} {fs : List Value} {T : u_T} {N : Nat} (hc : vwCl[ci]? = some (C, T, N)) (he : (X ++ pl)[q0]? = some (b, .inr (ci, fs)))
    (hl : ls.size = nL) (hn : As.length = n) (hst : st0 = As.reverse ++ .ref b :: rest) (hW : (rest.map fun v => v.category).sum ≤ 8) (hdg : decode cc pc = .ok (.invokevirtual index, 3)) (hf : cells + 0 ≤ R.cells ∧ slots + 0 ≤ R.slots)
    (kk : ∀ (u : Sg) (H1 : Heap) (locs1 : List Loc), post u → va_P G vwCl (putAt is (wn u) 0 X ++ pn u) H1 → va_D A (putAt is (wn u) 0 X ++ pn u) → va_S A s.heap H1 locs1 → W p l e R s m args below meth c H1 locs1 cells slots Q (F0 m (pc + 3) ls rest)) : W p l e R s m args below meth c H locs cells slots Q (F0 m pc ls st0) := by
  obtain ⟨hPc, hDc⟩ := sub_E hP hD is hC hnd (fun k => k) (fun _ _ h => h) (fun _ _ _ _ h => h)
  have hF := free_A hDc hS hA
  refine va_callv (va_runV S (hM H.size) (cwV n S.2.2.2.2 hG hw hrc hrs hd hR) ⟨PW.blind, va_recv hK hP hc he, PW.pre hK hZ hS hPc hDc hF⟩ rfl hn hl hst (lv_room hW) hdg hf) hS (fun q _ h => hF q h) (fun q h => hF q h) ?_
  intro u t H1 locs1 ht _ hp hB _ hk1 hS1
  rw [ht] at hB
  have h1 : va_P G vwCl (putAt is (wn u) 0 X ++ pn u) H1 ∧ va_D A (putAt is (wn u) 0 X ++ pn u) := by
    -- the cells of X first, over the pool as the callee had it, then the pool anew
    have hlen : is.length = (wn u).length := by
      have h1 := congrArg List.length hC
      have h2 := congrArg List.length (ha u)
      simp at h1 h2
      omega
    have inX : ∀ (k : Nat) (q : Nat × va_E), X[k]? = some q → (X ++ pl)[k]? = some q := fun k q h => by
      rw [List.getElem?_append_left (List.getElem?_eq_some_iff.mp h).1]; exact h
    have key : ∀ (k : Nat) (q : Nat × va_E), (putAt is (wn u) 0 X)[k]? = some q → (X[k]? = some q ∧ k ∉ is) ∨ ∃ j : Nat, is[j]? = some k ∧ (wn u)[j]? = some q := by
      intro k q hq
      rw [putAt_get, Nat.zero_add] at hq
      cases hw2 : X[k]? with
      | none => rw [hw2] at hq; cases hq
      | some p2 =>
        rw [hw2] at hq
        cases hL : lk is (wn u) k with
        | none =>
          simp only [hL, Option.map_some] at hq
          exact Or.inl ⟨hq, lk_none is (wn u) k hlen hL⟩
        | some e2 =>
          simp only [hL, Option.map_some] at hq
          cases hq
          exact Or.inr (lk_some is (wn u) k _ hL)
    have hfX : (putAt is (wn u) 0 X).map Prod.fst = X.map Prod.fst := by
      apply List.ext_getElem?
      intro k
      rw [List.getElem?_map, List.getElem?_map, putAt_get, Nat.zero_add]
      cases hw2 : X[k]? with
      | none => rfl
      | some p2 =>
        simp only [Option.map_some]
        cases hL : lk is (wn u) k with
        | none => rfl
        | some e2 =>
          obtain ⟨j, g1, g2⟩ := lk_some is (wn u) k e2 hL
          have h3 : (is.map (fun i => X[i]?))[j]? = some (some p2) := by rw [List.getElem?_map, g1, ← hw2]; rfl
          rw [hC, List.getElem?_map] at h3
          have h4 : ((wn u).map Prod.fst)[j]? = some e2.1 := by rw [List.getElem?_map, g2]; rfl
          rw [ha u, List.getElem?_map] at h4
          cases hc2 : cx[j]? with
          | none => rw [hc2] at h3; cases h3
          | some c2 =>
            rw [hc2] at h3 h4
            have e1 : c2 = p2 := by simpa using h3
            have e3 : c2.1 = e2.1 := by simpa using h4
            show some e2.1 = some p2.1
            rw [← e3, e1]
    have hlX : (putAt is (wn u) 0 X).length = X.length := by
      have := congrArg List.length hfX
      simpa using this
    refine ⟨fun k q hq => ?_, hD.fst (by rw [List.map_append, List.map_append, hfX, hb2 u])⟩
    by_cases hkX : k < X.length
    · rw [List.getElem?_append_left (by omega)] at hq
      rcases key k q hq with ⟨g1, g2⟩ | ⟨j, g1, g2⟩
      · refine (hP k q (inX k q g1)).kept (hk1 q.1 (hP k q (inX k q g1)).lt (fun hA2 => ?_))
        rcases hA2 with ⟨k2, e2, h3⟩ | h3
        · by_cases hlt : k2 < cx.length
          · rw [List.getElem?_append_left hlt] at h3
            obtain ⟨i, h4, h5⟩ := va_in_of is hC h3
            have hij := hD.1 k i q (q.1, e2) (inX k q g1) (inX i _ h5) rfl
            subst hij
            exact g2 (List.mem_of_getElem? h4)
          · rw [List.getElem?_append_right (by omega)] at h3
            have h4 : (X ++ pl)[X.length + (k2 - cx.length)]? = some (q.1, e2) := by rw [List.getElem?_append_right (by omega), Nat.add_sub_cancel_left]; exact h3
            have hij := hD.1 k _ q (q.1, e2) (inX k q g1) h4 rfl
            omega
        · have := (hP k q (inX k q g1)).lt
          omega
      · have h3 : (wn u ++ pn u)[j]? = some q := by rw [List.getElem?_append_left (List.getElem?_eq_some_iff.mp g2).1]; exact g2
        exact hB j q h3
    · rw [List.getElem?_append_right (by omega), hlX] at hq
      have h3 : (wn u ++ pn u)[(wn u).length + (k - X.length)]? = some q := by rw [List.getElem?_append_right (by omega), Nat.add_sub_cancel_left]; exact hq
      exact hB _ q h3
  exact kk u H1 locs1 hp h1.1 h1.2 hS1
end KF
theorem delta_cnt {x : Int32} {a b : Nat} (h : ¬ x = -9 ∧ 0 < len b) : ¬ x = -9 ∧ ¬ b = 0 := ⟨h.1, fun q => by rw [q, len_0] at h; omega⟩
theorem cnt_iff {x : Int32} {b : Nat} : (¬ x = -9 ∧ 0 < len b) ↔ (¬ x = -9 ∧ ¬ b = 0) := by
  constructor
  · intro h; exact ⟨h.1, fun q => by rw [q, len_0] at h; omega⟩
  · intro h; exact ⟨h.1, len_pos (Nat.pos_of_ne_zero h.2)⟩
abbrev pkA (kq : Nat → Nat → Nat) : Nat → Nat := fun k => kq k 0
/-- a pocket of the class against the numbers -/
def pkC (A : ABS) (j kn kz : Nat) (kl kp kk_ : Nat → Int32) : Prop := kn = aO A j ∧ kz = aC A j ∧ ∀ x, x < 6 → kl x = aL A j x ∧ kp x = aA A j x ∧ kk_ x = aK A j x
/-- the class's cells against the numbers -/
def ClsOk (A : ABS) (n op : Nat) (pi tl ct ps : Nat → Nat) (sn : Nat → Int32) (tk : Nat → Nat → Int32) (tops dpt lst stry srt lin tokA wah fol par_ opn sett clA : Nat → Int32) (kn0 kz0 kn1 kz1 kn2 kz2 : Nat) (kl0 kp0 kk0 kl1 kp1 kk1 kl2 kp2 kk2 : Nat → Int32) : Prop :=
  n = aN A ∧ okA A ∧ op = nO (aNest A) ∧ PL n (aR A) pi tl ct ps tk ∧ SN n pi sn (aS A) ∧ permP pi ∧ CN (aNest A) n tops dpt lst stry srt lin tokA wah fol par_ opn ∧ (∀ k, k < 4 → sett k = aG A k) ∧ (∀ j, j < n → clA j = aCol A j) ∧ pkC A 0 kn0 kz0 kl0 kp0 kk0 ∧ pkC A 1 kn1 kz1 kl1 kp1 kk1 ∧ pkC A 2 kn2 kz2 kl2 kp2 kk2
theorem upd_one {f : Nat → Int32} {i j : Nat} {v : Int32} (h : j ≠ i → f j = v) : upd f i v j = v := by
  by_cases q : j = i
  · rw [q, upd_s]
  · rw [upd_n q]; exact h q
theorem upd_two {f g : Nat → Int32} {i j : Nat} (h : j ≠ i → f j = g j) : upd f i (g i) j = g j := by
  by_cases q : j = i
  · rw [q, upd_s]
  · rw [upd_n q]; exact h q
theorem upd_id (f : Nat → Int32) (i : Nat) : upd f i (f i) = f := by
  funext k
  by_cases q : k = i
  · rw [q, upd_s]
  · rw [upd_n q]
