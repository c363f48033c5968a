theorem sub_E {A : Nat → Prop} {G : va_G} {cl : List vw_C} {X pl cx ex : va_W} {H : Heap} (hP : va_P G cl (X ++ pl) H) (hD : va_D A (X ++ pl)) (is : List Nat) (hC : is.map (fun i => X[i]?) = cx.map some) (hn : va_nd is = true) (ej : Nat → Nat) (hej : ∀ (k : Nat) (q : Nat × va_E), ex[k]? = some q → pl[ej k]? = some q) (hinj : ∀ i j, i < ex.length → j < ex.length → ej i = ej j → i = j) : va_P G cl (cx ++ ex) H ∧ va_D A (cx ++ ex) := by
  have hlen : is.length = cx.length := by
    have := congrArg List.length hC
    simpa using this
  have inX : ∀ (k : Nat) (q : Nat × va_E), X[k]? = some q → (X ++ pl)[k]? = some q := fun k q h => by
    rw [List.getElem?_append_left (List.getElem?_eq_some_iff.mp h).1]; exact h
  have inP : ∀ (k : Nat) (q : Nat × va_E), pl[k]? = some q → (X ++ pl)[X.length + k]? = some q := fun k q h => by
    rw [List.getElem?_append_right (by omega), Nat.add_sub_cancel_left]; exact h
  have lt : ∀ k, k < cx.length → ∃ b, is[k]? = some b ∧ b < X.length := by
    intro k hk
    have h2 : (is.map (fun i => X[i]?))[k]? = some (some cx[k]) := by rw [hC, List.getElem?_map, List.getElem?_eq_getElem hk]; rfl
    rw [List.getElem?_map] at h2
    cases hb : is[k]? with
    | none => rw [hb] at h2; cases h2
    | some b =>
      rw [hb] at h2
      exact ⟨b, rfl, (List.getElem?_eq_some_iff.mp (Option.some.inj h2)).1⟩
  have g : ∀ (k : Nat) (q : Nat × va_E), (cx ++ ex)[k]? = some q → (X ++ pl)[if k < cx.length then (is[k]?).getD 0 else X.length + ej (k - cx.length)]? = some q := by
    intro k q hk
    by_cases h1 : k < cx.length
    · rw [if_pos h1]
      rw [List.getElem?_append_left h1] at hk
      obtain ⟨i, h2, h3⟩ := va_in_of is hC hk
      rw [h2]
      exact inX i q h3
    · rw [if_neg h1]
      rw [List.getElem?_append_right (by omega)] at hk
      exact inP _ q (hej _ q hk)
  refine ⟨hP.by _ g, hD.by _ g (fun i j hi hj e => ?_)⟩
  rw [List.length_append] at hi hj
  by_cases h1 : i < cx.length <;> by_cases h2 : j < cx.length
  · obtain ⟨b1, e1, l1⟩ := lt i h1
    obtain ⟨b2, e2, l2⟩ := lt j h2
    simp only [h1, h2, if_true, e1, e2, Option.getD_some] at e
    subst e
    exact va_nd_inj is hn i j b1 e1 e2
  · obtain ⟨b1, e1, l1⟩ := lt i h1
    simp only [h1, h2, if_true, if_false, e1, Option.getD_some] at e
    omega
  · obtain ⟨b2, e2, l2⟩ := lt j h2
    simp only [h1, h2, if_true, if_false, e2, Option.getD_some] at e
    omega
  · simp only [h1, h2, if_false] at e
    have := hinj (i - cx.length) (j - cx.length) (by omega) (by omega) (by omega)
    omega
theorem free_A {A : Nat → Prop} {ws : va_W} {H0 H : Heap} {locs : List Loc} (hD : va_D A ws) (hS : va_S A H0 H locs) (hA : ∀ q, H0.size ≤ q → A q) : ∀ q, va_A ws H.size q → A q := by
  intro q h
  rcases h with ⟨k, e, h⟩ | h
  · exact hD.2 k (q, e) h
  · exact hA q (Nat.le_trans hS.1 h)
theorem po_P2 {G : va_G} {X : va_W} {E : cEnv} {oa ta : Nat → Nat} {tl ct ps : Nat → Nat} {sn cb : Nat → Int32} {tk : Nat → Nat → Int32} {H : Heap} (hP : va_P G vwCl (X ++ poW E oa ta tl ct ps sn cb tk) H) {i : Nat} (h : i < 20) : va_P G vwCl [(oa i, .inr (1, [.ref (ta i), .int (nI (tl i)), .int (nI (ct i)), .int (nI (ps i)), .int (sn i), .int (cb i)])), (ta i, .inl (E.1, 9, .inl (tk i)))] H := by
  intro k q hq
  match k, hq with
  | 0, hq => cases hq; exact hP _ _ (po_lnX rfl h)
  | 1, hq => cases hq; exact hP _ _ (po_tkX rfl h)
  | k + 2, hq => simp at hq
theorem po_e2 {E : cEnv} {oa ta : Nat → Nat} {tl ct ps : Nat → Nat} {sn cb : Nat → Int32} {tk : Nat → Nat → Int32} {i : Nat} (h : i < 20) : ∀ (k : Nat) (q : Nat × va_E), ([(oa i, .inr (1, [.ref (ta i), .int (nI (tl i)), .int (nI (ct i)), .int (nI (ps i)), .int (sn i), .int (cb i)])), (ta i, .inl (E.1, 9, .inl (tk i)))] : va_W)[k]? = some q → (poW E oa ta tl ct ps sn cb tk)[if k = 0 then i else 20 + i]? = some q := by
  intro k q hq
  match k, hq with
  | 0, hq => cases hq; exact po_ln h
  | 1, hq => cases hq; exact po_tk h
  | k + 2, hq => simp at hq
theorem po_i2 {i a b : Nat} (ha : a < 2) (hb : b < 2) (h : (if a = 0 then i else 20 + i) = (if b = 0 then i else 20 + i)) : a = b := by
  split at h <;> split at h <;> omega
/-- a line changed by a call -/
theorem k_joinL {A0 : Nat → Prop} {G : va_G} {X : va_W} {E : cEnv} {oa ta : Nat → Nat} {tl ct ps tl2 ct2 ps2 : Nat → Nat} {sn cb sn2 cb2 : Nat → Int32} {tk tk2 : Nat → Nat → Int32} {H H1 : Heap} {i : Nat} (hi : i < 20) (hP : va_P G vwCl (X ++ poW E oa ta tl ct ps sn cb tk) H) (hD : va_D A0 (X ++ poW E oa ta tl ct ps sn cb tk))
    (ho : ∀ j, j ≠ i → lnE ta tl2 ct2 ps2 sn2 cb2 j = lnE ta tl ct ps sn cb j ∧ tk2 j = tk j)
    (hk : ∀ q : Nat, q < H.size → ¬ va_A [(oa i, .inr (1, [.ref (ta i), .int (nI (tl i)), .int (nI (ct i)), .int (nI (ps i)), .int (sn i), .int (cb i)])), (ta i, .inl (E.1, 9, .inl (tk i)))] H.size q → H1[q]? = H[q]?)
    (hP1 : va_P G vwCl [(oa i, lnE ta tl2 ct2 ps2 sn2 cb2 i), (ta i, tkE E tk2 i)] H1) : va_P G vwCl (X ++ poW E oa ta tl2 ct2 ps2 sn2 cb2 tk2) H1 ∧ va_D A0 (X ++ poW E oa ta tl2 ct2 ps2 sn2 cb2 tk2) := by
  refine ⟨fun k q hq => ?_, hD.fst (by rw [List.map_append, List.map_append, po_fst])⟩
  have frk : ∀ (k : Nat) (q : Nat × va_E), (X ++ poW E oa ta tl ct ps sn cb tk)[k]? = some q → k ≠ X.length + i → k ≠ X.length + 20 + i → H1[q.1]? = H[q.1]? := by
    intro k q hq n1 n2
    refine hk q.1 (hP k q hq).lt (fun hA => ?_)
    rcases hA with ⟨k2, e, h3⟩ | h3
    · match k2, h3 with
      | 0, h3 =>
        have h4 : oa i = q.1 := by have := Option.some.inj h3; exact congrArg Prod.fst this
        exact n1 (hD.1 k (X.length + i) q _ hq (po_lnX rfl hi) h4.symm)
      | 1, h3 =>
        have h4 : ta i = q.1 := by have := Option.some.inj h3; exact congrArg Prod.fst this
        exact n2 (hD.1 k (X.length + 20 + i) q _ hq (po_tkX rfl hi) h4.symm)
      | k2 + 2, h3 => simp at h3
    · have := (hP k q hq).lt
      omega
  by_cases hkX : k < X.length
  · rw [List.getElem?_append_left hkX] at hq
    have hq2 : (X ++ poW E oa ta tl ct ps sn cb tk)[k]? = some q := by rw [List.getElem?_append_left hkX]; exact hq
    exact (hP k q hq2).kept (frk k q hq2 (by omega) (by omega))
  · rw [List.getElem?_append_right (by omega)] at hq
    rcases po_cases hq with ⟨h1, rfl⟩ | ⟨h1, h2, rfl⟩
    · by_cases z : k - X.length = i
      · rw [z]; exact hP1 0 _ rfl
      · rw [(ho _ z).1]
        have hq2 : (X ++ poW E oa ta tl ct ps sn cb tk)[k]? = some (oa (k - X.length), lnE ta tl ct ps sn cb (k - X.length)) := by
          rw [List.getElem?_append_right (by omega)]; exact po_ln h1
        exact (hP k _ hq2).kept (frk k _ hq2 (by omega) (by omega))
    · by_cases z : k - X.length - 20 = i
      · rw [z]; exact hP1 1 _ rfl
      · have e : tkE E tk2 (k - X.length - 20) = tkE E tk (k - X.length - 20) := by unfold tkE; rw [(ho _ z).2]
        rw [e]
        have hq2 : (X ++ poW E oa ta tl ct ps sn cb tk)[k]? = some (ta (k - X.length - 20), tkE E tk (k - X.length - 20)) := by
          rw [List.getElem?_append_right (by omega), show k - X.length = 20 + (k - X.length - 20) by omega]
          rw [show 20 + (k - X.length - 20) - 20 = k - X.length - 20 by omega]
          exact po_tk h2
        exact (hP k _ hq2).kept (frk k _ hq2 (by omega) (by omega))
section KD
variable {p : Program} {l : Launch} {e : Env} {R : Room} {s : State} {m : MethodId} {args : Array Value} {below : List Frame} {meth : Method} {c : Code} {H : Heap} {locs : List Loc} {cells slots : Nat} {Q : State → Prop}
variable {cc : ByteArray} {pc : Nat} {ls : Array Slot} {rest st0 As : List Value} {A : Nat → Prop} {G : va_G} {E : cEnv}
variable {bytes : ByteArray} {nL maxL index n : Nat} {own C : String} {y : MethodName} {ret : Option FieldType} {rm : Room} {Ts wl ws' : List Cond} {b : Nat}
/-- a call that has cells of X, and cells of the pool that it leaves as they are -/
theorem we_v {Sg : Type} {post : Sg → Prop} {wn : Sg → va_W} {X pl cx ex : va_W} (S : CallFix p m c cc nL s args Ts own) (hK : KK G E s) (hZ : SW A s s.heap) (hS : va_S A s.heap H locs) (hA : ∀ q, s.heap.size ≤ q → A q) (hM : ∀ sz, Met l y wl rm (va_Pc (.ref b :: As) (PW G E (cx ++ ex) sz)) (va_Qv post (fun u t => va_P G vwCl (wn u ++ ex) t.heap) (va_A (cx ++ ex) sz)) 0 0 (va_A (cx ++ ex) sz)) (hG : GoodIn Ts (wsV own index C y wl)) (hw : wl = Cond.code y bytes maxL ret :: ws') (hrc : rm.cells = 0) (hrs : rm.slots = 0)
    (hd : y.cls = C ∧ y.cls ≠ "java/lang/invoke/MethodHandle" ∧ y.cls ≠ "java/lang/invoke/VarHandle" ∧ (parseMethodDescriptor y.desc).map (fun d => d.parameters.length) = some n) (hR : rm.frames + 1 ≤ R.frames ∧ 8 + (maxL + 11) + rm.locals ≤ R.locals) (hP : va_P G vwCl (X ++ pl) H) (hD : va_D A (X ++ pl)) (is : List Nat) (hC : is.map (fun i => X[i]?) = cx.map some) (hnd : va_nd is = true) (ej : Nat → Nat) (hej : ∀ (k : Nat) (q : Nat × va_E), ex[k]? = some q → pl[ej k]? = some q) (hinj : ∀ i j, i < ex.length → j < ex.length → ej i = ej j → i = j) (ha : ∀ u, (wn u).map Prod.fst = cx.map Prod.fst) {ci q0 : Nat} {fs : List Value} {T : u_T} {N : Nat} (hc : vwCl[ci]? = some (C, T, N)) (he : (X ++ pl)[q0]? = some (b, .inr (ci, fs)))
    (hl : ls.size = nL) (hn : As.length = n) (hst : st0 = As.reverse ++ .ref b :: rest) (hW : (rest.map fun v => v.category).sum ≤ 8) (hdg : decode cc pc = .ok (.invokevirtual index, 3)) (hf : cells + 0 ≤ R.cells ∧ slots + 0 ≤ R.slots)
    (kk : ∀ (u : Sg) (H1 : Heap) (locs1 : List Loc), post u → va_P G vwCl (putAt is (wn u) 0 X ++ pl) H1 → va_D A (putAt is (wn u) 0 X ++ pl) → va_S A s.heap H1 locs1 → W p l e R s m args below meth c H1 locs1 cells slots Q (F0 m (pc + 3) ls rest)) : W p l e R s m args below meth c H locs cells slots Q (F0 m pc ls st0) := by
  obtain ⟨hPc, hDc⟩ := sub_E hP hD is hC hnd ej hej hinj
  have hF := free_A hDc hS hA
  refine va_callv (va_runV S (hM H.size) (cwV n S.2.2.2.2 hG hw hrc hrs hd hR) ⟨PW.blind, va_recv hK hP hc he, PW.pre hK hZ hS hPc hDc hF⟩ rfl hn hl hst (lv_room hW) hdg hf) hS (fun q _ h => hF q h) (fun q h => hF q h) ?_
  intro u t H1 locs1 ht _ hp hB _ hk1 hS1
  rw [ht] at hB
  obtain ⟨h1, h2⟩ := k_joinE hP hD is hC hnd (ha u) (fun k q h => ⟨_, hej k q h⟩) hk1 hB
  exact kk u H1 locs1 hp h1 h2 hS1
end KD
section KE
variable {p : Program} {l : Launch} {e : Env} {R : Room} {s : State} {m : MethodId} {args : Array Value} {below : List Frame} {meth : Method} {c : Code} {H : Heap} {locs : List Loc} {cells slots : Nat} {Q : State → Prop}
variable {cc : ByteArray} {pc : Nat} {ls : Array Slot} {rest : List Value} {D : va_G} {cl : List vw_C} {A : Nat → Prop} {a : Nat} {tys : List (ClassId × FieldType)} {ws : va_W} {H0 : Heap}
theorem k_zast (hexec : p.tables.exec = Jvm.exec) (hb : c.code = cc) (hK : va_K D cl tys s) (hP : va_P D cl ws H) (hD : va_D A ws) (hS : va_S A H0 H locs) (q0 t0 : Nat) {cA : ClassId} {n : Nat} {f : Nat → Int32} (ha : ws[q0]? = some (a, .inl (cA, n, .inl f))) (ht : tys[t0]? = some (cA, .boolean)) {j : Nat} {v : Nat} (hv : v ≤ 1) (hj : j < n) (hn : n < 2 ^ 31) (hdg : decode cc pc = .ok (.bastore, 1))
    (kk : ∀ (H1 : Heap) (locs1 : List Loc), va_P D cl (ws.set q0 (a, .inl (cA, n, .inl (upd f j (nI v))))) H1 → va_D A (ws.set q0 (a, .inl (cA, n, .inl (upd f j (nI v))))) → va_S A H0 H1 locs1 → W p l e R s m args below meth c H1 locs1 cells slots Q (F0 m (pc + 1) ls rest)) : W p l e R s m args below meth c H locs cells slots Q (F0 m pc ls (.int (nI v) :: .int (nI j) :: .ref a :: rest)) :=
  va_zast hexec hb hK hP hD hS q0 t0 ha ht (vp_in_nI hj hn) hdg (by rw [nI_clamp (Nat.lt_trans hj hn), show vp_nar .boolean (nI v) = nI v by rcases (show v = 0 ∨ v = 1 by omega) with rfl | rfl <;> rfl]; exact kk)
end KE
