def R_law : String := "IndentRulesLaw"
def lw_P (b : Addr) (xs : List Int32) (args : Array Value) (s : State) : Prop := args = #[.ref b] ∧ s.IntsAt b xs ∧ xs.length ≤ 3072 ∧ (Jvm.Cond.and given_1 narrow_1).before args s = true
def lw_Q (_ : Array Value) (s : State) (o : Outcome) (t : State) : Prop := o = .returned (some (.int 1)) ∧ Framed s o t [] 600000 7302250
def lw_Z (below : List Frame) (a : Array Value) (s : State) : State → Prop := fun t => ∃ o, t.status = .running ∧ Ended t below o ∧ lw_Q a s o t
/-- the law's own end, with 1 on the stack, nothing written that was there before, its room as the claim has it -/
theorem lw_ret {p : Program} {l : Launch} {e : Env} {s : State} {m : MethodId} {below : List Frame} {meth : Method} {c : Code} {b : Nat} (hx : p.tables.exec = Jvm.exec) (hb : c.code = code) (hr : meth.sig.returnType = ret) (hlocks : meth.locks = false) {pc : Nat} {H : Heap} {ls : Array Slot} (hdg : decode code pc = .ok (.ireturn, 1)) : W p l e room_1 s m #[Value.ref b] below meth c H [] 600000 7302250 (lw_Z below #[Value.ref b] s) (F0 m pc ls [.int 1]) := by
  intro T hT X
  obtain ⟨fs, hret, hrun, hended, hW, hframe⟩ := X.leave (v := some (.int 1)) (hlocks := hlocks) (fun h => by rw [hr] at h; cases h)
  have hmeth' : T.vm.method? m = some meth := X.method'
  refine ⟨T.setFrames fs, ?_, .returned (some (.int 1)), hrun, hended, rfl, ⟨_, rfl⟩, hW, hframe⟩
  jvm_step X.here [X.here.top, hx, hb, hdg, hmeth', hr, ret, narrow_b1]
  (try refine ⟨rfl, ?_⟩); (try refine ⟨rfl, ?_⟩)
  first | (intro acts; rw [hret _ acts rfl rfl rfl]) | rw [hret _ _ rfl rfl rfl]
  exact Steps.refl _
/-- what holds at the law's entry: the machine, the code, the tables' words (any of lw_tbl by 'hts w (by decide +kernel)'), the script of L ints xs at the cell b, what the Statement gives of the start (any of its parts by flat_of_before) -/
def lw_At (p : Program) (s : State) (m : MethodId) (meth : Method) (c : Code) (b L : Nat) (xs : Nat → Int32) : Prop :=
  p.tables.exec = Jvm.exec ∧ c.code = code ∧ meth.sig.returnType = ret ∧ c.maxLocals = 4 ∧ s.vm.findClass R_law = some m.cls ∧ (∀ w ∈ lw_tbl, w.before #[Value.ref b] s = true) ∧ va_X b L xs s s.heap ∧ b < s.heap.size ∧ meth.locks = false ∧ (Jvm.Cond.and given_1 narrow_1).before #[Value.ref b] s = true
section LR
variable {p : Program} {l : Launch} {e : Env} {R : Room} {s : State} {m : MethodId} {args : Array Value} {below : List Frame} {meth : Method} {c : Code} {H : Heap} {locs : List Loc} {cells slots : Nat} {Q : State → Prop}
variable {cc : ByteArray} {pc : Nat} {ls : Array Slot} {rest st0 As : List Value} {A : Nat → Prop} {G : va_G} {E : cEnv}
variable {bytes : ByteArray} {nL maxL index n : Nat} {own C : String} {y : MethodName} {ret : Option FieldType} {rm : Room} {Ts wl ws' : List Cond} {b : Nat}
theorem we_i {Sg : Type} {post : Int32 → Sg → Prop} {wn : Sg → va_W} {X pl cx ex : va_W} (S : CallFix p m c cc nL s args Ts own) (hK : KK G E s) (hZ : SW A s s.heap) (hS : va_S A s.heap H locs) (hA : ∀ q, s.heap.size ≤ q → A q) (hM : ∀ sz, Met l y wl rm (va_Pc (.ref b :: As) (PW G E (cx ++ ex) sz)) (va_Qi post (fun u t => va_P G vwCl (wn u ++ ex) t.heap) (va_A (cx ++ ex) sz)) 0 0 (va_A (cx ++ ex) sz)) (hG : GoodIn Ts (wsV own index C y wl)) (hw : wl = Cond.code y bytes maxL ret :: ws') (hrc : rm.cells = 0) (hrs : rm.slots = 0)
    (hd : y.cls = C ∧ y.cls ≠ "java/lang/invoke/MethodHandle" ∧ y.cls ≠ "java/lang/invoke/VarHandle" ∧ (parseMethodDescriptor y.desc).map (fun d => d.parameters.length) = some n) (hR : rm.frames + 1 ≤ R.frames ∧ 8 + (maxL + 11) + rm.locals ≤ R.locals) (hP : va_P G vwCl (X ++ pl) H) (hD : va_D A (X ++ pl)) (is : List Nat) (hC : is.map (fun i => X[i]?) = cx.map some) (hnd : va_nd is = true) (ej : Nat → Nat) (hej : ∀ (k : Nat) (q : Nat × va_E), ex[k]? = some q → pl[ej k]? = some q) (hinj : ∀ i j, i < ex.length → j < ex.length → ej i = ej j → i = j) (ha : ∀ u, (wn u).map Prod.fst = cx.map Prod.fst) {ci q0 : Nat} {fs : List Value} {T : u_T} {N : Nat} (hc : vwCl[ci]? = some (C, T, N)) (he : (X ++ pl)[q0]? = some (b, .inr (ci, fs)))
    (hl : ls.size = nL) (hn : As.length = n) (hst : st0 = As.reverse ++ .ref b :: rest) (hW : (rest.map fun v => v.category).sum ≤ 8) (hdg : decode cc pc = .ok (.invokevirtual index, 3)) (hf : cells + 0 ≤ R.cells ∧ slots + 0 ≤ R.slots)
    (kk : ∀ (r : Int32) (u : Sg) (H1 : Heap) (locs1 : List Loc), post r u → va_P G vwCl (putAt is (wn u) 0 X ++ pl) H1 → va_D A (putAt is (wn u) 0 X ++ pl) → va_S A s.heap H1 locs1 → W p l e R s m args below meth c H1 locs1 cells slots Q (F0 m (pc + 3) ls (.int r :: rest))) : W p l e R s m args below meth c H locs cells slots Q (F0 m pc ls st0) := by
  obtain ⟨hPc, hDc⟩ := sub_E hP hD is hC hnd ej hej hinj
  have hF := free_A hDc hS hA
  refine va_calli (va_runV S (hM H.size) (cwV n S.2.2.2.2 hG hw hrc hrs hd hR) ⟨PW.blind, va_recv hK hP hc he, PW.pre hK hZ hS hPc hDc hF⟩ rfl hn hl hst (lv_room hW) hdg hf) hS (fun q _ h => hF q h) (fun q h => hF q h) ?_
  intro r u t H1 locs1 ht _ hp hB _ hk1 hS1
  rw [ht] at hB
  obtain ⟨h1, h2⟩ := k_joinE hP hD is hC hnd (ha u) (fun k q h => ⟨_, hej k q h⟩) hk1 hB
  exact kk r u H1 locs1 hp h1 h2 hS1
theorem wp_i {Sg : Type} {post : Int32 → Sg → Prop} {wn : Sg → va_W} {pn : Sg → va_W} {X pl cx : va_W} (S : CallFix p m c cc nL s args Ts own) (hK : KK G E s) (hZ : SW A s s.heap) (hS : va_S A s.heap H locs) (hA : ∀ q, s.heap.size ≤ q → A q) (hM : ∀ sz, Met l y wl rm (va_Pc (.ref b :: As) (PW G E (cx ++ pl) sz)) (va_Qi post (fun u t => va_P G vwCl (wn u ++ pn u) t.heap) (va_A (cx ++ pl) sz)) 0 0 (va_A (cx ++ pl) sz)) (hG : GoodIn Ts (wsV own index C y wl)) (hw : wl = Cond.code y bytes maxL ret :: ws') (hrc : rm.cells = 0) (hrs : rm.slots = 0)
    (hd : y.cls = C ∧ y.cls ≠ "java/lang/invoke/MethodHandle" ∧ y.cls ≠ "java/lang/invoke/VarHandle" ∧ (parseMethodDescriptor y.desc).map (fun d => d.parameters.length) = some n) (hR : rm.frames + 1 ≤ R.frames ∧ 8 + (maxL + 11) + rm.locals ≤ R.locals) (hP : va_P G vwCl (X ++ pl) H) (hD : va_D A (X ++ pl)) (is : List Nat) (hC : is.map (fun i => X[i]?) = cx.map some) (hnd : va_nd is = true) (ha : ∀ u, (wn u).map Prod.fst = cx.map Prod.fst) (hb2 : ∀ u, (pn u).map Prod.fst = pl.map Prod.fst) {ci q0 : Nat} {fs : List Value} {T : u_T} {N : Nat} (hc : vwCl[ci]? = some (C, T, N)) (he : (X ++ pl)[q0]? = some (b, .inr (ci, fs)))
    (hl : ls.size = nL) (hn : As.length = n) (hst : st0 = As.reverse ++ .ref b :: rest) (hW : (rest.map fun v => v.category).sum ≤ 8) (hdg : decode cc pc = .ok (.invokevirtual index, 3)) (hf : cells + 0 ≤ R.cells ∧ slots + 0 ≤ R.slots)
    (kk : ∀ (r : Int32) (u : Sg) (H1 : Heap) (locs1 : List Loc), post r u → va_P G vwCl (putAt is (wn u) 0 X ++ pn u) H1 → va_D A (putAt is (wn u) 0 X ++ pn u) → va_S A s.heap H1 locs1 → W p l e R s m args below meth c H1 locs1 cells slots Q (F0 m (pc + 3) ls (.int r :: rest))) : W p l e R s m args below meth c H locs cells slots Q (F0 m pc ls st0) := by
  obtain ⟨hPc, hDc⟩ := sub_E hP hD is hC hnd (fun k => k) (fun _ _ h => h) (fun _ _ _ _ h => h)
  have hF := free_A hDc hS hA
  refine va_calli (va_runV S (hM H.size) (cwV n S.2.2.2.2 hG hw hrc hrs hd hR) ⟨PW.blind, va_recv hK hP hc he, PW.pre hK hZ hS hPc hDc hF⟩ rfl hn hl hst (lv_room hW) hdg hf) hS (fun q _ h => hF q h) (fun q h => hF q h) ?_
  intro r u t H1 locs1 ht _ hp hB _ hk1 hS1
  rw [ht] at hB
  have h1 : va_P G vwCl (putAt is (wn u) 0 X ++ pn u) H1 ∧ va_D A (putAt is (wn u) 0 X ++ pn u) := by
    -- the cells of X first, over the pool as the callee had it, then the pool anew
    have hlen : is.length = (wn u).length := by
      have h1 := congrArg List.length hC
      have h2 := congrArg List.length (ha u)
      simp at h1 h2
      omega
    have inX : ∀ (k : Nat) (q : Nat × va_E), X[k]? = some q → (X ++ pl)[k]? = some q := fun k q h => by
      rw [List.getElem?_append_left (List.getElem?_eq_some_iff.mp h).1]; exact h
    have key : ∀ (k : Nat) (q : Nat × va_E), (putAt is (wn u) 0 X)[k]? = some q → (X[k]? = some q ∧ k ∉ is) ∨ ∃ j : Nat, is[j]? = some k ∧ (wn u)[j]? = some q := by
      intro k q hq
      rw [putAt_get, Nat.zero_add] at hq
      cases hw2 : X[k]? with
      | none => rw [hw2] at hq; cases hq
      | some p2 =>
        rw [hw2] at hq
        cases hL : lk is (wn u) k with
        | none =>
          simp only [hL, Option.map_some] at hq
          exact Or.inl ⟨hq, lk_none is (wn u) k hlen hL⟩
        | some e2 =>
          simp only [hL, Option.map_some] at hq
          cases hq
          exact Or.inr (lk_some is (wn u) k _ hL)
    have hfX : (putAt is (wn u) 0 X).map Prod.fst = X.map Prod.fst := by
      apply List.ext_getElem?
      intro k
      rw [List.getElem?_map, List.getElem?_map, putAt_get, Nat.zero_add]
      cases hw2 : X[k]? with
      | none => rfl
      | some p2 =>
        simp only [Option.map_some]
        cases hL : lk is (wn u) k with
        | none => rfl
        | some e2 =>
          obtain ⟨j, g1, g2⟩ := lk_some is (wn u) k e2 hL
          have h3 : (is.map (fun i => X[i]?))[j]? = some (some p2) := by rw [List.getElem?_map, g1, ← hw2]; rfl
          rw [hC, List.getElem?_map] at h3
          have h4 : ((wn u).map Prod.fst)[j]? = some e2.1 := by rw [List.getElem?_map, g2]; rfl
          rw [ha u, List.getElem?_map] at h4
          cases hc2 : cx[j]? with
          | none => rw [hc2] at h3; cases h3
          | some c2 =>
            rw [hc2] at h3 h4
            have e1 : c2 = p2 := by simpa using h3
            have e3 : c2.1 = e2.1 := by simpa using h4
            show some e2.1 = some p2.1
            rw [← e3, e1]
    have hlX : (putAt is (wn u) 0 X).length = X.length := by
      have := congrArg List.length hfX
      simpa using this
    refine ⟨fun k q hq => ?_, hD.fst (by rw [List.map_append, List.map_append, hfX, hb2 u])⟩
    by_cases hkX : k < X.length
    · rw [List.getElem?_append_left (by omega)] at hq
      rcases key k q hq with ⟨g1, g2⟩ | ⟨j, g1, g2⟩
      · refine (hP k q (inX k q g1)).kept (hk1 q.1 (hP k q (inX k q g1)).lt (fun hA2 => ?_))
        rcases hA2 with ⟨k2, e2, h3⟩ | h3
        · by_cases hlt : k2 < cx.length
          · rw [List.getElem?_append_left hlt] at h3
            obtain ⟨i, h4, h5⟩ := va_in_of is hC h3
            have hij := hD.1 k i q (q.1, e2) (inX k q g1) (inX i _ h5) rfl
            subst hij
            exact g2 (List.mem_of_getElem? h4)
          · rw [List.getElem?_append_right (by omega)] at h3
            have h4 : (X ++ pl)[X.length + (k2 - cx.length)]? = some (q.1, e2) := by rw [List.getElem?_append_right (by omega), Nat.add_sub_cancel_left]; exact h3
            have hij := hD.1 k _ q (q.1, e2) (inX k q g1) h4 rfl
            omega
        · have := (hP k q (inX k q g1)).lt
          omega
      · have h3 : (wn u ++ pn u)[j]? = some q := by rw [List.getElem?_append_left (List.getElem?_eq_some_iff.mp g2).1]; exact g2
        exact hB j q h3
    · rw [List.getElem?_append_right (by omega), hlX] at hq
      have h3 : (wn u ++ pn u)[(wn u).length + (k - X.length)]? = some q := by rw [List.getElem?_append_right (by omega), Nat.add_sub_cancel_left]; exact hq
      exact hB _ q h3
  exact kk r u H1 locs1 hp h1.1 h1.2 hS1
theorem k_sld {cc : ByteArray} (hexec : p.tables.exec = Jvm.exec) (hb : c.code = cc) {b L : Nat} {xs : Nat → Int32} {H0 : Heap} (hX : va_X b L xs s H0) (hbl : b < H0.size) (hbA : ¬ A b) (hS : va_S A H0 H locs) {j : Nat} (hj : j < L) (hL : L ≤ 3072) (hdg : decode cc pc = .ok (.iaload, 1))
    (kk : W p l e R s m args below meth c H locs cells slots Q (F0 m (pc + 1) ls (.int (xs j) :: rest))) : W p l e R s m args below meth c H locs cells slots Q (F0 m pc ls (.int (nI j) :: .ref b :: rest)) :=
  va_sld hexec hb hX hbl hbA hS (vp_in_nI hj (by omega)) hdg (by rw [nI_clamp (by omega)]; exact kk)
end LR
theorem lw_gt {i L : Nat} (hi : i < 2 ^ 31) (hL : L < 2 ^ 31) : nI L - nI 6 < nI i ↔ L < i + 6 := by
  rcases Nat.lt_or_ge L 6 with h | h
  · refine ⟨fun _ => by omega, fun _ => ?_⟩
    have h1 : (nI L - nI 6).toInt < 0 := by rcases (show L = 0 ∨ L = 1 ∨ L = 2 ∨ L = 3 ∨ L = 4 ∨ L = 5 by omega) with rfl | rfl | rfl | rfl | rfl | rfl <;> decide
    rw [i_lt, nI_toInt hi]
    omega
  · rw [pk_sub h, nI_ltI (by omega) hi]
    omega
set_option maxRecDepth 100000 in
theorem lw_sw {s : State} {b : Nat} {A : Nat → Prop} (hts : ∀ w ∈ lw_tbl, w.before #[Value.ref b] s = true) (hgv : (Jvm.Cond.and given_1 narrow_1).before #[Value.ref b] s = true) (hA0 : ∀ a : Nat, a < s.heap.size → ¬ A a) : SW A s s.heap := by
  have hs := flat_of_before _ hgv
  have h1 : s1 "WIDTHS" 10 wdN A s s.heap := by
    have hel : ∀ j : Nat, j < 10 → (Term.elem (.static "IndentRules" "WIDTHS" "[I") (.int (Int32.ofNat j))).eval #[Value.ref b] s none [] s = some (.int (nI (wdN j))) := by
      intro j hj
      rcases (show j = 0 ∨ j = 1 ∨ j = 2 ∨ j = 3 ∨ j = 4 ∨ j = 5 ∨ j = 6 ∨ j = 7 ∨ j = 8 ∨ j = 9 by omega) with rfl | rfl | rfl | rfl | rfl | rfl | rfl | rfl | rfl | rfl
      · exact va_eqt (hs (Cond.eq (.elem (.static "IndentRules" "WIDTHS" "[I") (.int (Int32.ofNat 0))) (.int (nI (wdN 0)))) (by decide +kernel))
      · exact va_eqt (hs (Cond.eq (.elem (.static "IndentRules" "WIDTHS" "[I") (.int (Int32.ofNat 1))) (.int (nI (wdN 1)))) (by decide +kernel))
      · exact va_eqt (hs (Cond.eq (.elem (.static "IndentRules" "WIDTHS" "[I") (.int (Int32.ofNat 2))) (.int (nI (wdN 2)))) (by decide +kernel))
      · exact va_eqt (hs (Cond.eq (.elem (.static "IndentRules" "WIDTHS" "[I") (.int (Int32.ofNat 3))) (.int (nI (wdN 3)))) (by decide +kernel))
      · exact va_eqt (hs (Cond.eq (.elem (.static "IndentRules" "WIDTHS" "[I") (.int (Int32.ofNat 4))) (.int (nI (wdN 4)))) (by decide +kernel))
      · exact va_eqt (hs (Cond.eq (.elem (.static "IndentRules" "WIDTHS" "[I") (.int (Int32.ofNat 5))) (.int (nI (wdN 5)))) (by decide +kernel))
      · exact va_eqt (hs (Cond.eq (.elem (.static "IndentRules" "WIDTHS" "[I") (.int (Int32.ofNat 6))) (.int (nI (wdN 6)))) (by decide +kernel))
      · exact va_eqt (hs (Cond.eq (.elem (.static "IndentRules" "WIDTHS" "[I") (.int (Int32.ofNat 7))) (.int (nI (wdN 7)))) (by decide +kernel))
      · exact va_eqt (hs (Cond.eq (.elem (.static "IndentRules" "WIDTHS" "[I") (.int (Int32.ofNat 8))) (.int (nI (wdN 8)))) (by decide +kernel))
      · exact va_eqt (hs (Cond.eq (.elem (.static "IndentRules" "WIDTHS" "[I") (.int (Int32.ofNat 9))) (.int (nI (wdN 9)))) (by decide +kernel))
    obtain ⟨t, ht, hT⟩ := va_Tof (tm := (.static "IndentRules" "WIDTHS" "[I")) (ty := .int) (N := 10) (f := fun j => .int (nI (wdN j))) (A := A) (by decide) (hs _ (by decide +kernel)) (va_eqt (hs (Cond.eq (.length (.static "IndentRules" "WIDTHS" "[I")) (.int 10)) (by decide +kernel))) hel hA0
    exact ⟨t, va_Zref (hts (Cond.laysStatic RX5 "WIDTHS" "[I") (List.mem_append_right _ (List.mem_of_getElem? (i := 242) (by decide +kernel)))) (hts (Cond.initialized RX5) (List.mem_append_right _ (List.mem_of_getElem? (i := 1) (by decide +kernel)))) ht hA0, hT⟩
  have h2 : s1 "LEAST" 4 leN A s s.heap := by
    have hel : ∀ j : Nat, j < 4 → (Term.elem (.static "IndentRules" "LEAST" "[I") (.int (Int32.ofNat j))).eval #[Value.ref b] s none [] s = some (.int (nI (leN j))) := by
      intro j hj
      rcases (show j = 0 ∨ j = 1 ∨ j = 2 ∨ j = 3 by omega) with rfl | rfl | rfl | rfl
      · exact va_eqt (hs (Cond.eq (.elem (.static "IndentRules" "LEAST" "[I") (.int (Int32.ofNat 0))) (.int (nI (leN 0)))) (by decide +kernel))
      · exact va_eqt (hs (Cond.eq (.elem (.static "IndentRules" "LEAST" "[I") (.int (Int32.ofNat 1))) (.int (nI (leN 1)))) (by decide +kernel))
      · exact va_eqt (hs (Cond.eq (.elem (.static "IndentRules" "LEAST" "[I") (.int (Int32.ofNat 2))) (.int (nI (leN 2)))) (by decide +kernel))
      · exact va_eqt (hs (Cond.eq (.elem (.static "IndentRules" "LEAST" "[I") (.int (Int32.ofNat 3))) (.int (nI (leN 3)))) (by decide +kernel))
    obtain ⟨t, ht, hT⟩ := va_Tof (tm := (.static "IndentRules" "LEAST" "[I")) (ty := .int) (N := 4) (f := fun j => .int (nI (leN j))) (A := A) (by decide) (hs _ (by decide +kernel)) (va_eqt (hs (Cond.eq (.length (.static "IndentRules" "LEAST" "[I")) (.int 4)) (by decide +kernel))) hel hA0
    exact ⟨t, va_Zref (hts (Cond.laysStatic RX5 "LEAST" "[I") (List.mem_append_right _ (List.mem_of_getElem? (i := 308) (by decide +kernel)))) (hts (Cond.initialized RX5) (List.mem_append_right _ (List.mem_of_getElem? (i := 1) (by decide +kernel)))) ht hA0, hT⟩
  have h3 : s1 "MOST" 4 moN A s s.heap := by
    have hel : ∀ j : Nat, j < 4 → (Term.elem (.static "IndentRules" "MOST" "[I") (.int (Int32.ofNat j))).eval #[Value.ref b] s none [] s = some (.int (nI (moN j))) := by
      intro j hj
      rcases (show j = 0 ∨ j = 1 ∨ j = 2 ∨ j = 3 by omega) with rfl | rfl | rfl | rfl
      · exact va_eqt (hs (Cond.eq (.elem (.static "IndentRules" "MOST" "[I") (.int (Int32.ofNat 0))) (.int (nI (moN 0)))) (by decide +kernel))
      · exact va_eqt (hs (Cond.eq (.elem (.static "IndentRules" "MOST" "[I") (.int (Int32.ofNat 1))) (.int (nI (moN 1)))) (by decide +kernel))
      · exact va_eqt (hs (Cond.eq (.elem (.static "IndentRules" "MOST" "[I") (.int (Int32.ofNat 2))) (.int (nI (moN 2)))) (by decide +kernel))
      · exact va_eqt (hs (Cond.eq (.elem (.static "IndentRules" "MOST" "[I") (.int (Int32.ofNat 3))) (.int (nI (moN 3)))) (by decide +kernel))
    obtain ⟨t, ht, hT⟩ := va_Tof (tm := (.static "IndentRules" "MOST" "[I")) (ty := .int) (N := 4) (f := fun j => .int (nI (moN j))) (A := A) (by decide) (hs _ (by decide +kernel)) (va_eqt (hs (Cond.eq (.length (.static "IndentRules" "MOST" "[I")) (.int 4)) (by decide +kernel))) hel hA0
    exact ⟨t, va_Zref (hts (Cond.laysStatic RX5 "MOST" "[I") (List.mem_append_right _ (List.mem_of_getElem? (i := 310) (by decide +kernel)))) (hts (Cond.initialized RX5) (List.mem_append_right _ (List.mem_of_getElem? (i := 1) (by decide +kernel)))) ht hA0, hT⟩
  exact ⟨h1, h2, h3, va_Nw.of rfl (hts (Cond.fieldLinkNest RX1 32 RX5 "WIDTHS" "[I" RX5) (List.mem_append_right _ (List.mem_of_getElem? (i := 241) (by decide +kernel))))⟩
set_option maxRecDepth 100000 in
theorem lw_cw {s : State} {b : Nat} (hts : ∀ w ∈ lw_tbl, w.before #[Value.ref b] s = true) : CW s :=
  ⟨va_AO.of (hts (Cond.arrayOver (.object RX1)) (List.mem_append_right _ (List.mem_of_getElem? (i := 24) (by decide +kernel)))), va_AO.of (hts (Cond.arrayOver (.object RX3)) (List.mem_append_right _ (List.mem_of_getElem? (i := 149) (by decide +kernel)))), va_Nw.of rfl (hts (Cond.methodLinkNest RX5 18 yX2_init RX5) (List.mem_append_right _ (List.mem_of_getElem? (i := 73) (by decide +kernel)))), va_Nw.of rfl (hts (Cond.methodLinkNest RX5 25 yX0_init RX5) (List.mem_append_right _ (List.mem_of_getElem? (i := 135) (by decide +kernel)))), va_Nw.of rfl (hts (Cond.methodLinkNest RX5 47 yX3_init RX5) (List.mem_append_right _ (List.mem_of_getElem? (i := 155) (by decide +kernel)))), va_Nw.of rfl (hts (Cond.methodLinkNest RX4 17 yX1_init RX5) (List.mem_append_right _ (List.mem_of_getElem? (i := 26) (by decide +kernel))))⟩
set_option maxRecDepth 100000 in
theorem lw_env {s : State} {b : Nat} (hts : ∀ w ∈ lw_tbl, w.before #[Value.ref b] s = true) : ∃ (G : va_G) (E : cEnv), KK G E s := by
  obtain ⟨c0, i0, k0⟩ := u_known (C := RX0) (T := TX0) (N := 2) (n := 2) hts inX0 (hts (Cond.instantiable RX0 2) (List.mem_append_right _ (List.mem_of_getElem? (i := 134) (by decide +kernel))))
  obtain ⟨c1, i1, k1⟩ := u_known (C := RX1) (T := TX1) (N := 6) (n := 6) hts inX1 (hts (Cond.instantiable RX1 6) (List.mem_append_right _ (List.mem_of_getElem? (i := 25) (by decide +kernel))))
  obtain ⟨c2, i2, k2⟩ := u_known (C := RX2) (T := TX2) (N := 14) (n := 14) hts inX2 (hts (Cond.instantiable RX2 14) (List.mem_append_right _ (List.mem_of_getElem? (i := 72) (by decide +kernel))))
  obtain ⟨c3, i3, k3⟩ := u_known (C := RX3) (T := TX3) (N := 5) (n := 5) hts inX3 (hts (Cond.instantiable RX3 5) (List.mem_append_right _ (List.mem_of_getElem? (i := 154) (by decide +kernel))))
  obtain ⟨c4, i4, k4⟩ := u_known (C := RX4) (T := TX4) (N := 2) (n := 2) hts inX4 (hts (Cond.instantiable RX4 2) (List.mem_append_right _ (List.mem_of_getElem? (i := 18) (by decide +kernel))))
  obtain ⟨c5, i5, k5⟩ := u_known (C := RX5) (T := TX5) (N := 7) (n := 7) hts inX5 (hts (Cond.instantiable RX5 7) (List.mem_append_right _ (List.mem_of_getElem? (i := 10) (by decide +kernel))))
  obtain ⟨c6, i6, k6⟩ := u_known (C := RX6) (T := TX6) (N := 25) (n := 25) hts inX6 (hts (Cond.instantiable RX6 25) (List.mem_append_right _ (List.mem_of_getElem? (i := 456) (by decide +kernel))))
  obtain ⟨cI, kI, mI, a1, a2, a3⟩ := Cond.arrayClass_spec (hts (Cond.arrayClass .int) (List.mem_append_right _ (List.mem_of_getElem? (i := 57) (by decide +kernel))))
  obtain ⟨cZ, kZ, mZ, b1, b2, b3⟩ := Cond.arrayClass_spec (hts (Cond.arrayClass .boolean) (List.mem_append_right _ (List.mem_of_getElem? (i := 132) (by decide +kernel))))
  obtain ⟨mL, cL, kL, d1, -, d2, d3, d4⟩ := Cond.arrayOver_spec (hts (Cond.arrayOver (.object RX1)) (List.mem_append_right _ (List.mem_of_getElem? (i := 24) (by decide +kernel))))
  obtain ⟨mP, cP, kP, e1, -, e2, e3, e4⟩ := Cond.arrayOver_spec (hts (Cond.arrayOver (.object RX3)) (List.mem_append_right _ (List.mem_of_getElem? (i := 149) (by decide +kernel))))
  refine ⟨(fun k => if k = 0 then c0 else if k = 1 then c1 else if k = 2 then c2 else if k = 3 then c3 else if k = 4 then c4 else if k = 5 then c5 else c6, fun k => if k = 0 then i0 else if k = 1 then i1 else if k = 2 then i2 else if k = 3 then i3 else if k = 4 then i4 else if k = 5 then i5 else i6), (cI, cZ, cL, cP), ⟨fun k q hq => ?_, fun k q hq => ?_⟩⟩
  · match k, hq with
    | 0, hq => cases hq; exact k0
    | 1, hq => cases hq; exact k1
    | 2, hq => cases hq; exact k2
    | 3, hq => cases hq; exact k3
    | 4, hq => cases hq; exact k4
    | 5, hq => cases hq; exact k5
    | 6, hq => cases hq; exact k6
    | k + 7, hq => simp [vwCl] at hq
  · match k, hq with
    | 0, hq => cases hq; exact ⟨fun n z => ⟨fun k h => (by cases h), kI, a2, mI, a3⟩, a1⟩
    | 1, hq => cases hq; exact ⟨fun n z => ⟨fun k h => (by cases h), kZ, b2, mZ, b3⟩, b1⟩
    | 2, hq => cases hq; exact ⟨fun n z => ⟨fun k h => (by cases h), kL, d2, mL, d3⟩, kL, mL, d2, d3, d1, d4⟩
    | 3, hq => cases hq; exact ⟨fun n z => ⟨fun k h => (by cases h), kP, e2, mP, e3⟩, kP, mP, e2, e3, e1, e4⟩
    | k + 4, hq => simp [TYS] at hq
/-- the law goes on from here, whatever class and reference hold, if both hold the same -/
def LGo (p : Program) (l : Launch) (e : Env) (s : State) (m : MethodId) (below : List Frame) (meth : Method) (c : Code) (b : Nat) (A : Nat → Prop) (G : va_G) (E : cEnv) (ia tx z y v : Nat → Nat) (kq : Nat → Nat → Nat) (oa ta a : Nat → Nat) (pc i : Nat) : Prop :=
  ∀ (ab : ABS) (gp : Int32) (gd : Nat → Int32) (n : Nat) (pi : Nat → Nat) (op hg la : Nat) (tops dpt lst stry srt lin tokA wah fol par_ opn sett clA setv clV : Nat → Int32) (kn0 kz0 kn1 kz1 kn2 kz2 : Nat) (kl0 kp0 kk0 kl1 kp1 kk1 kl2 kp2 kk2 : Nat → Int32) (tl ct ps : Nat → Nat) (sn cb : Nat → Int32) (tk : Nat → Nat → Int32) (ln rop rdp rla : Nat) (row seen sty lineO tokO atO baseO kindO partO colO openO strayO stk bys was gsd cellsO sortO kLine kAt kKind : Nat → Int32) (H : Heap) (locs : List Loc), ClsOk ab n op pi tl ct ps sn tk tops dpt lst stry srt lin tokA wah fol par_ opn sett clA kn0 kz0 kn1 kz1 kn2 kz2 kl0 kp0 kk0 kl1 kp1 kk1 kl2 kp2 kk2 → RefOk ab ln row seen sty cellsO sortO kLine kAt kKind → va_P G vwCl (((iaW E ia tx z y v kq gp gd) ++ (txW E tx n (slot oa pi)) ++ (neW E z op hg la tops dpt lst stry srt lin tokA wah fol par_ opn) ++ (lyW E y sett clA) ++ (lyW E v setv clV) ++ (pkW E (kq 0) kn0 kz0 kl0 kp0 kk0) ++ (pkW E (kq 1) kn1 kz1 kl1 kp1 kk1) ++ (pkW E (kq 2) kn2 kz2 kl2 kp2 kk2) ++ (rW E a ln rop rdp rla row seen sty lineO tokO atO baseO kindO partO colO openO strayO stk bys was gsd cellsO sortO kLine kAt kKind)) ++ poW E oa ta tl ct ps sn cb tk) H → va_D A (((iaW E ia tx z y v kq gp gd) ++ (txW E tx n (slot oa pi)) ++ (neW E z op hg la tops dpt lst stry srt lin tokA wah fol par_ opn) ++ (lyW E y sett clA) ++ (lyW E v setv clV) ++ (pkW E (kq 0) kn0 kz0 kl0 kp0 kk0) ++ (pkW E (kq 1) kn1 kz1 kl1 kp1 kk1) ++ (pkW E (kq 2) kn2 kz2 kl2 kp2 kk2) ++ (rW E a ln rop rdp rla row seen sty lineO tokO atO baseO kindO partO colO openO strayO stk bys was gsd cellsO sortO kLine kAt kKind)) ++ poW E oa ta tl ct ps sn cb tk) → va_S A s.heap H locs → ∀ ls : Array Slot, lv_has ls 4 [(3, .int (nI i)), (2, .ref (a 0)), (1, .ref (ia 0)), (0, .ref b)] → W p l e room_1 s m #[Value.ref b] below meth c H locs 600000 7302250 (lw_Z below #[Value.ref b] s) (F0 m pc ls [])
def LFx (p : Program) (s : State) (m : MethodId) (c : Code) (b L : Nat) (xs : Nat → Int32) (A : Nat → Prop) (G : va_G) (E : cEnv) : Prop :=
  p.tables.exec = Jvm.exec ∧ c.code = code ∧ c.maxLocals = 4 ∧ s.vm.findClass RL = some m.cls ∧ (∀ w ∈ wsL_law, w.before #[Value.ref b] s = true) ∧ KK G E s ∧ SW A s s.heap ∧ va_X b L xs s s.heap ∧ b < s.heap.size ∧ L ≤ 3072 ∧ (∀ q, s.heap.size ≤ q → A q) ∧ ¬ A b
def ab0 : ABS := (0, fun _ => 0, fun _ => -9, st4 (nI 4) (nI 8) (nI 1) (nI 0), fun _ => 0, fun _ => 0, fun _ _ => 0, fun _ _ => 0, fun _ _ => 0)
theorem ok0 : okA ab0 := ⟨Nat.zero_le _, fun j hj => absurd hj (Nat.not_lt_zero _), fun k hk => ⟨Nat.zero_le _, (by decide : 0 < 4), fun x hx h => absurd h (by decide : ¬ (0 : Int32) = -9)⟩⟩
theorem cls0 {sett : Nat → Int32} (h : ∀ k, k < 4 → sett k = st4 (nI 4) (nI 8) (nI 1) (nI 0) k) : ClsOk ab0 0 0 (fun k => k) (fun _ => 0) (fun _ => 0) (fun _ => 0) (fun _ => -9) (fun _ _ => 0) (fun _ => 0) (fun _ => 0) (fun _ => 0) (fun _ => 0) (fun _ => 0) (fun _ => 0) (fun _ => 0) (fun _ => 0) (fun _ => 0) (fun _ => 0) (fun _ => 0) sett (fun _ => 0) 0 0 0 0 0 0 (fun _ => 0) (fun _ => 0) (fun _ => 0) (fun _ => 0) (fun _ => 0) (fun _ => 0) (fun _ => 0) (fun _ => 0) (fun _ => 0) :=
  ⟨rfl, ok0, rfl, fun j hj => absurd hj (Nat.not_lt_zero _), fun j hj => absurd hj (Nat.not_lt_zero _), fun i hi => ⟨hi, fun k _ e => e⟩, ⟨fun k hk => absurd hk (Nat.not_lt_zero _), fun j hj => absurd hj (Nat.not_lt_zero _), fun j hj => absurd hj (Nat.not_lt_zero _)⟩, h, fun j hj => absurd hj (Nat.not_lt_zero _), ⟨rfl, rfl, fun _ _ => ⟨rfl, rfl, rfl⟩⟩, ⟨rfl, rfl, fun _ _ => ⟨rfl, rfl, rfl⟩⟩, ⟨rfl, rfl, fun _ _ => ⟨rfl, rfl, rfl⟩⟩⟩
theorem ref0 {seen sty : Nat → Int32} (h1 : ∀ k, k < 20 → seen k = -9) (h2 : ∀ k, k < 4 → sty k = st4 (nI 4) (nI 8) (nI 1) (nI 0) k) : RefOk ab0 0 (fun _ => 0) seen sty (fun _ => 0) (fun _ => 0) (fun _ => 0) (fun _ => 0) (fun _ => 0) :=
  ⟨rfl, ok0, fun j hj => absurd hj (Nat.not_lt_zero _), fun j hj => absurd hj (Nat.not_lt_zero _), h2, fun k hk => ⟨nI_0.symm, nI_0.symm, fun x hx => ⟨rfl, fun _ => ⟨rfl, rfl⟩⟩⟩⟩
