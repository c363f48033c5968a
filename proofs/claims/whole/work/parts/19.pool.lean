/-! the class's lines: twenty objects and their rows of tokens, in the order in which they were made -/
def lnE (ta : Nat → Nat) (tl ct ps : Nat → Nat) (sn cb : Nat → Int32) (i : Nat) : va_E := .inr (1, [.ref (ta i), .int (nI (tl i)), .int (nI (ct i)), .int (nI (ps i)), .int (sn i), .int (cb i)])
def tkE (E : cEnv) (tk : Nat → Nat → Int32) (i : Nat) : va_E := .inl (E.1, 9, .inl (tk i))
def mapW (n : Nat) (f : Nat → Nat × va_E) : va_W := (List.range n).map f
theorem mapW_get {n : Nat} {f : Nat → Nat × va_E} {i : Nat} (h : i < n) : (mapW n f)[i]? = some (f i) := by
  unfold mapW
  rw [List.getElem?_map, List.getElem?_range h]
  rfl
theorem mapW_len (n : Nat) (f : Nat → Nat × va_E) : (mapW n f).length = n := by unfold mapW; rw [List.length_map, List.length_range]
theorem mapW_at {n : Nat} {f : Nat → Nat × va_E} {i : Nat} {q : Nat × va_E} (h : (mapW n f)[i]? = some q) : i < n ∧ q = f i := by
  have h1 : i < (mapW n f).length := (List.getElem?_eq_some_iff.mp h).1
  rw [mapW_len] at h1
  rw [mapW_get h1] at h
  exact ⟨h1, (Option.some.inj h).symm⟩
theorem mapW_set {n : Nat} {f g : Nat → Nat × va_E} {i : Nat} {e : Nat × va_E} (he : g i = e) (ho : ∀ j, j < n → j ≠ i → g j = f j) (hi : i < n) : (mapW n f).set i e = mapW n g := by
  apply List.ext_getElem?
  intro k
  by_cases hk : k < n
  · by_cases q : i = k
    · subst q
      rw [List.getElem?_set_self (by rw [mapW_len]; exact hi), mapW_get hi, he]
    · rw [List.getElem?_set_ne q, mapW_get hk, mapW_get hk, ho k hk (fun z => q z.symm)]
  · rw [List.getElem?_eq_none (by rw [List.length_set, mapW_len]; omega), List.getElem?_eq_none (by rw [mapW_len]; omega)]
def poW (E : cEnv) (oa ta : Nat → Nat) (tl ct ps : Nat → Nat) (sn cb : Nat → Int32) (tk : Nat → Nat → Int32) : va_W :=
  mapW 20 (fun i => (oa i, lnE ta tl ct ps sn cb i)) ++ mapW 20 (fun i => (ta i, tkE E tk i))
section PO
variable {E : cEnv} {oa ta : Nat → Nat} {tl ct ps : Nat → Nat} {sn cb : Nat → Int32} {tk : Nat → Nat → Int32}
theorem po_ln {i : Nat} (h : i < 20) : (poW E oa ta tl ct ps sn cb tk)[i]? = some (oa i, .inr (1, [.ref (ta i), .int (nI (tl i)), .int (nI (ct i)), .int (nI (ps i)), .int (sn i), .int (cb i)])) := by
  unfold poW
  rw [List.getElem?_append_left (by rw [mapW_len]; exact h), mapW_get h]
  rfl
theorem po_tk {i : Nat} (h : i < 20) : (poW E oa ta tl ct ps sn cb tk)[20 + i]? = some (ta i, .inl (E.1, 9, .inl (tk i))) := by
  unfold poW
  rw [List.getElem?_append_right (by rw [mapW_len]; omega), mapW_len, show 20 + i - 20 = i by omega, mapW_get h]
  rfl
theorem po_lnX {X : va_W} {n i : Nat} (hX : X.length = n) (h : i < 20) : (X ++ poW E oa ta tl ct ps sn cb tk)[n + i]? = some (oa i, .inr (1, [.ref (ta i), .int (nI (tl i)), .int (nI (ct i)), .int (nI (ps i)), .int (sn i), .int (cb i)])) := by
  rw [List.getElem?_append_right (by omega), show n + i - X.length = i by omega]
  exact po_ln h
theorem po_tkX {X : va_W} {n i : Nat} (hX : X.length = n) (h : i < 20) : (X ++ poW E oa ta tl ct ps sn cb tk)[n + 20 + i]? = some (ta i, .inl (E.1, 9, .inl (tk i))) := by
  rw [List.getElem?_append_right (by omega), show n + 20 + i - X.length = 20 + i by omega]
  exact po_tk h
theorem po_cases {k : Nat} {q : Nat × va_E} (h : (poW E oa ta tl ct ps sn cb tk)[k]? = some q) : (k < 20 ∧ q = (oa k, lnE ta tl ct ps sn cb k)) ∨ (20 ≤ k ∧ k - 20 < 20 ∧ q = (ta (k - 20), tkE E tk (k - 20))) := by
  unfold poW at h
  by_cases hk : k < 20
  · rw [List.getElem?_append_left (by rw [mapW_len]; exact hk)] at h
    exact Or.inl ⟨hk, (mapW_at h).2⟩
  · rw [List.getElem?_append_right (by rw [mapW_len]; omega), mapW_len] at h
    exact Or.inr ⟨by omega, (mapW_at h).1, (mapW_at h).2⟩
theorem po_fst {tl2 ct2 ps2 : Nat → Nat} {sn2 cb2 : Nat → Int32} {tk2 : Nat → Nat → Int32} : (poW E oa ta tl2 ct2 ps2 sn2 cb2 tk2).map Prod.fst = (poW E oa ta tl ct ps sn cb tk).map Prod.fst := by
  unfold poW mapW
  rw [List.map_append, List.map_append, List.map_map, List.map_map, List.map_map, List.map_map]
  rfl
theorem setX {X Y : va_W} {n i : Nat} {e : Nat × va_E} (hX : X.length = n) : (X ++ Y).set (n + i) e = X ++ Y.set i e := by
  subst hX
  rw [List.set_append_right _ _ (by omega), Nat.add_sub_cancel_left]
theorem po_setL {i : Nat} (h : i < 20) {e : va_E} {tl2 ct2 ps2 : Nat → Nat} {sn2 cb2 : Nat → Int32} (he : lnE ta tl2 ct2 ps2 sn2 cb2 i = e) (ho : ∀ j, j < 20 → j ≠ i → lnE ta tl2 ct2 ps2 sn2 cb2 j = lnE ta tl ct ps sn cb j) : (poW E oa ta tl ct ps sn cb tk).set i (oa i, e) = poW E oa ta tl2 ct2 ps2 sn2 cb2 tk := by
  unfold poW
  rw [List.set_append_left _ _ (by rw [mapW_len]; exact h)]
  congr 1
  exact mapW_set (by rw [he]) (fun j hj hne => by rw [ho j hj hne]) h
theorem po_sn {X : va_W} {n i : Nat} {v : Int32} (hX : X.length = n) (h : i < 20) : (X ++ poW E oa ta tl ct ps sn cb tk).set (n + i) (oa i, .inr (1, [.ref (ta i), .int (nI (tl i)), .int (nI (ct i)), .int (nI (ps i)), .int v, .int (cb i)])) = X ++ poW E oa ta tl ct ps (upd sn i v) cb tk := by
  rw [setX hX]
  congr 1
  exact po_setL h (by unfold lnE; rw [upd_s]) (fun j hj hne => by unfold lnE; rw [upd_n hne])
theorem po_cb {X : va_W} {n i : Nat} {v : Int32} (hX : X.length = n) (h : i < 20) : (X ++ poW E oa ta tl ct ps sn cb tk).set (n + i) (oa i, .inr (1, [.ref (ta i), .int (nI (tl i)), .int (nI (ct i)), .int (nI (ps i)), .int (sn i), .int v])) = X ++ poW E oa ta tl ct ps sn (upd cb i v) tk := by
  rw [setX hX]
  congr 1
  exact po_setL h (by unfold lnE; rw [upd_s]) (fun j hj hne => by unfold lnE; rw [upd_n hne])
end PO
/-- behind a call that had some cells of X and, unchanged, some of the rest -/
theorem k_joinE {A0 : Nat → Prop} {G : va_G} {cl : List vw_C} {X pl cx rx ex : va_W} {H H1 : Heap} (hP : va_P G cl (X ++ pl) H) (hD : va_D A0 (X ++ pl)) (is : List Nat) (hC : is.map (fun i => X[i]?) = cx.map some) (hn : va_nd is = true) (ha : rx.map Prod.fst = cx.map Prod.fst) (hex : ∀ (k : Nat) (q : Nat × va_E), ex[k]? = some q → ∃ i : Nat, pl[i]? = some q)
    (hk : ∀ q : Nat, q < H.size → ¬ va_A (cx ++ ex) H.size q → H1[q]? = H[q]?) (hP1 : va_P G cl (rx ++ ex) H1) : va_P G cl (putAt is rx 0 X ++ pl) H1 ∧ va_D A0 (putAt is rx 0 X ++ pl) := by
  have hlen : is.length = rx.length := by
    have h1 := congrArg List.length hC
    have h2 := congrArg List.length ha
    simp at h1 h2
    omega
  have inX : ∀ (k : Nat) (q : Nat × va_E), X[k]? = some q → (X ++ pl)[k]? = some q := fun k q h => by
    rw [List.getElem?_append_left (List.getElem?_eq_some_iff.mp h).1]; exact h
  have inP : ∀ (k : Nat) (q : Nat × va_E), pl[k]? = some q → (X ++ pl)[X.length + k]? = some q := fun k q h => by
    rw [List.getElem?_append_right (by omega), Nat.add_sub_cancel_left]; exact h
  have key : ∀ (k : Nat) (q : Nat × va_E), (putAt is rx 0 X)[k]? = some q → (X[k]? = some q ∧ k ∉ is) ∨ ∃ j : Nat, is[j]? = some k ∧ rx[j]? = some q := by
    intro k q hq
    rw [putAt_get, Nat.zero_add] at hq
    cases hw : X[k]? with
    | none => rw [hw] at hq; cases hq
    | some p =>
      rw [hw] at hq
      cases hL : lk is rx k with
      | none =>
        simp only [hL, Option.map_some] at hq
        exact Or.inl ⟨hq, lk_none is rx k hlen hL⟩
      | some e =>
        simp only [hL, Option.map_some] at hq
        cases hq
        exact Or.inr (lk_some is rx k _ hL)
  have hf : (putAt is rx 0 X).map Prod.fst = X.map Prod.fst := by
    apply List.ext_getElem?
    intro k
    rw [List.getElem?_map, List.getElem?_map, putAt_get, Nat.zero_add]
    cases hw : X[k]? with
    | none => rfl
    | some p =>
      simp only [Option.map_some]
      cases hL : lk is rx k with
      | none => rfl
      | some e =>
        obtain ⟨j, h1, h2⟩ := lk_some is rx k e hL
        have h3 : (is.map (fun i => X[i]?))[j]? = some (some p) := by rw [List.getElem?_map, h1, ← hw]; rfl
        rw [hC, List.getElem?_map] at h3
        have h4 : (rx.map Prod.fst)[j]? = some e.1 := by rw [List.getElem?_map, h2]; rfl
        rw [ha, List.getElem?_map] at h4
        cases hc : cx[j]? with
        | none => rw [hc] at h3; cases h3
        | some c =>
          rw [hc] at h3 h4
          have e1 : c = p := by simpa using h3
          have e2 : c.1 = e.1 := by simpa using h4
          show some e.1 = some p.1
          rw [← e2, e1]
  -- which addresses the callee may have changed
  have free : ∀ (k : Nat) (q : Nat × va_E), (X ++ pl)[k]? = some q → va_A (cx ++ ex) H.size q.1 → (∃ i, i ∈ is ∧ k = i) ∨ ∃ (i j : Nat), ex[j]? = some q ∧ pl[i]? = some q ∧ k = X.length + i := by
    intro k q hq hA
    rcases hA with ⟨k2, e, h3⟩ | h3
    · by_cases hlt : k2 < cx.length
      · rw [List.getElem?_append_left hlt] at h3
        obtain ⟨i, h4, h5⟩ := va_in_of is hC h3
        have hij := hD.1 k i q (q.1, e) hq (inX i _ h5) rfl
        exact Or.inl ⟨i, List.mem_of_getElem? h4, hij⟩
      · rw [List.getElem?_append_right (by omega)] at h3
        obtain ⟨i, h4⟩ := hex _ _ h3
        have hij := hD.1 k (X.length + i) q (q.1, e) hq (inP i _ h4) rfl
        have he : (q.1, e) = q := by
          have := inP i _ h4
          rw [← hij, hq] at this
          exact (Option.some.inj this).symm
        rw [he] at h3 h4
        exact Or.inr ⟨i, _, h3, h4, hij⟩
    · have := (hP k q hq).lt
      omega
  have hfst : (putAt is rx 0 X ++ pl).map Prod.fst = (X ++ pl).map Prod.fst := by rw [List.map_append, List.map_append, hf]
  have hlX : (putAt is rx 0 X).length = X.length := by
    have := congrArg List.length hf
    simpa using this
  refine ⟨fun k q hq => ?_, hD.fst hfst⟩
  by_cases hkX : k < X.length
  · rw [List.getElem?_append_left (by omega)] at hq
    rcases key k q hq with ⟨h1, h2⟩ | ⟨j, h1, h2⟩
    · refine (hP k q (inX k q h1)).kept (hk q.1 (hP k q (inX k q h1)).lt (fun hA => ?_))
      rcases free k q (inX k q h1) hA with ⟨i, hi, rfl⟩ | ⟨i, j, -, -, e⟩
      · exact h2 hi
      · omega
    · have : (rx ++ ex)[j]? = some q := by rw [List.getElem?_append_left (List.getElem?_eq_some_iff.mp h2).1]; exact h2
      exact hP1 j q this
  · rw [List.getElem?_append_right (by omega), hlX] at hq
    have hq2 := inP _ q hq
    by_cases hA : va_A (cx ++ ex) H.size q.1
    · rcases free _ q hq2 hA with ⟨i, hi, e⟩ | ⟨i, j, h3, -, -⟩
      · exfalso
        obtain ⟨j, hj⟩ := List.getElem?_of_mem hi
        have h3 : (is.map (fun i => X[i]?))[j]? = some (X[i]?) := by rw [List.getElem?_map, hj]; rfl
        rw [hC, List.getElem?_map] at h3
        cases hc : cx[j]? with
        | none => rw [hc] at h3; cases h3
        | some c =>
          rw [hc] at h3
          have : X[i]? = some c := by simpa using h3.symm
          have := (List.getElem?_eq_some_iff.mp this).1
          omega
      · have : (rx ++ ex)[rx.length + j]? = some q := by rw [List.getElem?_append_right (by omega), Nat.add_sub_cancel_left]; exact h3
        exact hP1 _ q this
    · exact (hP _ q hq2).kept (hk q.1 (hP _ q hq2).lt hA)
theorem po_fstA {X X2 : va_W} {E : cEnv} {oa ta : Nat → Nat} {tl ct ps tl2 ct2 ps2 : Nat → Nat} {sn cb sn2 cb2 : Nat → Int32} {tk tk2 : Nat → Nat → Int32} (h : X2.map Prod.fst = X.map Prod.fst) : (X2 ++ poW E oa ta tl2 ct2 ps2 sn2 cb2 tk2).map Prod.fst = (X ++ poW E oa ta tl ct ps sn cb tk).map Prod.fst := by
  rw [List.map_append, List.map_append, h, po_fst]
