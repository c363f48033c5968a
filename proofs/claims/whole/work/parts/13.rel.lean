theorem RR_open {s2 : Int32} {S : NS} {C : Nat → Int32} {mm L b t li i : Nat} {lineO tokO atO baseO kindO partO colO openO strayO stk : Nat → Int32} {kk : Nat} (h : RR s2 S C mm lineO tokO atO baseO kindO partO colO openO strayO stk) (hw : wfN S L b)
    (hk : kk = if tok t i = 2 then 1 else if s2 = nI 1 ∧ folw t i = 1 then 3 else 2) (hC : C li = colO li) :
    RR s2 (nOpen t li i S) C mm (upd lineO (nO S) (nI li)) (upd tokO (nO S) (nI i)) (upd atO (nO S) (C li + nI (wsum t i))) (upd baseO (nO S) (colO li)) (upd kindO (nO S) (nI kk)) (upd partO (nO S) (-9)) colO openO strayO (upd stk (nD S) (nI (nO S))) := by
  obtain ⟨h1, h2, h3⟩ := h
  refine ⟨fun k hk2 => ?_, fun j hj => ?_, fun j hj => ?_⟩
  · have hk2 : k < nO S + 1 := hk2
    have e : kd s2 (nF (nOpen t li i S)) k = if k = nO S then kk else kd s2 (nF S) k := by
      unfold kd
      rw [nOpen_F, nOpen_F]
      simp only [show ¬ ((0:Nat) = 6) by decide, show ¬ ((0:Nat) = 5) by decide, show ¬ ((0:Nat) = 4) by decide, show ¬ ((0:Nat) = 3) by decide, show ¬ ((0:Nat) = 2) by decide, show ¬ ((0:Nat) = 1) by decide, show ¬ ((4:Nat) = 6) by decide, show ¬ ((4:Nat) = 5) by decide, false_and, if_false, true_and, show ¬ ((4:Nat) = 3) by decide, show ¬ ((4:Nat) = 2) by decide, show ¬ ((4:Nat) = 1) by decide, show ¬ ((4:Nat) = 0) by decide]
      by_cases q : k = nO S
      · simp only [q, if_true, hk]
      · simp only [q, if_false]
    rw [nOpen_F, nOpen_F, nOpen_F, nOpen_F, e]
    simp only [show ¬ ((1:Nat) = 6) by decide, show ¬ ((1:Nat) = 5) by decide, show ¬ ((1:Nat) = 4) by decide, show ¬ ((1:Nat) = 3) by decide, show ¬ ((1:Nat) = 2) by decide, show ¬ ((2:Nat) = 6) by decide, show ¬ ((2:Nat) = 5) by decide, show ¬ ((2:Nat) = 4) by decide, show ¬ ((2:Nat) = 3) by decide, show ¬ ((3:Nat) = 6) by decide, show ¬ ((3:Nat) = 5) by decide, show ¬ ((3:Nat) = 4) by decide, show ¬ ((5:Nat) = 6) by decide, show ¬ ((1:Nat) = 0) by decide, show ¬ ((2:Nat) = 1) by decide, show ¬ ((2:Nat) = 0) by decide, show ¬ ((3:Nat) = 2) by decide, show ¬ ((3:Nat) = 1) by decide, show ¬ ((3:Nat) = 0) by decide, show ¬ ((5:Nat) = 4) by decide, show ¬ ((5:Nat) = 3) by decide, show ¬ ((5:Nat) = 2) by decide, show ¬ ((5:Nat) = 1) by decide, show ¬ ((5:Nat) = 0) by decide, false_and, if_false, true_and]
    by_cases q : k = nO S
    · subst q
      simp only [upd_s, if_true, hC]
      refine ⟨?_, ?_, ?_, ?_, ?_, ?_⟩ <;> first | rfl | trivial
    · simp only [upd_n q, q, if_false]
      exact h1 k (by omega)
  · rw [nOpen_F, nOpen_F]
    simp only [show ¬ ((9:Nat) = 6) by decide, show ¬ ((9:Nat) = 5) by decide, show ¬ ((9:Nat) = 4) by decide, show ¬ ((9:Nat) = 3) by decide, show ¬ ((9:Nat) = 2) by decide, show ¬ ((9:Nat) = 1) by decide, show ¬ ((9:Nat) = 0) by decide, show ¬ ((7:Nat) = 6) by decide, show ¬ ((7:Nat) = 5) by decide, show ¬ ((7:Nat) = 4) by decide, show ¬ ((7:Nat) = 3) by decide, show ¬ ((7:Nat) = 2) by decide, show ¬ ((7:Nat) = 1) by decide, show ¬ ((7:Nat) = 0) by decide, false_and, if_false]
    exact h2 j hj
  · have hj : j < nD S + 1 := hj
    rw [nOpen_F]
    simp only [show ¬ ((6:Nat) = 5) by decide, show ¬ ((6:Nat) = 4) by decide, show ¬ ((6:Nat) = 3) by decide, show ¬ ((6:Nat) = 2) by decide, show ¬ ((6:Nat) = 1) by decide, show ¬ ((6:Nat) = 0) by decide, false_and, if_false, true_and]
    by_cases q : j = nD S
    · subst q; simp only [upd_s, if_true]
    · simp only [upd_n q, q, if_false]
      exact h3 j (by omega)
theorem kd_up {s2 : Int32} {F : Nat → Nat → Nat} {x y v k : Nat} (h0 : (0:Nat) ≠ x) (h4 : (4:Nat) ≠ x) : kd s2 (up2 F x y v) k = kd s2 F k := by
  unfold kd
  rw [up2_k h0, up2_k h4]
theorem RR_match {s2 : Int32} {S : NS} {C : Nat → Int32} {mm L b q li : Nat} {lineO tokO atO baseO kindO partO colO openO strayO stk : Nat → Int32} (h : RR s2 S C mm lineO tokO atO baseO kindO partO colO openO strayO stk) (hw : wfN S L b) (hd : 0 < nD S) (hq : nF S 0 (nF S 6 (nD S - 1)) = q) :
    RR s2 (nClose q li S) C mm lineO tokO atO baseO kindO (upd partO (nF S 6 (nD S - 1)) (nI li)) colO openO strayO stk := by
  obtain ⟨h1, h2, h3⟩ := h
  unfold nClose
  rw [if_pos ⟨hd, hq⟩]
  refine ⟨fun k hk => ?_, fun j hj => ?_, fun j hj => ?_⟩
  · show lineO k = nI (up2 (nF S) 5 (nF S 6 (nD S - 1)) (li + 1) 1 k) ∧ tokO k = nI (up2 (nF S) 5 (nF S 6 (nD S - 1)) (li + 1) 2 k) ∧ atO k = C (up2 (nF S) 5 (nF S 6 (nD S - 1)) (li + 1) 1 k) + nI (up2 (nF S) 5 (nF S 6 (nD S - 1)) (li + 1) 3 k) ∧ baseO k = C (up2 (nF S) 5 (nF S 6 (nD S - 1)) (li + 1) 1 k) ∧ kindO k = nI (kd s2 (up2 (nF S) 5 (nF S 6 (nD S - 1)) (li + 1)) k) ∧ upd partO (nF S 6 (nD S - 1)) (nI li) k = pv (up2 (nF S) 5 (nF S 6 (nD S - 1)) (li + 1) 5 k)
    rw [up2_k (by decide), up2_k (by decide), up2_k (by decide), kd_up (by decide) (by decide)]
    have hh := h1 k hk
    refine ⟨hh.1, hh.2.1, hh.2.2.1, hh.2.2.2.1, hh.2.2.2.2.1, ?_⟩
    by_cases z : k = nF S 6 (nD S - 1)
    · rw [← z, upd_s, up2_s]
      rfl
    · rw [upd_n z, up2_i z]
      exact hh.2.2.2.2.2
  · show colO j = C j ∧ openO j = nI (up2 (nF S) 5 (nF S 6 (nD S - 1)) (li + 1) 9 j) ∧ strayO j = nI (up2 (nF S) 5 (nF S 6 (nD S - 1)) (li + 1) 7 j)
    rw [up2_k (by decide), up2_k (by decide)]
    exact h2 j hj
  · have hj : j < nD S - 1 := hj
    show stk j = nI (up2 (nF S) 5 (nF S 6 (nD S - 1)) (li + 1) 6 j)
    rw [up2_k (by decide)]
    exact h3 j (by omega)
theorem RR_stray {s2 : Int32} {S : NS} {C : Nat → Int32} {mm q li : Nat} {lineO tokO atO baseO kindO partO colO openO strayO stk : Nat → Int32} (h : RR s2 S C mm lineO tokO atO baseO kindO partO colO openO strayO stk) (hm : li < mm) (hq : ¬ (0 < nD S ∧ nF S 0 (nF S 6 (nD S - 1)) = q)) :
    RR s2 (nClose q li S) C mm lineO tokO atO baseO kindO partO colO openO (upd strayO li (nI (nF S 7 li + 1))) stk := by
  obtain ⟨h1, h2, h3⟩ := h
  unfold nClose
  rw [if_neg hq]
  refine ⟨fun k hk => ?_, fun j hj => ?_, fun j hj => ?_⟩
  · show lineO k = nI (up2 (nF S) 7 li (nF S 7 li + 1) 1 k) ∧ tokO k = nI (up2 (nF S) 7 li (nF S 7 li + 1) 2 k) ∧ atO k = C (up2 (nF S) 7 li (nF S 7 li + 1) 1 k) + nI (up2 (nF S) 7 li (nF S 7 li + 1) 3 k) ∧ baseO k = C (up2 (nF S) 7 li (nF S 7 li + 1) 1 k) ∧ kindO k = nI (kd s2 (up2 (nF S) 7 li (nF S 7 li + 1)) k) ∧ partO k = pv (up2 (nF S) 7 li (nF S 7 li + 1) 5 k)
    rw [up2_k (by decide), up2_k (by decide), up2_k (by decide), kd_up (by decide) (by decide), up2_k (by decide)]
    exact h1 k hk
  · show colO j = C j ∧ openO j = nI (up2 (nF S) 7 li (nF S 7 li + 1) 9 j) ∧ upd strayO li (nI (nF S 7 li + 1)) j = nI (up2 (nF S) 7 li (nF S 7 li + 1) 7 j)
    rw [up2_k (by decide)]
    have hh := h2 j hj
    refine ⟨hh.1, hh.2.1, ?_⟩
    by_cases z : j = li
    · rw [z, upd_s, up2_s]
    · rw [upd_n z, up2_i z]
      exact hh.2.2
  · show stk j = nI (up2 (nF S) 7 li (nF S 7 li + 1) 6 j)
    rw [up2_k (by decide)]
    exact h3 j hj
theorem RR_last {s2 : Int32} {S S2 : NS} {C : Nat → Int32} {mm : Nat} {lineO tokO atO baseO kindO partO colO openO strayO stk : Nat → Int32} (h : RR s2 S C mm lineO tokO atO baseO kindO partO colO openO strayO stk) (h1 : nO S2 = nO S) (h2 : nD S2 = nD S) (h3 : nF S2 = nF S) : RR s2 S2 C mm lineO tokO atO baseO kindO partO colO openO strayO stk := by
  unfold RR
  rw [h1, h2, h3]
  exact h
/-- a line begins: its column comes, its depth, no strays -/
theorem RR_start {s2 : Int32} {S : NS} {C : Nat → Int32} {li b : Nat} {v : Int32} {lineO tokO atO baseO kindO partO colO openO strayO stk : Nat → Int32} (h : RR s2 S C li lineO tokO atO baseO kindO partO colO openO strayO stk) (hw : wfN S li b) :
    RR s2 (nStart li S) (upd C li v) (li + 1) lineO tokO atO baseO kindO partO (upd colO li v) (upd openO li (nI (nD S))) (upd strayO li (nI 0)) stk := by
  obtain ⟨h1, h2, h3⟩ := h
  have e : ∀ x y, nF (nStart li S) x y = if x = 7 ∧ y = li then 0 else if x = 10 ∧ y = li then nL S else if x = 9 ∧ y = li then nD S else if x = 8 ∧ y = li then topN S else nF S x y := fun x y => rfl
  have e0 : ∀ x y, x < 7 → nF (nStart li S) x y = nF S x y := fun x y hx => by
    rw [e, if_neg (by omega), if_neg (by omega), if_neg (by omega), if_neg (by omega)]
  refine ⟨fun k hk => ?_, fun j hj => ?_, fun j hj => ?_⟩
  · have hk : k < nO S := hk
    have hl := (hw.2.2.2.1 k hk).1
    have ek : kd s2 (nF (nStart li S)) k = kd s2 (nF S) k := by unfold kd; rw [e0 _ _ (by decide), e0 _ _ (by decide)]
    rw [ek, e0 _ _ (by decide), e0 _ _ (by decide), e0 _ _ (by decide), e0 _ _ (by decide), upd_n (by omega)]
    exact h1 k hk
  · rw [e, e]
    simp only [show ¬ ((9:Nat) = 7) by decide, show ¬ ((9:Nat) = 10) by decide, show ¬ ((7:Nat) = 10) by decide, show ¬ ((7:Nat) = 9) by decide, show ¬ ((7:Nat) = 8) by decide, show ¬ ((9:Nat) = 8) by decide, false_and, if_false, true_and]
    by_cases z : j = li
    · subst z
      simp only [upd_s, if_true]
      refine ⟨?_, ?_, ?_⟩ <;> first | rfl | trivial
    · simp only [upd_n z, z, if_false]
      exact h2 j (by omega)
  · rw [e0 _ _ (by decide)]
    exact h3 j hj
theorem nTok_eq (t li i : Nat) (S : NS) (h : tok t i ≠ 9) : nTok t li i S = (nO (nAct t li i S), nD (nAct t li i S), tok t i, nF (nAct t li i S)) := by unfold nTok; rw [if_neg h]
theorem nTok_eq9 (t li i : Nat) (S : NS) (h : tok t i = 9) : nTok t li i S = S := by
  unfold nTok nAct
  rw [if_pos h]
  simp [h]
theorem folw_n {t i : Nat} (hi : i < pres t) (ht : tok t i ≠ 9) : folw t i = 1 ↔ (i + 1 < len t ∧ tok t (i + 1) ≠ 9) := by
  unfold folw
  have hp := pres_ok t
  constructor
  · intro h
    by_cases q : i + 1 < pres t ∧ tok t (i + 1) ≠ 9
    · exact ⟨by have := hp.1; omega, q.2⟩
    · rw [if_neg q] at h; omega
  · intro h
    rw [if_pos]
    refine ⟨?_, h.2⟩
    rcases Nat.lt_or_ge (i + 1) (pres t) with q | q
    · exact q
    · exfalso
      have e : pres t = i + 1 := by omega
      have := (hp.2.2 (by omega)).2
      rw [e] at this
      exact ht this
