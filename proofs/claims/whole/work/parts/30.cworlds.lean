/-! the worlds of the class -/
abbrev lyW (E : cEnv) (y : Nat → Nat) (sett clA : Nat → Int32) : va_W := [(y 0, .inr (0, [.ref (y 1), .ref (y 2)])),
  (y 1, .inl (E.1, 4, .inl sett)),
  (y 2, .inl (E.1, 20, .inl clA))]
abbrev neW (E : cEnv) (z : Nat → Nat) (op hg la : Nat) (tops dpt lst stry srt lin tokA wah fol par_ opn : Nat → Int32) : va_W := [(z 0, .inr (2, [.ref (z 1), .ref (z 2), .ref (z 3), .ref (z 4), .int (nI op), .ref (z 6), .ref (z 7), .ref (z 8), .ref (z 9), .ref (z 10), .ref (z 11), .ref (z 12), .int (nI hg), .int (nI la)])),
  (z 1, .inl (E.1, 20, .inl tops)),
  (z 2, .inl (E.1, 20, .inl dpt)),
  (z 3, .inl (E.1, 20, .inl lst)),
  (z 4, .inl (E.1, 20, .inl stry)),
  (z 6, .inl (E.1, 180, .inl srt)),
  (z 7, .inl (E.1, 180, .inl lin)),
  (z 8, .inl (E.1, 180, .inl tokA)),
  (z 9, .inl (E.1, 180, .inl wah)),
  (z 10, .inl (E.2.1, 180, .inl fol)),
  (z 11, .inl (E.1, 180, .inl par_)),
  (z 12, .inl (E.1, 180, .inl opn))]
abbrev slot (oa pi : Nat → Nat) : Nat → Nat := fun k => oa (pi k)
abbrev txW (E : cEnv) (tx : Nat → Nat) (n : Nat) (sl : Nat → Nat) : va_W := [(tx 0, .inr (4, [.ref (tx 1), .int (nI n)])),
  (tx 1, .inl (E.2.2.1, 20, .inr (.inr (.inr (.inr (fun k => some (sl k)))))))]
abbrev pkW (E : cEnv) (w : Nat → Nat) (kn kz : Nat) (kl kp kk_ : Nat → Int32) : va_W := [(w 0, .inr (3, [.int (nI kn), .int (nI kz), .ref (w 3), .ref (w 4), .ref (w 5)])),
  (w 3, .inl (E.1, 6, .inl kl)),
  (w 4, .inl (E.1, 6, .inl kp)),
  (w 5, .inl (E.1, 6, .inl kk_))]
/-! the class's rows against the numbers -/
def CN (S : NS) (mm : Nat) (tops dpt lst stry srt lin tokA wah fol par_ opn : Nat → Int32) : Prop :=
  (∀ k, k < nO S → srt k = nI (nF S 0 k) ∧ lin k = nI (nF S 1 k) ∧ tokA k = nI (nF S 2 k) ∧ wah k = nI (nF S 3 k) ∧ fol k = nI (nF S 4 k) ∧ par_ k = pv (nF S 5 k)) ∧
  (∀ j, j < mm → tops j = pv (nF S 8 j) ∧ dpt j = nI (nF S 9 j) ∧ lst j = nI (nF S 10 j) ∧ stry j = nI (nF S 7 j)) ∧ (∀ j, j < nD S → opn j = nI (nF S 6 j))
theorem CN_open {S : NS} {mm t li i : Nat} {tops dpt lst stry srt lin tokA wah fol par_ opn : Nat → Int32} (h : CN S mm tops dpt lst stry srt lin tokA wah fol par_ opn) :
    CN (nOpen t li i S) mm tops dpt lst stry (upd srt (nO S) (nI (tok t i))) (upd lin (nO S) (nI li)) (upd tokA (nO S) (nI i)) (upd wah (nO S) (nI (wsum t i))) (upd fol (nO S) (nI (folw t i))) (upd par_ (nO S) (-9)) (upd opn (nD S) (nI (nO S))) := by
  obtain ⟨h1, h2, h3⟩ := h
  refine ⟨fun k hk => ?_, fun j hj => ?_, fun j hj => ?_⟩
  · have hk : k < nO S + 1 := hk
    by_cases q : k = nO S
    · subst q
      simp only [upd_s, nOpen_F]
      refine ⟨?_, ?_, ?_, ?_, ?_, ?_⟩ <;> simp [pv]
    · simp only [upd_n q]
      have e : ∀ x, x < 6 → nF (nOpen t li i S) x k = nF S x k := fun x hx => by
        rw [nOpen_F, if_neg (by omega), if_neg (by omega), if_neg (by omega), if_neg (by omega), if_neg (by omega), if_neg (by omega), if_neg (by omega)]
      rw [e 0 (by decide), e 1 (by decide), e 2 (by decide), e 3 (by decide), e 4 (by decide), e 5 (by decide)]
      exact h1 k (by omega)
  · have e : ∀ x, 6 < x → nF (nOpen t li i S) x j = nF S x j := fun x hx => by
      rw [nOpen_F, if_neg (by omega), if_neg (by omega), if_neg (by omega), if_neg (by omega), if_neg (by omega), if_neg (by omega), if_neg (by omega)]
    rw [e 8 (by decide), e 9 (by decide), e 10 (by decide), e 7 (by decide)]
    exact h2 j hj
  · have hj : j < nD S + 1 := hj
    rw [nOpen_F]
    by_cases q : j = nD S
    · subst q; rw [upd_s, if_pos ⟨rfl, rfl⟩]
    · rw [upd_n q, if_neg (by omega), if_neg (by omega), if_neg (by omega), if_neg (by omega), if_neg (by omega), if_neg (by omega), if_neg (by omega)]
      exact h3 j (by omega)
theorem CN_match {S : NS} {mm q li : Nat} {tops dpt lst stry srt lin tokA wah fol par_ opn : Nat → Int32} (h : CN S mm tops dpt lst stry srt lin tokA wah fol par_ opn) (hd : 0 < nD S) (hq : nF S 0 (nF S 6 (nD S - 1)) = q) :
    CN (nClose q li S) mm tops dpt lst stry srt lin tokA wah fol (upd par_ (nF S 6 (nD S - 1)) (nI li)) opn := by
  obtain ⟨h1, h2, h3⟩ := h
  unfold nClose
  rw [if_pos ⟨hd, hq⟩]
  have e : ∀ x y, x ≠ 5 → up2 (nF S) 5 (nF S 6 (nD S - 1)) (li + 1) x y = nF S x y := fun x y hx => up2_k hx
  refine ⟨fun k hk => ?_, fun j hj => ?_, fun j hj => ?_⟩
  · show srt k = nI (up2 (nF S) 5 (nF S 6 (nD S - 1)) (li + 1) 0 k) ∧ lin k = nI (up2 (nF S) 5 (nF S 6 (nD S - 1)) (li + 1) 1 k) ∧ tokA k = nI (up2 (nF S) 5 (nF S 6 (nD S - 1)) (li + 1) 2 k) ∧ wah k = nI (up2 (nF S) 5 (nF S 6 (nD S - 1)) (li + 1) 3 k) ∧ fol k = nI (up2 (nF S) 5 (nF S 6 (nD S - 1)) (li + 1) 4 k) ∧ upd par_ (nF S 6 (nD S - 1)) (nI li) k = pv (up2 (nF S) 5 (nF S 6 (nD S - 1)) (li + 1) 5 k)
    rw [e 0 k (by decide), e 1 k (by decide), e 2 k (by decide), e 3 k (by decide), e 4 k (by decide)]
    have hh := h1 k hk
    refine ⟨hh.1, hh.2.1, hh.2.2.1, hh.2.2.2.1, hh.2.2.2.2.1, ?_⟩
    by_cases z : k = nF S 6 (nD S - 1)
    · rw [← z, upd_s, up2_s]; rfl
    · rw [upd_n z, up2_i z]; exact hh.2.2.2.2.2
  · show tops j = pv (up2 (nF S) 5 (nF S 6 (nD S - 1)) (li + 1) 8 j) ∧ dpt j = nI (up2 (nF S) 5 (nF S 6 (nD S - 1)) (li + 1) 9 j) ∧ lst j = nI (up2 (nF S) 5 (nF S 6 (nD S - 1)) (li + 1) 10 j) ∧ stry j = nI (up2 (nF S) 5 (nF S 6 (nD S - 1)) (li + 1) 7 j)
    rw [e 8 j (by decide), e 9 j (by decide), e 10 j (by decide), e 7 j (by decide)]
    exact h2 j hj
  · have hj : j < nD S - 1 := hj
    show opn j = nI (up2 (nF S) 5 (nF S 6 (nD S - 1)) (li + 1) 6 j)
    rw [e 6 j (by decide)]
    exact h3 j (by omega)
theorem CN_stray {S : NS} {mm q li : Nat} {tops dpt lst stry srt lin tokA wah fol par_ opn : Nat → Int32} (h : CN S mm tops dpt lst stry srt lin tokA wah fol par_ opn) (hq : ¬ (0 < nD S ∧ nF S 0 (nF S 6 (nD S - 1)) = q)) :
    CN (nClose q li S) mm tops dpt lst (upd stry li (nI (nF S 7 li + 1))) srt lin tokA wah fol par_ opn := by
  obtain ⟨h1, h2, h3⟩ := h
  unfold nClose
  rw [if_neg hq]
  have e : ∀ x y, x ≠ 7 → up2 (nF S) 7 li (nF S 7 li + 1) x y = nF S x y := fun x y hx => up2_k hx
  refine ⟨fun k hk => ?_, fun j hj => ?_, fun j hj => ?_⟩
  · show srt k = nI (up2 (nF S) 7 li (nF S 7 li + 1) 0 k) ∧ lin k = nI (up2 (nF S) 7 li (nF S 7 li + 1) 1 k) ∧ tokA k = nI (up2 (nF S) 7 li (nF S 7 li + 1) 2 k) ∧ wah k = nI (up2 (nF S) 7 li (nF S 7 li + 1) 3 k) ∧ fol k = nI (up2 (nF S) 7 li (nF S 7 li + 1) 4 k) ∧ par_ k = pv (up2 (nF S) 7 li (nF S 7 li + 1) 5 k)
    rw [e 0 k (by decide), e 1 k (by decide), e 2 k (by decide), e 3 k (by decide), e 4 k (by decide), e 5 k (by decide)]
    exact h1 k hk
  · show tops j = pv (up2 (nF S) 7 li (nF S 7 li + 1) 8 j) ∧ dpt j = nI (up2 (nF S) 7 li (nF S 7 li + 1) 9 j) ∧ lst j = nI (up2 (nF S) 7 li (nF S 7 li + 1) 10 j) ∧ upd stry li (nI (nF S 7 li + 1)) j = nI (up2 (nF S) 7 li (nF S 7 li + 1) 7 j)
    rw [e 8 j (by decide), e 9 j (by decide), e 10 j (by decide)]
    have hh := h2 j hj
    refine ⟨hh.1, hh.2.1, hh.2.2.1, ?_⟩
    by_cases z : j = li
    · rw [z, upd_s, up2_s]
    · rw [upd_n z, up2_i z]; exact hh.2.2.2
  · show opn j = nI (up2 (nF S) 7 li (nF S 7 li + 1) 6 j)
    rw [e 6 j (by decide)]
    exact h3 j hj
theorem CN_last {S S2 : NS} {mm : Nat} {tops dpt lst stry srt lin tokA wah fol par_ opn : Nat → Int32} (h : CN S mm tops dpt lst stry srt lin tokA wah fol par_ opn) (h1 : nO S2 = nO S) (h2 : nD S2 = nD S) (h3 : nF S2 = nF S) : CN S2 mm tops dpt lst stry srt lin tokA wah fol par_ opn := by
  unfold CN
  rw [h1, h2, h3]
  exact h
theorem CN_start {S : NS} {li : Nat} {tops dpt lst stry srt lin tokA wah fol par_ opn : Nat → Int32} (h : CN S li tops dpt lst stry srt lin tokA wah fol par_ opn) :
    CN (nStart li S) (li + 1) (upd tops li (pv (topN S))) (upd dpt li (nI (nD S))) (upd lst li (nI (nL S))) (upd stry li (nI 0)) srt lin tokA wah fol par_ opn := by
  obtain ⟨h1, h2, h3⟩ := h
  have e0 : ∀ x y, x < 7 → nF (nStart li S) x y = nF S x y := fun x y hx => by
    rw [start_F, if_neg (by omega), if_neg (by omega), if_neg (by omega), if_neg (by omega)]
  refine ⟨fun k hk => ?_, fun j hj => ?_, fun j hj => ?_⟩
  · rw [e0 0 k (by decide), e0 1 k (by decide), e0 2 k (by decide), e0 3 k (by decide), e0 4 k (by decide), e0 5 k (by decide)]
    exact h1 k hk
  · by_cases z : j = li
    · subst z
      simp only [upd_s, start_F]
      refine ⟨?_, ?_, ?_, ?_⟩ <;> simp
    · simp only [upd_n z]
      have e1 : ∀ x, nF (nStart li S) x j = nF S x j := fun x => by
        rw [start_F, if_neg (by omega), if_neg (by omega), if_neg (by omega), if_neg (by omega)]
      rw [e1, e1, e1, e1]
      exact h2 j (by omega)
  · rw [e0 6 j (by decide)]
    exact h3 j hj
/-- what the layout asks of the nesting's rows -/
def LN (F : Nat → Nat → Nat) (o : Nat) (srt lin wah fol : Nat → Int32) : Prop := o ≤ 180 ∧ ∀ k, k < o → srt k = nI (F 0 k) ∧ lin k = nI (F 1 k) ∧ wah k = nI (F 3 k) ∧ fol k = nI (F 4 k) ∧ F 1 k < 20 ∧ (F 0 k = 2 ∨ F 0 k = 4) ∧ F 4 k ≤ 1
/-- lines as they stand in their slots -/
def PL (n : Nat) (rn : Nat → Nat) (pi : Nat → Nat) (tl ct ps : Nat → Nat) (tk : Nat → Nat → Int32) : Prop := ∀ j, j < n → pi j < 20 ∧ tl (pi j) = rn j ∧ ct (pi j) = len (rn j) ∧ ps (pi j) = pres (rn j) ∧ ∀ k, k < len (rn j) → tk (pi j) k = nI (tok (rn j) k)
theorem folw_le (t i : Nat) : folw t i ≤ 1 := by unfold folw; split <;> omega
def folP (S : NS) : Prop := ∀ k, nF S 4 k ≤ 1
theorem folP_act {t li i : Nat} {S : NS} (h : folP S) : folP (nTok t li i S) := by
  intro k
  show nF (nAct t li i S) 4 k ≤ 1
  have hc : ∀ q, nF (nClose q li S) 4 k ≤ 1 := by
    intro q
    unfold nClose
    split
    · show up2 (nF S) 5 (nF S 6 (nD S - 1)) (li + 1) 4 k ≤ 1
      rw [up2_k (by decide)]; exact h k
    · show up2 (nF S) 7 li (nF S 7 li + 1) 4 k ≤ 1
      rw [up2_k (by decide)]; exact h k
  unfold nAct
  split
  · rw [nOpen_F]
    have := folw_le t i
    have := h k
    split
    · omega
    · split
      · omega
      · split
        · omega
        · rw [if_neg (by omega), if_neg (by omega), if_neg (by omega), if_neg (by omega)]; omega
  · split
    · exact hc 2
    · split
      · exact hc 4
      · exact h k
theorem folP_line {t li : Nat} {S : NS} (h : folP S) : ∀ i, folP (nLine t li S i)
  | 0 => h
  | i + 1 => folP_act (folP_line h i)
theorem folP_all (rn : Nat → Nat) : ∀ n, folP (nAll rn n)
  | 0 => fun _ => Nat.zero_le _
  | n + 1 => by
    refine folP_line (fun k => ?_) _
    rw [start_F, if_neg (by omega), if_neg (by omega), if_neg (by omega), if_neg (by omega)]
    exact folP_all rn n k
theorem CN.ln {rn : Nat → Nat} {n mm : Nat} {tops dpt lst stry srt lin tokA wah fol par_ opn : Nat → Int32} (h : CN (nAll rn n) mm tops dpt lst stry srt lin tokA wah fol par_ opn) (hn : n ≤ 20) (hr : ∀ j, j < n → rn j < 1000000000) : LN (nF (nAll rn n)) (nO (nAll rn n)) srt lin wah fol := by
  have hw := wfN_all (row := rn) n hr
  refine ⟨Nat.le_trans hw.2.1 (by omega), fun k hk => ?_⟩
  have h1 := h.1 k hk
  have h2 := hw.2.2.2.1 k hk
  exact ⟨h1.1, h1.2.1, h1.2.2.2.1, h1.2.2.2.2.1, Nat.lt_of_lt_of_le h2.1 hn, h2.2, folP_all rn n k⟩
theorem cvB_eq {s : Nat → Int32} {F F2 : Nat → Nat → Nat} {C C2 : Nat → Int32} {k la x : Nat} (h0 : F 0 k = F2 0 k) (h1 : F 1 k = F2 1 k) (h3 : F 3 k = F2 3 k) (h4 : F 4 k = F2 4 k) (hC : C (F2 1 k) = C2 (F2 1 k)) : cvB s F C k la x = cvB s F2 C2 k la x := by
  unfold cvB
  rw [h0, h1, h3, h4, hC]
/-- a line's column by the rows of the whole nesting -/
theorem col_whole {s : Nat → Int32} {rn : Nat → Nat} {n i : Nat} {C : Nat → Int32} (hi : i < n) (hr : ∀ j, j < n → rn j < 1000000000) (hC : ∀ j, j < i → C j = cols s rn i j) (h0 : ¬ rn i = 0) : cvt s (nF (nAll rn n)) C (nF (nAll rn n) 8 i) (nF (nAll rn n) 10 i) (tok (rn i) 0) = colAt s rn i (cols s rn i) := by
  obtain ⟨a1, a2, a3⟩ := all_at rn hi
  unfold colAt
  rw [if_neg h0, a1, a3]
  have hw := wfN_all (row := rn) i (fun j hj => hr j (by omega))
  by_cases hd : nD (nAll rn i) = 0
  · have e : topN (nAll rn i) = 0 := by unfold topN; rw [if_pos hd]
    rw [e]; rfl
  · have e : topN (nAll rn i) = nF (nAll rn i) 6 (nD (nAll rn i) - 1) + 1 := by unfold topN; rw [if_neg hd]
    rw [e, cvt_s, cvt_s]
    have hlt := hw.2.2.1 (nD (nAll rn i) - 1) (by omega)
    have hl := all_low rn (n := n) (j := i) (by omega)
    exact cvB_eq (hl 0 _ (by decide) hlt) (hl 1 _ (by decide) hlt) (hl 3 _ (by decide) hlt) (hl 4 _ (by decide) hlt) (hC _ (hw.2.2.2.1 _ hlt).1)
theorem top_le {rn : Nat → Nat} {n i : Nat} (hi : i < n) (hr : ∀ j, j < n → rn j < 1000000000) : nF (nAll rn n) 8 i ≤ nO (nAll rn n) ∧ nF (nAll rn n) 10 i < 10 := by
  obtain ⟨a1, a2, a3⟩ := all_at rn hi
  have hw := wfN_all (row := rn) i (fun j hj => hr j (by omega))
  rw [a1, a3]
  refine ⟨?_, hw.2.2.2.2⟩
  obtain ⟨d, hd⟩ : ∃ d, n = i + d := ⟨n - i, by omega⟩
  have := (all_stab rn i d).1
  rw [← hd] at this
  unfold topN
  split
  · omega
  · have := hw.2.2.1 (nD (nAll rn i) - 1) (by omega)
    omega
theorem dec_s (i : Nat) : nI i + Int32.ofInt (-1) = nI i - nI 1 := by rw [Int32.sub_eq_add_neg]; rfl
theorem sub_lt0 {i : Nat} (h : i < 2 ^ 31) : nI i - nI 1 < 0 ↔ i = 0 := by
  constructor
  · intro q
    rcases Nat.eq_zero_or_pos i with z | z
    · exact z
    · rw [pk_sub z] at q
      exact absurd q (nI_pos (by omega))
  · intro q; subst q; decide
theorem k_zast_nar {v : Nat} (h : v ≤ 1) : vp_nar .boolean (nI v) = nI v := by
  rcases (show v = 0 ∨ v = 1 by omega) with rfl | rfl <;> rfl
theorem upd_dn {f g h : Nat → Int32} {i n : Nat} {v : Int32} (e : g = upd f i v) (hv : v = h i) (hf : ∀ j, i + 1 ≤ j → j < n → f j = h j) : ∀ j, i ≤ j → j < n → g j = h j := by
  intro j h1 h2
  rw [e]
  by_cases q : j = i
  · rw [q, upd_s]; exact hv
  · rw [upd_n q]; exact hf j (by omega) h2
theorem pr_s {t n j : Nat} : pr t n (j + 1) = if tok t (n - (j + 1)) = 9 then n - j else pr t n j := rfl
