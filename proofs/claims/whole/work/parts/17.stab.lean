/-! what stays as lines come -/
theorem tok_stab (t li i : Nat) (S : NS) : nO S ≤ nO (nTok t li i S) ∧ (∀ x y, x < 5 → y < nO S → nF (nTok t li i S) x y = nF S x y) ∧ (∀ x y, 8 ≤ x → nF (nTok t li i S) x y = nF S x y) ∧ (∀ y, y ≠ li → nF (nTok t li i S) 7 y = nF S 7 y) := by
  show nO S ≤ nO (nAct t li i S) ∧ (∀ x y, x < 5 → y < nO S → nF (nAct t li i S) x y = nF S x y) ∧ (∀ x y, 8 ≤ x → nF (nAct t li i S) x y = nF S x y) ∧ (∀ y, y ≠ li → nF (nAct t li i S) 7 y = nF S 7 y)
  have hcl : ∀ q, nO S ≤ nO (nClose q li S) ∧ (∀ x y, x < 5 → y < nO S → nF (nClose q li S) x y = nF S x y) ∧ (∀ x y, 8 ≤ x → nF (nClose q li S) x y = nF S x y) ∧ (∀ y, y ≠ li → nF (nClose q li S) 7 y = nF S 7 y) := by
    intro q
    unfold nClose
    split
    · refine ⟨Nat.le_refl _, fun x y hx _ => up2_k (by omega), fun x y hx => up2_k (by omega), fun y _ => ?_⟩
      show up2 (nF S) 5 (nF S 6 (nD S - 1)) (li + 1) 7 y = nF S 7 y
      rw [up2_k (by decide)]
    · exact ⟨Nat.le_refl _, fun x y hx _ => up2_k (by omega), fun x y hx => up2_k (by omega), fun y hy => up2_i hy⟩
  unfold nAct
  split
  · refine ⟨Nat.le_succ _, fun x y hx hy => ?_, fun x y hx => ?_, fun y hy => ?_⟩
    · rw [nOpen_F]
      rw [if_neg (by omega), if_neg (by omega), if_neg (by omega), if_neg (by omega), if_neg (by omega), if_neg (by omega), if_neg (by omega)]
    · rw [nOpen_F]
      rw [if_neg (by omega), if_neg (by omega), if_neg (by omega), if_neg (by omega), if_neg (by omega), if_neg (by omega), if_neg (by omega)]
    · rw [nOpen_F]
      rw [if_neg (by omega), if_neg (by omega), if_neg (by omega), if_neg (by omega), if_neg (by omega), if_neg (by omega), if_neg (by omega)]
  · split
    · exact hcl 2
    · split
      · exact hcl 4
      · exact ⟨Nat.le_refl _, fun _ _ _ _ => rfl, fun _ _ _ => rfl, fun _ _ => rfl⟩
theorem line_stab (t li : Nat) (S : NS) : ∀ i, nO S ≤ nO (nLine t li S i) ∧ (∀ x y, x < 5 → y < nO S → nF (nLine t li S i) x y = nF S x y) ∧ (∀ x y, 8 ≤ x → nF (nLine t li S i) x y = nF S x y) ∧ (∀ y, y ≠ li → nF (nLine t li S i) 7 y = nF S 7 y)
  | 0 => ⟨Nat.le_refl _, fun _ _ _ _ => rfl, fun _ _ _ => rfl, fun _ _ => rfl⟩
  | i + 1 => by
    obtain ⟨a1, a2, a3, a4⟩ := line_stab t li S i
    obtain ⟨b1, b2, b3, b4⟩ := tok_stab t li i (nLine t li S i)
    refine ⟨Nat.le_trans a1 b1, fun x y hx hy => ?_, fun x y hx => ?_, fun y hy => ?_⟩
    · show nF (nTok t li i (nLine t li S i)) x y = _
      rw [b2 x y hx (by omega), a2 x y hx hy]
    · show nF (nTok t li i (nLine t li S i)) x y = _
      rw [b3 x y hx, a3 x y hx]
    · show nF (nTok t li i (nLine t li S i)) 7 y = _
      rw [b4 y hy, a4 y hy]
theorem start_F (li : Nat) (S : NS) (x y : Nat) : nF (nStart li S) x y = if x = 7 ∧ y = li then 0 else if x = 10 ∧ y = li then nL S else if x = 9 ∧ y = li then nD S else if x = 8 ∧ y = li then topN S else nF S x y := rfl
theorem all_step (rn : Nat → Nat) (m : Nat) : nO (nAll rn m) ≤ nO (nAll rn (m + 1)) ∧ (∀ x y, x < 5 → y < nO (nAll rn m) → nF (nAll rn (m + 1)) x y = nF (nAll rn m) x y) ∧ (∀ x y, 7 ≤ x → y < m → nF (nAll rn (m + 1)) x y = nF (nAll rn m) x y) ∧ nF (nAll rn (m + 1)) 8 m = topN (nAll rn m) ∧ nF (nAll rn (m + 1)) 9 m = nD (nAll rn m) ∧ nF (nAll rn (m + 1)) 10 m = nL (nAll rn m) := by
  obtain ⟨a1, a2, a3, a4⟩ := line_stab (rn m) m (nStart m (nAll rn m)) (pres (rn m))
  refine ⟨a1, fun x y hx hy => ?_, fun x y hx hy => ?_, ?_, ?_, ?_⟩
  · show nF (nLine (rn m) m (nStart m (nAll rn m)) (pres (rn m))) x y = _
    rw [a2 x y hx hy, start_F, if_neg (by omega), if_neg (by omega), if_neg (by omega), if_neg (by omega)]
  · show nF (nLine (rn m) m (nStart m (nAll rn m)) (pres (rn m))) x y = _
    by_cases q : x = 7
    · subst q
      rw [a4 y (by omega), start_F, if_neg (by omega), if_neg (by omega), if_neg (by omega), if_neg (by omega)]
    · rw [a3 x y (by omega), start_F, if_neg (by omega), if_neg (by omega), if_neg (by omega), if_neg (by omega)]
  · show nF (nLine (rn m) m (nStart m (nAll rn m)) (pres (rn m))) 8 m = _
    rw [a3 8 m (by omega), start_F]
    simp
  · show nF (nLine (rn m) m (nStart m (nAll rn m)) (pres (rn m))) 9 m = _
    rw [a3 9 m (by omega), start_F]
    simp
  · show nF (nLine (rn m) m (nStart m (nAll rn m)) (pres (rn m))) 10 m = _
    rw [a3 10 m (by omega), start_F]
    simp
theorem all_stab (rn : Nat → Nat) (m : Nat) : ∀ d, nO (nAll rn m) ≤ nO (nAll rn (m + d)) ∧ (∀ x y, x < 5 → y < nO (nAll rn m) → nF (nAll rn (m + d)) x y = nF (nAll rn m) x y) ∧ (∀ x y, 7 ≤ x → y < m → nF (nAll rn (m + d)) x y = nF (nAll rn m) x y)
  | 0 => ⟨Nat.le_refl _, fun _ _ _ _ => rfl, fun _ _ _ _ => rfl⟩
  | d + 1 => by
    obtain ⟨a1, a2, a3⟩ := all_stab rn m d
    obtain ⟨b1, b2, b3, -⟩ := all_step rn (m + d)
    refine ⟨Nat.le_trans a1 b1, fun x y hx hy => ?_, fun x y hx hy => ?_⟩
    · rw [show m + (d + 1) = m + d + 1 by omega, b2 x y hx (by omega), a2 x y hx hy]
    · rw [show m + (d + 1) = m + d + 1 by omega, b3 x y hx (by omega), a3 x y hx hy]
theorem all_at (rn : Nat → Nat) {n j : Nat} (h : j < n) : nF (nAll rn n) 8 j = topN (nAll rn j) ∧ nF (nAll rn n) 9 j = nD (nAll rn j) ∧ nF (nAll rn n) 10 j = nL (nAll rn j) := by
  obtain ⟨d, rfl⟩ : ∃ d, n = j + 1 + d := ⟨n - (j + 1), by omega⟩
  obtain ⟨-, -, a3⟩ := all_stab rn (j + 1) d
  obtain ⟨-, -, -, b1, b2, b3⟩ := all_step rn j
  rw [a3 8 j (by omega) (by omega), a3 9 j (by omega) (by omega), a3 10 j (by omega) (by omega)]
  exact ⟨b1, b2, b3⟩
theorem all_low (rn : Nat → Nat) {n j : Nat} (h : j ≤ n) : ∀ x y, x < 5 → y < nO (nAll rn j) → nF (nAll rn n) x y = nF (nAll rn j) x y := by
  obtain ⟨d, rfl⟩ : ∃ d, n = j + d := ⟨n - j, by omega⟩
  exact (all_stab rn j d).2.1
theorem depth_le (rn : Nat → Nat) {n j : Nat} (h : j < n) (hr : ∀ i, i < n → rn i < 1000000000) : nF (nAll rn n) 9 j ≤ 9 * j := by
  rw [(all_at rn h).2.1]
  have := wfN_all (row := rn) j (fun i hi => hr i (by omega))
  exact Nat.le_trans this.1 this.2.1
/-! shifts and masks of small numbers -/
theorem s_l : ∀ n, n < 32 → ((nI n &&& 31).toBitVec.smod 32).toNat = n := by decide +kernel
theorem n_shr {a j : Nat} (ha : a < 2 ^ 31) (hj : j < 32) : nI a >>> (nI j &&& 31) = nI (a / 2 ^ j) := pk_shrN ha _ _ (s_l j hj)
theorem n_shl {a j : Nat} (hj : j < 32) (h : a * 2 ^ j < 2 ^ 32) : nI a <<< (nI j &&& 31) = nI (a * 2 ^ j) := pk_shlN _ _ (s_l j hj) h
theorem n_or {a k : Nat} (b : Nat) (h : a < 2 ^ k) : nI (b * 2 ^ k) ||| nI a = nI (b * 2 ^ k + a) := by
  apply Int32.toBitVec_inj.mp
  have e : ∀ n : Nat, (nI n).toBitVec = BitVec.ofNat 32 n := fun _ => rfl
  rw [Int32.toBitVec_or, e, e, e]
  rw [Nat.mul_comm, Nat.two_pow_add_eq_or_of_lt h]
  apply BitVec.eq_of_toNat_eq
  simp [BitVec.toNat_or, Nat.or_mod_two_pow]
theorem log_of {q h : Nat} (h1 : 2 ^ h ≤ q) (h2 : q < 2 ^ (h + 1)) : Nat.log2 q = h := by
  have hq : q ≠ 0 := by have := Nat.pow_pos (n := h) (show 0 < 2 by decide); omega
  have a := (Nat.le_log2 hq).mpr h1
  have b := (Nat.log2_lt hq).mpr h2
  omega
theorem div_z {q k : Nat} : q / 2 ^ k = 0 ↔ q < 2 ^ k := by
  have := Nat.pow_pos (n := k) (show 0 < 2 by decide)
  constructor
  · intro h
    rcases Nat.lt_or_ge q (2 ^ k) with z | z
    · exact z
    · have := Nat.div_pos z this
      omega
  · intro h; exact Nat.div_eq_of_lt h
theorem log_le {q h : Nat} (hh : h ≤ 16) (h1 : 2 ^ h ≤ q) (h2 : q < 2 ^ (h + 1)) : q * 2 ^ (23 - h) < 2 ^ 24 ∧ 2 ^ 23 ≤ q * 2 ^ (23 - h) := by
  have e1 : 2 ^ (h + 1) * 2 ^ (23 - h) = 2 ^ 24 := by rw [← Nat.pow_add]; congr 1; omega
  have e2 : 2 ^ h * 2 ^ (23 - h) = 2 ^ 23 := by rw [← Nat.pow_add]; congr 1; omega
  have hp := Nat.pow_pos (n := 23 - h) (show 0 < 2 by decide)
  constructor
  · rw [← e1]; exact Nat.mul_lt_mul_of_pos_right h2 hp
  · rw [← e2]; exact Nat.mul_le_mul_right _ h1
