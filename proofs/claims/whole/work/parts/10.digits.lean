/-! digits of a told number -/
def len (t : Nat) : Nat := if t = 0 then 0 else len (t / 10) + 1
termination_by t
decreasing_by omega
theorem len_0 : len 0 = 0 := by rw [len]; rfl
theorem len_s {t : Nat} (h : 0 < t) : len t = len (t / 10) + 1 := by rw [len, if_neg (by omega)]
theorem len_pos {t : Nat} (h : 0 < t) : 0 < len t := by rw [len_s h]; omega
theorem len_z {t : Nat} : len t = 0 ↔ t = 0 := by
  constructor
  · intro h
    rcases Nat.eq_zero_or_pos t with q | q
    · exact q
    · have := len_pos q; omega
  · intro h; rw [h, len_0]
theorem len_lt : ∀ (n t : Nat), t < 10 ^ n ↔ len t ≤ n
  | 0, t => by
    rw [Nat.pow_zero]
    constructor
    · intro h; rw [show t = 0 by omega, len_0]; omega
    · intro h; have := len_z.mp (show len t = 0 by omega); omega
  | n + 1, t => by
    rcases Nat.eq_zero_or_pos t with q | q
    · subst q
      rw [len_0]
      exact ⟨fun _ => Nat.zero_le _, fun _ => Nat.pow_pos (by omega)⟩
    · rw [len_s q]
      have ih := len_lt n (t / 10)
      rw [Nat.pow_succ]
      constructor
      · intro h
        have := ih.mp (by omega)
        omega
      · intro h
        have := ih.mpr (by omega)
        omega
theorem len_ge {t : Nat} (h : 0 < t) : 10 ^ (len t - 1) ≤ t := by
  rcases Nat.lt_or_ge t (10 ^ (len t - 1)) with q | q
  · have h1 := (len_lt _ _).mp q
    have h2 := len_pos h
    omega
  · exact q
/-- no digit is 0 -/
def nzb (t : Nat) : Bool := if t = 0 then true else (t % 10 != 0) && nzb (t / 10)
termination_by t
decreasing_by omega
theorem nzb_0 : nzb 0 = true := by rw [nzb]; rfl
theorem nzb_s {t : Nat} (h : 0 < t) : nzb t = ((t % 10 != 0) && nzb (t / 10)) := by rw [nzb, if_neg (by omega)]
theorem nzb_div {t : Nat} (h : nzb t = true) : ∀ k : Nat, nzb (t / 10 ^ k) = true
  | 0 => by simpa using h
  | k + 1 => by
    have ih := nzb_div h k
    rw [Nat.pow_succ, ← Nat.div_div_eq_div_mul]
    rcases Nat.eq_zero_or_pos (t / 10 ^ k) with q | q
    · rw [q]; exact nzb_0
    · rw [nzb_s q] at ih
      simp only [Bool.and_eq_true] at ih
      exact ih.2
/-- the token at a place -/
def tok (t k : Nat) : Nat := t / 10 ^ (len t - 1 - k) % 10
theorem tok_lt (t k : Nat) : tok t k < 10 := Nat.mod_lt _ (by omega)
theorem tok_pos {t k : Nat} (h : nzb t = true) (hk : k < len t) : 0 < tok t k := by
  have h0 : 0 < t := by
    rcases Nat.eq_zero_or_pos t with q | q
    · rw [q, len_0] at hk; omega
    · exact q
  have h1 := nzb_div h (len t - 1 - k)
  have h2 : 0 < t / 10 ^ (len t - 1 - k) := by
    apply Nat.div_pos _ (Nat.pow_pos (by omega))
    exact Nat.le_trans (Nat.pow_le_pow_right (by omega) (by omega)) (len_ge h0)
  rw [nzb_s h2] at h1
  simp only [Bool.and_eq_true, bne_iff_ne, ne_eq] at h1
  show 0 < t / 10 ^ (len t - 1 - k) % 10
  omega
/-- what is told as tokens -/
def okT (x : Int32) : Prop := ∃ t : Nat, t < 1000000000 ∧ nzb t = true ∧ x = nI t
def wd1 (k : Nat) : Nat := if k = 1 then 3 else if k = 7 then 2 else if k = 9 then 4 else 1
theorem wd1_eq {k : Nat} (h : 0 < k) : wd1 k = wdN k := by unfold wd1 wdN; rw [if_neg (by omega : ¬ k = 0)]
/-- the width of the first i tokens -/
def wsum (t : Nat) : Nat → Nat
  | 0 => 0
  | i + 1 => wsum t i + wdN (tok t i)
/-- a setting's range, a style's, a pocket's kind -/
def okS (k : Nat) (x : Int32) : Prop := if k < 2 then (nI 1 ≤ x ∧ x ≤ nI 8) else (nI 0 ≤ x ∧ x ≤ nI 1)
def okSt (x0 x1 x2 x3 : Int32) : Prop := okS 0 x0 ∧ okS 1 x1 ∧ okS 2 x2 ∧ okS 3 x3
def tkO (x y : Int32) : Prop := y = 0 ∨ x = y ∨ (y = nI 2 ∧ x = nI 3)
