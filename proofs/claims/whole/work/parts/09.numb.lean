/-! numbers in ranges -/
theorem w_ix {x : Int32} {n : Nat} (hn : n < 2 ^ 31) : (nI 0 ≤ x ∧ x ≤ nI n - nI 1) ↔ ∃ j : Nat, j < n ∧ x = nI j := by
  constructor
  · rintro ⟨h1, h2⟩
    rw [nI_0] at h1
    obtain ⟨j, hj, rfl⟩ := nI_of (x := x) (fun q => by
      have a := Int32.le_iff_toInt_le.mp h1
      have b := Int32.lt_iff_toInt_lt.mp q
      omega)
    refine ⟨j, ?_, rfl⟩
    rcases Nat.eq_zero_or_pos n with q | q
    · subst q
      exfalso
      have a := Int32.le_iff_toInt_le.mp h2
      rw [nI_toInt hj] at a
      have : (nI 0 - nI 1).toInt = -1 := by decide
      omega
    · rw [pk_sub (show 1 ≤ n by omega)] at h2
      have := (nI_leI hj (by omega)).mp h2
      omega
  · rintro ⟨j, hj, rfl⟩
    refine ⟨nI_le (Nat.zero_le _) (by omega), ?_⟩
    rw [pk_sub (show 1 ≤ n by omega)]
    exact nI_le (by omega) (by omega)
theorem w_rg {x : Int32} {a b : Nat} (ha : a < 2 ^ 31) (hb : b < 2 ^ 31) : (nI a ≤ x ∧ x ≤ nI b) ↔ ∃ j : Nat, a ≤ j ∧ j ≤ b ∧ x = nI j := by
  constructor
  · rintro ⟨h1, h2⟩
    obtain ⟨j, hj, rfl⟩ := nI_of (x := x) (fun q => by
      have a1 := Int32.le_iff_toInt_le.mp h1
      have b1 := Int32.lt_iff_toInt_lt.mp q
      rw [nI_toInt ha] at a1
      have : (0 : Int32).toInt = 0 := by decide
      omega)
    exact ⟨j, (nI_leI ha hj).mp h1, (nI_leI hj hb).mp h2, rfl⟩
  · rintro ⟨j, h1, h2, rfl⟩
    exact ⟨nI_le h1 (by omega), nI_le h2 hb⟩
theorem w_ix2 {x : Int32} {n : Nat} (hn : n < 2 ^ 31) : (¬ x < 0 ∧ ¬ nI n ≤ x) ↔ ∃ j : Nat, j < n ∧ x = nI j := by
  constructor
  · rintro ⟨h1, h2⟩
    rcases pk_ix x hn with q | q | q
    · exact absurd q h1
    · exact absurd q h2
    · exact q
  · rintro ⟨j, hj, rfl⟩
    exact ⟨nI_pos (by omega), fun q => by have := (nI_leI hn (by omega)).mp q; omega⟩
theorem i_lt {a b : Int32} : a < b ↔ a.toInt < b.toInt := Int32.lt_iff_toInt_lt
theorem i_le {a b : Int32} : a ≤ b ↔ a.toInt ≤ b.toInt := Int32.le_iff_toInt_le
