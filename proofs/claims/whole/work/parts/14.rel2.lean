theorem nTok_2 {t li i : Nat} {S : NS} (h : tok t i = 2 ∨ tok t i = 4) : nTok t li i S = (nO S + 1, nD S + 1, tok t i, nF (nOpen t li i S)) := by
  rw [nTok_eq _ _ _ _ (by omega)]
  unfold nAct
  rw [if_pos h]
  rfl
theorem nClose_O (q li : Nat) (S : NS) : nO (nClose q li S) = nO S := by unfold nClose; split <;> rfl
theorem nTok_3 {t li i : Nat} {S : NS} (h : tok t i = 3) : nTok t li i S = (nO S, nD (nClose 2 li S), tok t i, nF (nClose 2 li S)) := by
  rw [nTok_eq _ _ _ _ (by omega)]
  unfold nAct
  rw [if_neg (by omega), if_pos h, nClose_O]
theorem nTok_5 {t li i : Nat} {S : NS} (h : tok t i = 5) : nTok t li i S = (nO S, nD (nClose 4 li S), tok t i, nF (nClose 4 li S)) := by
  rw [nTok_eq _ _ _ _ (by omega)]
  unfold nAct
  rw [if_neg (by omega), if_neg (by omega), if_pos h, nClose_O]
theorem nTok_o {t li i : Nat} {S : NS} (h2 : ¬ tok t i = 2) (h3 : ¬ tok t i = 3) (h4 : ¬ tok t i = 4) (h5 : ¬ tok t i = 5) (h9 : ¬ tok t i = 9) : nTok t li i S = (nO S, nD S, tok t i, nF S) := by
  rw [nTok_eq _ _ _ _ h9]
  unfold nAct
  rw [if_neg (by omega), if_neg h3, if_neg h5]
theorem pres_gt {t k : Nat} (h : ∀ i, i < k → tok t i ≠ 9) (hk : k < len t) : k < pres t := by
  rcases Nat.lt_or_ge k (pres t) with q | q
  · exact q
  · have h1 := (pres_ok t).2.2 (by omega)
    exact absurd h1.2 (h _ (by omega))
theorem pres_all {t k : Nat} (h : ∀ i, i < k → tok t i ≠ 9) (hk : k = len t) : k = pres t :=
  isP_one (t := t) ⟨by omega, fun i hi => h i (by omega), fun q => absurd q (by omega)⟩ (pres_ok t)
theorem pres_note {t k : Nat} (h0 : 0 < k) (h9 : tok t (k - 1) = 9) (h : ∀ i, i + 1 < k → tok t i ≠ 9) (hk : k ≤ len t) : k = pres t :=
  isP_one (t := t) ⟨hk, h, fun _ => ⟨h0, h9⟩⟩ (pres_ok t)
def st4 (x0 x1 x2 x3 : Int32) : Nat → Int32 := fun k => if k = 0 then x0 else if k = 1 then x1 else if k = 2 then x2 else x3
theorem cvB_congr {s s' : Nat → Int32} (h : ∀ k, k < 4 → s k = s' k) (F : Nat → Nat → Nat) (C : Nat → Int32) (k la first : Nat) : cvB s F C k la first = cvB s' F C k la first := by
  unfold cvB gO
  rw [h 0 (by decide), h 1 (by decide), h 2 (by decide), h 3 (by decide)]
theorem cvt_congr {s s' : Nat → Int32} (h : ∀ k, k < 4 → s k = s' k) (F : Nat → Nat → Nat) (C : Nat → Int32) (top la first : Nat) : cvt s F C top la first = cvt s' F C top la first := by
  unfold cvt
  rw [cvB_congr h]
  unfold gO
  rw [h 0 (by decide), h 1 (by decide)]
theorem cols_congr {s s' : Nat → Int32} (h : ∀ k, k < 4 → s k = s' k) (rn : Nat → Nat) : ∀ m, cols s rn m = cols s' rn m
  | 0 => rfl
  | m + 1 => by
    show upd (cols s rn m) m (colAt s rn m (cols s rn m)) = upd (cols s' rn m) m (colAt s' rn m (cols s' rn m))
    unfold colAt
    rw [cols_congr h rn m, cvt_congr h]
/-- how many columns are not what they were, but one line's -/
def mvc (x : Int32) (C W : Nat → Int32) : Nat → Nat
  | 0 => 0
  | j + 1 => mvc x C W j + (if ¬ nI j = x ∧ ¬ C j = W j then 1 else 0)
theorem mvc_le (x : Int32) (C W : Nat → Int32) : ∀ n, mvc x C W n ≤ n
  | 0 => Nat.le_refl _
  | n + 1 => by
    have := mvc_le x C W n
    show mvc x C W n + _ ≤ n + 1
    split <;> omega
def rowsOk (ln : Nat) (row : Nat → Int32) (rn : Nat → Nat) : Prop := ∀ j, j < ln → row j = nI (rn j) ∧ rn j < 1000000000 ∧ nzb (rn j) = true
theorem rowsOk.wf {ln : Nat} {row : Nat → Int32} {rn : Nat → Nat} (h : rowsOk ln row rn) {j : Nat} (hj : j ≤ ln) : wfN (nAll rn j) j (9 * j) := wfN_all j (fun i hi => (h i (by omega)).2.1)
theorem i_assoc (x : Int32) (a b : Nat) : x + nI a + nI b = x + nI (a + b) := by rw [Int32.add_assoc, nI_add]
theorem sum_le9 : ∀ t k, wsum t k ≤ 4 * k
  | t, 0 => Nat.le_refl _
  | t, k + 1 => by
    have := sum_le9 t k
    show wsum t k + wdN (tok t k) ≤ _
    have : wdN (tok t k) ≤ 4 := by unfold wdN; split; · omega
                                   split; · omega
                                   split; · omega
                                   split <;> omega
    omega
theorem upd_all {f g h : Nat → Int32} {i : Nat} {v : Int32} (e : g = upd f i v) (hv : v = h i) (hf : ∀ j, j < i → f j = h j) : ∀ j, j < i + 1 → g j = h j := by
  intro j hj
  rw [e]
  by_cases q : j = i
  · rw [q, upd_s]; exact hv
  · rw [upd_n q]; exact hf j (by omega)
