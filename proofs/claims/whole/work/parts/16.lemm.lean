/-! the refusals and the answers, one by one -/
theorem fPut_1 {A : ABS} {x y : Int32} (h : ¬ ixP x (aN A + 1)) : fPut A x y = (-1, A) := by unfold fPut; rw [if_neg h]
theorem fPut_2 {A : ABS} {x y : Int32} (h : ixP x (aN A + 1)) (h2 : ¬ okT y) : fPut A x y = (-2, A) := by unfold fPut; rw [if_pos h, if_neg (fun q => h2 (okB_iff.mp q))]
theorem fPut_4 {A : ABS} {x y : Int32} (h : ixP x (aN A + 1)) (h2 : okT y) (h3 : aN A = 20) : fPut A x y = (-4, A) := by unfold fPut; rw [if_pos h, if_pos (okB_iff.mpr h2), if_pos h3]
theorem fPut_ok {A : ABS} {j t : Nat} (hj : j ≤ aN A) (hn : aN A < 20) (ht : t < 1000000000) (hz : nzb t = true) : fPut A (nI j) (nI t) = (nI (mvc (nI j) (cols (aG A) (insF (aR A) j t) (aN A + 1)) (insF (aCol A) j (nI 0)) (aN A + 1)), aLines A (aN A + 1) (insF (aR A) j t) (insF (aS A) j (-9))) := by
  unfold fPut
  rw [if_pos (ixP_n (by omega) (by omega)), if_pos (okB_iff.mpr ⟨t, ht, hz, rfl⟩), if_neg (by omega), ix_n (by omega), ix_n (by omega)]
theorem fChange_1 {A : ABS} {x y : Int32} (h : ¬ ixP x (aN A)) : fChange A x y = (-1, A) := by unfold fChange; rw [if_neg h]
theorem fChange_2 {A : ABS} {x y : Int32} (h : ixP x (aN A)) (h2 : ¬ okT y) : fChange A x y = (-2, A) := by unfold fChange; rw [if_pos h, if_neg (fun q => h2 (okB_iff.mp q))]
theorem fChange_ok {A : ABS} {j t : Nat} (hj : j < aN A) (hn : aN A ≤ 20) (ht : t < 1000000000) (hz : nzb t = true) : fChange A (nI j) (nI t) = (nI (mvc (nI j) (cols (aG A) (updF (aR A) j t) (aN A)) (aCol A) (aN A)), aLines A (aN A) (updF (aR A) j t) (aS A)) := by
  unfold fChange
  rw [if_pos (ixP_n hj (by omega)), if_pos (okB_iff.mpr ⟨t, ht, hz, rfl⟩), ix_n (by omega), ix_n (by omega)]
theorem fTake_1 {A : ABS} {x : Int32} (h : ¬ ixP x (aN A)) : fTake A x = (-1, A) := by unfold fTake; rw [if_neg h]
theorem fTake_ok {A : ABS} {j : Nat} (hj : j < aN A) (hn : aN A ≤ 20) : fTake A (nI j) = (nI (mvc (-9) (cols (aG A) (delF (aR A) j) (aN A - 1)) (delF (aCol A) j) (aN A - 1)), aLines A (aN A - 1) (delF (aR A) j) (delF (aS A) j)) := by
  unfold fTake
  rw [if_pos (ixP_n hj (by omega)), ix_n (by omega)]
theorem fStyle_1 {A : ABS} {x y : Int32} (h : ¬ ixP x 4) : fStyle A x y = (-1, A) := by unfold fStyle; rw [if_neg h]
theorem fStyle_2 {A : ABS} {j : Nat} {y : Int32} (h : j < 4) (h2 : ¬ okS j y) : fStyle A (nI j) y = (-2, A) := by
  unfold okS at h2
  unfold fStyle
  rw [if_pos (ixP_n h (by decide)), ix_n (by omega), if_neg h2]
theorem fStyle_ok {A : ABS} {j : Nat} {y : Int32} (h : j < 4) (h2 : okS j y) : fStyle A (nI j) y = (aG A j, aStyle A (updF (aG A) j y)) := by
  unfold okS at h2
  unfold fStyle
  rw [if_pos (ixP_n h (by decide)), ix_n (by omega), if_pos h2]
theorem fSee_1 {A : ABS} {x y : Int32} (h : ¬ ixP x (aN A)) : fSee A x y = (-1, A) := by unfold fSee; rw [if_neg h]
theorem fSee_2 {A : ABS} {x y : Int32} (h : ixP x (aN A)) (h2 : ¬ (y = -9 ∨ ixP y 201)) : fSee A x y = (-2, A) := by unfold fSee; rw [if_pos h, if_neg h2]
theorem fSee_ok {A : ABS} {j : Nat} {y : Int32} (h : j < aN A) (hn : aN A ≤ 20) (h2 : y = -9 ∨ ixP y 201) : fSee A (nI j) y = (aS A j, aLines A (aN A) (aR A) (updF (aS A) j y)) := by
  unfold fSee
  rw [if_pos (ixP_n h (by omega)), ix_n (by omega), if_pos h2]
/-! rows moved by one -/
def shF {α : Type} (f : Nat → α) (i n : Nat) : Nat → α := fun k => if i < k ∧ k ≤ n then f (k - 1) else f k
theorem shF_n {α : Type} (f : Nat → α) (n : Nat) : shF f n n = f := by
  funext k; unfold shF; rw [if_neg (by omega)]
theorem shF_step (f : Nat → Int32) {i n : Nat} (hi : i < n) : upd (shF f (i + 1) n) (i + 1) (shF f (i + 1) n (i + 1 - 1)) = shF f i n := by
  funext k
  unfold upd shF
  by_cases q : k = i + 1
  · subst q
    simp only [if_true]
    rw [if_neg (by omega), if_pos (by omega)]
  · simp only [q, if_false]
    by_cases q2 : i + 1 < k ∧ k ≤ n
    · rw [if_pos q2, if_pos (by omega)]
    · rw [if_neg q2, if_neg (by omega)]
theorem shF_ins (f : Nat → Int32) {j n k : Nat} (v : Int32) (hk : k ≤ n) : upd (shF f j n) j v k = insF f j v k := by
  unfold upd shF insF
  by_cases q : k = j
  · subst q
    rw [if_pos rfl, if_neg (by omega), if_pos rfl]
  · rw [if_neg q]
    by_cases q2 : k < j
    · rw [if_neg (by omega), if_pos q2]
    · rw [if_pos (by omega), if_neg q2, if_neg q]
theorem shF_ne {α : Type} (f : Nat → α) {j n k : Nat} (v : α) (hk : k ≤ n) (hkj : k ≠ j) : shF f j n k = insF f j v k := by
  unfold shF insF
  by_cases q2 : k < j
  · rw [if_neg (by omega), if_pos q2]
  · rw [if_pos (by omega), if_neg q2, if_neg hkj]
def slF {α : Type} (f : Nat → α) (j i : Nat) : Nat → α := fun k => if j ≤ k ∧ k < i then f (k + 1) else f k
theorem slF_0 {α : Type} (f : Nat → α) (j : Nat) : slF f j j = f := by
  funext k; unfold slF; rw [if_neg (by omega)]
theorem slF_step (f : Nat → Int32) {j i : Nat} (hi : j ≤ i) : upd (slF f j i) i (slF f j i (i + 1)) = slF f j (i + 1) := by
  funext k
  unfold upd slF
  by_cases q : k = i
  · subst q
    simp only [if_true]
    rw [if_neg (by omega), if_pos (by omega)]
  · simp only [q, if_false]
    by_cases q2 : j ≤ k ∧ k < i
    · rw [if_pos q2, if_pos (by omega)]
    · rw [if_neg q2, if_neg (by omega)]
theorem slF_del {α : Type} (f : Nat → α) {j n k : Nat} (hk : k < n) : slF f j n k = delF f j k := by
  unfold slF delF
  by_cases q2 : k < j
  · rw [if_neg (by omega), if_pos q2]
  · rw [if_pos (by omega), if_neg q2]
theorem mvc_congr {x : Int32} {C C2 W W2 : Nat → Int32} : ∀ {n : Nat}, (∀ k, k < n → ¬ nI k = x → C k = C2 k ∧ W k = W2 k) → mvc x C W n = mvc x C2 W2 n
  | 0, _ => rfl
  | n + 1, h => by
    show mvc x C W n + _ = mvc x C2 W2 n + _
    rw [mvc_congr (fun k hk => h k (by omega))]
    congr 1
    by_cases q : nI n = x
    · rw [if_neg (fun z => z.1 q), if_neg (fun z => z.1 q)]
    · rw [(h n (by omega) q).1, (h n (by omega) q).2]
theorem insF_all {P : Nat → Prop} {f : Nat → Nat} {j n : Nat} {v : Nat} (h : ∀ k, k < n → P (f k)) (hv : P v) (hj : j ≤ n) : ∀ k, k < n + 1 → P (insF f j v k) := by
  intro k hk
  unfold insF
  by_cases q : k < j
  · rw [if_pos q]; exact h k (by omega)
  · rw [if_neg q]
    by_cases q2 : k = j
    · rw [if_pos q2]; exact hv
    · rw [if_neg q2]; exact h _ (by omega)
theorem delF_all {P : Nat → Prop} {f : Nat → Nat} {j n : Nat} (h : ∀ k, k < n → P (f k)) : ∀ k, k < n - 1 → P (delF f j k) := by
  intro k hk
  unfold delF
  by_cases q : k < j
  · rw [if_pos q]; exact h k (by omega)
  · rw [if_neg q]; exact h _ (by omega)
theorem updF_all {P : Nat → Prop} {f : Nat → Nat} {j n : Nat} {v : Nat} (h : ∀ k, k < n → P (f k)) (hv : P v) : ∀ k, k < n → P (updF f j v k) := by
  intro k hk
  unfold updF
  by_cases q : k = j
  · rw [if_pos q]; exact hv
  · rw [if_neg q]; exact h k hk
theorem okA_lines {A : ABS} (h : okA A) {n : Nat} {r : Nat → Nat} {s : Nat → Int32} (hn : n ≤ 20) (hr : ∀ j, j < n → r j < 1000000000 ∧ nzb (r j) = true) : okA (aLines A n r s) := ⟨hn, hr, h.2.2⟩
theorem okA_style {A : ABS} (h : okA A) {g : Nat → Int32} : okA (aStyle A g) := h
theorem upd_updF (f : Nat → Int32) (j : Nat) (v : Int32) : upd f j v = updF f j v := rfl
theorem eq_ins {f g : Nat → Int32} {n j : Nat} {v : Int32} (h : ∀ k, k < n → f k = g k) (hj : j ≤ n) : ∀ k, k < n + 1 → upd (shF f j n) j v k = insF g j v k := by
  intro k hk
  rw [shF_ins _ _ (by omega)]
  unfold insF
  by_cases q : k < j
  · rw [if_pos q, if_pos q]; exact h k (by omega)
  · rw [if_neg q, if_neg q]
    by_cases q2 : k = j
    · rw [if_pos q2, if_pos q2]
    · rw [if_neg q2, if_neg q2]; exact h _ (by omega)
theorem eq_shN {f g : Nat → Int32} {n j : Nat} {v : Int32} (h : ∀ k, k < n → f k = g k) (hj : j ≤ n) : ∀ k, k < n + 1 → k ≠ j → shF f j n k = insF g j v k := by
  intro k hk hkj
  rw [shF_ne f v (by omega) hkj]
  unfold insF
  by_cases q : k < j
  · rw [if_pos q, if_pos q]
    by_cases q3 : k < n
    · exact h k q3
    · exfalso; omega
  · rw [if_neg q, if_neg q, if_neg hkj, if_neg hkj]; exact h _ (by omega)
theorem eq_del {f g : Nat → Int32} {n j : Nat} (h : ∀ k, k < n → f k = g k) : ∀ k, k < n - 1 → slF f j (n - 1) k = delF g j k := by
  intro k hk
  rw [slF_del f hk]
  unfold delF
  by_cases q : k < j
  · rw [if_pos q, if_pos q]; exact h k (by omega)
  · rw [if_neg q, if_neg q]; exact h _ (by omega)
theorem eq_upd {f g : Nat → Int32} {n j : Nat} {v : Int32} (h : ∀ k, k < n → f k = g k) : ∀ k, k < n → upd f j v k = updF g j v k := by
  intro k hk
  unfold updF upd
  by_cases q : k = j
  · rw [if_pos q, if_pos q]
  · rw [if_neg q, if_neg q]; exact h k hk
theorem nI_ins (f : Nat → Nat) (j v k : Nat) : insF (fun i => nI (f i)) j (nI v) k = nI (insF f j v k) := by
  unfold insF
  split
  · rfl
  · split <;> rfl
theorem nI_del (f : Nat → Nat) (j k : Nat) : delF (fun i => nI (f i)) j k = nI (delF f j k) := by
  unfold delF
  split <;> rfl
theorem nI_updF (f : Nat → Nat) (j v k : Nat) : updF (fun i => nI (f i)) j (nI v) k = nI (updF f j v k) := by
  unfold updF
  split <;> rfl
theorem rowsOk_ins {ln : Nat} {row : Nat → Int32} {rn : Nat → Nat} {j t : Nat} (h : rowsOk ln row rn) (hj : j ≤ ln) (ht : t < 1000000000) (hz : nzb t = true) : rowsOk (ln + 1) (upd (shF row j ln) j (nI t)) (insF rn j t) := by
  intro k hk
  refine ⟨?_, insF_all (P := fun z => z < 1000000000 ∧ nzb z = true) (fun k hk => (h k hk).2) ⟨ht, hz⟩ hj k hk⟩
  rw [eq_ins (g := fun i => nI (rn i)) (fun k hk => (h k hk).1) hj k hk, nI_ins]
theorem rowsOk_del {ln : Nat} {row : Nat → Int32} {rn : Nat → Nat} {j : Nat} (h : rowsOk ln row rn) : rowsOk (ln - 1) (slF row j (ln - 1)) (delF rn j) := by
  intro k hk
  refine ⟨?_, delF_all (P := fun z => z < 1000000000 ∧ nzb z = true) (fun k hk => (h k hk).2) k hk⟩
  rw [eq_del (g := fun i => nI (rn i)) (fun k hk => (h k hk).1) k hk, nI_del]
theorem rowsOk_upd {ln : Nat} {row : Nat → Int32} {rn : Nat → Nat} {j t : Nat} (h : rowsOk ln row rn) (ht : t < 1000000000) (hz : nzb t = true) : rowsOk ln (upd row j (nI t)) (updF rn j t) := by
  intro k hk
  refine ⟨?_, updF_all (P := fun z => z < 1000000000 ∧ nzb z = true) (fun k hk => (h k hk).2) ⟨ht, hz⟩ k hk⟩
  rw [eq_upd (g := fun i => nI (rn i)) (fun k hk => (h k hk).1) k hk, nI_updF]
