/-! what lies on what: the tokens gone through, as numbers -/
def pr (t n : Nat) : Nat → Nat
  | 0 => n
  | j + 1 => if tok t (n - (j + 1)) = 9 then n - j else pr t n j
/-- how many tokens are there: up to a note and with it -/
def pres (t : Nat) : Nat := pr t (len t) (len t)
def isP (t p : Nat) : Prop := p ≤ len t ∧ (∀ i, i + 1 < p → tok t i ≠ 9) ∧ (p < len t → 0 < p ∧ tok t (p - 1) = 9)
theorem pr_ok (t n : Nat) : ∀ j, j ≤ n → n - j ≤ pr t n j ∧ pr t n j ≤ n ∧ (∀ i, n - j ≤ i → i + 1 < pr t n j → tok t i ≠ 9) ∧ (pr t n j < n → n - j < pr t n j ∧ tok t (pr t n j - 1) = 9)
  | 0, _ => by
    show n - 0 ≤ n ∧ n ≤ n ∧ _ ∧ _
    exact ⟨by omega, by omega, fun i h1 h2 => absurd h2 (by show ¬ i + 1 < n; omega), fun h => absurd h (by show ¬ n < n; omega)⟩
  | j + 1, hj => by
    have ih := pr_ok t n j (by omega)
    unfold pr
    by_cases h : tok t (n - (j + 1)) = 9
    · rw [if_pos h]
      refine ⟨by omega, by omega, fun i h1 h2 => by omega, fun _ => ⟨by omega, ?_⟩⟩
      rw [show n - j - 1 = n - (j + 1) by omega]
      exact h
    · rw [if_neg h]
      refine ⟨by omega, ih.2.1, fun i h1 h2 => ?_, fun q => ⟨by have := (ih.2.2.2 q).1; omega, (ih.2.2.2 q).2⟩⟩
      by_cases hi : i = n - (j + 1)
      · rw [hi]; exact h
      · exact ih.2.2.1 i (by omega) h2
theorem pres_ok (t : Nat) : isP t (pres t) := by
  have h := pr_ok t (len t) (len t) (Nat.le_refl _)
  refine ⟨h.2.1, fun i hi => h.2.2.1 i (by omega) hi, fun q => ?_⟩
  have := h.2.2.2 q
  rw [Nat.sub_self] at this
  exact this
theorem isP_one {t p q : Nat} (hp : isP t p) (hq : isP t q) : p = q := by
  rcases Nat.lt_trichotomy p q with h | h | h
  · have h1 := hp.2.2 (Nat.lt_of_lt_of_le h hq.1)
    exact absurd h1.2 (hq.2.1 (p - 1) (by omega))
  · exact h
  · have h1 := hq.2.2 (Nat.lt_of_lt_of_le h hp.1)
    exact absurd h1.2 (hp.2.1 (q - 1) (by omega))
theorem pres_le (t : Nat) : pres t ≤ len t := (pres_ok t).1
theorem pres_pos {t : Nat} (h : 0 < len t) : 0 < pres t := by
  rcases Nat.eq_zero_or_pos (pres t) with q | q
  · have := ((pres_ok t).2.2 (by omega)).1
    omega
  · exact q
abbrev NS : Type := Nat × Nat × Nat × (Nat → Nat → Nat)
abbrev nO (S : NS) : Nat := S.1
abbrev nD (S : NS) : Nat := S.2.1
abbrev nL (S : NS) : Nat := S.2.2.1
abbrev nF (S : NS) : Nat → Nat → Nat := S.2.2.2
/-- rows: 0 sort, 1 line, 2 token, 3 width ahead, 4 followed, 5 partner's line and 1, 6 what is on the stack, 7 stray, 8 top and 1, 9 depth, 10 last -/
def up2 (F : Nat → Nat → Nat) (k i v : Nat) : Nat → Nat → Nat := fun x y => if x = k ∧ y = i then v else F x y
theorem up2_k {F : Nat → Nat → Nat} {k i v x y : Nat} (h : x ≠ k) : up2 F k i v x y = F x y := by
  unfold up2; rw [if_neg (fun q => h q.1)]
theorem up2_i {F : Nat → Nat → Nat} {k i v x y : Nat} (h : y ≠ i) : up2 F k i v x y = F x y := by
  unfold up2; rw [if_neg (fun q => h q.2)]
theorem up2_s {F : Nat → Nat → Nat} {k i v : Nat} : up2 F k i v k i = v := by
  unfold up2; rw [if_pos ⟨rfl, rfl⟩]
def folw (t i : Nat) : Nat := if i + 1 < pres t ∧ tok t (i + 1) ≠ 9 then 1 else 0
def nOpen (t li i : Nat) (S : NS) : NS :=
  (nO S + 1, nD S + 1, nL S, up2 (up2 (up2 (up2 (up2 (up2 (up2 (nF S) 0 (nO S) (tok t i)) 1 (nO S) li) 2 (nO S) i) 3 (nO S) (wsum t i)) 4 (nO S) (folw t i)) 5 (nO S) 0) 6 (nD S) (nO S))
def nClose (k li : Nat) (S : NS) : NS :=
  if 0 < nD S ∧ nF S 0 (nF S 6 (nD S - 1)) = k then (nO S, nD S - 1, nL S, up2 (nF S) 5 (nF S 6 (nD S - 1)) (li + 1)) else (nO S, nD S, nL S, up2 (nF S) 7 li (nF S 7 li + 1))
def nAct (t li i : Nat) (S : NS) : NS :=
  if tok t i = 2 ∨ tok t i = 4 then nOpen t li i S else if tok t i = 3 then nClose 2 li S else if tok t i = 5 then nClose 4 li S else S
def nTok (t li i : Nat) (S : NS) : NS :=
  (nO (nAct t li i S), nD (nAct t li i S), if tok t i = 9 then nL S else tok t i, nF (nAct t li i S))
def topN (S : NS) : Nat := if nD S = 0 then 0 else nF S 6 (nD S - 1) + 1
def nStart (li : Nat) (S : NS) : NS :=
  (nO S, nD S, nL S, up2 (up2 (up2 (up2 (nF S) 8 li (topN S)) 9 li (nD S)) 10 li (nL S)) 7 li 0)
def nLine (t li : Nat) (S : NS) : Nat → NS
  | 0 => S
  | i + 1 => nTok t li i (nLine t li S i)
def nAll (row : Nat → Nat) : Nat → NS
  | 0 => (0, 0, 0, fun _ _ => 0)
  | li + 1 => nLine (row li) li (nStart li (nAll row li)) (pres (row li))
/-- what holds of all these numbers: lines below L, at most b openers -/
def wfN (S : NS) (L b : Nat) : Prop := nD S ≤ nO S ∧ nO S ≤ b ∧ (∀ j, j < nD S → nF S 6 j < nO S) ∧ (∀ k, k < nO S → nF S 1 k < L ∧ (nF S 0 k = 2 ∨ nF S 0 k = 4)) ∧ nL S < 10
theorem wfN.up {S : NS} {L b L2 b2 : Nat} (h : wfN S L b) (hL : L ≤ L2) (hb : b ≤ b2) : wfN S L2 b2 :=
  ⟨h.1, Nat.le_trans h.2.1 hb, h.2.2.1, fun k hk => ⟨Nat.lt_of_lt_of_le (h.2.2.2.1 k hk).1 hL, (h.2.2.2.1 k hk).2⟩, h.2.2.2.2⟩
theorem wfN_start {S : NS} {L b li : Nat} (h : wfN S L b) : wfN (nStart li S) L b := by
  obtain ⟨h1, h2, h3, h4, h5⟩ := h
  refine ⟨h1, h2, fun j hj => ?_, fun k hk => ?_, h5⟩
  · show up2 (up2 (up2 (up2 (nF S) 8 li (topN S)) 9 li (nD S)) 10 li (nL S)) 7 li 0 6 j < nO S
    simp only [up2_k (show (6:Nat) ≠ 7 by decide), up2_k (show (6:Nat) ≠ 10 by decide), up2_k (show (6:Nat) ≠ 9 by decide), up2_k (show (6:Nat) ≠ 8 by decide)]
    exact h3 j hj
  · show up2 (up2 (up2 (up2 (nF S) 8 li (topN S)) 9 li (nD S)) 10 li (nL S)) 7 li 0 1 k < L ∧ (up2 (up2 (up2 (up2 (nF S) 8 li (topN S)) 9 li (nD S)) 10 li (nL S)) 7 li 0 0 k = 2 ∨ up2 (up2 (up2 (up2 (nF S) 8 li (topN S)) 9 li (nD S)) 10 li (nL S)) 7 li 0 0 k = 4)
    simp only [up2_k (show (1:Nat) ≠ 7 by decide), up2_k (show (1:Nat) ≠ 10 by decide), up2_k (show (1:Nat) ≠ 9 by decide), up2_k (show (1:Nat) ≠ 8 by decide), up2_k (show (0:Nat) ≠ 7 by decide), up2_k (show (0:Nat) ≠ 10 by decide), up2_k (show (0:Nat) ≠ 9 by decide), up2_k (show (0:Nat) ≠ 8 by decide)]
    exact h4 k hk
theorem nOpen_F {t li i : Nat} {S : NS} (x y : Nat) : nF (nOpen t li i S) x y = if x = 6 ∧ y = nD S then nO S else if x = 5 ∧ y = nO S then 0 else if x = 4 ∧ y = nO S then folw t i else if x = 3 ∧ y = nO S then wsum t i else if x = 2 ∧ y = nO S then i else if x = 1 ∧ y = nO S then li else if x = 0 ∧ y = nO S then tok t i else nF S x y := rfl
theorem wfN_open {t li i : Nat} {S : NS} {L b : Nat} (h : wfN S L b) (hli : li < L) (ht : tok t i = 2 ∨ tok t i = 4) : wfN (nOpen t li i S) L (b + 1) := by
  obtain ⟨h1, h2, h3, h4, h5⟩ := h
  refine ⟨by show nD S + 1 ≤ nO S + 1; omega, by show nO S + 1 ≤ b + 1; omega, fun j hj => ?_, fun k hk => ?_, h5⟩
  · have hj : j < nD S + 1 := hj
    show nF (nOpen t li i S) 6 j < nO S + 1
    rw [nOpen_F]
    by_cases q : j = nD S
    · rw [if_pos ⟨rfl, q⟩]; omega
    · rw [if_neg (fun z => q z.2)]
      simp only [show ¬ ((6:Nat) = 5) by decide, show ¬ ((6:Nat) = 4) by decide, show ¬ ((6:Nat) = 3) by decide, show ¬ ((6:Nat) = 2) by decide, show ¬ ((6:Nat) = 1) by decide, show ¬ ((6:Nat) = 0) by decide, false_and, if_false]
      have := h3 j (by omega)
      omega
  · have hk : k < nO S + 1 := hk
    show nF (nOpen t li i S) 1 k < L ∧ (nF (nOpen t li i S) 0 k = 2 ∨ nF (nOpen t li i S) 0 k = 4)
    rw [nOpen_F, nOpen_F]
    simp only [show ¬ ((1:Nat) = 6) by decide, show ¬ ((1:Nat) = 5) by decide, show ¬ ((1:Nat) = 4) by decide, show ¬ ((1:Nat) = 3) by decide, show ¬ ((1:Nat) = 2) by decide, show ¬ ((0:Nat) = 6) by decide, show ¬ ((0:Nat) = 5) by decide, show ¬ ((0:Nat) = 4) by decide, show ¬ ((0:Nat) = 3) by decide, show ¬ ((0:Nat) = 2) by decide, show ¬ ((0:Nat) = 1) by decide, show ¬ ((1:Nat) = 0) by decide, false_and, if_false, true_and]
    by_cases q : k = nO S
    · rw [if_pos q, if_pos q]
      exact ⟨hli, ht⟩
    · rw [if_neg q, if_neg q]
      exact h4 k (by omega)
theorem wfN_close {k li : Nat} {S : NS} {L b : Nat} (h : wfN S L b) : wfN (nClose k li S) L b := by
  obtain ⟨h1, h2, h3, h4, h5⟩ := h
  unfold nClose
  by_cases q : 0 < nD S ∧ nF S 0 (nF S 6 (nD S - 1)) = k
  · rw [if_pos q]
    refine ⟨by show nD S - 1 ≤ nO S; omega, h2, fun j hj => ?_, fun x hx => ?_, h5⟩
    · have hj : j < nD S - 1 := hj
      show up2 (nF S) 5 (nF S 6 (nD S - 1)) (li + 1) 6 j < nO S
      rw [up2_k (by decide)]
      exact h3 j (by omega)
    · show up2 (nF S) 5 (nF S 6 (nD S - 1)) (li + 1) 1 x < L ∧ (up2 (nF S) 5 (nF S 6 (nD S - 1)) (li + 1) 0 x = 2 ∨ up2 (nF S) 5 (nF S 6 (nD S - 1)) (li + 1) 0 x = 4)
      rw [up2_k (by decide), up2_k (by decide)]
      exact h4 x hx
  · rw [if_neg q]
    refine ⟨h1, h2, fun j hj => ?_, fun x hx => ?_, h5⟩
    · show up2 (nF S) 7 li (nF S 7 li + 1) 6 j < nO S
      rw [up2_k (by decide)]
      exact h3 j hj
    · show up2 (nF S) 7 li (nF S 7 li + 1) 1 x < L ∧ (up2 (nF S) 7 li (nF S 7 li + 1) 0 x = 2 ∨ up2 (nF S) 7 li (nF S 7 li + 1) 0 x = 4)
      rw [up2_k (by decide), up2_k (by decide)]
      exact h4 x hx
theorem nAct_L (t li i : Nat) (S : NS) : nL (nAct t li i S) = nL S := by
  unfold nAct nClose
  split
  · rfl
  · split
    · split <;> rfl
    · split
      · split <;> rfl
      · rfl
theorem wfN_act {t li i : Nat} {S : NS} {L b : Nat} (h : wfN S L b) (hli : li < L) : wfN (nAct t li i S) L (b + 1) := by
  unfold nAct
  split
  · next q => exact wfN_open h hli q
  · split
    · exact (wfN_close h).up (Nat.le_refl _) (Nat.le_succ _)
    · split
      · exact (wfN_close h).up (Nat.le_refl _) (Nat.le_succ _)
      · exact h.up (Nat.le_refl _) (Nat.le_succ _)
theorem wfN_tok {t li i : Nat} {S : NS} {L b : Nat} (h : wfN S L b) (hli : li < L) : wfN (nTok t li i S) L (b + 1) := by
  obtain ⟨h1, h2, h3, h4, h5⟩ := wfN_act (t := t) (i := i) h hli
  refine ⟨h1, h2, h3, h4, ?_⟩
  show (if tok t i = 9 then nL S else tok t i) < 10
  split
  · exact h.2.2.2.2
  · exact tok_lt t i
theorem wfN_line {t li : Nat} {S : NS} {L b : Nat} (h : wfN S L b) (hli : li < L) : ∀ i, wfN (nLine t li S i) L (b + i)
  | 0 => h
  | i + 1 => wfN_tok (wfN_line h hli i) hli
theorem wfN_all {row : Nat → Nat} : ∀ li, (∀ j, j < li → row j < 1000000000) → wfN (nAll row li) li (9 * li)
  | 0, _ => ⟨Nat.le_refl _, Nat.le_refl _, fun j hj => absurd hj (Nat.not_lt_zero _), fun k hk => absurd hk (Nat.not_lt_zero _), by show 0 < 10; decide⟩
  | li + 1, hr => by
    have ih := wfN_all li (fun j hj => hr j (by omega))
    have h1 := wfN_line (t := row li) (li := li) (wfN_start (li := li) (ih.up (Nat.le_succ li) (Nat.le_refl _))) (Nat.lt_succ_self li) (pres (row li))
    have h2 := (len_lt 9 (row li)).mp (hr li (Nat.lt_succ_self li))
    have h3 := pres_le (row li)
    exact h1.up (Nat.le_refl _) (by omega)
/-! columns -/
def gO (s : Nat → Int32) (x : Int32) (la : Nat) : Int32 := if la = 1 ∨ la = 5 ∨ la = 6 then x + s 1 else if la = 7 then x + s 0 else x
/-- the column behind an opener: brk x: x a bracket that closes or not -/
def cvB (s : Nat → Int32) (F : Nat → Nat → Nat) (C : Nat → Int32) (k la first : Nat) : Int32 :=
  if F 0 k = 4 then
    (if s 2 = nI 1 ∧ F 4 k = 1 then (if first = 5 then C (F 1 k) + nI (F 3 k) else C (F 1 k) + nI (F 3 k) + nI 1)
     else (if first = 5 then C (F 1 k) else C (F 1 k) + s 1))
  else if first = 3 then (if s 3 = nI 1 then C (F 1 k) + s 0 else C (F 1 k)) else gO s (C (F 1 k) + s 0) la
def cvt (s : Nat → Int32) (F : Nat → Nat → Nat) (C : Nat → Int32) (top la first : Nat) : Int32 := if top = 0 then gO s (nI 0) la else cvB s F C (top - 1) la first
theorem cvt_0 {s : Nat → Int32} {F : Nat → Nat → Nat} {C : Nat → Int32} {la first : Nat} : cvt s F C 0 la first = gO s (nI 0) la := rfl
theorem cvt_s {s : Nat → Int32} {F : Nat → Nat → Nat} {C : Nat → Int32} {k la first : Nat} : cvt s F C (k + 1) la first = cvB s F C k la first := rfl
def colAt (s : Nat → Int32) (row : Nat → Nat) (li : Nat) (C : Nat → Int32) : Int32 := if row li = 0 then nI 0 else cvt s (nF (nAll row li)) C (topN (nAll row li)) (nL (nAll row li)) (tok (row li) 0)
def cols (s : Nat → Int32) (row : Nat → Nat) : Nat → (Nat → Int32)
  | 0 => fun _ => nI 0
  | li + 1 => upd (cols s row li) li (colAt s row li (cols s row li))
theorem add_n0 (x : Int32) : x + nI 0 = x := by rw [nI_0]; exact Int32.add_zero x
theorem upd_s {f : Nat → Int32} {k : Nat} {x : Int32} : upd f k x k = x := pk_us
theorem upd_n {f : Nat → Int32} {k j : Nat} {x : Int32} (h : j ≠ k) : upd f k x j = f j := pk_un h
theorem cols_lt {s : Nat → Int32} {row : Nat → Nat} {j li : Nat} (h : j < li) : cols s row (li + 1) j = cols s row li j := upd_n (by omega)
theorem cols_at {s : Nat → Int32} {row : Nat → Nat} {j : Nat} : ∀ {m : Nat}, j < m → cols s row m j = colAt s row j (cols s row j)
  | 0, h => absurd h (Nat.not_lt_zero _)
  | m + 1, h => by
    by_cases q : j = m
    · subst q; exact upd_s
    · rw [cols_lt (by omega)]; exact cols_at (by omega)
theorem cols_le {s : Nat → Int32} {row : Nat → Nat} {j m n : Nat} (h : j < m) (h2 : m ≤ n) : cols s row n j = cols s row m j := by rw [cols_at h, cols_at (by omega : j < n)]
/-! the reference's rows against these numbers -/
def pv (x : Nat) : Int32 := if x = 0 then -9 else nI (x - 1)
def kd (s2 : Int32) (F : Nat → Nat → Nat) (k : Nat) : Nat := if F 0 k = 2 then 1 else if s2 = nI 1 ∧ F 4 k = 1 then 3 else 2
theorem kd_lt (s2 : Int32) (F : Nat → Nat → Nat) (k : Nat) : kd s2 F k < 4 := by
  unfold kd
  split
  · omega
  · split <;> omega
theorem kd_1 {s2 : Int32} {F : Nat → Nat → Nat} {k : Nat} : kd s2 F k = 1 ↔ F 0 k = 2 := by
  unfold kd
  constructor
  · intro h
    by_cases q : F 0 k = 2
    · exact q
    · rw [if_neg q] at h
      split at h <;> omega
  · intro h; rw [if_pos h]
theorem kd_3 {s2 : Int32} {F : Nat → Nat → Nat} {k : Nat} (hb : F 0 k = 4) : kd s2 F k = 3 ↔ (s2 = nI 1 ∧ F 4 k = 1) := by
  unfold kd
  rw [if_neg (by omega)]
  constructor
  · intro h
    by_cases q : s2 = nI 1 ∧ F 4 k = 1
    · exact q
    · rw [if_neg q] at h; omega
  · intro h; rw [if_pos h]
def RR (s2 : Int32) (S : NS) (C : Nat → Int32) (mm : Nat) (lineO tokO atO baseO kindO partO colO openO strayO stk : Nat → Int32) : Prop :=
  (∀ k, k < nO S → lineO k = nI (nF S 1 k) ∧ tokO k = nI (nF S 2 k) ∧ atO k = C (nF S 1 k) + nI (nF S 3 k) ∧ baseO k = C (nF S 1 k) ∧ kindO k = nI (kd s2 (nF S) k) ∧ partO k = pv (nF S 5 k)) ∧
  (∀ j, j < mm → colO j = C j ∧ openO j = nI (nF S 9 j) ∧ strayO j = nI (nF S 7 j)) ∧ (∀ j, j < nD S → stk j = nI (nF S 6 j))
