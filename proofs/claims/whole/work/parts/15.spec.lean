/-! what every call answers, and what it leaves, as numbers: lines, rows of tokens, what was seen, the style, pockets -/
abbrev ABS : Type := Nat × (Nat → Nat) × (Nat → Int32) × (Nat → Int32) × (Nat → Nat) × (Nat → Nat) × (Nat → Nat → Int32) × (Nat → Nat → Int32) × (Nat → Nat → Int32)
abbrev aN (A : ABS) : Nat := A.1
abbrev aR (A : ABS) : Nat → Nat := A.2.1
abbrev aS (A : ABS) : Nat → Int32 := A.2.2.1
abbrev aG (A : ABS) : Nat → Int32 := A.2.2.2.1
abbrev aC (A : ABS) : Nat → Nat := A.2.2.2.2.1
abbrev aO (A : ABS) : Nat → Nat := A.2.2.2.2.2.1
abbrev aL (A : ABS) : Nat → Nat → Int32 := A.2.2.2.2.2.2.1
abbrev aA (A : ABS) : Nat → Nat → Int32 := A.2.2.2.2.2.2.2.1
abbrev aK (A : ABS) : Nat → Nat → Int32 := A.2.2.2.2.2.2.2.2
abbrev aLines (A : ABS) (n : Nat) (r : Nat → Nat) (s : Nat → Int32) : ABS := (n, r, s, A.2.2.2)
abbrev aStyle (A : ABS) (g : Nat → Int32) : ABS := (aN A, aR A, aS A, g, A.2.2.2.2)
abbrev aPock (A : ABS) (cn so : Nat → Nat) (kl ka kk : Nat → Nat → Int32) : ABS := (aN A, aR A, aS A, aG A, cn, so, kl, ka, kk)
abbrev ixP (x : Int32) (n : Nat) : Prop := 0 ≤ x.toInt ∧ x.toInt < (n : Int)
abbrev ix (x : Int32) : Nat := x.toInt.toNat
theorem ix_n {j : Nat} (h : j < 2 ^ 31) : ix (nI j) = j := by show (nI j).toInt.toNat = j; rw [nI_toInt h]; rfl
theorem ixP_n {j n : Nat} (h : j < n) (hn : n < 2 ^ 31) : ixP (nI j) n := by show 0 ≤ (nI j).toInt ∧ (nI j).toInt < _; rw [nI_toInt (by omega)]; omega
theorem ixP_iff {x : Int32} {n : Nat} (hn : n < 2 ^ 31) : ixP x n ↔ ∃ j : Nat, j < n ∧ x = nI j := by
  constructor
  · intro h
    obtain ⟨j, hj, rfl⟩ := nI_of (x := x) (fun q => by have := i_lt.mp q; have e : (0 : Int32).toInt = 0 := by decide
                                                       have := h.1; omega)
    refine ⟨j, ?_, rfl⟩
    have := h.2
    rw [nI_toInt hj] at this
    omega
  · rintro ⟨j, hj, rfl⟩
    exact ixP_n hj hn
abbrev okB (x : Int32) : Prop := (0 ≤ x.toInt ∧ x.toInt < 1000000000) ∧ nzb (ix x) = true
theorem okB_iff {x : Int32} : okB x ↔ okT x := by
  constructor
  · rintro ⟨h1, h2⟩
    obtain ⟨t, ht, rfl⟩ := (ixP_iff (x := x) (n := 1000000000) (by decide)).mp h1
    rw [ix_n (by omega)] at h2
    exact ⟨t, ht, h2, rfl⟩
  · rintro ⟨t, ht, hz, rfl⟩
    refine ⟨?_, by rw [ix_n (by omega)]; exact hz⟩
    rw [nI_toInt (by omega)]
    omega
abbrev okSB (k : Nat) (x : Int32) : Prop := if k < 2 then (nI 1 ≤ x ∧ x ≤ nI 8) else (nI 0 ≤ x ∧ x ≤ nI 1)
abbrev okStB (x0 x1 x2 x3 : Int32) : Prop := ((nI 1 ≤ x0 ∧ x0 ≤ nI 8) ∧ (nI 1 ≤ x1 ∧ x1 ≤ nI 8)) ∧ ((nI 0 ≤ x2 ∧ x2 ≤ nI 1) ∧ (nI 0 ≤ x3 ∧ x3 ≤ nI 1))
theorem okStB_iff {x0 x1 x2 x3 : Int32} : okStB x0 x1 x2 x3 ↔ okSt x0 x1 x2 x3 := by
  unfold okSt okS
  simp only [show (0:Nat) < 2 by decide, show (1:Nat) < 2 by decide, show ¬ ((2:Nat) < 2) by decide, show ¬ ((3:Nat) < 2) by decide, if_true, if_false]
  constructor
  · rintro ⟨⟨h0, h1⟩, h2, h3⟩; exact ⟨h0, h1, h2, h3⟩
  · rintro ⟨h0, h1, h2, h3⟩; exact ⟨⟨h0, h1⟩, h2, h3⟩
def insF {α : Type} (f : Nat → α) (j : Nat) (v : α) : Nat → α := fun k => if k < j then f k else if k = j then v else f (k - 1)
def delF {α : Type} (f : Nat → α) (j : Nat) : Nat → α := fun k => if k < j then f k else f (k + 1)
def updF {α : Type} (f : Nat → α) (j : Nat) (v : α) : Nat → α := fun k => if k = j then v else f k
/-- the columns now, the nesting now -/
abbrev aCol (A : ABS) : Nat → Int32 := cols (aG A) (aR A) (aN A)
abbrev aNest (A : ABS) : NS := nAll (aR A) (aN A)
def fPut (A : ABS) (x y : Int32) : Int32 × ABS :=
  if ixP x (aN A + 1) then
    if okB y then
      if aN A = 20 then (-4, A)
      else (nI (mvc x (aCol (aLines A (aN A + 1) (insF (aR A) (ix x) (ix y)) (insF (aS A) (ix x) (-9)))) (insF (aCol A) (ix x) (nI 0)) (aN A + 1)), aLines A (aN A + 1) (insF (aR A) (ix x) (ix y)) (insF (aS A) (ix x) (-9)))
    else (-2, A)
  else (-1, A)
def fChange (A : ABS) (x y : Int32) : Int32 × ABS :=
  if ixP x (aN A) then
    if okB y then (nI (mvc x (aCol (aLines A (aN A) (updF (aR A) (ix x) (ix y)) (aS A))) (aCol A) (aN A)), aLines A (aN A) (updF (aR A) (ix x) (ix y)) (aS A))
    else (-2, A)
  else (-1, A)
def fTake (A : ABS) (x : Int32) : Int32 × ABS :=
  if ixP x (aN A) then (nI (mvc (-9) (aCol (aLines A (aN A - 1) (delF (aR A) (ix x)) (delF (aS A) (ix x)))) (delF (aCol A) (ix x)) (aN A - 1)), aLines A (aN A - 1) (delF (aR A) (ix x)) (delF (aS A) (ix x)))
  else (-1, A)
def fStyle (A : ABS) (x y : Int32) : Int32 × ABS :=
  if ixP x 4 then
    if (if ix x < 2 then (nI 1 ≤ y ∧ y ≤ nI 8) else (nI 0 ≤ y ∧ y ≤ nI 1)) then (aG A (ix x), aStyle A (updF (aG A) (ix x) y)) else (-2, A)
  else (-1, A)
def fOfLine (A : ABS) (x w : Int32) : Int32 :=
  if ixP x (aN A) then
    (if w = nI 0 then nI (aR A (ix x)) else if w = nI 1 then aCol A (ix x) else if w = nI 2 then (if aR A (ix x) = 0 then nI 0 else aCol A (ix x) + nI (wsum (aR A (ix x)) (len (aR A (ix x)))))
     else if w = nI 3 then nI (nF (aNest A) 9 (ix x)) else if w = nI 4 then nI (nF (aNest A) 7 (ix x)) else if w = nI 5 then aS A (ix x) else -2)
  else -1
def fOpener (A : ABS) (x w : Int32) : Int32 :=
  if ixP x (nO (aNest A)) then
    (if w = nI 0 then nI (nF (aNest A) 1 (ix x)) else if w = nI 1 then nI (nF (aNest A) 2 (ix x)) else if w = nI 2 then aCol A (nF (aNest A) 1 (ix x)) + nI (nF (aNest A) 3 (ix x))
     else if w = nI 3 then aCol A (nF (aNest A) 1 (ix x)) else if w = nI 4 then nI (kd (aG A 2) (nF (aNest A)) (ix x)) else if w = nI 5 then pv (nF (aNest A) 5 (ix x)) else -2)
  else -1
/-- a line that tells something of a style -/
abbrev cnt (A : ABS) (j : Nat) : Prop := ¬ aS A j = -9 ∧ ¬ aR A j = 0
def scan (A : ABS) : Nat → Nat → Int32
  | 0, _ => -9
  | f + 1, i => if cnt A i ∧ ¬ aCol A i = aS A i then nI i else scan A f (i + 1)
def fUnlike (A : ABS) (x : Int32) : Int32 := if ixP x (aN A) then scan A (aN A - ix x) (ix x) else -1
def fSee (A : ABS) (x v : Int32) : Int32 × ABS :=
  if ixP x (aN A) then
    if v = -9 ∨ ixP v 201 then (aS A (ix x), aLines A (aN A) (aR A) (updF (aS A) (ix x) v)) else (-2, A)
  else (-1, A)
def fitc (A : ABS) (C : Nat → Int32) : Nat → Nat
  | 0 => 0
  | j + 1 => fitc A C j + (if cnt A j ∧ C j = aS A j then 1 else 0)
def fFits (A : ABS) (x0 x1 x2 x3 : Int32) : Int32 := if okStB x0 x1 x2 x3 then nI (fitc A (cols (st4 x0 x1 x2 x3) (aR A) (aN A)) (aN A)) else -2
def scr (A : ABS) (C : Nat → Int32) : Nat → Nat
  | 0 => 0
  | j + 1 => scr A C j + (if cnt A j ∧ C j = aS A j then 2 ^ (12 - min (nF (aNest A) 9 j) 12) else 0)
theorem scr_le (A : ABS) (C : Nat → Int32) : ∀ n, scr A C n ≤ 4096 * n
  | 0 => Nat.le_refl _
  | n + 1 => by
    have := scr_le A C n
    have h2 : 2 ^ (12 - min (nF (aNest A) 9 n) 12) ≤ 2 ^ 12 := Nat.pow_le_pow_right (by decide) (by omega)
    show scr A C n + _ ≤ _
    split <;> omega
theorem fitc_le (A : ABS) (C : Nat → Int32) : ∀ n, fitc A C n ≤ n
  | 0 => Nat.le_refl _
  | n + 1 => by
    have := fitc_le A C n
    show fitc A C n + _ ≤ _
    split <;> omega
/-- a float's bits out of parts of 2^-12 -/
def bitN (q : Nat) : Nat := if q = 0 then 0 else (115 + Nat.log2 q) * 2 ^ 23 + (q * 2 ^ (23 - Nat.log2 q) - 2 ^ 23)
def scoreBy (A : ABS) (x0 x1 x2 x3 : Int32) : Nat := scr A (cols (st4 x0 x1 x2 x3) (aR A) (aN A)) (aN A)
def fScore (A : ABS) (x0 x1 x2 x3 w : Int32) : Int32 :=
  if okStB x0 x1 x2 x3 ∧ ixP w 2 then (if w = nI 0 then nI (bitN (scoreBy A x0 x1 x2 x3)) else nI (scoreBy A x0 x1 x2 x3 * 1000 / 4096)) else -2
def gsc (A : ABS) (x : Nat) : Nat := scoreBy A (nI (1 + x / 32)) (nI (1 + x / 4 % 8)) (nI (x / 2 % 2)) (nI (x % 2))
/-- the best so far: its score and 1, its number -/
def gbest (A : ABS) : Nat → Nat × Nat
  | 0 => (0, 0)
  | x + 1 => if (gbest A x).1 < gsc A x + 1 then (gsc A x + 1, x) else gbest A x
def stx (x : Nat) : Nat → Int32 := st4 (nI (1 + x / 32)) (nI (1 + x / 4 % 8)) (nI (x / 2 % 2)) (nI (x % 2))
def anyS (A : ABS) : Nat → Bool
  | 0 => false
  | j + 1 => anyS A j || decide (cnt A j)
def fGuess (A : ABS) (w : Int32) : Int32 :=
  if ixP w 5 then
    if anyS A (aN A) = true then (if ix w < 4 then stx (gbest A 256).2 (ix w) else nI (bitN ((gbest A 256).1 - 1))) else -3
  else -2
def fFollow (A : ABS) : Int32 × ABS :=
  if anyS A (aN A) = true then (nI (mvc (-9) (aCol (aStyle A (stx (gbest A 256).2))) (aCol A) (aN A)), aStyle A (stx (gbest A 256).2)) else (-3, A)
def fPocket (A : ABS) (x k n : Int32) : Int32 × ABS :=
  if ixP x 3 then
    if ixP k 4 ∧ (nI 1 ≤ n ∧ n ≤ nI 6) then (nI 1, aPock A (updF (aC A) (ix x) (ix n)) (updF (aO A) (ix x) (ix k)) (updF (aL A) (ix x) (fun _ => -9)) (updF (aA A) (ix x) (fun _ => -9)) (updF (aK A) (ix x) (fun _ => -9))) else (-2, A)
  else (-1, A)
abbrev tkN (k o : Nat) : Prop := o = 0 ∨ k = o ∨ (o = 2 ∧ k = 3)
def fStore (A : ABS) (x y z : Int32) : Int32 × ABS :=
  if ixP x 3 ∧ ixP z (nO (aNest A)) then
    if aC A (ix x) = 0 then (-3, A)
    else if ixP y (aC A (ix x)) then
      if tkN (kd (aG A 2) (nF (aNest A)) (ix z)) (aO A (ix x)) then
        (nI 1, aPock A (aC A) (aO A) (updF (aL A) (ix x) (updF (aL A (ix x)) (ix y) (nI (nF (aNest A) 1 (ix z))))) (updF (aA A) (ix x) (updF (aA A (ix x)) (ix y) (aCol A (nF (aNest A) 1 (ix z)) + nI (nF (aNest A) 3 (ix z))))) (updF (aK A) (ix x) (updF (aK A (ix x)) (ix y) (nI (kd (aG A 2) (nF (aNest A)) (ix z))))))
      else (-11, A)
    else (-13, A)
  else (-1, A)
def fCopy (A : ABS) (x y : Int32) : Int32 × ABS :=
  if ixP x 3 ∧ ixP y 3 then
    if aC A (ix x) = 0 then (-3, A)
    else (nI 1, aPock A (updF (aC A) (ix y) (aC A (ix x))) (updF (aO A) (ix y) (aO A (ix x))) (updF (aL A) (ix y) (aL A (ix x))) (updF (aA A) (ix y) (aA A (ix x))) (updF (aK A) (ix y) (aK A (ix x))))
  else (-1, A)
def fOfPocket (A : ABS) (x y w : Int32) : Int32 :=
  if ixP x 3 then
    if ixP w 3 then
      if aC A (ix x) = 0 then -3
      else if ixP y (aC A (ix x)) then (if w = nI 0 then aL A (ix x) (ix y) else if w = nI 1 then aA A (ix x) (ix y) else aK A (ix x) (ix y)) else -13
    else -2
  else -1
def mnP (F : Nat → Nat → Nat) : Nat → Nat
  | 0 => 0
  | k + 1 => mnP F k + (if pv (F 5 k) = -9 then 1 else 0)
def mnS (F : Nat → Nat → Nat) : Nat → Nat
  | 0 => 0
  | k + 1 => mnS F k + F 7 k
def mnSeen (sn : Nat → Int32) : Nat → Nat
  | 0 => 0
  | k + 1 => mnSeen sn k + (if sn k = -9 then 0 else 1)
def mnT (rn : Nat → Nat) : Nat → Nat
  | 0 => 0
  | k + 1 => mnT rn k + len (rn k)
def fMany (A : ABS) (w : Int32) : Int32 :=
  if w = nI 0 then nI (aN A) else if w = nI 1 then nI (nO (aNest A)) else if w = nI 2 then nI (mnP (nF (aNest A)) (nO (aNest A))) else if w = nI 3 then nI (mnS (nF (aNest A)) (aN A)) else if w = nI 4 then nI (mnSeen (aS A) (aN A)) else if w = nI 5 then nI (mnT (aR A) (aN A)) else -2
/-- what always holds of these numbers -/
def okA (A : ABS) : Prop := aN A ≤ 20 ∧ (∀ j, j < aN A → aR A j < 1000000000 ∧ nzb (aR A j) = true) ∧ (∀ k, k < 3 → aC A k ≤ 6 ∧ aO A k < 4 ∧ ∀ x, x < 6 → aL A k x = -9 → aA A k x = -9 ∧ aK A k x = -9)
/-- the reference's cells against these numbers -/
def RefOk (A : ABS) (ln : Nat) (row seen sty cellsO sortO kLine kAt kKind : Nat → Int32) : Prop :=
  ln = aN A ∧ okA A ∧ rowsOk ln row (aR A) ∧ (∀ j, j < ln → seen j = aS A j) ∧ (∀ k, k < 4 → sty k = aG A k) ∧
  (∀ k, k < 3 → cellsO k = nI (aC A k) ∧ sortO k = nI (aO A k) ∧ ∀ x, x < 6 → kLine (6 * k + x) = aL A k x ∧ (¬ aL A k x = -9 → kAt (6 * k + x) = aA A k x ∧ kKind (6 * k + x) = aK A k x))
