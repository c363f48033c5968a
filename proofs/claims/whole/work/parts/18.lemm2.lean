theorem fFits_1 {A : ABS} {x0 x1 x2 x3 : Int32} (h : ¬ okSt x0 x1 x2 x3) : fFits A x0 x1 x2 x3 = -2 := by unfold fFits; rw [if_neg (fun q => h (okStB_iff.mp q))]
theorem fFits_ok {A : ABS} {x0 x1 x2 x3 : Int32} (h : okSt x0 x1 x2 x3) : fFits A x0 x1 x2 x3 = nI (fitc A (cols (st4 x0 x1 x2 x3) (aR A) (aN A)) (aN A)) := by unfold fFits; rw [if_pos (okStB_iff.mpr h)]
theorem fScore_1 {A : ABS} {x0 x1 x2 x3 w : Int32} (h : ¬ (okSt x0 x1 x2 x3 ∧ ixP w 2)) : fScore A x0 x1 x2 x3 w = -2 := by unfold fScore; rw [if_neg (fun q => h ⟨okStB_iff.mp q.1, q.2⟩)]
theorem fScore_0 {A : ABS} {x0 x1 x2 x3 : Int32} (h : okSt x0 x1 x2 x3) : fScore A x0 x1 x2 x3 (nI 0) = nI (bitN (scoreBy A x0 x1 x2 x3)) := by
  unfold fScore; rw [if_pos ⟨okStB_iff.mpr h, ixP_n (by decide) (by decide)⟩, if_pos rfl]
theorem fScore_2 {A : ABS} {x0 x1 x2 x3 : Int32} (h : okSt x0 x1 x2 x3) : fScore A x0 x1 x2 x3 (nI 1) = nI (scoreBy A x0 x1 x2 x3 * 1000 / 4096) := by
  unfold fScore; rw [if_pos ⟨okStB_iff.mpr h, ixP_n (by decide) (by decide)⟩, if_neg (by decide)]
theorem w_rgx {x : Int32} {n : Nat} (hn : n < 2 ^ 31) : (nI 0 ≤ x ∧ x ≤ nI n) ↔ ixP x (n + 1) := by
  rw [w_rg (by decide) hn]
  constructor
  · rintro ⟨j, -, h2, rfl⟩
    exact ⟨by rw [nI_toInt (by omega)]; omega, by rw [nI_toInt (by omega)]; omega⟩
  · rintro ⟨h1, h2⟩
    refine ⟨x.toInt.toNat, Nat.zero_le _, by omega, ?_⟩
    obtain ⟨j, hj, rfl⟩ := nI_of (x := x) (fun q => by have := i_lt.mp q; have e : (0 : Int32).toInt = 0 := by decide
                                                       omega)
    rw [nI_toInt hj]; rfl
theorem w_ixx {x : Int32} {n : Nat} (hn : n < 2 ^ 31) : (nI 0 ≤ x ∧ x ≤ nI n - nI 1) ↔ ixP x n := by rw [w_ix hn, ixP_iff hn]
theorem bitN_h {q h : Nat} (hh : h ≤ 16) (h1 : 2 ^ h ≤ q) (h2 : q < 2 ^ (h + 1)) : (nI (115 + h) <<< (nI 23 &&& 31)) ||| ((nI q <<< (nI (23 - h) &&& 31)) &&& nI 8388607) = nI (bitN q) := by
  obtain ⟨b1, b2⟩ := log_le hh h1 h2
  have hq : ¬ q = 0 := by have := Nat.pow_pos (n := h) (show 0 < 2 by decide); omega
  rw [n_shl (by decide) (by omega), n_shl (by omega) (by omega), pk_andN (k := 23) (by omega) (by decide)]
  have e : q * 2 ^ (23 - h) % 2 ^ 23 = q * 2 ^ (23 - h) - 2 ^ 23 := by
    have : q * 2 ^ (23 - h) = 2 ^ 23 + (q * 2 ^ (23 - h) - 2 ^ 23) := by omega
    rw [this, Nat.add_mod_left, Nat.mod_eq_of_lt (by omega)]
    omega
  rw [e, n_or _ (by omega)]
  unfold bitN
  rw [if_neg hq, log_of h1 h2]
def gv (b : Nat) : Int32 := if b = 0 then -1 else nI (b - 1)
theorem gv_le {s b : Nat} (hs : s < 2 ^ 30) (hb : b < 2 ^ 30) : nI s ≤ gv b ↔ ¬ b < s + 1 := by
  unfold gv
  split
  · next h =>
    subst h
    constructor
    · intro q
      exfalso
      have a := i_le.mp q
      rw [nI_toInt (by omega)] at a
      have : (-1 : Int32).toInt = -1 := by decide
      omega
    · intro q; omega
  · next h =>
    rw [nI_leI (by omega) (by omega)]
    omega
theorem gsc_le {A : ABS} (h : aN A ≤ 20) (x : Nat) : gsc A x ≤ 81920 := by
  have := scr_le A (cols (st4 (nI (1 + x / 32)) (nI (1 + x / 4 % 8)) (nI (x / 2 % 2)) (nI (x % 2))) (aR A) (aN A)) (aN A)
  show scr A _ (aN A) ≤ _
  omega
theorem sco_le {A : ABS} (h : aN A ≤ 20) (x0 x1 x2 x3 : Int32) : scoreBy A x0 x1 x2 x3 ≤ 81920 := by
  have := scr_le A (cols (st4 x0 x1 x2 x3) (aR A) (aN A)) (aN A)
  show scr A _ (aN A) ≤ _
  omega
theorem gb_le {A : ABS} (h : aN A ≤ 20) : ∀ x, (gbest A x).1 ≤ 81921
  | 0 => by show 0 ≤ _; omega
  | x + 1 => by
    have h1 := gb_le h x
    have h2 := gsc_le h x
    unfold gbest
    split
    · show gsc A x + 1 ≤ _; omega
    · exact h1
theorem gb_pos {A : ABS} : ∀ x, 0 < (gbest A (x + 1)).1
  | 0 => by
    show 0 < (if (gbest A 0).1 < gsc A 0 + 1 then (gsc A 0 + 1, 0) else gbest A 0).1
    rw [if_pos (by show 0 < _; omega)]
    show 0 < gsc A 0 + 1
    omega
  | x + 1 => by
    have := gb_pos (A := A) x
    show 0 < (if (gbest A (x + 1)).1 < gsc A (x + 1) + 1 then (gsc A (x + 1) + 1, x + 1) else gbest A (x + 1)).1
    split
    · show 0 < gsc A (x + 1) + 1; omega
    · exact this
theorem gb_s {A : ABS} (x : Nat) : gbest A (x + 1) = if (gbest A x).1 < gsc A x + 1 then (gsc A x + 1, x) else gbest A x := rfl
theorem st4_eta (g : Nat → Int32) : ∀ k, k < 4 → st4 (g 0) (g 1) (g 2) (g 3) k = g k := by
  intro k hk
  rcases (show k = 0 ∨ k = 1 ∨ k = 2 ∨ k = 3 by omega) with rfl | rfl | rfl | rfl <;> rfl
theorem okA_pock {A : ABS} (h : okA A) {cn so : Nat → Nat} {kl ka kk : Nat → Nat → Int32} (hp : ∀ k, k < 3 → cn k ≤ 6 ∧ so k < 4 ∧ ∀ x, x < 6 → kl k x = -9 → ka k x = -9 ∧ kk k x = -9) : okA (aPock A cn so kl ka kk) := ⟨h.1, h.2.1, hp⟩
/-! pockets -/
theorem fPocket_1 {A : ABS} {x y z : Int32} (h : ¬ ixP x 3) : fPocket A x y z = (-1, A) := by unfold fPocket; rw [if_neg h]
theorem fPocket_2 {A : ABS} {j : Nat} {y z : Int32} (hj : j < 3) (h : ¬ (ixP y 4 ∧ (nI 1 ≤ z ∧ z ≤ nI 6))) : fPocket A (nI j) y z = (-2, A) := by unfold fPocket; rw [if_pos (ixP_n hj (by decide)), if_neg h]
theorem fPocket_ok {A : ABS} {j k n : Nat} (hj : j < 3) (hk : k < 4) (h1 : 1 ≤ n) (h2 : n ≤ 6) : fPocket A (nI j) (nI k) (nI n) = (nI 1, aPock A (updF (aC A) j n) (updF (aO A) j k) (updF (aL A) j (fun _ => -9)) (updF (aA A) j (fun _ => -9)) (updF (aK A) j (fun _ => -9))) := by
  unfold fPocket
  rw [if_pos (ixP_n hj (by decide)), if_pos ⟨ixP_n hk (by decide), nI_le h1 (by omega), nI_le h2 (by decide)⟩, ix_n (by omega), ix_n (by omega), ix_n (by omega)]
theorem tkO_n {k o : Nat} (hk : k < 2 ^ 31) (ho : o < 2 ^ 31) : tkO (nI k) (nI o) ↔ tkN k o := by
  unfold tkO
  rw [← nI_0, nI_eq ho (by decide), nI_eq hk ho, nI_eq ho (by decide), nI_eq hk (by decide)]
theorem fStore_1 {A : ABS} {x y z : Int32} (h : ¬ (ixP x 3 ∧ ixP z (nO (aNest A)))) : fStore A x y z = (-1, A) := by unfold fStore; rw [if_neg h]
theorem fStore_3 {A : ABS} {j k : Nat} {y : Int32} (hj : j < 3) (hk : k < nO (aNest A)) (hb : nO (aNest A) ≤ 180) (h : aC A j = 0) : fStore A (nI j) y (nI k) = (-3, A) := by
  unfold fStore; rw [if_pos ⟨ixP_n hj (by decide), ixP_n hk (by omega)⟩, ix_n (by omega), if_pos h]
theorem fStore_13 {A : ABS} {j k : Nat} {y : Int32} (hj : j < 3) (hk : k < nO (aNest A)) (hb : nO (aNest A) ≤ 180) (h : ¬ aC A j = 0) (hy : ¬ ixP y (aC A j)) : fStore A (nI j) y (nI k) = (-13, A) := by
  unfold fStore; rw [if_pos ⟨ixP_n hj (by decide), ixP_n hk (by omega)⟩, ix_n (by omega), if_neg h, if_neg hy]
theorem fStore_11 {A : ABS} {j k i : Nat} (hj : j < 3) (hk : k < nO (aNest A)) (hb : nO (aNest A) ≤ 180) (hi : i < aC A j) (hc : aC A j ≤ 6) (ht : ¬ tkN (kd (aG A 2) (nF (aNest A)) k) (aO A j)) : fStore A (nI j) (nI i) (nI k) = (-11, A) := by
  unfold fStore; rw [if_pos ⟨ixP_n hj (by decide), ixP_n hk (by omega)⟩, ix_n (by omega), if_neg (by omega), if_pos (ixP_n hi (by omega)), ix_n (by omega), if_neg ht]
theorem fStore_ok {A : ABS} {j k i : Nat} (hj : j < 3) (hk : k < nO (aNest A)) (hb : nO (aNest A) ≤ 180) (hi : i < aC A j) (hc : aC A j ≤ 6) (ht : tkN (kd (aG A 2) (nF (aNest A)) k) (aO A j)) : fStore A (nI j) (nI i) (nI k) =
    (nI 1, aPock A (aC A) (aO A) (updF (aL A) j (updF (aL A j) i (nI (nF (aNest A) 1 k)))) (updF (aA A) j (updF (aA A j) i (aCol A (nF (aNest A) 1 k) + nI (nF (aNest A) 3 k)))) (updF (aK A) j (updF (aK A j) i (nI (kd (aG A 2) (nF (aNest A)) k))))) := by
  unfold fStore; rw [if_pos ⟨ixP_n hj (by decide), ixP_n hk (by omega)⟩, ix_n (by omega), if_neg (by omega), if_pos (ixP_n hi (by omega)), ix_n (by omega), if_pos ht, ix_n (by omega)]
theorem fCopy_1 {A : ABS} {x y : Int32} (h : ¬ (ixP x 3 ∧ ixP y 3)) : fCopy A x y = (-1, A) := by unfold fCopy; rw [if_neg h]
theorem fCopy_3 {A : ABS} {j k : Nat} (hj : j < 3) (hk : k < 3) (h : aC A j = 0) : fCopy A (nI j) (nI k) = (-3, A) := by
  unfold fCopy; rw [if_pos ⟨ixP_n hj (by decide), ixP_n hk (by decide)⟩, ix_n (by omega), if_pos h]
theorem fCopy_ok {A : ABS} {j k : Nat} (hj : j < 3) (hk : k < 3) (h : ¬ aC A j = 0) : fCopy A (nI j) (nI k) = (nI 1, aPock A (updF (aC A) k (aC A j)) (updF (aO A) k (aO A j)) (updF (aL A) k (aL A j)) (updF (aA A) k (aA A j)) (updF (aK A) k (aK A j))) := by
  unfold fCopy; rw [if_pos ⟨ixP_n hj (by decide), ixP_n hk (by decide)⟩, ix_n (by omega), if_neg h, ix_n (by omega)]
theorem updF_s {α : Type} {f : Nat → α} {j : Nat} {v : α} : updF f j v j = v := by unfold updF; rw [if_pos rfl]
theorem updF_n {α : Type} {f : Nat → α} {j k : Nat} {v : α} (h : k ≠ j) : updF f j v k = f k := by unfold updF; rw [if_neg h]
/-- a row of cells emptied -/
def clF (f : Nat → Int32) (j x : Nat) : Nat → Int32 := fun i => if 6 * j ≤ i ∧ i < 6 * j + x then -9 else f i
theorem clF_step (f : Nat → Int32) (j x : Nat) : upd (clF f j x) (6 * j + x) (-9) = clF f j (x + 1) := by
  funext i
  unfold upd clF
  by_cases q : i = 6 * j + x
  · rw [if_pos q, if_pos (by omega)]
  · rw [if_neg q]
    by_cases q2 : 6 * j ≤ i ∧ i < 6 * j + x
    · rw [if_pos q2, if_pos (by omega)]
    · rw [if_neg q2, if_neg (by omega)]
def cpF (f : Nat → Int32) (fr to x : Nat) : Nat → Int32 := fun i => if 6 * to ≤ i ∧ i < 6 * to + x then f (6 * fr + (i - 6 * to)) else f i
theorem cpF_step (f : Nat → Int32) {fr to x : Nat} (hx : x < 6) : upd (cpF f fr to x) (6 * to + x) (cpF f fr to x (6 * fr + x)) = cpF f fr to (x + 1) := by
  funext i
  unfold upd cpF
  by_cases q : i = 6 * to + x
  · rw [if_pos q, if_neg (by omega), if_pos (by omega)]
    congr 1; omega
  · rw [if_neg q]
    by_cases q2 : 6 * to ≤ i ∧ i < 6 * to + x
    · rw [if_pos q2, if_pos (by omega)]
    · rw [if_neg q2, if_neg (by omega)]
/-- the reference's pockets -/
def pkR (cn so : Nat → Nat) (kl ka kk : Nat → Nat → Int32) (cellsO sortO kLine kAt kKind : Nat → Int32) : Prop :=
  ∀ k, k < 3 → cellsO k = nI (cn k) ∧ sortO k = nI (so k) ∧ ∀ x, x < 6 → kLine (6 * k + x) = kl k x ∧ (¬ kl k x = -9 → kAt (6 * k + x) = ka k x ∧ kKind (6 * k + x) = kk k x)
theorem pk_new {cn so : Nat → Nat} {kl ka kk : Nat → Nat → Int32} {cellsO sortO kLine kAt kKind : Nat → Int32} {j n q : Nat} (h : pkR cn so kl ka kk cellsO sortO kLine kAt kKind) :
    pkR (updF cn j n) (updF so j q) (updF kl j (fun _ => -9)) (updF ka j (fun _ => -9)) (updF kk j (fun _ => -9)) (upd cellsO j (nI n)) (upd sortO j (nI q)) (clF kLine j 6) kAt kKind := by
  intro k hk
  by_cases z : k = j
  · subst z
    rw [updF_s, updF_s, updF_s, upd_s, upd_s]
    refine ⟨rfl, rfl, fun x hx => ⟨by unfold clF; rw [if_pos (by omega)], fun w => absurd rfl w⟩⟩
  · rw [updF_n z, updF_n z, updF_n z, updF_n z, updF_n z, upd_n z, upd_n z]
    refine ⟨(h k hk).1, (h k hk).2.1, fun x hx => ?_⟩
    have e : clF kLine j 6 (6 * k + x) = kLine (6 * k + x) := by unfold clF; rw [if_neg (by omega)]
    rw [e]
    exact (h k hk).2.2 x hx
theorem pk_put {cn so : Nat → Nat} {kl ka kk : Nat → Nat → Int32} {cellsO sortO kLine kAt kKind : Nat → Int32} {j i : Nat} {v1 v2 v3 : Int32} (h : pkR cn so kl ka kk cellsO sortO kLine kAt kKind) (hi : i < 6) :
    pkR cn so (updF kl j (updF (kl j) i v1)) (updF ka j (updF (ka j) i v2)) (updF kk j (updF (kk j) i v3)) cellsO sortO (upd kLine (6 * j + i) v1) (upd kAt (6 * j + i) v2) (upd kKind (6 * j + i) v3) := by
  intro k hk
  refine ⟨(h k hk).1, (h k hk).2.1, fun x hx => ?_⟩
  by_cases z : k = j
  · subst z
    rw [updF_s, updF_s, updF_s]
    by_cases w : x = i
    · subst w
      rw [updF_s, updF_s, updF_s, upd_s, upd_s, upd_s]
      exact ⟨rfl, fun _ => ⟨rfl, rfl⟩⟩
    · rw [updF_n w, updF_n w, updF_n w, upd_n (by omega), upd_n (by omega), upd_n (by omega)]
      exact (h k hk).2.2 x hx
  · rw [updF_n z, updF_n z, updF_n z, upd_n (by omega), upd_n (by omega), upd_n (by omega)]
    exact (h k hk).2.2 x hx
theorem pk_cp {cn so : Nat → Nat} {kl ka kk : Nat → Nat → Int32} {cellsO sortO kLine kAt kKind : Nat → Int32} {j t : Nat} (hj : j < 3) (h : pkR cn so kl ka kk cellsO sortO kLine kAt kKind) :
    pkR (updF cn t (cn j)) (updF so t (so j)) (updF kl t (kl j)) (updF ka t (ka j)) (updF kk t (kk j)) (upd cellsO t (nI (cn j))) (upd sortO t (nI (so j))) (cpF kLine j t 6) (cpF kAt j t 6) (cpF kKind j t 6) := by
  intro k hk
  by_cases z : k = t
  · subst z
    rw [updF_s, updF_s, updF_s, updF_s, updF_s, upd_s, upd_s]
    refine ⟨rfl, rfl, fun x hx => ?_⟩
    have e : ∀ f : Nat → Int32, cpF f j k 6 (6 * k + x) = f (6 * j + x) := fun f => by unfold cpF; rw [if_pos (by omega)]; congr 1; omega
    rw [e, e, e]
    exact (h j hj).2.2 x hx
  · rw [updF_n z, updF_n z, updF_n z, updF_n z, updF_n z, upd_n z, upd_n z]
    refine ⟨(h k hk).1, (h k hk).2.1, fun x hx => ?_⟩
    have e : ∀ f : Nat → Int32, cpF f j t 6 (6 * k + x) = f (6 * k + x) := fun f => by unfold cpF; rw [if_neg (by omega)]
    rw [e, e, e]
    exact (h k hk).2.2 x hx
theorem scan_s {A : ABS} {f i : Nat} : scan A (f + 1) i = if cnt A i ∧ ¬ aCol A i = aS A i then nI i else scan A f (i + 1) := rfl
theorem okA_new {A : ABS} (h : okA A) {j k n : Nat} (hk : k < 4) (hn : n ≤ 6) : okA (aPock A (updF (aC A) j n) (updF (aO A) j k) (updF (aL A) j (fun _ => -9)) (updF (aA A) j (fun _ => -9)) (updF (aK A) j (fun _ => -9))) := by
  refine okA_pock h (fun w hw => ?_)
  by_cases q : w = j
  · rw [q, updF_s, updF_s, updF_s, updF_s, updF_s]
    exact ⟨hn, hk, fun _ _ _ => ⟨rfl, rfl⟩⟩
  · rw [updF_n q, updF_n q, updF_n q, updF_n q, updF_n q]
    exact h.2.2 w hw
theorem okA_put {A : ABS} (h : okA A) {j i : Nat} {v1 v2 v3 : Int32} (hj : j < 3) (hv : ¬ v1 = -9) : okA (aPock A (aC A) (aO A) (updF (aL A) j (updF (aL A j) i v1)) (updF (aA A) j (updF (aA A j) i v2)) (updF (aK A) j (updF (aK A j) i v3))) := by
  refine okA_pock h (fun w hw => ⟨(h.2.2 w hw).1, (h.2.2 w hw).2.1, fun x hx hL => ?_⟩)
  by_cases q : w = j
  · rw [q, updF_s] at hL
    rw [q, updF_s, updF_s]
    by_cases q2 : x = i
    · rw [q2, updF_s] at hL
      exact absurd hL hv
    · rw [updF_n q2] at hL
      rw [updF_n q2, updF_n q2]
      exact (h.2.2 j hj).2.2 x hx hL
  · rw [updF_n q] at hL
    rw [updF_n q, updF_n q]
    exact (h.2.2 w hw).2.2 x hx hL
theorem okA_cp {A : ABS} (h : okA A) {j t : Nat} (hj : j < 3) : okA (aPock A (updF (aC A) t (aC A j)) (updF (aO A) t (aO A j)) (updF (aL A) t (aL A j)) (updF (aA A) t (aA A j)) (updF (aK A) t (aK A j))) := by
  refine okA_pock h (fun w hw => ?_)
  by_cases q : w = t
  · rw [q, updF_s, updF_s, updF_s, updF_s, updF_s]
    exact h.2.2 j hj
  · rw [updF_n q, updF_n q, updF_n q, updF_n q, updF_n q]
    exact h.2.2 w hw
