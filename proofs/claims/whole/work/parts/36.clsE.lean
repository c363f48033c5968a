/-! the class's public methods: what their ends need -/
theorem was_ins {cb C : Nat → Int32} {pi : Nat → Nat} {j n k : Nat} (h : ∀ i, i < n → cb (pi i) = C i) (hj : j ≤ n) (hk : k < n + 1) (hkj : k ≠ j) : cb (piI pi j n k) = insF C j (nI 0) k := by
  rw [← insF_pi (f := cb) (v := nI 0) hk hkj]
  unfold insF
  by_cases q : k < j
  · rw [if_pos q, if_pos q]; exact h k (by omega)
  · rw [if_neg q, if_neg q, if_neg hkj, if_neg hkj]; exact h (k - 1) (by omega)
theorem was_del {cb C : Nat → Int32} {pi : Nat → Nat} {j n k : Nat} (h : ∀ i, i < n → cb (pi i) = C i) (hk : k < n - 1) : cb (piR pi j n k) = delF C j k := by
  rw [← delF_pi (f := cb) hk]
  unfold delF
  by_cases q : k < j
  · rw [if_pos q, if_pos q]; exact h k (by omega)
  · rw [if_neg q, if_neg q]; exact h (k + 1) (by omega)
theorem cls_lines {A : ABS} (hok : okA A) {m m2 op : Nat} (hm : m = m2) {r pi tl ct ps : Nat → Nat} {s sn : Nat → Int32} {tk : Nat → Nat → Int32} {tops dpt lst stry srt lin tokA wah fol par_ opn sett clA : Nat → Int32} {kn0 kz0 kn1 kz1 kn2 kz2 : Nat} {kl0 kp0 kk0 kl1 kp1 kk1 kl2 kp2 kk2 : Nat → Int32}
    (hop : op = nO (nAll r m)) (hm20 : m ≤ 20) (hr : ∀ j, j < m → r j < 1000000000 ∧ nzb (r j) = true) (hPL : PL m r pi tl ct ps tk) (hSN : SN m pi sn s) (hpp : permP pi) (hCN : CN (nAll r m) m tops dpt lst stry srt lin tokA wah fol par_ opn) (hsg : ∀ k, k < 4 → sett k = aG A k) (hcl : ∀ j, j < m → clA j = cols sett r m j)
    (hk0 : pkC A 0 kn0 kz0 kl0 kp0 kk0) (hk1 : pkC A 1 kn1 kz1 kl1 kp1 kk1) (hk2 : pkC A 2 kn2 kz2 kl2 kp2 kk2) :
    ClsOk (aLines A m2 r s) m op pi tl ct ps sn tk tops dpt lst stry srt lin tokA wah fol par_ opn sett clA kn0 kz0 kn1 kz1 kn2 kz2 kl0 kp0 kk0 kl1 kp1 kk1 kl2 kp2 kk2 := by
  subst hm
  exact ⟨rfl, okA_lines hok hm20 hr, hop, hPL, hSN, hpp, hCN, hsg, fun j hj => by rw [hcl j hj, cols_congr hsg], hk0, hk1, hk2⟩
theorem cls_style {A : ABS} {g : Nat → Int32} {n op : Nat} {pi tl ct ps : Nat → Nat} {sn : Nat → Int32} {tk : Nat → Nat → Int32} {tops dpt lst stry srt lin tokA wah fol par_ opn sett clA sett2 clA2 : Nat → Int32} {kn0 kz0 kn1 kz1 kn2 kz2 : Nat} {kl0 kp0 kk0 kl1 kp1 kk1 kl2 kp2 kk2 : Nat → Int32}
    (h : ClsOk A n op pi tl ct ps sn tk tops dpt lst stry srt lin tokA wah fol par_ opn sett clA kn0 kz0 kn1 kz1 kn2 kz2 kl0 kp0 kk0 kl1 kp1 kk1 kl2 kp2 kk2) (hsg : ∀ k, k < 4 → sett2 k = g k) (hcl : ∀ j, j < n → clA2 j = cols sett2 (aR A) n j) :
    ClsOk (aStyle A g) n op pi tl ct ps sn tk tops dpt lst stry srt lin tokA wah fol par_ opn sett2 clA2 kn0 kz0 kn1 kz1 kn2 kz2 kl0 kp0 kk0 kl1 kp1 kk1 kl2 kp2 kk2 := by
  obtain ⟨hN, hok, hop, hPL, hSN, hpp, hCN, -, -, hk0, hk1, hk2⟩ := h
  subst hN
  exact ⟨rfl, okA_style hok, hop, hPL, hSN, hpp, hCN, hsg, fun j hj => by rw [hcl j hj, cols_congr hsg], hk0, hk1, hk2⟩
theorem pk3 (x : Int32) : x = nI 0 ∨ x = nI 1 ∨ x = nI 2 ∨ ¬ ixP x 3 := by
  by_cases h : ixP x 3
  · obtain ⟨j, hj, rfl⟩ := (ixP_iff (by decide)).mp h
    rcases (show j = 0 ∨ j = 1 ∨ j = 2 by omega) with rfl | rfl | rfl
    · exact Or.inl rfl
    · exact Or.inr (Or.inl rfl)
    · exact Or.inr (Or.inr (Or.inl rfl))
  · exact Or.inr (Or.inr (Or.inr h))
theorem pkC_new {A : ABS} {j k n : Nat} {kl kp kk_ : Nat → Int32} (h : ∀ i, i < 6 → kl i = -9 ∧ kp i = -9 ∧ kk_ i = -9) : pkC (aPock A (updF (aC A) j n) (updF (aO A) j k) (updF (aL A) j (fun _ => -9)) (updF (aA A) j (fun _ => -9)) (updF (aK A) j (fun _ => -9))) j k n kl kp kk_ := by
  refine ⟨updF_s.symm, updF_s.symm, fun x hx => ?_⟩
  show kl x = updF (aL A) j (fun _ => -9) j x ∧ kp x = updF (aA A) j (fun _ => -9) j x ∧ kk_ x = updF (aK A) j (fun _ => -9) j x
  rw [updF_s, updF_s, updF_s]
  exact h x hx
theorem pkC_oth {A : ABS} {i j c o kn kz : Nat} {kl kp kk_ L a K : Nat → Int32} (h : pkC A i kn kz kl kp kk_) (hij : i ≠ j) : pkC (aPock A (updF (aC A) j c) (updF (aO A) j o) (updF (aL A) j L) (updF (aA A) j a) (updF (aK A) j K)) i kn kz kl kp kk_ := by
  refine ⟨?_, ?_, fun x hx => ?_⟩
  · show kn = updF (aO A) j o i
    rw [updF_n hij]; exact h.1
  · show kz = updF (aC A) j c i
    rw [updF_n hij]; exact h.2.1
  · show kl x = updF (aL A) j L i x ∧ kp x = updF (aA A) j a i x ∧ kk_ x = updF (aK A) j K i x
    rw [updF_n hij, updF_n hij, updF_n hij]; exact h.2.2 x hx
theorem pkC_oth2 {A : ABS} {i j kn kz : Nat} {kl kp kk_ L a K : Nat → Int32} (h : pkC A i kn kz kl kp kk_) (hij : i ≠ j) : pkC (aPock A (aC A) (aO A) (updF (aL A) j L) (updF (aA A) j a) (updF (aK A) j K)) i kn kz kl kp kk_ := by
  refine ⟨h.1, h.2.1, fun x hx => ?_⟩
  show kl x = updF (aL A) j L i x ∧ kp x = updF (aA A) j a i x ∧ kk_ x = updF (aK A) j K i x
  rw [updF_n hij, updF_n hij, updF_n hij]; exact h.2.2 x hx
theorem pkC_put {A : ABS} {j i kn kz : Nat} {kl kp kk_ : Nat → Int32} {v1 v2 v3 : Int32} (h : pkC A j kn kz kl kp kk_) : pkC (aPock A (aC A) (aO A) (updF (aL A) j (updF (aL A j) i v1)) (updF (aA A) j (updF (aA A j) i v2)) (updF (aK A) j (updF (aK A j) i v3))) j kn kz (upd kl i v1) (upd kp i v2) (upd kk_ i v3) := by
  refine ⟨h.1, h.2.1, fun x hx => ?_⟩
  show upd kl i v1 x = updF (aL A) j (updF (aL A j) i v1) j x ∧ upd kp i v2 x = updF (aA A) j (updF (aA A j) i v2) j x ∧ upd kk_ i v3 x = updF (aK A) j (updF (aK A j) i v3) j x
  rw [updF_s, updF_s, updF_s]
  have hh := h.2.2 x hx
  by_cases q : x = i
  · rw [q, upd_s, upd_s, upd_s, updF_s, updF_s, updF_s]; exact ⟨rfl, rfl, rfl⟩
  · rw [upd_n q, upd_n q, upd_n q, updF_n q, updF_n q, updF_n q]; exact hh
theorem pkC_cp {A : ABS} {j t kn kz : Nat} {kl kp kk_ kl2 kp2 kk2 : Nat → Int32} (h : pkC A j kn kz kl kp kk_) (h2 : ∀ i, i < 6 → kl2 i = kl i ∧ kp2 i = kp i ∧ kk2 i = kk_ i) : pkC (aPock A (updF (aC A) t (aC A j)) (updF (aO A) t (aO A j)) (updF (aL A) t (aL A j)) (updF (aA A) t (aA A j)) (updF (aK A) t (aK A j))) t kn kz kl2 kp2 kk2 := by
  refine ⟨?_, ?_, fun x hx => ?_⟩
  · show kn = updF (aO A) t (aO A j) t
    rw [updF_s]; exact h.1
  · show kz = updF (aC A) t (aC A j) t
    rw [updF_s]; exact h.2.1
  · show kl2 x = updF (aL A) t (aL A j) t x ∧ kp2 x = updF (aA A) t (aA A j) t x ∧ kk2 x = updF (aK A) t (aK A j) t x
    rw [updF_s, updF_s, updF_s, (h2 x hx).1, (h2 x hx).2.1, (h2 x hx).2.2]; exact h.2.2 x hx
theorem fOfPocket_ok {A : ABS} {j i v : Nat} (hj : j < 3) (hi : i < aC A j) (hc : aC A j ≤ 6) (hv : v < 3) : fOfPocket A (nI j) (nI i) (nI v) = if v = 0 then aL A j i else if v = 1 then aA A j i else aK A j i := by
  unfold fOfPocket
  rw [if_pos (ixP_n hj (by decide)), if_pos (ixP_n hv (by decide)), ix_n (by omega), if_neg (by omega), if_pos (ixP_n hi (by omega)), ix_n (by omega)]
  rcases (show v = 0 ∨ v = 1 ∨ v = 2 by omega) with rfl | rfl | rfl <;> rfl
theorem ofPk {A : ABS} {j i v kn kz : Nat} {kl kp kk_ : Nat → Int32} (h : pkC A j kn kz kl kp kk_) (hi : i < 6) : (if v = 0 then kl i else if v = 1 then kp i else kk_ i) = if v = 0 then aL A j i else if v = 1 then aA A j i else aK A j i := by
  rw [(h.2.2 i hi).1, (h.2.2 i hi).2.1, (h.2.2 i hi).2.2]
set_option maxHeartbeats 4000000 in
set_option maxRecDepth 100000 in
theorem c_X5_put (l : Launch) (G : va_G) (E : cEnv) (ia tx z y v : Nat → Nat) (kq : Nat → Nat → Nat) (gp : Int32) (gd : Nat → Int32) (n : Nat) (pi : Nat → Nat) (op hg la : Nat) (tops dpt lst stry srt lin tokA wah fol par_ opn : Nat → Int32) (sett clA setv clV : Nat → Int32) (kn0 kz0 kn1 kz1 kn2 kz2 : Nat) (kl0 kp0 kk0 kl1 kp1 kk1 kl2 kp2 kk2 : Nat → Int32) (oa ta : Nat → Nat) (tl ct ps : Nat → Nat) (sn cb : Nat → Int32) (tk : Nat → Nat → Int32) (a1 a2 : Int32) (ab : ABS) (hab : ClsOk ab n op pi tl ct ps sn tk tops dpt lst stry srt lin tokA wah fol par_ opn sett clA kn0 kz0 kn1 kz1 kn2 kz2 kl0 kp0 kk0 kl1 kp1 kk1 kl2 kp2 kk2) (sz : Nat) : Met l yX5_put wsX5_put ({ frames := 5, cells := 0, slots := 0, locals := 116 }) (va_Pc [.ref (ia 0), .int a1, .int a2] (PW G E (((iaW E ia tx z y v kq gp gd) ++ (txW E tx n (slot oa pi)) ++ (neW E z op hg la tops dpt lst stry srt lin tokA wah fol par_ opn) ++ (lyW E y sett clA) ++ (lyW E v setv clV) ++ (pkW E (kq 0) kn0 kz0 kl0 kp0 kk0) ++ (pkW E (kq 1) kn1 kz1 kl1 kp1 kk1) ++ (pkW E (kq 2) kn2 kz2 kl2 kp2 kk2)) ++ poW E oa ta tl ct ps sn cb tk) sz)) (va_Qi (fun (r : Int32) (u : (Nat) × (Nat) × (Nat) × (Nat) × (Nat → Nat) × (Nat → Nat) × (Nat → Nat) × (Nat → Nat) × (Nat → Int32) × (Nat → Int32) × (Nat → Nat → Int32) × (Nat → Int32) × (Nat → Int32) × (Nat → Int32) × (Nat → Int32) × (Nat → Int32) × (Nat → Int32) × (Nat → Int32) × (Nat → Int32) × (Nat → Int32) × (Nat → Int32) × (Nat → Int32) × (Nat → Int32)) => r = (fPut ab a1 a2).1 ∧ ClsOk ((fPut ab a1 a2).2) u.1 u.2.1 u.2.2.2.2.1 u.2.2.2.2.2.1 u.2.2.2.2.2.2.1 u.2.2.2.2.2.2.2.1 u.2.2.2.2.2.2.2.2.1 u.2.2.2.2.2.2.2.2.2.2.1 u.2.2.2.2.2.2.2.2.2.2.2.1 u.2.2.2.2.2.2.2.2.2.2.2.2.1 u.2.2.2.2.2.2.2.2.2.2.2.2.2.1 u.2.2.2.2.2.2.2.2.2.2.2.2.2.2.1 u.2.2.2.2.2.2.2.2.2.2.2.2.2.2.2.1 u.2.2.2.2.2.2.2.2.2.2.2.2.2.2.2.2.1 u.2.2.2.2.2.2.2.2.2.2.2.2.2.2.2.2.2.1 u.2.2.2.2.2.2.2.2.2.2.2.2.2.2.2.2.2.2.1 u.2.2.2.2.2.2.2.2.2.2.2.2.2.2.2.2.2.2.2.1 u.2.2.2.2.2.2.2.2.2.2.2.2.2.2.2.2.2.2.2.2.1 u.2.2.2.2.2.2.2.2.2.2.2.2.2.2.2.2.2.2.2.2.2.1 sett u.2.2.2.2.2.2.2.2.2.2.2.2.2.2.2.2.2.2.2.2.2.2 kn0 kz0 kn1 kz1 kn2 kz2 kl0 kp0 kk0 kl1 kp1 kk1 kl2 kp2 kk2) (fun (u : (Nat) × (Nat) × (Nat) × (Nat) × (Nat → Nat) × (Nat → Nat) × (Nat → Nat) × (Nat → Nat) × (Nat → Int32) × (Nat → Int32) × (Nat → Nat → Int32) × (Nat → Int32) × (Nat → Int32) × (Nat → Int32) × (Nat → Int32) × (Nat → Int32) × (Nat → Int32) × (Nat → Int32) × (Nat → Int32) × (Nat → Int32) × (Nat → Int32) × (Nat → Int32) × (Nat → Int32)) tQ => va_P G vwCl (((iaW E ia tx z y v kq gp gd) ++ (txW E tx u.1 (slot oa u.2.2.2.2.1)) ++ (neW E z u.2.1 u.2.2.1 u.2.2.2.1 u.2.2.2.2.2.2.2.2.2.2.2.1 u.2.2.2.2.2.2.2.2.2.2.2.2.1 u.2.2.2.2.2.2.2.2.2.2.2.2.2.1 u.2.2.2.2.2.2.2.2.2.2.2.2.2.2.1 u.2.2.2.2.2.2.2.2.2.2.2.2.2.2.2.1 u.2.2.2.2.2.2.2.2.2.2.2.2.2.2.2.2.1 u.2.2.2.2.2.2.2.2.2.2.2.2.2.2.2.2.2.1 u.2.2.2.2.2.2.2.2.2.2.2.2.2.2.2.2.2.2.1 u.2.2.2.2.2.2.2.2.2.2.2.2.2.2.2.2.2.2.2.1 u.2.2.2.2.2.2.2.2.2.2.2.2.2.2.2.2.2.2.2.2.1 u.2.2.2.2.2.2.2.2.2.2.2.2.2.2.2.2.2.2.2.2.2.1) ++ (lyW E y sett u.2.2.2.2.2.2.2.2.2.2.2.2.2.2.2.2.2.2.2.2.2.2) ++ (lyW E v setv clV) ++ (pkW E (kq 0) kn0 kz0 kl0 kp0 kk0) ++ (pkW E (kq 1) kn1 kz1 kl1 kp1 kk1) ++ (pkW E (kq 2) kn2 kz2 kl2 kp2 kk2)) ++ poW E oa ta u.2.2.2.2.2.1 u.2.2.2.2.2.2.1 u.2.2.2.2.2.2.2.1 u.2.2.2.2.2.2.2.2.1 u.2.2.2.2.2.2.2.2.2.1 u.2.2.2.2.2.2.2.2.2.2.1) tQ.heap) (va_A (((iaW E ia tx z y v kq gp gd) ++ (txW E tx n (slot oa pi)) ++ (neW E z op hg la tops dpt lst stry srt lin tokA wah fol par_ opn) ++ (lyW E y sett clA) ++ (lyW E v setv clV) ++ (pkW E (kq 0) kn0 kz0 kl0 kp0 kk0) ++ (pkW E (kq 1) kn1 kz1 kl1 kp1 kk1) ++ (pkW E (kq 2) kn2 kz2 kl2 kp2 kk2)) ++ poW E oa ta tl ct ps sn cb tk) sz)) 0 0 (va_A (((iaW E ia tx z y v kq gp gd) ++ (txW E tx n (slot oa pi)) ++ (neW E z op hg la tops dpt lst stry srt lin tokA wah fol par_ opn) ++ (lyW E y sett clA) ++ (lyW E v setv clV) ++ (pkW E (kq 0) kn0 kz0 kl0 kp0 kk0) ++ (pkW E (kq 1) kn1 kz1 kl1 kp1 kk1) ++ (pkW E (kq 2) kn2 kz2 kl2 kp2 kk2)) ++ poW E oa ta tl ct ps sn cb tk) sz) := by
  refine Met.ofW (cc := cX5_put) (maxL := 3) (ret := (some .int)) (by decide) rfl ?_
  intro p e s m args below meth c s₁ B hml hv
  obtain ⟨rfl, hsz, hP, hK, hD0, hZ⟩ := hv
  have hx := B.exec
  have hb := B.bytes
  have hr := B.returns
  have hts := atoms_spec (ws := wsX5_put) B.pre
  have hown : s.vm.findClass RX5 = some m.cls := findClass_of_methodNamed B.named
  have hlocks := B.notSynchronized
  have hin4 : ∀ w ∈ u_ws RX4 TX4 2, w ∈ wsX5_put := mem_pl [136, 137] (by rfl)
  have hin5 : ∀ w ∈ u_ws RX5 TX5 7, w ∈ wsX5_put := mem_pl [129, 130, 131, 132, 133, 134, 135] (by rfl)
  subst hsz
  have hD := hD0.self (sz := s.heap.size)
  generalize hAe : va_A (((iaW E ia tx z y v kq gp gd) ++ (txW E tx n (slot oa pi)) ++ (neW E z op hg la tops dpt lst stry srt lin tokA wah fol par_ opn) ++ (lyW E y sett clA) ++ (lyW E v setv clV) ++ (pkW E (kq 0) kn0 kz0 kl0 kp0 kk0) ++ (pkW E (kq 1) kn1 kz1 kl1 kp1 kk1) ++ (pkW E (kq 2) kn2 kz2 kl2 kp2 kk2)) ++ poW E oa ta tl ct ps sn cb tk) s.heap.size = A at hD hZ ⊢
  have hA : ∀ q : Nat, s.heap.size ≤ q → A q := fun q h => by rw [← hAe]; exact Or.inr h
  have hS : va_S A s.heap s.heap [] := va_S.rf
  have hl := lv_entry ([.ref (ia 0), .int a1, .int a2]) (n := 3) (Nat.le_of_ble_eq_true rfl)
  rw [lg_entry_eq]
  generalize (lg_sl ([.ref (ia 0), .int a1, .int a2]) ++ List.replicate (3 - (lg_sl ([.ref (ia 0), .int a1, .int a2])).length) Slot.unset).toArray = ls at hl ⊢
  have hl : lv_has ls 3 [(0, .ref (ia 0)), (1, .int a1), (2, .int a2)] := hl
  obtain ⟨hN, hok, hop, hPL, hSN, hpp, hCN, hsg, hcl, hk0, hk1, hk2⟩ := id hab
  have hn : n ≤ 20 := by rw [hN]; exact hok.1
  have hrn : ∀ j, j < n → aR ab j < 1000000000 := fun j hj => (hok.2.1 j (by omega)).1
  have hpi : ∀ i, i < 20 → pi i < 20 := fun i hi => (hpp i hi).1
  have hwN := wfN_all (row := aR ab) (aN ab) (fun j hj => hrn j (by omega))
  have hob : nO (aNest ab) ≤ 180 := Nat.le_trans hwN.2.1 (by omega)
  have hCn : CN (nAll (aR ab) n) n tops dpt lst stry srt lin tokA wah fol par_ opn := by rw [hN] at hCN ⊢; exact hCN
  have hLN : LN (nF (aNest ab)) (nO (aNest ab)) srt lin wah fol := hCN.ln (by omega) (fun j hj => hrn j (by omega))
  by_cases hx1 : ixP a1 (aN ab + 1)
  · obtain ⟨j, hj, rfl⟩ := (ixP_iff (by omega)).mp hx1
    refine lv_iload_n hx hb dX5_put_0 rfl (lv_at hl 1 rfl) ?_
    refine n_if_lt (a := j) (tgt := 15) hx hb (by omega) dX5_put_1 (by decide) ?_
    refine lv_iload_n hx hb dX5_put_4 rfl (lv_at hl 1 rfl) ?_
    refine lv_aload_n hx hb dX5_put_5 rfl (lv_at hl 0 rfl) ?_
    refine va_get (D := G) (ci := 5) (v := .ref (tx 0)) (C := RX5) (T := TX5) (N := 7) hx hb hts hin5 hown hK hP 0 rfl rfl 0 (by decide) (hts (Cond.fieldLink RX5 12 "IndentRules" "text" "LIndentRules$Text;") (List.mem_of_getElem? (i := 1) rfl)) (fun _ h9 => h9) rfl dX5_put_6 ?_
    refine va_get (D := G) (ci := 4) (v := .int (nI n)) (C := RX4) (T := TX4) (N := 2) hx hb hts hin4 hown hK hP 3 rfl rfl 1 (by decide) (hts (Cond.fieldLink RX5 48 "IndentRules$Text" "size" "I") (List.mem_of_getElem? (i := 2) rfl)) (fun _ h9 => h9) rfl dX5_put_9 ?_
    refine n_icmp_le (a := j) (b := n) (tgt := 17) hx hb (by omega) (by omega) dX5_put_12 (by decide) (fun c12 => ?_) (fun c12 => absurd c12 (by omega))
    refine lv_iload_n hx hb dX5_put_17 rfl (lv_at hl 2 rfl) ?_
    refine rs_i (n := 1) (G := G) (E := E) (As := [.int a2]) (rest := []) ⟨hx, hb, hml, hown, hts⟩ hK hZ hS (c_X5_areTokens l G E a2) gX5_put_X5_areTokens rfl rfl rfl (by decide +kernel) ⟨Nat.le_of_ble_eq_true rfl, Nat.le_of_ble_eq_true rfl⟩ (fun k q h => by simp at h) hl.1 rfl rfl (Nat.le_of_ble_eq_true rfl) dX5_put_18 ⟨Nat.zero_le _, Nat.zero_le _⟩ (fun r18 p18 => ?_)
    rcases p18 with ⟨⟨t, ht, hz, rfl⟩, rfl⟩ | ⟨h18, rfl⟩
    · refine n_if_ne (a := 1) (tgt := 27) hx hb (by decide) dX5_put_21 (by decide) (fun c21 => ?_) (fun c21 => absurd c21 (by decide))
      refine lv_aload_n hx hb dX5_put_27 rfl (lv_at hl 0 rfl) ?_
      refine va_get (D := G) (ci := 5) (v := .ref (tx 0)) (C := RX5) (T := TX5) (N := 7) hx hb hts hin5 hown hK hP 0 rfl rfl 0 (by decide) (hts (Cond.fieldLink RX5 12 "IndentRules" "text" "LIndentRules$Text;") (List.mem_of_getElem? (i := 1) rfl)) (fun _ h9 => h9) rfl dX5_put_28 ?_
      refine va_get (D := G) (ci := 4) (v := .int (nI n)) (C := RX4) (T := TX4) (N := 2) hx hb hts hin4 hown hK hP 3 rfl rfl 1 (by decide) (hts (Cond.fieldLink RX5 48 "IndentRules$Text" "size" "I") (List.mem_of_getElem? (i := 2) rfl)) (fun _ h9 => h9) rfl dX5_put_31 ?_
      refine lv_bipush (v := (nI 20)) hx hb dX5_put_34 (by decide) ?_
      refine n_icmp_lt (a := n) (b := 20) (tgt := 42) hx hb (by omega) (by decide) dX5_put_36 (by decide) (fun c36 => ?_) (fun c36 => ?_)
      · refine lv_aload_n hx hb dX5_put_42 rfl (lv_at hl 0 rfl) ?_
        refine wf_v (n := 0) (G := G) (E := E) (As := []) (rest := []) (ci := 5) (q0 := 0) (wn := fun (cb' : Nat → Int32) => ((iaW E ia tx z y v kq gp gd) ++ (txW E tx n (slot oa pi)) ++ (neW E z op hg la tops dpt lst stry srt lin tokA wah fol par_ opn) ++ (lyW E y sett clA) ++ (lyW E v setv clV) ++ (pkW E (kq 0) kn0 kz0 kl0 kp0 kk0) ++ (pkW E (kq 1) kn1 kz1 kl1 kp1 kk1) ++ (pkW E (kq 2) kn2 kz2 kl2 kp2 kk2)) ++ poW E oa ta tl ct ps sn cb' tk) ⟨hx, hb, hml, hown, hts⟩ hK hZ hS hA (fun sz => c_X5_rememberColumns l G E ia tx z y v kq gp gd n pi op hg la tops dpt lst stry srt lin tokA wah fol par_ opn sett clA setv clV kn0 kz0 kn1 kz1 kn2 kz2 kl0 kp0 kk0 kl1 kp1 kk1 kl2 kp2 kk2 oa ta tl ct ps sn cb tk (by first | assumption | omega) (by first | assumption | omega) sz) gX5_put_X5_rememberColumns rfl rfl rfl (by decide +kernel) ⟨Nat.le_of_ble_eq_true rfl, Nat.le_of_ble_eq_true rfl⟩ hP hD (fun _ => po_fstA rfl) rfl rfl hl.1 rfl rfl (Nat.le_of_ble_eq_true rfl) dX5_put_43 ⟨Nat.zero_le _, Nat.zero_le _⟩ (fun u43 H locs p43 hP hD hS => ?_)
        generalize u43 = cb'_43 at p43 hP hD
        try dsimp only at p43 hP hD
        have hP : va_P G vwCl (((iaW E ia tx z y v kq gp gd) ++ (txW E tx n (slot oa pi)) ++ (neW E z op hg la tops dpt lst stry srt lin tokA wah fol par_ opn) ++ (lyW E y sett clA) ++ (lyW E v setv clV) ++ (pkW E (kq 0) kn0 kz0 kl0 kp0 kk0) ++ (pkW E (kq 1) kn1 kz1 kl1 kp1 kk1) ++ (pkW E (kq 2) kn2 kz2 kl2 kp2 kk2)) ++ poW E oa ta tl ct ps sn cb'_43 tk) H := hP
        have hD : va_D A (((iaW E ia tx z y v kq gp gd) ++ (txW E tx n (slot oa pi)) ++ (neW E z op hg la tops dpt lst stry srt lin tokA wah fol par_ opn) ++ (lyW E y sett clA) ++ (lyW E v setv clV) ++ (pkW E (kq 0) kn0 kz0 kl0 kp0 kk0) ++ (pkW E (kq 1) kn1 kz1 kl1 kp1 kk1) ++ (pkW E (kq 2) kn2 kz2 kl2 kp2 kk2)) ++ poW E oa ta tl ct ps sn cb'_43 tk) := hD
        have hcb : ∀ i, i < n → cb'_43 (pi i) = aCol ab i := fun i hi => (p43 i hi).trans (hcl i hi)
        refine lv_aload_n hx hb dX5_put_46 rfl (lv_at hl 0 rfl) ?_
        refine va_get (D := G) (ci := 5) (v := .ref (tx 0)) (C := RX5) (T := TX5) (N := 7) hx hb hts hin5 hown hK hP 0 rfl rfl 0 (by decide) (hts (Cond.fieldLink RX5 12 "IndentRules" "text" "LIndentRules$Text;") (List.mem_of_getElem? (i := 1) rfl)) (fun _ h9 => h9) rfl dX5_put_47 ?_
        refine lv_iload_n hx hb dX5_put_50 rfl (lv_at hl 1 rfl) ?_
        refine lv_iload_n hx hb dX5_put_51 rfl (lv_at hl 2 rfl) ?_
        refine wp_v (n := 2) (G := G) (E := E) (As := [.int (nI j), .int (nI t)]) (rest := []) (ci := 4) (q0 := 3) (X := (iaW E ia tx z y v kq gp gd) ++ (txW E tx n (slot oa pi)) ++ (neW E z op hg la tops dpt lst stry srt lin tokA wah fol par_ opn) ++ (lyW E y sett clA) ++ (lyW E v setv clV) ++ (pkW E (kq 0) kn0 kz0 kl0 kp0 kk0) ++ (pkW E (kq 1) kn1 kz1 kl1 kp1 kk1) ++ (pkW E (kq 2) kn2 kz2 kl2 kp2 kk2)) (pl := poW E oa ta tl ct ps sn cb'_43 tk) (cx := txW E tx n (slot oa pi)) (wn := fun (u : (Nat → Nat) × (Nat → Nat) × (Nat → Nat) × (Nat → Nat) × (Nat → Int32) × (Nat → Nat → Int32)) => txW E tx (n + 1) (slot oa u.1)) (pn := fun (u : (Nat → Nat) × (Nat → Nat) × (Nat → Nat) × (Nat → Nat) × (Nat → Int32) × (Nat → Nat → Int32)) => poW E oa ta u.2.1 u.2.2.1 u.2.2.2.1 u.2.2.2.2.1 cb'_43 u.2.2.2.2.2) ⟨hx, hb, hml, hown, hts⟩ hK hZ hS hA (fun sz => c_X4_insert l G E tx n pi oa ta tl ct ps sn cb'_43 tk j t (aR ab) (aS ab) (by omega) (by omega) (by first | assumption | omega) hPL hSN hpp sz) gX5_put_X4_insert rfl rfl rfl (by decide +kernel) ⟨Nat.le_of_ble_eq_true rfl, Nat.le_of_ble_eq_true rfl⟩ hP hD [3, 4] rfl (by decide) (fun _ => rfl) (fun _ => po_fst) rfl rfl hl.1 rfl rfl (Nat.le_of_ble_eq_true rfl) dX5_put_52 ⟨Nat.zero_le _, Nat.zero_le _⟩ (fun u52 H locs p52 hP hD hS => ?_)
        obtain ⟨pi'_52, tl'_52, ct'_52, ps'_52, sn'_52, tk'_52⟩ := u52
        try dsimp only at p52 hP hD
        have hP : va_P G vwCl (((iaW E ia tx z y v kq gp gd) ++ (txW E tx (n + 1) (slot oa pi'_52)) ++ (neW E z op hg la tops dpt lst stry srt lin tokA wah fol par_ opn) ++ (lyW E y sett clA) ++ (lyW E v setv clV) ++ (pkW E (kq 0) kn0 kz0 kl0 kp0 kk0) ++ (pkW E (kq 1) kn1 kz1 kl1 kp1 kk1) ++ (pkW E (kq 2) kn2 kz2 kl2 kp2 kk2)) ++ poW E oa ta tl'_52 ct'_52 ps'_52 sn'_52 cb'_43 tk'_52) H := hP
        have hD : va_D A (((iaW E ia tx z y v kq gp gd) ++ (txW E tx (n + 1) (slot oa pi'_52)) ++ (neW E z op hg la tops dpt lst stry srt lin tokA wah fol par_ opn) ++ (lyW E y sett clA) ++ (lyW E v setv clV) ++ (pkW E (kq 0) kn0 kz0 kl0 kp0 kk0) ++ (pkW E (kq 1) kn1 kz1 kl1 kp1 kk1) ++ (pkW E (kq 2) kn2 kz2 kl2 kp2 kk2)) ++ poW E oa ta tl'_52 ct'_52 ps'_52 sn'_52 cb'_43 tk'_52) := hD
        have hpp2 : permP pi'_52 := by rw [p52.1]; exact piI_perm hpp (by omega) (by omega)
        have hrn2 := insF_all (P := fun a3 => a3 < 1000000000 ∧ nzb a3 = true) (j := j) (v := t) (n := n) (f := aR ab) (fun k hk => hok.2.1 k (by omega)) ⟨ht, hz⟩ (by omega)
        refine lv_aload_n hx hb dX5_put_55 rfl (lv_at hl 0 rfl) ?_
        refine wf_v (n := 0) (G := G) (E := E) (As := []) (rest := []) (ci := 5) (q0 := 0) (wn := fun (u : (Nat → Int32) × (Nat → Int32) × (Nat → Int32) × (Nat → Int32) × (Nat → Int32) × (Nat → Int32) × (Nat → Int32) × (Nat → Int32) × (Nat → Int32) × (Nat → Int32) × (Nat → Int32) × (Nat → Int32)) => ((iaW E ia tx z y v kq gp gd) ++ (txW E tx (n + 1) (slot oa pi'_52)) ++ (neW E z (nO (nAll (insF (aR ab) j t) (n + 1))) (nD (nAll (insF (aR ab) j t) (n + 1))) (nL (nAll (insF (aR ab) j t) (n + 1))) u.1 u.2.1 u.2.2.1 u.2.2.2.1 u.2.2.2.2.1 u.2.2.2.2.2.1 u.2.2.2.2.2.2.1 u.2.2.2.2.2.2.2.1 u.2.2.2.2.2.2.2.2.1 u.2.2.2.2.2.2.2.2.2.1 u.2.2.2.2.2.2.2.2.2.2.1) ++ (lyW E y sett u.2.2.2.2.2.2.2.2.2.2.2) ++ (lyW E v setv clV) ++ (pkW E (kq 0) kn0 kz0 kl0 kp0 kk0) ++ (pkW E (kq 1) kn1 kz1 kl1 kp1 kk1) ++ (pkW E (kq 2) kn2 kz2 kl2 kp2 kk2)) ++ poW E oa ta tl'_52 ct'_52 ps'_52 sn'_52 cb'_43 tk'_52) ⟨hx, hb, hml, hown, hts⟩ hK hZ hS hA (fun sz => c_X5_readLines l G E ia tx z y v kq gp gd (n + 1) pi'_52 op hg la tops dpt lst stry srt lin tokA wah fol par_ opn sett clA setv clV kn0 kz0 kn1 kz1 kn2 kz2 kl0 kp0 kk0 kl1 kp1 kk1 kl2 kp2 kk2 oa ta tl'_52 ct'_52 ps'_52 sn'_52 cb'_43 tk'_52 (insF (aR ab) j t) (by omega) (fun k hk => (hrn2 k hk).1) p52.2.1 sz) gX5_put_X5_readLines rfl rfl rfl (by decide +kernel) ⟨Nat.le_of_ble_eq_true rfl, Nat.le_of_ble_eq_true rfl⟩ hP hD (fun _ => po_fstA rfl) rfl rfl hl.1 rfl rfl (Nat.le_of_ble_eq_true rfl) dX5_put_56 ⟨Nat.zero_le _, Nat.zero_le _⟩ (fun u56 H locs p56 hP hD hS => ?_)
        obtain ⟨tops'_56, dpt'_56, lst'_56, stry'_56, srt'_56, lin'_56, tokA'_56, wah'_56, fol'_56, par_'_56, opn'_56, clA'_56⟩ := u56
        try dsimp only at p56 hP hD
        have hP : va_P G vwCl (((iaW E ia tx z y v kq gp gd) ++ (txW E tx (n + 1) (slot oa pi'_52)) ++ (neW E z (nO (nAll (insF (aR ab) j t) (n + 1))) (nD (nAll (insF (aR ab) j t) (n + 1))) (nL (nAll (insF (aR ab) j t) (n + 1))) tops'_56 dpt'_56 lst'_56 stry'_56 srt'_56 lin'_56 tokA'_56 wah'_56 fol'_56 par_'_56 opn'_56) ++ (lyW E y sett clA'_56) ++ (lyW E v setv clV) ++ (pkW E (kq 0) kn0 kz0 kl0 kp0 kk0) ++ (pkW E (kq 1) kn1 kz1 kl1 kp1 kk1) ++ (pkW E (kq 2) kn2 kz2 kl2 kp2 kk2)) ++ poW E oa ta tl'_52 ct'_52 ps'_52 sn'_52 cb'_43 tk'_52) H := hP
        have hD : va_D A (((iaW E ia tx z y v kq gp gd) ++ (txW E tx (n + 1) (slot oa pi'_52)) ++ (neW E z (nO (nAll (insF (aR ab) j t) (n + 1))) (nD (nAll (insF (aR ab) j t) (n + 1))) (nL (nAll (insF (aR ab) j t) (n + 1))) tops'_56 dpt'_56 lst'_56 stry'_56 srt'_56 lin'_56 tokA'_56 wah'_56 fol'_56 par_'_56 opn'_56) ++ (lyW E y sett clA'_56) ++ (lyW E v setv clV) ++ (pkW E (kq 0) kn0 kz0 kl0 kp0 kk0) ++ (pkW E (kq 1) kn1 kz1 kl1 kp1 kk1) ++ (pkW E (kq 2) kn2 kz2 kl2 kp2 kk2)) ++ poW E oa ta tl'_52 ct'_52 ps'_52 sn'_52 cb'_43 tk'_52) := hD
        refine lv_aload_n hx hb dX5_put_59 rfl (lv_at hl 0 rfl) ?_
        refine lv_iload_n hx hb dX5_put_60 rfl (lv_at hl 1 rfl) ?_
        refine rv_i (n := 1) (G := G) (E := E) (As := [.int (nI j)]) (rest := []) (ci := 5) (q0 := 0) ⟨hx, hb, hml, hown, hts⟩ hK hZ hS (c_X5_movedBut l G E ia tx z y v kq gp gd (n + 1) pi'_52 (nO (nAll (insF (aR ab) j t) (n + 1))) (nD (nAll (insF (aR ab) j t) (n + 1))) (nL (nAll (insF (aR ab) j t) (n + 1))) tops'_56 dpt'_56 lst'_56 stry'_56 srt'_56 lin'_56 tokA'_56 wah'_56 fol'_56 par_'_56 opn'_56 sett clA'_56 setv clV kn0 kz0 kn1 kz1 kn2 kz2 kl0 kp0 kk0 kl1 kp1 kk1 kl2 kp2 kk2 oa ta tl'_52 ct'_52 ps'_52 sn'_52 cb'_43 tk'_52 (nI j) (by omega) hpp2) gX5_put_X5_movedBut rfl rfl rfl (by decide +kernel) ⟨Nat.le_of_ble_eq_true rfl, Nat.le_of_ble_eq_true rfl⟩ hP rfl rfl hl.1 rfl rfl (Nat.le_of_ble_eq_true rfl) dX5_put_61 ⟨Nat.zero_le _, Nat.zero_le _⟩ (fun r61 p61 => ?_)
        have hans : r61 = nI (mvc (nI j) (cols (aG ab) (insF (aR ab) j t) (aN ab + 1)) (insF (aCol ab) j (nI 0)) (aN ab + 1)) := by
          rw [p61, ← hN]
          exact congrArg nI (mvc_congr (fun k hk hkj => ⟨(p56.2 k hk).trans (congrFun (cols_congr hsg _ _) k), by rw [p52.1]; exact was_ins hcb (by omega) hk (fun q => hkj (by rw [q]))⟩))
        exact W.iret (v := r61) hx hb hr (fun tZ htZ hWZ => ⟨⟨_, ((n + 1), nO (nAll (insF (aR ab) j t) (n + 1)), nD (nAll (insF (aR ab) j t) (n + 1)), nL (nAll (insF (aR ab) j t) (n + 1)), pi'_52, tl'_52, ct'_52, ps'_52, sn'_52, cb'_43, tk'_52, tops'_56, dpt'_56, lst'_56, stry'_56, srt'_56, lin'_56, tokA'_56, wah'_56, fol'_56, par_'_56, opn'_56, clA'_56), rfl, by rw [fPut_ok (A := ab) (by omega) (by omega) ht hz]; exact ⟨hans, cls_lines hok (by rw [hN]) rfl (by omega) hrn2 p52.2.1 p52.2.2 hpp2 p56.1 hsg p56.2 hk0 hk1 hk2⟩, by show va_P G vwCl _ tZ.heap; rw [htZ]; exact hP⟩, hS.F htZ⟩) hS.2.2 dX5_put_64
      · refine lv_bipush (v := (-4)) hx hb dX5_put_39 (by decide) ?_
        exact W.iret (v := (-4)) hx hb hr (fun tZ htZ hWZ => ⟨⟨_, (n, op, hg, la, pi, tl, ct, ps, sn, cb, tk, tops, dpt, lst, stry, srt, lin, tokA, wah, fol, par_, opn, clA), rfl, by rw [fPut_4 hx1 ⟨t, ht, hz, rfl⟩ (by omega)]; exact ⟨rfl, hab⟩, by show va_P G vwCl _ tZ.heap; rw [htZ]; exact hP⟩, hS.F htZ⟩) hS.2.2 dX5_put_41
    · refine n_if_ne (a := 0) (tgt := 27) hx hb (by decide) dX5_put_21 (by decide) (fun c21 => absurd c21 (by decide)) (fun c21 => ?_)
      refine lv_bipush (v := (-2)) hx hb dX5_put_24 (by decide) ?_
      exact W.iret (v := (-2)) hx hb hr (fun tZ htZ hWZ => ⟨⟨_, (n, op, hg, la, pi, tl, ct, ps, sn, cb, tk, tops, dpt, lst, stry, srt, lin, tokA, wah, fol, par_, opn, clA), rfl, by rw [fPut_2 hx1 h18]; exact ⟨rfl, hab⟩, by show va_P G vwCl _ tZ.heap; rw [htZ]; exact hP⟩, hS.F htZ⟩) hS.2.2 dX5_put_26
  · have hx2 : ¬ ixP a1 (n + 1) := by rw [hN]; exact hx1
    refine lv_iload_n hx hb dX5_put_0 rfl (lv_at hl 1 rfl) ?_
    refine lv_if_lt (x := a1) (tgt := 15) hx hb dX5_put_1 (by decide) (fun c1 => ?_) (fun c1 => ?_)
    · refine lv_iconst (v := (-1)) hx hb dX5_put_15 (by decide) ?_
      exact W.iret (v := (-1)) hx hb hr (fun tZ htZ hWZ => ⟨⟨_, (n, op, hg, la, pi, tl, ct, ps, sn, cb, tk, tops, dpt, lst, stry, srt, lin, tokA, wah, fol, par_, opn, clA), rfl, by rw [fPut_1 hx1]; exact ⟨rfl, hab⟩, by show va_P G vwCl _ tZ.heap; rw [htZ]; exact hP⟩, hS.F htZ⟩) hS.2.2 dX5_put_16
    · refine lv_iload_n hx hb dX5_put_4 rfl (lv_at hl 1 rfl) ?_
      refine lv_aload_n hx hb dX5_put_5 rfl (lv_at hl 0 rfl) ?_
      refine va_get (D := G) (ci := 5) (v := .ref (tx 0)) (C := RX5) (T := TX5) (N := 7) hx hb hts hin5 hown hK hP 0 rfl rfl 0 (by decide) (hts (Cond.fieldLink RX5 12 "IndentRules" "text" "LIndentRules$Text;") (List.mem_of_getElem? (i := 1) rfl)) (fun _ h9 => h9) rfl dX5_put_6 ?_
      refine va_get (D := G) (ci := 4) (v := .int (nI n)) (C := RX4) (T := TX4) (N := 2) hx hb hts hin4 hown hK hP 3 rfl rfl 1 (by decide) (hts (Cond.fieldLink RX5 48 "IndentRules$Text" "size" "I") (List.mem_of_getElem? (i := 2) rfl)) (fun _ h9 => h9) rfl dX5_put_9 ?_
      refine lv_icmp_le (x := a1) (y := (nI n)) (tgt := 17) hx hb dX5_put_12 (by decide) (fun c12 => absurd ((w_rgx (n := n) (by omega)).mp ⟨(by rw [nI_0]; exact Int32.not_lt.mp c1), c12⟩) hx2) (fun c12 => ?_)
      refine lv_iconst (v := (-1)) hx hb dX5_put_15 (by decide) ?_
      exact W.iret (v := (-1)) hx hb hr (fun tZ htZ hWZ => ⟨⟨_, (n, op, hg, la, pi, tl, ct, ps, sn, cb, tk, tops, dpt, lst, stry, srt, lin, tokA, wah, fol, par_, opn, clA), rfl, by rw [fPut_1 hx1]; exact ⟨rfl, hab⟩, by show va_P G vwCl _ tZ.heap; rw [htZ]; exact hP⟩, hS.F htZ⟩) hS.2.2 dX5_put_16

set_option maxHeartbeats 4000000 in
set_option maxRecDepth 100000 in
theorem c_X5_change (l : Launch) (G : va_G) (E : cEnv) (ia tx z y v : Nat → Nat) (kq : Nat → Nat → Nat) (gp : Int32) (gd : Nat → Int32) (n : Nat) (pi : Nat → Nat) (op hg la : Nat) (tops dpt lst stry srt lin tokA wah fol par_ opn : Nat → Int32) (sett clA setv clV : Nat → Int32) (kn0 kz0 kn1 kz1 kn2 kz2 : Nat) (kl0 kp0 kk0 kl1 kp1 kk1 kl2 kp2 kk2 : Nat → Int32) (oa ta : Nat → Nat) (tl ct ps : Nat → Nat) (sn cb : Nat → Int32) (tk : Nat → Nat → Int32) (a1 a2 : Int32) (ab : ABS) (hab : ClsOk ab n op pi tl ct ps sn tk tops dpt lst stry srt lin tokA wah fol par_ opn sett clA kn0 kz0 kn1 kz1 kn2 kz2 kl0 kp0 kk0 kl1 kp1 kk1 kl2 kp2 kk2) (sz : Nat) : Met l yX5_change wsX5_change ({ frames := 5, cells := 0, slots := 0, locals := 116 }) (va_Pc [.ref (ia 0), .int a1, .int a2] (PW G E (((iaW E ia tx z y v kq gp gd) ++ (txW E tx n (slot oa pi)) ++ (neW E z op hg la tops dpt lst stry srt lin tokA wah fol par_ opn) ++ (lyW E y sett clA) ++ (lyW E v setv clV) ++ (pkW E (kq 0) kn0 kz0 kl0 kp0 kk0) ++ (pkW E (kq 1) kn1 kz1 kl1 kp1 kk1) ++ (pkW E (kq 2) kn2 kz2 kl2 kp2 kk2)) ++ poW E oa ta tl ct ps sn cb tk) sz)) (va_Qi (fun (r : Int32) (u : (Nat) × (Nat) × (Nat) × (Nat → Nat) × (Nat → Nat) × (Nat → Nat) × (Nat → Int32) × (Nat → Nat → Int32) × (Nat → Int32) × (Nat → Int32) × (Nat → Int32) × (Nat → Int32) × (Nat → Int32) × (Nat → Int32) × (Nat → Int32) × (Nat → Int32) × (Nat → Int32) × (Nat → Int32) × (Nat → Int32) × (Nat → Int32)) => r = (fChange ab a1 a2).1 ∧ ClsOk ((fChange ab a1 a2).2) n u.1 pi u.2.2.2.1 u.2.2.2.2.1 u.2.2.2.2.2.1 sn u.2.2.2.2.2.2.2.1 u.2.2.2.2.2.2.2.2.1 u.2.2.2.2.2.2.2.2.2.1 u.2.2.2.2.2.2.2.2.2.2.1 u.2.2.2.2.2.2.2.2.2.2.2.1 u.2.2.2.2.2.2.2.2.2.2.2.2.1 u.2.2.2.2.2.2.2.2.2.2.2.2.2.1 u.2.2.2.2.2.2.2.2.2.2.2.2.2.2.1 u.2.2.2.2.2.2.2.2.2.2.2.2.2.2.2.1 u.2.2.2.2.2.2.2.2.2.2.2.2.2.2.2.2.1 u.2.2.2.2.2.2.2.2.2.2.2.2.2.2.2.2.2.1 u.2.2.2.2.2.2.2.2.2.2.2.2.2.2.2.2.2.2.1 sett u.2.2.2.2.2.2.2.2.2.2.2.2.2.2.2.2.2.2.2 kn0 kz0 kn1 kz1 kn2 kz2 kl0 kp0 kk0 kl1 kp1 kk1 kl2 kp2 kk2) (fun (u : (Nat) × (Nat) × (Nat) × (Nat → Nat) × (Nat → Nat) × (Nat → Nat) × (Nat → Int32) × (Nat → Nat → Int32) × (Nat → Int32) × (Nat → Int32) × (Nat → Int32) × (Nat → Int32) × (Nat → Int32) × (Nat → Int32) × (Nat → Int32) × (Nat → Int32) × (Nat → Int32) × (Nat → Int32) × (Nat → Int32) × (Nat → Int32)) tQ => va_P G vwCl (((iaW E ia tx z y v kq gp gd) ++ (txW E tx n (slot oa pi)) ++ (neW E z u.1 u.2.1 u.2.2.1 u.2.2.2.2.2.2.2.2.1 u.2.2.2.2.2.2.2.2.2.1 u.2.2.2.2.2.2.2.2.2.2.1 u.2.2.2.2.2.2.2.2.2.2.2.1 u.2.2.2.2.2.2.2.2.2.2.2.2.1 u.2.2.2.2.2.2.2.2.2.2.2.2.2.1 u.2.2.2.2.2.2.2.2.2.2.2.2.2.2.1 u.2.2.2.2.2.2.2.2.2.2.2.2.2.2.2.1 u.2.2.2.2.2.2.2.2.2.2.2.2.2.2.2.2.1 u.2.2.2.2.2.2.2.2.2.2.2.2.2.2.2.2.2.1 u.2.2.2.2.2.2.2.2.2.2.2.2.2.2.2.2.2.2.1) ++ (lyW E y sett u.2.2.2.2.2.2.2.2.2.2.2.2.2.2.2.2.2.2.2) ++ (lyW E v setv clV) ++ (pkW E (kq 0) kn0 kz0 kl0 kp0 kk0) ++ (pkW E (kq 1) kn1 kz1 kl1 kp1 kk1) ++ (pkW E (kq 2) kn2 kz2 kl2 kp2 kk2)) ++ poW E oa ta u.2.2.2.1 u.2.2.2.2.1 u.2.2.2.2.2.1 sn u.2.2.2.2.2.2.1 u.2.2.2.2.2.2.2.1) tQ.heap) (va_A (((iaW E ia tx z y v kq gp gd) ++ (txW E tx n (slot oa pi)) ++ (neW E z op hg la tops dpt lst stry srt lin tokA wah fol par_ opn) ++ (lyW E y sett clA) ++ (lyW E v setv clV) ++ (pkW E (kq 0) kn0 kz0 kl0 kp0 kk0) ++ (pkW E (kq 1) kn1 kz1 kl1 kp1 kk1) ++ (pkW E (kq 2) kn2 kz2 kl2 kp2 kk2)) ++ poW E oa ta tl ct ps sn cb tk) sz)) 0 0 (va_A (((iaW E ia tx z y v kq gp gd) ++ (txW E tx n (slot oa pi)) ++ (neW E z op hg la tops dpt lst stry srt lin tokA wah fol par_ opn) ++ (lyW E y sett clA) ++ (lyW E v setv clV) ++ (pkW E (kq 0) kn0 kz0 kl0 kp0 kk0) ++ (pkW E (kq 1) kn1 kz1 kl1 kp1 kk1) ++ (pkW E (kq 2) kn2 kz2 kl2 kp2 kk2)) ++ poW E oa ta tl ct ps sn cb tk) sz) := by
  refine Met.ofW (cc := cX5_change) (maxL := 3) (ret := (some .int)) (by decide) rfl ?_
  intro p e s m args below meth c s₁ B hml hv
  obtain ⟨rfl, hsz, hP, hK, hD0, hZ⟩ := hv
  have hx := B.exec
  have hb := B.bytes
  have hr := B.returns
  have hts := atoms_spec (ws := wsX5_change) B.pre
  have hown : s.vm.findClass RX5 = some m.cls := findClass_of_methodNamed B.named
  have hlocks := B.notSynchronized
  have hin4 : ∀ w ∈ u_ws RX4 TX4 2, w ∈ wsX5_change := mem_pl [132, 133] (by rfl)
  have hin5 : ∀ w ∈ u_ws RX5 TX5 7, w ∈ wsX5_change := mem_pl [125, 126, 127, 128, 129, 130, 131] (by rfl)
  subst hsz
  have hD := hD0.self (sz := s.heap.size)
  generalize hAe : va_A (((iaW E ia tx z y v kq gp gd) ++ (txW E tx n (slot oa pi)) ++ (neW E z op hg la tops dpt lst stry srt lin tokA wah fol par_ opn) ++ (lyW E y sett clA) ++ (lyW E v setv clV) ++ (pkW E (kq 0) kn0 kz0 kl0 kp0 kk0) ++ (pkW E (kq 1) kn1 kz1 kl1 kp1 kk1) ++ (pkW E (kq 2) kn2 kz2 kl2 kp2 kk2)) ++ poW E oa ta tl ct ps sn cb tk) s.heap.size = A at hD hZ ⊢
  have hA : ∀ q : Nat, s.heap.size ≤ q → A q := fun q h => by rw [← hAe]; exact Or.inr h
  have hS : va_S A s.heap s.heap [] := va_S.rf
  have hl := lv_entry ([.ref (ia 0), .int a1, .int a2]) (n := 3) (Nat.le_of_ble_eq_true rfl)
  rw [lg_entry_eq]
  generalize (lg_sl ([.ref (ia 0), .int a1, .int a2]) ++ List.replicate (3 - (lg_sl ([.ref (ia 0), .int a1, .int a2])).length) Slot.unset).toArray = ls at hl ⊢
  have hl : lv_has ls 3 [(0, .ref (ia 0)), (1, .int a1), (2, .int a2)] := hl
  obtain ⟨hN, hok, hop, hPL, hSN, hpp, hCN, hsg, hcl, hk0, hk1, hk2⟩ := id hab
  have hn : n ≤ 20 := by rw [hN]; exact hok.1
  have hrn : ∀ j, j < n → aR ab j < 1000000000 := fun j hj => (hok.2.1 j (by omega)).1
  have hpi : ∀ i, i < 20 → pi i < 20 := fun i hi => (hpp i hi).1
  have hwN := wfN_all (row := aR ab) (aN ab) (fun j hj => hrn j (by omega))
  have hob : nO (aNest ab) ≤ 180 := Nat.le_trans hwN.2.1 (by omega)
  have hCn : CN (nAll (aR ab) n) n tops dpt lst stry srt lin tokA wah fol par_ opn := by rw [hN] at hCN ⊢; exact hCN
  have hLN : LN (nF (aNest ab)) (nO (aNest ab)) srt lin wah fol := hCN.ln (by omega) (fun j hj => hrn j (by omega))
  refine lv_aload_n hx hb dX5_change_0 rfl (lv_at hl 0 rfl) ?_
  refine lv_iload_n hx hb dX5_change_1 rfl (lv_at hl 1 rfl) ?_
  refine rv_i (n := 1) (G := G) (E := E) (As := [.int a1]) (rest := []) (ci := 5) (q0 := 0) ⟨hx, hb, hml, hown, hts⟩ hK hZ hS (c_X5_isLine l G E ia tx z y v kq gp gd n pi op hg la tops dpt lst stry srt lin tokA wah fol par_ opn sett clA setv clV kn0 kz0 kn1 kz1 kn2 kz2 kl0 kp0 kk0 kl1 kp1 kk1 kl2 kp2 kk2 oa ta tl ct ps sn cb tk a1 (by first | assumption | omega)) gX5_change_X5_isLine rfl rfl rfl (by decide +kernel) ⟨Nat.le_of_ble_eq_true rfl, Nat.le_of_ble_eq_true rfl⟩ hP rfl rfl hl.1 rfl rfl (Nat.le_of_ble_eq_true rfl) dX5_change_2 ⟨Nat.zero_le _, Nat.zero_le _⟩ (fun r2 p2 => ?_)
  rcases p2 with ⟨⟨j, hj, rfl⟩, rfl⟩ | ⟨h2, rfl⟩
  · refine n_if_ne (a := 1) (tgt := 10) hx hb (by decide) dX5_change_5 (by decide) (fun c5 => ?_) (fun c5 => absurd c5 (by decide))
    refine lv_iload_n hx hb dX5_change_10 rfl (lv_at hl 2 rfl) ?_
    refine rs_i (n := 1) (G := G) (E := E) (As := [.int a2]) (rest := []) ⟨hx, hb, hml, hown, hts⟩ hK hZ hS (c_X5_areTokens l G E a2) gX5_change_X5_areTokens rfl rfl rfl (by decide +kernel) ⟨Nat.le_of_ble_eq_true rfl, Nat.le_of_ble_eq_true rfl⟩ (fun k q h => by simp at h) hl.1 rfl rfl (Nat.le_of_ble_eq_true rfl) dX5_change_11 ⟨Nat.zero_le _, Nat.zero_le _⟩ (fun r11 p11 => ?_)
    rcases p11 with ⟨⟨t, ht, hz, rfl⟩, rfl⟩ | ⟨h11, rfl⟩
    · refine n_if_ne (a := 1) (tgt := 20) hx hb (by decide) dX5_change_14 (by decide) (fun c14 => ?_) (fun c14 => absurd c14 (by decide))
      refine lv_aload_n hx hb dX5_change_20 rfl (lv_at hl 0 rfl) ?_
      refine wf_v (n := 0) (G := G) (E := E) (As := []) (rest := []) (ci := 5) (q0 := 0) (wn := fun (cb' : Nat → Int32) => ((iaW E ia tx z y v kq gp gd) ++ (txW E tx n (slot oa pi)) ++ (neW E z op hg la tops dpt lst stry srt lin tokA wah fol par_ opn) ++ (lyW E y sett clA) ++ (lyW E v setv clV) ++ (pkW E (kq 0) kn0 kz0 kl0 kp0 kk0) ++ (pkW E (kq 1) kn1 kz1 kl1 kp1 kk1) ++ (pkW E (kq 2) kn2 kz2 kl2 kp2 kk2)) ++ poW E oa ta tl ct ps sn cb' tk) ⟨hx, hb, hml, hown, hts⟩ hK hZ hS hA (fun sz => c_X5_rememberColumns l G E ia tx z y v kq gp gd n pi op hg la tops dpt lst stry srt lin tokA wah fol par_ opn sett clA setv clV kn0 kz0 kn1 kz1 kn2 kz2 kl0 kp0 kk0 kl1 kp1 kk1 kl2 kp2 kk2 oa ta tl ct ps sn cb tk (by first | assumption | omega) (by first | assumption | omega) sz) gX5_change_X5_rememberColumns rfl rfl rfl (by decide +kernel) ⟨Nat.le_of_ble_eq_true rfl, Nat.le_of_ble_eq_true rfl⟩ hP hD (fun _ => po_fstA rfl) rfl rfl hl.1 rfl rfl (Nat.le_of_ble_eq_true rfl) dX5_change_21 ⟨Nat.zero_le _, Nat.zero_le _⟩ (fun u21 H locs p21 hP hD hS => ?_)
      generalize u21 = cb'_21 at p21 hP hD
      try dsimp only at p21 hP hD
      have hP : va_P G vwCl (((iaW E ia tx z y v kq gp gd) ++ (txW E tx n (slot oa pi)) ++ (neW E z op hg la tops dpt lst stry srt lin tokA wah fol par_ opn) ++ (lyW E y sett clA) ++ (lyW E v setv clV) ++ (pkW E (kq 0) kn0 kz0 kl0 kp0 kk0) ++ (pkW E (kq 1) kn1 kz1 kl1 kp1 kk1) ++ (pkW E (kq 2) kn2 kz2 kl2 kp2 kk2)) ++ poW E oa ta tl ct ps sn cb'_21 tk) H := hP
      have hD : va_D A (((iaW E ia tx z y v kq gp gd) ++ (txW E tx n (slot oa pi)) ++ (neW E z op hg la tops dpt lst stry srt lin tokA wah fol par_ opn) ++ (lyW E y sett clA) ++ (lyW E v setv clV) ++ (pkW E (kq 0) kn0 kz0 kl0 kp0 kk0) ++ (pkW E (kq 1) kn1 kz1 kl1 kp1 kk1) ++ (pkW E (kq 2) kn2 kz2 kl2 kp2 kk2)) ++ poW E oa ta tl ct ps sn cb'_21 tk) := hD
      have hcb : ∀ i, i < n → cb'_21 (pi i) = aCol ab i := fun i hi => (p21 i hi).trans (hcl i hi)
      refine lv_aload_n hx hb dX5_change_24 rfl (lv_at hl 0 rfl) ?_
      refine va_get (D := G) (ci := 5) (v := .ref (tx 0)) (C := RX5) (T := TX5) (N := 7) hx hb hts hin5 hown hK hP 0 rfl rfl 0 (by decide) (hts (Cond.fieldLink RX5 12 "IndentRules" "text" "LIndentRules$Text;") (List.mem_of_getElem? (i := 1) rfl)) (fun _ h9 => h9) rfl dX5_change_25 ?_
      refine va_get (D := G) (ci := 4) (v := .ref (tx 1)) (C := RX4) (T := TX4) (N := 2) hx hb hts hin4 hown hK hP 3 rfl rfl 0 (by decide) (hts (Cond.fieldLink RX5 73 "IndentRules$Text" "lines" "[LIndentRules$Line;") (List.mem_of_getElem? (i := 2) rfl)) (fun _ h9 => h9) rfl dX5_change_28 ?_
      refine lv_iload_n hx hb dX5_change_31 rfl (lv_at hl 1 rfl) ?_
      refine k_aald (D := G) (tys := TYS E) (j := j) (f := (slot oa pi)) (n := 20) hx hb hK hP 4 2 rfl rfl (by omega) (by decide) dX5_change_32 ?_
      refine W.eq (g2 := F0 m 33 ls [.ref (oa (pi j))]) rfl ?_
      refine lv_iload_n hx hb dX5_change_33 rfl (lv_at hl 2 rfl) ?_
      refine wl_v (n := 1) (G := G) (E := E) (As := [.int (nI t)]) (rest := []) (i := (pi j)) (X := (iaW E ia tx z y v kq gp gd) ++ (txW E tx n (slot oa pi)) ++ (neW E z op hg la tops dpt lst stry srt lin tokA wah fol par_ opn) ++ (lyW E y sett clA) ++ (lyW E v setv clV) ++ (pkW E (kq 0) kn0 kz0 kl0 kp0 kk0) ++ (pkW E (kq 1) kn1 kz1 kl1 kp1 kk1) ++ (pkW E (kq 2) kn2 kz2 kl2 kp2 kk2)) (t1 := t) (c1 := (len t)) (p1 := (pres t)) ⟨hx, hb, hml, hown, hts⟩ hK hZ hS hA (fun sz => c_X1_read l G E (oa (pi j)) (ta (pi j)) (tl (pi j)) (ct (pi j)) (ps (pi j)) (sn (pi j)) (cb'_21 (pi j)) (tk (pi j)) t (by first | assumption | omega) sz) gX5_change_X1_read rfl rfl rfl (by decide +kernel) ⟨Nat.le_of_ble_eq_true rfl, Nat.le_of_ble_eq_true rfl⟩ (hpi j (by omega)) hP hD hl.1 rfl rfl (Nat.le_of_ble_eq_true rfl) dX5_change_34 ⟨Nat.zero_le _, Nat.zero_le _⟩ (fun u34 H locs p34 hP hD hS => ?_)
      generalize u34 = tk'_34 at p34 hP hD
      try dsimp only at p34 hP hD
      have hP : va_P G vwCl (((iaW E ia tx z y v kq gp gd) ++ (txW E tx n (slot oa pi)) ++ (neW E z op hg la tops dpt lst stry srt lin tokA wah fol par_ opn) ++ (lyW E y sett clA) ++ (lyW E v setv clV) ++ (pkW E (kq 0) kn0 kz0 kl0 kp0 kk0) ++ (pkW E (kq 1) kn1 kz1 kl1 kp1 kk1) ++ (pkW E (kq 2) kn2 kz2 kl2 kp2 kk2)) ++ poW E oa ta (updF tl (pi j) t) (updF ct (pi j) (len t)) (updF ps (pi j) (pres t)) sn cb'_21 (updF tk (pi j) tk'_34)) H := hP
      have hD : va_D A (((iaW E ia tx z y v kq gp gd) ++ (txW E tx n (slot oa pi)) ++ (neW E z op hg la tops dpt lst stry srt lin tokA wah fol par_ opn) ++ (lyW E y sett clA) ++ (lyW E v setv clV) ++ (pkW E (kq 0) kn0 kz0 kl0 kp0 kk0) ++ (pkW E (kq 1) kn1 kz1 kl1 kp1 kk1) ++ (pkW E (kq 2) kn2 kz2 kl2 kp2 kk2)) ++ poW E oa ta (updF tl (pi j) t) (updF ct (pi j) (len t)) (updF ps (pi j) (pres t)) sn cb'_21 (updF tk (pi j) tk'_34)) := hD
      have hPL2 := PL_upd hPL hpp hj hn p34
      have hrn2 := updF_all (P := fun a3 => a3 < 1000000000 ∧ nzb a3 = true) (j := j) (v := t) (n := n) (f := aR ab) (fun k hk => hok.2.1 k (by omega)) ⟨ht, hz⟩
      refine lv_aload_n hx hb dX5_change_37 rfl (lv_at hl 0 rfl) ?_
      refine wf_v (n := 0) (G := G) (E := E) (As := []) (rest := []) (ci := 5) (q0 := 0) (wn := fun (u : (Nat → Int32) × (Nat → Int32) × (Nat → Int32) × (Nat → Int32) × (Nat → Int32) × (Nat → Int32) × (Nat → Int32) × (Nat → Int32) × (Nat → Int32) × (Nat → Int32) × (Nat → Int32) × (Nat → Int32)) => ((iaW E ia tx z y v kq gp gd) ++ (txW E tx n (slot oa pi)) ++ (neW E z (nO (nAll (updF (aR ab) j t) n)) (nD (nAll (updF (aR ab) j t) n)) (nL (nAll (updF (aR ab) j t) n)) u.1 u.2.1 u.2.2.1 u.2.2.2.1 u.2.2.2.2.1 u.2.2.2.2.2.1 u.2.2.2.2.2.2.1 u.2.2.2.2.2.2.2.1 u.2.2.2.2.2.2.2.2.1 u.2.2.2.2.2.2.2.2.2.1 u.2.2.2.2.2.2.2.2.2.2.1) ++ (lyW E y sett u.2.2.2.2.2.2.2.2.2.2.2) ++ (lyW E v setv clV) ++ (pkW E (kq 0) kn0 kz0 kl0 kp0 kk0) ++ (pkW E (kq 1) kn1 kz1 kl1 kp1 kk1) ++ (pkW E (kq 2) kn2 kz2 kl2 kp2 kk2)) ++ poW E oa ta (updF tl (pi j) t) (updF ct (pi j) (len t)) (updF ps (pi j) (pres t)) sn cb'_21 (updF tk (pi j) tk'_34)) ⟨hx, hb, hml, hown, hts⟩ hK hZ hS hA (fun sz => c_X5_readLines l G E ia tx z y v kq gp gd n pi op hg la tops dpt lst stry srt lin tokA wah fol par_ opn sett clA setv clV kn0 kz0 kn1 kz1 kn2 kz2 kl0 kp0 kk0 kl1 kp1 kk1 kl2 kp2 kk2 oa ta (updF tl (pi j) t) (updF ct (pi j) (len t)) (updF ps (pi j) (pres t)) sn cb'_21 (updF tk (pi j) tk'_34) (updF (aR ab) j t) (by first | assumption | omega) (fun k hk => (hrn2 k hk).1) hPL2 sz) gX5_change_X5_readLines rfl rfl rfl (by decide +kernel) ⟨Nat.le_of_ble_eq_true rfl, Nat.le_of_ble_eq_true rfl⟩ hP hD (fun _ => po_fstA rfl) rfl rfl hl.1 rfl rfl (Nat.le_of_ble_eq_true rfl) dX5_change_38 ⟨Nat.zero_le _, Nat.zero_le _⟩ (fun u38 H locs p38 hP hD hS => ?_)
      obtain ⟨tops'_38, dpt'_38, lst'_38, stry'_38, srt'_38, lin'_38, tokA'_38, wah'_38, fol'_38, par_'_38, opn'_38, clA'_38⟩ := u38
      try dsimp only at p38 hP hD
      have hP : va_P G vwCl (((iaW E ia tx z y v kq gp gd) ++ (txW E tx n (slot oa pi)) ++ (neW E z (nO (nAll (updF (aR ab) j t) n)) (nD (nAll (updF (aR ab) j t) n)) (nL (nAll (updF (aR ab) j t) n)) tops'_38 dpt'_38 lst'_38 stry'_38 srt'_38 lin'_38 tokA'_38 wah'_38 fol'_38 par_'_38 opn'_38) ++ (lyW E y sett clA'_38) ++ (lyW E v setv clV) ++ (pkW E (kq 0) kn0 kz0 kl0 kp0 kk0) ++ (pkW E (kq 1) kn1 kz1 kl1 kp1 kk1) ++ (pkW E (kq 2) kn2 kz2 kl2 kp2 kk2)) ++ poW E oa ta (updF tl (pi j) t) (updF ct (pi j) (len t)) (updF ps (pi j) (pres t)) sn cb'_21 (updF tk (pi j) tk'_34)) H := hP
      have hD : va_D A (((iaW E ia tx z y v kq gp gd) ++ (txW E tx n (slot oa pi)) ++ (neW E z (nO (nAll (updF (aR ab) j t) n)) (nD (nAll (updF (aR ab) j t) n)) (nL (nAll (updF (aR ab) j t) n)) tops'_38 dpt'_38 lst'_38 stry'_38 srt'_38 lin'_38 tokA'_38 wah'_38 fol'_38 par_'_38 opn'_38) ++ (lyW E y sett clA'_38) ++ (lyW E v setv clV) ++ (pkW E (kq 0) kn0 kz0 kl0 kp0 kk0) ++ (pkW E (kq 1) kn1 kz1 kl1 kp1 kk1) ++ (pkW E (kq 2) kn2 kz2 kl2 kp2 kk2)) ++ poW E oa ta (updF tl (pi j) t) (updF ct (pi j) (len t)) (updF ps (pi j) (pres t)) sn cb'_21 (updF tk (pi j) tk'_34)) := hD
      refine lv_aload_n hx hb dX5_change_41 rfl (lv_at hl 0 rfl) ?_
      refine lv_iload_n hx hb dX5_change_42 rfl (lv_at hl 1 rfl) ?_
      refine rv_i (n := 1) (G := G) (E := E) (As := [.int (nI j)]) (rest := []) (ci := 5) (q0 := 0) ⟨hx, hb, hml, hown, hts⟩ hK hZ hS (c_X5_movedBut l G E ia tx z y v kq gp gd n pi (nO (nAll (updF (aR ab) j t) n)) (nD (nAll (updF (aR ab) j t) n)) (nL (nAll (updF (aR ab) j t) n)) tops'_38 dpt'_38 lst'_38 stry'_38 srt'_38 lin'_38 tokA'_38 wah'_38 fol'_38 par_'_38 opn'_38 sett clA'_38 setv clV kn0 kz0 kn1 kz1 kn2 kz2 kl0 kp0 kk0 kl1 kp1 kk1 kl2 kp2 kk2 oa ta (updF tl (pi j) t) (updF ct (pi j) (len t)) (updF ps (pi j) (pres t)) sn cb'_21 (updF tk (pi j) tk'_34) (nI j) (by first | assumption | omega) (by first | assumption | omega)) gX5_change_X5_movedBut rfl rfl rfl (by decide +kernel) ⟨Nat.le_of_ble_eq_true rfl, Nat.le_of_ble_eq_true rfl⟩ hP rfl rfl hl.1 rfl rfl (Nat.le_of_ble_eq_true rfl) dX5_change_43 ⟨Nat.zero_le _, Nat.zero_le _⟩ (fun r43 p43 => ?_)
      have hans : r43 = nI (mvc (nI j) (cols (aG ab) (updF (aR ab) j t) (aN ab)) (aCol ab) (aN ab)) := by
        rw [p43, ← hN]
        exact congrArg nI (mvc_congr (fun k hk hkj => ⟨(p38.2 k hk).trans (congrFun (cols_congr hsg _ _) k), hcb k hk⟩))
      exact W.iret (v := r43) hx hb hr (fun tZ htZ hWZ => ⟨⟨_, (nO (nAll (updF (aR ab) j t) n), nD (nAll (updF (aR ab) j t) n), nL (nAll (updF (aR ab) j t) n), (updF tl (pi j) t), (updF ct (pi j) (len t)), (updF ps (pi j) (pres t)), cb'_21, (updF tk (pi j) tk'_34), tops'_38, dpt'_38, lst'_38, stry'_38, srt'_38, lin'_38, tokA'_38, wah'_38, fol'_38, par_'_38, opn'_38, clA'_38), rfl, by rw [fChange_ok (A := ab) (by omega) (by omega) ht hz]; exact ⟨hans, cls_lines hok hN rfl hn hrn2 hPL2 hSN hpp p38.1 hsg p38.2 hk0 hk1 hk2⟩, by show va_P G vwCl _ tZ.heap; rw [htZ]; exact hP⟩, hS.F htZ⟩) hS.2.2 dX5_change_46
    · refine n_if_ne (a := 0) (tgt := 20) hx hb (by decide) dX5_change_14 (by decide) (fun c14 => absurd c14 (by decide)) (fun c14 => ?_)
      refine lv_bipush (v := (-2)) hx hb dX5_change_17 (by decide) ?_
      exact W.iret (v := (-2)) hx hb hr (fun tZ htZ hWZ => ⟨⟨_, (op, hg, la, tl, ct, ps, cb, tk, tops, dpt, lst, stry, srt, lin, tokA, wah, fol, par_, opn, clA), rfl, by rw [fChange_2 (ixP_n (by omega) (by omega)) h11]; exact ⟨rfl, hab⟩, by show va_P G vwCl _ tZ.heap; rw [htZ]; exact hP⟩, hS.F htZ⟩) hS.2.2 dX5_change_19
  · have hx1 : ¬ ixP a1 (aN ab) := fun q => h2 (by rw [hN]; exact (ixP_iff (by omega)).mp q)
    refine n_if_ne (a := 0) (tgt := 10) hx hb (by decide) dX5_change_5 (by decide) (fun c5 => absurd c5 (by decide)) (fun c5 => ?_)
    refine lv_iconst (v := (-1)) hx hb dX5_change_8 (by decide) ?_
    exact W.iret (v := (-1)) hx hb hr (fun tZ htZ hWZ => ⟨⟨_, (op, hg, la, tl, ct, ps, cb, tk, tops, dpt, lst, stry, srt, lin, tokA, wah, fol, par_, opn, clA), rfl, by rw [fChange_1 hx1]; exact ⟨rfl, hab⟩, by show va_P G vwCl _ tZ.heap; rw [htZ]; exact hP⟩, hS.F htZ⟩) hS.2.2 dX5_change_9

set_option maxHeartbeats 4000000 in
set_option maxRecDepth 100000 in
theorem c_X5_take (l : Launch) (G : va_G) (E : cEnv) (ia tx z y v : Nat → Nat) (kq : Nat → Nat → Nat) (gp : Int32) (gd : Nat → Int32) (n : Nat) (pi : Nat → Nat) (op hg la : Nat) (tops dpt lst stry srt lin tokA wah fol par_ opn : Nat → Int32) (sett clA setv clV : Nat → Int32) (kn0 kz0 kn1 kz1 kn2 kz2 : Nat) (kl0 kp0 kk0 kl1 kp1 kk1 kl2 kp2 kk2 : Nat → Int32) (oa ta : Nat → Nat) (tl ct ps : Nat → Nat) (sn cb : Nat → Int32) (tk : Nat → Nat → Int32) (a1 : Int32) (ab : ABS) (hab : ClsOk ab n op pi tl ct ps sn tk tops dpt lst stry srt lin tokA wah fol par_ opn sett clA kn0 kz0 kn1 kz1 kn2 kz2 kl0 kp0 kk0 kl1 kp1 kk1 kl2 kp2 kk2) (sz : Nat) : Met l yX5_take wsX5_take ({ frames := 5, cells := 0, slots := 0, locals := 116 }) (va_Pc [.ref (ia 0), .int a1] (PW G E (((iaW E ia tx z y v kq gp gd) ++ (txW E tx n (slot oa pi)) ++ (neW E z op hg la tops dpt lst stry srt lin tokA wah fol par_ opn) ++ (lyW E y sett clA) ++ (lyW E v setv clV) ++ (pkW E (kq 0) kn0 kz0 kl0 kp0 kk0) ++ (pkW E (kq 1) kn1 kz1 kl1 kp1 kk1) ++ (pkW E (kq 2) kn2 kz2 kl2 kp2 kk2)) ++ poW E oa ta tl ct ps sn cb tk) sz)) (va_Qi (fun (r : Int32) (u : (Nat) × (Nat) × (Nat) × (Nat) × (Nat → Nat) × (Nat → Int32) × (Nat → Int32) × (Nat → Int32) × (Nat → Int32) × (Nat → Int32) × (Nat → Int32) × (Nat → Int32) × (Nat → Int32) × (Nat → Int32) × (Nat → Int32) × (Nat → Int32) × (Nat → Int32) × (Nat → Int32)) => r = (fTake ab a1).1 ∧ ClsOk ((fTake ab a1).2) u.1 u.2.1 u.2.2.2.2.1 tl ct ps sn tk u.2.2.2.2.2.2.1 u.2.2.2.2.2.2.2.1 u.2.2.2.2.2.2.2.2.1 u.2.2.2.2.2.2.2.2.2.1 u.2.2.2.2.2.2.2.2.2.2.1 u.2.2.2.2.2.2.2.2.2.2.2.1 u.2.2.2.2.2.2.2.2.2.2.2.2.1 u.2.2.2.2.2.2.2.2.2.2.2.2.2.1 u.2.2.2.2.2.2.2.2.2.2.2.2.2.2.1 u.2.2.2.2.2.2.2.2.2.2.2.2.2.2.2.1 u.2.2.2.2.2.2.2.2.2.2.2.2.2.2.2.2.1 sett u.2.2.2.2.2.2.2.2.2.2.2.2.2.2.2.2.2 kn0 kz0 kn1 kz1 kn2 kz2 kl0 kp0 kk0 kl1 kp1 kk1 kl2 kp2 kk2) (fun (u : (Nat) × (Nat) × (Nat) × (Nat) × (Nat → Nat) × (Nat → Int32) × (Nat → Int32) × (Nat → Int32) × (Nat → Int32) × (Nat → Int32) × (Nat → Int32) × (Nat → Int32) × (Nat → Int32) × (Nat → Int32) × (Nat → Int32) × (Nat → Int32) × (Nat → Int32) × (Nat → Int32)) tQ => va_P G vwCl (((iaW E ia tx z y v kq gp gd) ++ (txW E tx u.1 (slot oa u.2.2.2.2.1)) ++ (neW E z u.2.1 u.2.2.1 u.2.2.2.1 u.2.2.2.2.2.2.1 u.2.2.2.2.2.2.2.1 u.2.2.2.2.2.2.2.2.1 u.2.2.2.2.2.2.2.2.2.1 u.2.2.2.2.2.2.2.2.2.2.1 u.2.2.2.2.2.2.2.2.2.2.2.1 u.2.2.2.2.2.2.2.2.2.2.2.2.1 u.2.2.2.2.2.2.2.2.2.2.2.2.2.1 u.2.2.2.2.2.2.2.2.2.2.2.2.2.2.1 u.2.2.2.2.2.2.2.2.2.2.2.2.2.2.2.1 u.2.2.2.2.2.2.2.2.2.2.2.2.2.2.2.2.1) ++ (lyW E y sett u.2.2.2.2.2.2.2.2.2.2.2.2.2.2.2.2.2) ++ (lyW E v setv clV) ++ (pkW E (kq 0) kn0 kz0 kl0 kp0 kk0) ++ (pkW E (kq 1) kn1 kz1 kl1 kp1 kk1) ++ (pkW E (kq 2) kn2 kz2 kl2 kp2 kk2)) ++ poW E oa ta tl ct ps sn u.2.2.2.2.2.1 tk) tQ.heap) (va_A (((iaW E ia tx z y v kq gp gd) ++ (txW E tx n (slot oa pi)) ++ (neW E z op hg la tops dpt lst stry srt lin tokA wah fol par_ opn) ++ (lyW E y sett clA) ++ (lyW E v setv clV) ++ (pkW E (kq 0) kn0 kz0 kl0 kp0 kk0) ++ (pkW E (kq 1) kn1 kz1 kl1 kp1 kk1) ++ (pkW E (kq 2) kn2 kz2 kl2 kp2 kk2)) ++ poW E oa ta tl ct ps sn cb tk) sz)) 0 0 (va_A (((iaW E ia tx z y v kq gp gd) ++ (txW E tx n (slot oa pi)) ++ (neW E z op hg la tops dpt lst stry srt lin tokA wah fol par_ opn) ++ (lyW E y sett clA) ++ (lyW E v setv clV) ++ (pkW E (kq 0) kn0 kz0 kl0 kp0 kk0) ++ (pkW E (kq 1) kn1 kz1 kl1 kp1 kk1) ++ (pkW E (kq 2) kn2 kz2 kl2 kp2 kk2)) ++ poW E oa ta tl ct ps sn cb tk) sz) := by
  refine Met.ofW (cc := cX5_take) (maxL := 2) (ret := (some .int)) (by decide) rfl ?_
  intro p e s m args below meth c s₁ B hml hv
  obtain ⟨rfl, hsz, hP, hK, hD0, hZ⟩ := hv
  have hx := B.exec
  have hb := B.bytes
  have hr := B.returns
  have hts := atoms_spec (ws := wsX5_take) B.pre
  have hown : s.vm.findClass RX5 = some m.cls := findClass_of_methodNamed B.named
  have hlocks := B.notSynchronized
  have hin5 : ∀ w ∈ u_ws RX5 TX5 7, w ∈ wsX5_take := mem_pl [120, 121, 122, 123, 124, 125, 126] (by rfl)
  subst hsz
  have hD := hD0.self (sz := s.heap.size)
  generalize hAe : va_A (((iaW E ia tx z y v kq gp gd) ++ (txW E tx n (slot oa pi)) ++ (neW E z op hg la tops dpt lst stry srt lin tokA wah fol par_ opn) ++ (lyW E y sett clA) ++ (lyW E v setv clV) ++ (pkW E (kq 0) kn0 kz0 kl0 kp0 kk0) ++ (pkW E (kq 1) kn1 kz1 kl1 kp1 kk1) ++ (pkW E (kq 2) kn2 kz2 kl2 kp2 kk2)) ++ poW E oa ta tl ct ps sn cb tk) s.heap.size = A at hD hZ ⊢
  have hA : ∀ q : Nat, s.heap.size ≤ q → A q := fun q h => by rw [← hAe]; exact Or.inr h
  have hS : va_S A s.heap s.heap [] := va_S.rf
  have hl := lv_entry ([.ref (ia 0), .int a1]) (n := 2) (Nat.le_of_ble_eq_true rfl)
  rw [lg_entry_eq]
  generalize (lg_sl ([.ref (ia 0), .int a1]) ++ List.replicate (2 - (lg_sl ([.ref (ia 0), .int a1])).length) Slot.unset).toArray = ls at hl ⊢
  have hl : lv_has ls 2 [(0, .ref (ia 0)), (1, .int a1)] := hl
  obtain ⟨hN, hok, hop, hPL, hSN, hpp, hCN, hsg, hcl, hk0, hk1, hk2⟩ := id hab
  have hn : n ≤ 20 := by rw [hN]; exact hok.1
  have hrn : ∀ j, j < n → aR ab j < 1000000000 := fun j hj => (hok.2.1 j (by omega)).1
  have hpi : ∀ i, i < 20 → pi i < 20 := fun i hi => (hpp i hi).1
  have hwN := wfN_all (row := aR ab) (aN ab) (fun j hj => hrn j (by omega))
  have hob : nO (aNest ab) ≤ 180 := Nat.le_trans hwN.2.1 (by omega)
  have hCn : CN (nAll (aR ab) n) n tops dpt lst stry srt lin tokA wah fol par_ opn := by rw [hN] at hCN ⊢; exact hCN
  have hLN : LN (nF (aNest ab)) (nO (aNest ab)) srt lin wah fol := hCN.ln (by omega) (fun j hj => hrn j (by omega))
  refine lv_aload_n hx hb dX5_take_0 rfl (lv_at hl 0 rfl) ?_
  refine lv_iload_n hx hb dX5_take_1 rfl (lv_at hl 1 rfl) ?_
  refine rv_i (n := 1) (G := G) (E := E) (As := [.int a1]) (rest := []) (ci := 5) (q0 := 0) ⟨hx, hb, hml, hown, hts⟩ hK hZ hS (c_X5_isLine l G E ia tx z y v kq gp gd n pi op hg la tops dpt lst stry srt lin tokA wah fol par_ opn sett clA setv clV kn0 kz0 kn1 kz1 kn2 kz2 kl0 kp0 kk0 kl1 kp1 kk1 kl2 kp2 kk2 oa ta tl ct ps sn cb tk a1 (by first | assumption | omega)) gX5_take_X5_isLine rfl rfl rfl (by decide +kernel) ⟨Nat.le_of_ble_eq_true rfl, Nat.le_of_ble_eq_true rfl⟩ hP rfl rfl hl.1 rfl rfl (Nat.le_of_ble_eq_true rfl) dX5_take_2 ⟨Nat.zero_le _, Nat.zero_le _⟩ (fun r2 p2 => ?_)
  rcases p2 with ⟨⟨j, hj, rfl⟩, rfl⟩ | ⟨h2, rfl⟩
  · refine n_if_ne (a := 1) (tgt := 10) hx hb (by decide) dX5_take_5 (by decide) (fun c5 => ?_) (fun c5 => absurd c5 (by decide))
    refine lv_aload_n hx hb dX5_take_10 rfl (lv_at hl 0 rfl) ?_
    refine wf_v (n := 0) (G := G) (E := E) (As := []) (rest := []) (ci := 5) (q0 := 0) (wn := fun (cb' : Nat → Int32) => ((iaW E ia tx z y v kq gp gd) ++ (txW E tx n (slot oa pi)) ++ (neW E z op hg la tops dpt lst stry srt lin tokA wah fol par_ opn) ++ (lyW E y sett clA) ++ (lyW E v setv clV) ++ (pkW E (kq 0) kn0 kz0 kl0 kp0 kk0) ++ (pkW E (kq 1) kn1 kz1 kl1 kp1 kk1) ++ (pkW E (kq 2) kn2 kz2 kl2 kp2 kk2)) ++ poW E oa ta tl ct ps sn cb' tk) ⟨hx, hb, hml, hown, hts⟩ hK hZ hS hA (fun sz => c_X5_rememberColumns l G E ia tx z y v kq gp gd n pi op hg la tops dpt lst stry srt lin tokA wah fol par_ opn sett clA setv clV kn0 kz0 kn1 kz1 kn2 kz2 kl0 kp0 kk0 kl1 kp1 kk1 kl2 kp2 kk2 oa ta tl ct ps sn cb tk (by first | assumption | omega) (by first | assumption | omega) sz) gX5_take_X5_rememberColumns rfl rfl rfl (by decide +kernel) ⟨Nat.le_of_ble_eq_true rfl, Nat.le_of_ble_eq_true rfl⟩ hP hD (fun _ => po_fstA rfl) rfl rfl hl.1 rfl rfl (Nat.le_of_ble_eq_true rfl) dX5_take_11 ⟨Nat.zero_le _, Nat.zero_le _⟩ (fun u11 H locs p11 hP hD hS => ?_)
    generalize u11 = cb'_11 at p11 hP hD
    try dsimp only at p11 hP hD
    have hP : va_P G vwCl (((iaW E ia tx z y v kq gp gd) ++ (txW E tx n (slot oa pi)) ++ (neW E z op hg la tops dpt lst stry srt lin tokA wah fol par_ opn) ++ (lyW E y sett clA) ++ (lyW E v setv clV) ++ (pkW E (kq 0) kn0 kz0 kl0 kp0 kk0) ++ (pkW E (kq 1) kn1 kz1 kl1 kp1 kk1) ++ (pkW E (kq 2) kn2 kz2 kl2 kp2 kk2)) ++ poW E oa ta tl ct ps sn cb'_11 tk) H := hP
    have hD : va_D A (((iaW E ia tx z y v kq gp gd) ++ (txW E tx n (slot oa pi)) ++ (neW E z op hg la tops dpt lst stry srt lin tokA wah fol par_ opn) ++ (lyW E y sett clA) ++ (lyW E v setv clV) ++ (pkW E (kq 0) kn0 kz0 kl0 kp0 kk0) ++ (pkW E (kq 1) kn1 kz1 kl1 kp1 kk1) ++ (pkW E (kq 2) kn2 kz2 kl2 kp2 kk2)) ++ poW E oa ta tl ct ps sn cb'_11 tk) := hD
    have hcb : ∀ i, i < n → cb'_11 (pi i) = aCol ab i := fun i hi => (p11 i hi).trans (hcl i hi)
    refine lv_aload_n hx hb dX5_take_14 rfl (lv_at hl 0 rfl) ?_
    refine va_get (D := G) (ci := 5) (v := .ref (tx 0)) (C := RX5) (T := TX5) (N := 7) hx hb hts hin5 hown hK hP 0 rfl rfl 0 (by decide) (hts (Cond.fieldLink RX5 12 "IndentRules" "text" "LIndentRules$Text;") (List.mem_of_getElem? (i := 1) rfl)) (fun _ h9 => h9) rfl dX5_take_15 ?_
    refine lv_iload_n hx hb dX5_take_18 rfl (lv_at hl 1 rfl) ?_
    refine we_v (n := 1) (G := G) (E := E) (As := [.int (nI j)]) (rest := []) (ci := 4) (q0 := 3) (X := (iaW E ia tx z y v kq gp gd) ++ (txW E tx n (slot oa pi)) ++ (neW E z op hg la tops dpt lst stry srt lin tokA wah fol par_ opn) ++ (lyW E y sett clA) ++ (lyW E v setv clV) ++ (pkW E (kq 0) kn0 kz0 kl0 kp0 kk0) ++ (pkW E (kq 1) kn1 kz1 kl1 kp1 kk1) ++ (pkW E (kq 2) kn2 kz2 kl2 kp2 kk2)) (pl := poW E oa ta tl ct ps sn cb'_11 tk) (cx := txW E tx n (slot oa pi)) (ex := poW E oa ta tl ct ps sn cb'_11 tk) (wn := fun (pi' : Nat → Nat) => txW E tx (n - 1) (slot oa pi')) ⟨hx, hb, hml, hown, hts⟩ hK hZ hS hA (fun sz => c_X4_remove l G E tx n pi oa ta tl ct ps sn cb'_11 tk j (aR ab) (aS ab) (by first | assumption | omega) (by first | assumption | omega) hPL hSN hpp sz) gX5_take_X4_remove rfl rfl rfl (by decide +kernel) ⟨Nat.le_of_ble_eq_true rfl, Nat.le_of_ble_eq_true rfl⟩ hP hD [3, 4] rfl (by decide) (fun k => k) (fun _ _ h => h) (fun _ _ _ _ h => h) (fun _ => rfl) rfl rfl hl.1 rfl rfl (Nat.le_of_ble_eq_true rfl) dX5_take_19 ⟨Nat.zero_le _, Nat.zero_le _⟩ (fun u19 H locs p19 hP hD hS => ?_)
    generalize u19 = pi'_19 at p19 hP hD
    try dsimp only at p19 hP hD
    have hP : va_P G vwCl (((iaW E ia tx z y v kq gp gd) ++ (txW E tx (n - 1) (slot oa pi'_19)) ++ (neW E z op hg la tops dpt lst stry srt lin tokA wah fol par_ opn) ++ (lyW E y sett clA) ++ (lyW E v setv clV) ++ (pkW E (kq 0) kn0 kz0 kl0 kp0 kk0) ++ (pkW E (kq 1) kn1 kz1 kl1 kp1 kk1) ++ (pkW E (kq 2) kn2 kz2 kl2 kp2 kk2)) ++ poW E oa ta tl ct ps sn cb'_11 tk) H := hP
    have hD : va_D A (((iaW E ia tx z y v kq gp gd) ++ (txW E tx (n - 1) (slot oa pi'_19)) ++ (neW E z op hg la tops dpt lst stry srt lin tokA wah fol par_ opn) ++ (lyW E y sett clA) ++ (lyW E v setv clV) ++ (pkW E (kq 0) kn0 kz0 kl0 kp0 kk0) ++ (pkW E (kq 1) kn1 kz1 kl1 kp1 kk1) ++ (pkW E (kq 2) kn2 kz2 kl2 kp2 kk2)) ++ poW E oa ta tl ct ps sn cb'_11 tk) := hD
    have hpp2 : permP pi'_19 := by rw [p19.1]; exact piR_perm hpp (by omega) (by omega)
    have hrn2 := delF_all (P := fun a3 => a3 < 1000000000 ∧ nzb a3 = true) (j := j) (n := n) (f := aR ab) (fun k hk => hok.2.1 k (by omega))
    refine lv_aload_n hx hb dX5_take_22 rfl (lv_at hl 0 rfl) ?_
    refine wf_v (n := 0) (G := G) (E := E) (As := []) (rest := []) (ci := 5) (q0 := 0) (wn := fun (u : (Nat → Int32) × (Nat → Int32) × (Nat → Int32) × (Nat → Int32) × (Nat → Int32) × (Nat → Int32) × (Nat → Int32) × (Nat → Int32) × (Nat → Int32) × (Nat → Int32) × (Nat → Int32) × (Nat → Int32)) => ((iaW E ia tx z y v kq gp gd) ++ (txW E tx (n - 1) (slot oa pi'_19)) ++ (neW E z (nO (nAll (delF (aR ab) j) (n - 1))) (nD (nAll (delF (aR ab) j) (n - 1))) (nL (nAll (delF (aR ab) j) (n - 1))) u.1 u.2.1 u.2.2.1 u.2.2.2.1 u.2.2.2.2.1 u.2.2.2.2.2.1 u.2.2.2.2.2.2.1 u.2.2.2.2.2.2.2.1 u.2.2.2.2.2.2.2.2.1 u.2.2.2.2.2.2.2.2.2.1 u.2.2.2.2.2.2.2.2.2.2.1) ++ (lyW E y sett u.2.2.2.2.2.2.2.2.2.2.2) ++ (lyW E v setv clV) ++ (pkW E (kq 0) kn0 kz0 kl0 kp0 kk0) ++ (pkW E (kq 1) kn1 kz1 kl1 kp1 kk1) ++ (pkW E (kq 2) kn2 kz2 kl2 kp2 kk2)) ++ poW E oa ta tl ct ps sn cb'_11 tk) ⟨hx, hb, hml, hown, hts⟩ hK hZ hS hA (fun sz => c_X5_readLines l G E ia tx z y v kq gp gd (n - 1) pi'_19 op hg la tops dpt lst stry srt lin tokA wah fol par_ opn sett clA setv clV kn0 kz0 kn1 kz1 kn2 kz2 kl0 kp0 kk0 kl1 kp1 kk1 kl2 kp2 kk2 oa ta tl ct ps sn cb'_11 tk (delF (aR ab) j) (by omega) (fun k hk => (hrn2 k hk).1) p19.2.1 sz) gX5_take_X5_readLines rfl rfl rfl (by decide +kernel) ⟨Nat.le_of_ble_eq_true rfl, Nat.le_of_ble_eq_true rfl⟩ hP hD (fun _ => po_fstA rfl) rfl rfl hl.1 rfl rfl (Nat.le_of_ble_eq_true rfl) dX5_take_23 ⟨Nat.zero_le _, Nat.zero_le _⟩ (fun u23 H locs p23 hP hD hS => ?_)
    obtain ⟨tops'_23, dpt'_23, lst'_23, stry'_23, srt'_23, lin'_23, tokA'_23, wah'_23, fol'_23, par_'_23, opn'_23, clA'_23⟩ := u23
    try dsimp only at p23 hP hD
    have hP : va_P G vwCl (((iaW E ia tx z y v kq gp gd) ++ (txW E tx (n - 1) (slot oa pi'_19)) ++ (neW E z (nO (nAll (delF (aR ab) j) (n - 1))) (nD (nAll (delF (aR ab) j) (n - 1))) (nL (nAll (delF (aR ab) j) (n - 1))) tops'_23 dpt'_23 lst'_23 stry'_23 srt'_23 lin'_23 tokA'_23 wah'_23 fol'_23 par_'_23 opn'_23) ++ (lyW E y sett clA'_23) ++ (lyW E v setv clV) ++ (pkW E (kq 0) kn0 kz0 kl0 kp0 kk0) ++ (pkW E (kq 1) kn1 kz1 kl1 kp1 kk1) ++ (pkW E (kq 2) kn2 kz2 kl2 kp2 kk2)) ++ poW E oa ta tl ct ps sn cb'_11 tk) H := hP
    have hD : va_D A (((iaW E ia tx z y v kq gp gd) ++ (txW E tx (n - 1) (slot oa pi'_19)) ++ (neW E z (nO (nAll (delF (aR ab) j) (n - 1))) (nD (nAll (delF (aR ab) j) (n - 1))) (nL (nAll (delF (aR ab) j) (n - 1))) tops'_23 dpt'_23 lst'_23 stry'_23 srt'_23 lin'_23 tokA'_23 wah'_23 fol'_23 par_'_23 opn'_23) ++ (lyW E y sett clA'_23) ++ (lyW E v setv clV) ++ (pkW E (kq 0) kn0 kz0 kl0 kp0 kk0) ++ (pkW E (kq 1) kn1 kz1 kl1 kp1 kk1) ++ (pkW E (kq 2) kn2 kz2 kl2 kp2 kk2)) ++ poW E oa ta tl ct ps sn cb'_11 tk) := hD
    refine lv_aload_n hx hb dX5_take_26 rfl (lv_at hl 0 rfl) ?_
    refine lv_bipush (v := (-9)) hx hb dX5_take_27 (by decide) ?_
    refine rv_i (n := 1) (G := G) (E := E) (As := [.int (-9)]) (rest := []) (ci := 5) (q0 := 0) ⟨hx, hb, hml, hown, hts⟩ hK hZ hS (c_X5_movedBut l G E ia tx z y v kq gp gd (n - 1) pi'_19 (nO (nAll (delF (aR ab) j) (n - 1))) (nD (nAll (delF (aR ab) j) (n - 1))) (nL (nAll (delF (aR ab) j) (n - 1))) tops'_23 dpt'_23 lst'_23 stry'_23 srt'_23 lin'_23 tokA'_23 wah'_23 fol'_23 par_'_23 opn'_23 sett clA'_23 setv clV kn0 kz0 kn1 kz1 kn2 kz2 kl0 kp0 kk0 kl1 kp1 kk1 kl2 kp2 kk2 oa ta tl ct ps sn cb'_11 tk (-9) (by omega) hpp2) gX5_take_X5_movedBut rfl rfl rfl (by decide +kernel) ⟨Nat.le_of_ble_eq_true rfl, Nat.le_of_ble_eq_true rfl⟩ hP rfl rfl hl.1 rfl rfl (Nat.le_of_ble_eq_true rfl) dX5_take_29 ⟨Nat.zero_le _, Nat.zero_le _⟩ (fun r29 p29 => ?_)
    have hans : r29 = nI (mvc (-9) (cols (aG ab) (delF (aR ab) j) (aN ab - 1)) (delF (aCol ab) j) (aN ab - 1)) := by
      rw [p29, ← hN]
      exact congrArg nI (mvc_congr (fun k hk hkj => ⟨(p23.2 k hk).trans (congrFun (cols_congr hsg _ _) k), by rw [p19.1]; exact was_del hcb hk⟩))
    exact W.iret (v := r29) hx hb hr (fun tZ htZ hWZ => ⟨⟨_, ((n - 1), nO (nAll (delF (aR ab) j) (n - 1)), nD (nAll (delF (aR ab) j) (n - 1)), nL (nAll (delF (aR ab) j) (n - 1)), pi'_19, cb'_11, tops'_23, dpt'_23, lst'_23, stry'_23, srt'_23, lin'_23, tokA'_23, wah'_23, fol'_23, par_'_23, opn'_23, clA'_23), rfl, by rw [fTake_ok (A := ab) (by omega) (by omega)]; exact ⟨hans, cls_lines hok (by rw [hN]) rfl (by omega) hrn2 p19.2.1 p19.2.2 hpp2 p23.1 hsg p23.2 hk0 hk1 hk2⟩, by show va_P G vwCl _ tZ.heap; rw [htZ]; exact hP⟩, hS.F htZ⟩) hS.2.2 dX5_take_32
  · have hx1 : ¬ ixP a1 (aN ab) := fun q => h2 (by rw [hN]; exact (ixP_iff (by omega)).mp q)
    refine n_if_ne (a := 0) (tgt := 10) hx hb (by decide) dX5_take_5 (by decide) (fun c5 => absurd c5 (by decide)) (fun c5 => ?_)
    refine lv_iconst (v := (-1)) hx hb dX5_take_8 (by decide) ?_
    exact W.iret (v := (-1)) hx hb hr (fun tZ htZ hWZ => ⟨⟨_, (n, op, hg, la, pi, cb, tops, dpt, lst, stry, srt, lin, tokA, wah, fol, par_, opn, clA), rfl, by rw [fTake_1 hx1]; exact ⟨rfl, hab⟩, by show va_P G vwCl _ tZ.heap; rw [htZ]; exact hP⟩, hS.F htZ⟩) hS.2.2 dX5_take_9

set_option maxHeartbeats 4000000 in
set_option maxRecDepth 100000 in
theorem c_X5_style (l : Launch) (G : va_G) (E : cEnv) (ia tx z y v : Nat → Nat) (kq : Nat → Nat → Nat) (gp : Int32) (gd : Nat → Int32) (n : Nat) (pi : Nat → Nat) (op hg la : Nat) (tops dpt lst stry srt lin tokA wah fol par_ opn : Nat → Int32) (sett clA setv clV : Nat → Int32) (kn0 kz0 kn1 kz1 kn2 kz2 : Nat) (kl0 kp0 kk0 kl1 kp1 kk1 kl2 kp2 kk2 : Nat → Int32) (oa ta : Nat → Nat) (tl ct ps : Nat → Nat) (sn cb : Nat → Int32) (tk : Nat → Nat → Int32) (a1 a2 : Int32) (ab : ABS) (hab : ClsOk ab n op pi tl ct ps sn tk tops dpt lst stry srt lin tokA wah fol par_ opn sett clA kn0 kz0 kn1 kz1 kn2 kz2 kl0 kp0 kk0 kl1 kp1 kk1 kl2 kp2 kk2) (sz : Nat) : Met l yX5_style wsX5_style ({ frames := 4, cells := 0, slots := 0, locals := 96 }) (va_Pc [.ref (ia 0), .int a1, .int a2] (PW G E (((iaW E ia tx z y v kq gp gd) ++ (txW E tx n (slot oa pi)) ++ (neW E z op hg la tops dpt lst stry srt lin tokA wah fol par_ opn) ++ (lyW E y sett clA) ++ (lyW E v setv clV) ++ (pkW E (kq 0) kn0 kz0 kl0 kp0 kk0) ++ (pkW E (kq 1) kn1 kz1 kl1 kp1 kk1) ++ (pkW E (kq 2) kn2 kz2 kl2 kp2 kk2)) ++ poW E oa ta tl ct ps sn cb tk) sz)) (va_Qi (fun (r : Int32) (u : (Nat → Int32) × (Nat → Int32)) => r = (fStyle ab a1 a2).1 ∧ ClsOk ((fStyle ab a1 a2).2) n op pi tl ct ps sn tk tops dpt lst stry srt lin tokA wah fol par_ opn u.1 u.2 kn0 kz0 kn1 kz1 kn2 kz2 kl0 kp0 kk0 kl1 kp1 kk1 kl2 kp2 kk2) (fun (u : (Nat → Int32) × (Nat → Int32)) tQ => va_P G vwCl (((iaW E ia tx z y v kq gp gd) ++ (txW E tx n (slot oa pi)) ++ (neW E z op hg la tops dpt lst stry srt lin tokA wah fol par_ opn) ++ (lyW E y u.1 u.2) ++ (lyW E v setv clV) ++ (pkW E (kq 0) kn0 kz0 kl0 kp0 kk0) ++ (pkW E (kq 1) kn1 kz1 kl1 kp1 kk1) ++ (pkW E (kq 2) kn2 kz2 kl2 kp2 kk2)) ++ poW E oa ta tl ct ps sn cb tk) tQ.heap) (va_A (((iaW E ia tx z y v kq gp gd) ++ (txW E tx n (slot oa pi)) ++ (neW E z op hg la tops dpt lst stry srt lin tokA wah fol par_ opn) ++ (lyW E y sett clA) ++ (lyW E v setv clV) ++ (pkW E (kq 0) kn0 kz0 kl0 kp0 kk0) ++ (pkW E (kq 1) kn1 kz1 kl1 kp1 kk1) ++ (pkW E (kq 2) kn2 kz2 kl2 kp2 kk2)) ++ poW E oa ta tl ct ps sn cb tk) sz)) 0 0 (va_A (((iaW E ia tx z y v kq gp gd) ++ (txW E tx n (slot oa pi)) ++ (neW E z op hg la tops dpt lst stry srt lin tokA wah fol par_ opn) ++ (lyW E y sett clA) ++ (lyW E v setv clV) ++ (pkW E (kq 0) kn0 kz0 kl0 kp0 kk0) ++ (pkW E (kq 1) kn1 kz1 kl1 kp1 kk1) ++ (pkW E (kq 2) kn2 kz2 kl2 kp2 kk2)) ++ poW E oa ta tl ct ps sn cb tk) sz) := by
  refine Met.ofW (cc := cX5_style) (maxL := 4) (ret := (some .int)) (by decide) rfl ?_
  intro p e s m args below meth c s₁ B hml hv
  obtain ⟨rfl, hsz, hP, hK, hD0, hZ⟩ := hv
  have hx := B.exec
  have hb := B.bytes
  have hr := B.returns
  have hts := atoms_spec (ws := wsX5_style) B.pre
  have hown : s.vm.findClass RX5 = some m.cls := findClass_of_methodNamed B.named
  have hlocks := B.notSynchronized
  have hin0 : ∀ w ∈ u_ws RX0 TX0 2, w ∈ wsX5_style := mem_pl [59, 60] (by rfl)
  have hin5 : ∀ w ∈ u_ws RX5 TX5 7, w ∈ wsX5_style := mem_pl [52, 53, 54, 55, 56, 57, 58] (by rfl)
  subst hsz
  have hD := hD0.self (sz := s.heap.size)
  generalize hAe : va_A (((iaW E ia tx z y v kq gp gd) ++ (txW E tx n (slot oa pi)) ++ (neW E z op hg la tops dpt lst stry srt lin tokA wah fol par_ opn) ++ (lyW E y sett clA) ++ (lyW E v setv clV) ++ (pkW E (kq 0) kn0 kz0 kl0 kp0 kk0) ++ (pkW E (kq 1) kn1 kz1 kl1 kp1 kk1) ++ (pkW E (kq 2) kn2 kz2 kl2 kp2 kk2)) ++ poW E oa ta tl ct ps sn cb tk) s.heap.size = A at hD hZ ⊢
  have hA : ∀ q : Nat, s.heap.size ≤ q → A q := fun q h => by rw [← hAe]; exact Or.inr h
  have hS : va_S A s.heap s.heap [] := va_S.rf
  have hl := lv_entry ([.ref (ia 0), .int a1, .int a2]) (n := 4) (Nat.le_of_ble_eq_true rfl)
  rw [lg_entry_eq]
  generalize (lg_sl ([.ref (ia 0), .int a1, .int a2]) ++ List.replicate (4 - (lg_sl ([.ref (ia 0), .int a1, .int a2])).length) Slot.unset).toArray = ls at hl ⊢
  have hl : lv_has ls 4 [(0, .ref (ia 0)), (1, .int a1), (2, .int a2)] := hl
  obtain ⟨hN, hok, hop, hPL, hSN, hpp, hCN, hsg, hcl, hk0, hk1, hk2⟩ := id hab
  have hn : n ≤ 20 := by rw [hN]; exact hok.1
  have hrn : ∀ j, j < n → aR ab j < 1000000000 := fun j hj => (hok.2.1 j (by omega)).1
  have hpi : ∀ i, i < 20 → pi i < 20 := fun i hi => (hpp i hi).1
  have hwN := wfN_all (row := aR ab) (aN ab) (fun j hj => hrn j (by omega))
  have hob : nO (aNest ab) ≤ 180 := Nat.le_trans hwN.2.1 (by omega)
  have hCn : CN (nAll (aR ab) n) n tops dpt lst stry srt lin tokA wah fol par_ opn := by rw [hN] at hCN ⊢; exact hCN
  have hLN : LN (nF (aNest ab)) (nO (aNest ab)) srt lin wah fol := hCN.ln (by omega) (fun j hj => hrn j (by omega))
  by_cases hx1 : ixP a1 4
  · obtain ⟨j, hj, rfl⟩ := (ixP_iff (by omega)).mp hx1
    refine lv_iload_n hx hb dX5_style_0 rfl (lv_at hl 1 rfl) ?_
    refine n_if_lt (a := j) (tgt := 9) hx hb (by omega) dX5_style_1 (by decide) ?_
    refine lv_iload_n hx hb dX5_style_4 rfl (lv_at hl 1 rfl) ?_
    refine lv_iconst (v := (nI 4)) hx hb dX5_style_5 (by decide) ?_
    refine n_icmp_lt (a := j) (b := 4) (tgt := 11) hx hb (by omega) (by decide) dX5_style_6 (by decide) (fun c6 => ?_) (fun c6 => absurd c6 (by omega))
    refine lv_iload_n hx hb dX5_style_11 rfl (lv_at hl 1 rfl) ?_
    refine lv_iload_n hx hb dX5_style_12 rfl (lv_at hl 2 rfl) ?_
    refine rs_i (n := 2) (G := G) (E := E) (As := [.int (nI j), .int a2]) (rest := []) ⟨hx, hb, hml, hown, hts⟩ hK hZ hS (c_X5_isSetting l G E j a2 (by first | assumption | omega)) gX5_style_X5_isSetting rfl rfl rfl (by decide +kernel) ⟨Nat.le_of_ble_eq_true rfl, Nat.le_of_ble_eq_true rfl⟩ (fun k q h => by simp at h) hl.1 rfl rfl (Nat.le_of_ble_eq_true rfl) dX5_style_13 ⟨Nat.zero_le _, Nat.zero_le _⟩ (fun r13 p13 => ?_)
    rcases p13 with ⟨h13, rfl⟩ | ⟨h13, rfl⟩
    · refine n_if_ne (a := 1) (tgt := 22) hx hb (by decide) dX5_style_16 (by decide) (fun c16 => ?_) (fun c16 => absurd c16 (by decide))
      refine lv_aload_n hx hb dX5_style_22 rfl (lv_at hl 0 rfl) ?_
      refine va_get (D := G) (ci := 5) (v := .ref (y 0)) (C := RX5) (T := TX5) (N := 7) hx hb hts hin5 hown hK hP 0 rfl rfl 2 (by decide) (hts (Cond.fieldLink RX5 26 "IndentRules" "now" "LIndentRules$Layout;") (List.mem_of_getElem? (i := 1) rfl)) (fun _ h9 => h9) rfl dX5_style_23 ?_
      refine va_get (D := G) (ci := 0) (v := .ref (y 1)) (C := RX0) (T := TX0) (N := 2) hx hb hts hin0 hown hK hP 17 rfl rfl 0 (by decide) (hts (Cond.fieldLink RX5 90 "IndentRules$Layout" "settings" "[I") (List.mem_of_getElem? (i := 2) rfl)) (fun _ h9 => h9) rfl dX5_style_26 ?_
      refine lv_iload_n hx hb dX5_style_29 rfl (lv_at hl 1 rfl) ?_
      refine k_iald (D := G) (tys := TYS E) (j := j) (f := sett) (n := 4) hx hb hK hP 18 0 rfl rfl (by omega) (by decide) dX5_style_30 ?_
      refine lv_istore_n (lv' := [(3, .int (sett j)), (0, .ref (ia 0)), (1, .int (nI j)), (2, .int a2)]) hx hb dX5_style_31 rfl hl (by decide) rfl (fun ls hl => ?_)
      refine lv_aload_n hx hb dX5_style_32 rfl (lv_at hl 1 rfl) ?_
      refine va_get (D := G) (ci := 5) (v := .ref (y 0)) (C := RX5) (T := TX5) (N := 7) hx hb hts hin5 hown hK hP 0 rfl rfl 2 (by decide) (hts (Cond.fieldLink RX5 26 "IndentRules" "now" "LIndentRules$Layout;") (List.mem_of_getElem? (i := 1) rfl)) (fun _ h9 => h9) rfl dX5_style_33 ?_
      refine va_get (D := G) (ci := 0) (v := .ref (y 1)) (C := RX0) (T := TX0) (N := 2) hx hb hts hin0 hown hK hP 17 rfl rfl 0 (by decide) (hts (Cond.fieldLink RX5 90 "IndentRules$Layout" "settings" "[I") (List.mem_of_getElem? (i := 2) rfl)) (fun _ h9 => h9) rfl dX5_style_36 ?_
      refine lv_iload_n hx hb dX5_style_39 rfl (lv_at hl 2 rfl) ?_
      refine lv_iload_n hx hb dX5_style_40 rfl (lv_at hl 3 rfl) ?_
      refine k_iast (D := G) (tys := TYS E) (j := j) (x := a2) (f := sett) (n := 4) hx hb hK hP hD hS 18 0 rfl rfl (by omega) (by decide) dX5_style_41 (fun H locs hP hD hS => ?_)
      have hP : va_P G vwCl (((iaW E ia tx z y v kq gp gd) ++ (txW E tx n (slot oa pi)) ++ (neW E z op hg la tops dpt lst stry srt lin tokA wah fol par_ opn) ++ (lyW E y (upd sett j a2) clA) ++ (lyW E v setv clV) ++ (pkW E (kq 0) kn0 kz0 kl0 kp0 kk0) ++ (pkW E (kq 1) kn1 kz1 kl1 kp1 kk1) ++ (pkW E (kq 2) kn2 kz2 kl2 kp2 kk2)) ++ poW E oa ta tl ct ps sn cb tk) H := hP
      have hD : va_D A (((iaW E ia tx z y v kq gp gd) ++ (txW E tx n (slot oa pi)) ++ (neW E z op hg la tops dpt lst stry srt lin tokA wah fol par_ opn) ++ (lyW E y (upd sett j a2) clA) ++ (lyW E v setv clV) ++ (pkW E (kq 0) kn0 kz0 kl0 kp0 kk0) ++ (pkW E (kq 1) kn1 kz1 kl1 kp1 kk1) ++ (pkW E (kq 2) kn2 kz2 kl2 kp2 kk2)) ++ poW E oa ta tl ct ps sn cb tk) := hD
      obtain ⟨f41, ef41⟩ : ∃ z : Nat → Int32, z = upd sett j a2 := ⟨_, rfl⟩
      rw [← ef41] at hP hD
      refine lv_aload_n hx hb dX5_style_42 rfl (lv_at hl 1 rfl) ?_
      refine va_get (D := G) (ci := 5) (v := .ref (y 0)) (C := RX5) (T := TX5) (N := 7) hx hb hts hin5 hown hK hP 0 rfl rfl 2 (by decide) (hts (Cond.fieldLink RX5 26 "IndentRules" "now" "LIndentRules$Layout;") (List.mem_of_getElem? (i := 1) rfl)) (fun _ h9 => h9) rfl dX5_style_43 ?_
      refine lv_aload_n hx hb dX5_style_46 rfl (lv_at hl 1 rfl) ?_
      refine va_get (D := G) (ci := 5) (v := .ref (tx 0)) (C := RX5) (T := TX5) (N := 7) hx hb hts hin5 hown hK hP 0 rfl rfl 0 (by decide) (hts (Cond.fieldLink RX5 12 "IndentRules" "text" "LIndentRules$Text;") (List.mem_of_getElem? (i := 3) rfl)) (fun _ h9 => h9) rfl dX5_style_47 ?_
      refine lv_aload_n hx hb dX5_style_50 rfl (lv_at hl 1 rfl) ?_
      refine va_get (D := G) (ci := 5) (v := .ref (z 0)) (C := RX5) (T := TX5) (N := 7) hx hb hts hin5 hown hK hP 0 rfl rfl 1 (by decide) (hts (Cond.fieldLink RX5 19 "IndentRules" "nesting" "LIndentRules$Nesting;") (List.mem_of_getElem? (i := 4) rfl)) (fun _ h9 => h9) rfl dX5_style_51 ?_
      refine we_v (n := 2) (G := G) (E := E) (As := [.ref (tx 0), .ref (z 0)]) (rest := []) (ci := 0) (q0 := 17) (X := (iaW E ia tx z y v kq gp gd) ++ (txW E tx n (slot oa pi)) ++ (neW E z op hg la tops dpt lst stry srt lin tokA wah fol par_ opn) ++ (lyW E y f41 clA) ++ (lyW E v setv clV) ++ (pkW E (kq 0) kn0 kz0 kl0 kp0 kk0) ++ (pkW E (kq 1) kn1 kz1 kl1 kp1 kk1) ++ (pkW E (kq 2) kn2 kz2 kl2 kp2 kk2)) (pl := poW E oa ta tl ct ps sn cb tk) (cx := (lyW E y f41 clA) ++ (neW E z op hg la tops dpt lst stry srt lin tokA wah fol par_ opn) ++ (txW E tx n (slot oa pi))) (ex := poW E oa ta tl ct ps sn cb tk) (wn := fun (clA' : Nat → Int32) => (lyW E y f41 clA') ++ (neW E z op hg la tops dpt lst stry srt lin tokA wah fol par_ opn) ++ (txW E tx n (slot oa pi))) ⟨hx, hb, hml, hown, hts⟩ hK hZ hS hA (fun sz => c_X0_lay l G E y f41 clA z op hg la tops dpt lst stry srt lin tokA wah fol par_ opn tx n pi oa ta tl ct ps sn cb tk (aR ab) (by first | assumption | omega) (by first | assumption | omega) (by first | assumption | omega) (by rw [hop, hN]) hCn sz) gX5_style_X0_lay rfl rfl rfl (by decide +kernel) ⟨Nat.le_of_ble_eq_true rfl, Nat.le_of_ble_eq_true rfl⟩ hP hD [17, 18, 19, 5, 6, 7, 8, 9, 10, 11, 12, 13, 14, 15, 16, 3, 4] rfl (by decide) (fun k => k) (fun _ _ h => h) (fun _ _ _ _ h => h) (fun _ => rfl) rfl rfl hl.1 rfl rfl (Nat.le_of_ble_eq_true rfl) dX5_style_54 ⟨Nat.zero_le _, Nat.zero_le _⟩ (fun u54 H locs p54 hP hD hS => ?_)
      generalize u54 = clA'_54 at p54 hP hD
      try dsimp only at p54 hP hD
      have hP : va_P G vwCl (((iaW E ia tx z y v kq gp gd) ++ (txW E tx n (slot oa pi)) ++ (neW E z op hg la tops dpt lst stry srt lin tokA wah fol par_ opn) ++ (lyW E y f41 clA'_54) ++ (lyW E v setv clV) ++ (pkW E (kq 0) kn0 kz0 kl0 kp0 kk0) ++ (pkW E (kq 1) kn1 kz1 kl1 kp1 kk1) ++ (pkW E (kq 2) kn2 kz2 kl2 kp2 kk2)) ++ poW E oa ta tl ct ps sn cb tk) H := hP
      have hD : va_D A (((iaW E ia tx z y v kq gp gd) ++ (txW E tx n (slot oa pi)) ++ (neW E z op hg la tops dpt lst stry srt lin tokA wah fol par_ opn) ++ (lyW E y f41 clA'_54) ++ (lyW E v setv clV) ++ (pkW E (kq 0) kn0 kz0 kl0 kp0 kk0) ++ (pkW E (kq 1) kn1 kz1 kl1 kp1 kk1) ++ (pkW E (kq 2) kn2 kz2 kl2 kp2 kk2)) ++ poW E oa ta tl ct ps sn cb tk) := hD
      refine lv_iload_n hx hb dX5_style_57 rfl (lv_at hl 0 rfl) ?_
      exact W.iret (v := (sett j)) hx hb hr (fun tZ htZ hWZ => ⟨⟨_, (f41, clA'_54), rfl, by rw [fStyle_ok (A := ab) hj h13]; exact ⟨hsg j (by omega), cls_style hab (by rw [ef41]; exact eq_upd hsg) p54⟩, by show va_P G vwCl _ tZ.heap; rw [htZ]; exact hP⟩, hS.F htZ⟩) hS.2.2 dX5_style_58
    · refine n_if_ne (a := 0) (tgt := 22) hx hb (by decide) dX5_style_16 (by decide) (fun c16 => absurd c16 (by decide)) (fun c16 => ?_)
      refine lv_bipush (v := (-2)) hx hb dX5_style_19 (by decide) ?_
      exact W.iret (v := (-2)) hx hb hr (fun tZ htZ hWZ => ⟨⟨_, (sett, clA), rfl, by rw [fStyle_2 hj h13]; exact ⟨rfl, hab⟩, by show va_P G vwCl _ tZ.heap; rw [htZ]; exact hP⟩, hS.F htZ⟩) hS.2.2 dX5_style_21
  · have hx1b : True := trivial
    refine lv_iload_n hx hb dX5_style_0 rfl (lv_at hl 1 rfl) ?_
    refine lv_if_lt (x := a1) (tgt := 9) hx hb dX5_style_1 (by decide) (fun c1 => ?_) (fun c1 => ?_)
    · refine lv_iconst (v := (-1)) hx hb dX5_style_9 (by decide) ?_
      exact W.iret (v := (-1)) hx hb hr (fun tZ htZ hWZ => ⟨⟨_, (sett, clA), rfl, by rw [fStyle_1 hx1]; exact ⟨rfl, hab⟩, by show va_P G vwCl _ tZ.heap; rw [htZ]; exact hP⟩, hS.F htZ⟩) hS.2.2 dX5_style_10
    · refine lv_iload_n hx hb dX5_style_4 rfl (lv_at hl 1 rfl) ?_
      refine lv_iconst (v := (nI 4)) hx hb dX5_style_5 (by decide) ?_
      refine lv_icmp_lt (x := a1) (y := (nI 4)) (tgt := 11) hx hb dX5_style_6 (by decide) (fun c6 => absurd ((ixP_iff (by decide)).mpr ((w_ix2 (n := 4) (by decide)).mp ⟨c1, Int32.not_le.mpr c6⟩)) hx1) (fun c6 => ?_)
      refine lv_iconst (v := (-1)) hx hb dX5_style_9 (by decide) ?_
      exact W.iret (v := (-1)) hx hb hr (fun tZ htZ hWZ => ⟨⟨_, (sett, clA), rfl, by rw [fStyle_1 hx1]; exact ⟨rfl, hab⟩, by show va_P G vwCl _ tZ.heap; rw [htZ]; exact hP⟩, hS.F htZ⟩) hS.2.2 dX5_style_10

set_option maxHeartbeats 4000000 in
set_option maxRecDepth 100000 in
theorem c_X5_see (l : Launch) (G : va_G) (E : cEnv) (ia tx z y v : Nat → Nat) (kq : Nat → Nat → Nat) (gp : Int32) (gd : Nat → Int32) (n : Nat) (pi : Nat → Nat) (op hg la : Nat) (tops dpt lst stry srt lin tokA wah fol par_ opn : Nat → Int32) (sett clA setv clV : Nat → Int32) (kn0 kz0 kn1 kz1 kn2 kz2 : Nat) (kl0 kp0 kk0 kl1 kp1 kk1 kl2 kp2 kk2 : Nat → Int32) (oa ta : Nat → Nat) (tl ct ps : Nat → Nat) (sn cb : Nat → Int32) (tk : Nat → Nat → Int32) (a1 a2 : Int32) (ab : ABS) (hab : ClsOk ab n op pi tl ct ps sn tk tops dpt lst stry srt lin tokA wah fol par_ opn sett clA kn0 kz0 kn1 kz1 kn2 kz2 kl0 kp0 kk0 kl1 kp1 kk1 kl2 kp2 kk2) (sz : Nat) : Met l yX5_see wsX5_see ({ frames := 1, cells := 0, slots := 0, locals := 21 }) (va_Pc [.ref (ia 0), .int a1, .int a2] (PW G E (((iaW E ia tx z y v kq gp gd) ++ (txW E tx n (slot oa pi)) ++ (neW E z op hg la tops dpt lst stry srt lin tokA wah fol par_ opn) ++ (lyW E y sett clA) ++ (lyW E v setv clV) ++ (pkW E (kq 0) kn0 kz0 kl0 kp0 kk0) ++ (pkW E (kq 1) kn1 kz1 kl1 kp1 kk1) ++ (pkW E (kq 2) kn2 kz2 kl2 kp2 kk2)) ++ poW E oa ta tl ct ps sn cb tk) sz)) (va_Qi (fun (r : Int32) (sn' : Nat → Int32) => r = (fSee ab a1 a2).1 ∧ ClsOk ((fSee ab a1 a2).2) n op pi tl ct ps sn' tk tops dpt lst stry srt lin tokA wah fol par_ opn sett clA kn0 kz0 kn1 kz1 kn2 kz2 kl0 kp0 kk0 kl1 kp1 kk1 kl2 kp2 kk2) (fun (sn' : Nat → Int32) tQ => va_P G vwCl (((iaW E ia tx z y v kq gp gd) ++ (txW E tx n (slot oa pi)) ++ (neW E z op hg la tops dpt lst stry srt lin tokA wah fol par_ opn) ++ (lyW E y sett clA) ++ (lyW E v setv clV) ++ (pkW E (kq 0) kn0 kz0 kl0 kp0 kk0) ++ (pkW E (kq 1) kn1 kz1 kl1 kp1 kk1) ++ (pkW E (kq 2) kn2 kz2 kl2 kp2 kk2)) ++ poW E oa ta tl ct ps sn' cb tk) tQ.heap) (va_A (((iaW E ia tx z y v kq gp gd) ++ (txW E tx n (slot oa pi)) ++ (neW E z op hg la tops dpt lst stry srt lin tokA wah fol par_ opn) ++ (lyW E y sett clA) ++ (lyW E v setv clV) ++ (pkW E (kq 0) kn0 kz0 kl0 kp0 kk0) ++ (pkW E (kq 1) kn1 kz1 kl1 kp1 kk1) ++ (pkW E (kq 2) kn2 kz2 kl2 kp2 kk2)) ++ poW E oa ta tl ct ps sn cb tk) sz)) 0 0 (va_A (((iaW E ia tx z y v kq gp gd) ++ (txW E tx n (slot oa pi)) ++ (neW E z op hg la tops dpt lst stry srt lin tokA wah fol par_ opn) ++ (lyW E y sett clA) ++ (lyW E v setv clV) ++ (pkW E (kq 0) kn0 kz0 kl0 kp0 kk0) ++ (pkW E (kq 1) kn1 kz1 kl1 kp1 kk1) ++ (pkW E (kq 2) kn2 kz2 kl2 kp2 kk2)) ++ poW E oa ta tl ct ps sn cb tk) sz) := by
  refine Met.ofW (cc := cX5_see) (maxL := 5) (ret := (some .int)) (by decide) rfl ?_
  intro p e s m args below meth c s₁ B hml hv
  obtain ⟨rfl, hsz, hP, hK, hD0, hZ⟩ := hv
  have hx := B.exec
  have hb := B.bytes
  have hr := B.returns
  have hts := atoms_spec (ws := wsX5_see) B.pre
  have hown : s.vm.findClass RX5 = some m.cls := findClass_of_methodNamed B.named
  have hlocks := B.notSynchronized
  have hin1 : ∀ w ∈ u_ws RX1 TX1 6, w ∈ wsX5_see := mem_pl [19, 20, 21, 22, 23, 24] (by rfl)
  have hin4 : ∀ w ∈ u_ws RX4 TX4 2, w ∈ wsX5_see := mem_pl [17, 18] (by rfl)
  have hin5 : ∀ w ∈ u_ws RX5 TX5 7, w ∈ wsX5_see := mem_pl [10, 11, 12, 13, 14, 15, 16] (by rfl)
  subst hsz
  have hD := hD0.self (sz := s.heap.size)
  generalize hAe : va_A (((iaW E ia tx z y v kq gp gd) ++ (txW E tx n (slot oa pi)) ++ (neW E z op hg la tops dpt lst stry srt lin tokA wah fol par_ opn) ++ (lyW E y sett clA) ++ (lyW E v setv clV) ++ (pkW E (kq 0) kn0 kz0 kl0 kp0 kk0) ++ (pkW E (kq 1) kn1 kz1 kl1 kp1 kk1) ++ (pkW E (kq 2) kn2 kz2 kl2 kp2 kk2)) ++ poW E oa ta tl ct ps sn cb tk) s.heap.size = A at hD hZ ⊢
  have hA : ∀ q : Nat, s.heap.size ≤ q → A q := fun q h => by rw [← hAe]; exact Or.inr h
  have hS : va_S A s.heap s.heap [] := va_S.rf
  have hl := lv_entry ([.ref (ia 0), .int a1, .int a2]) (n := 5) (Nat.le_of_ble_eq_true rfl)
  rw [lg_entry_eq]
  generalize (lg_sl ([.ref (ia 0), .int a1, .int a2]) ++ List.replicate (5 - (lg_sl ([.ref (ia 0), .int a1, .int a2])).length) Slot.unset).toArray = ls at hl ⊢
  have hl : lv_has ls 5 [(0, .ref (ia 0)), (1, .int a1), (2, .int a2)] := hl
  obtain ⟨hN, hok, hop, hPL, hSN, hpp, hCN, hsg, hcl, hk0, hk1, hk2⟩ := id hab
  have hn : n ≤ 20 := by rw [hN]; exact hok.1
  have hrn : ∀ j, j < n → aR ab j < 1000000000 := fun j hj => (hok.2.1 j (by omega)).1
  have hpi : ∀ i, i < 20 → pi i < 20 := fun i hi => (hpp i hi).1
  have hwN := wfN_all (row := aR ab) (aN ab) (fun j hj => hrn j (by omega))
  have hob : nO (aNest ab) ≤ 180 := Nat.le_trans hwN.2.1 (by omega)
  have hCn : CN (nAll (aR ab) n) n tops dpt lst stry srt lin tokA wah fol par_ opn := by rw [hN] at hCN ⊢; exact hCN
  have hLN : LN (nF (aNest ab)) (nO (aNest ab)) srt lin wah fol := hCN.ln (by omega) (fun j hj => hrn j (by omega))
  refine lv_aload_n hx hb dX5_see_0 rfl (lv_at hl 0 rfl) ?_
  refine lv_iload_n hx hb dX5_see_1 rfl (lv_at hl 1 rfl) ?_
  refine rv_i (n := 1) (G := G) (E := E) (As := [.int a1]) (rest := []) (ci := 5) (q0 := 0) ⟨hx, hb, hml, hown, hts⟩ hK hZ hS (c_X5_isLine l G E ia tx z y v kq gp gd n pi op hg la tops dpt lst stry srt lin tokA wah fol par_ opn sett clA setv clV kn0 kz0 kn1 kz1 kn2 kz2 kl0 kp0 kk0 kl1 kp1 kk1 kl2 kp2 kk2 oa ta tl ct ps sn cb tk a1 (by first | assumption | omega)) gX5_see_X5_isLine rfl rfl rfl (by decide +kernel) ⟨Nat.le_of_ble_eq_true rfl, Nat.le_of_ble_eq_true rfl⟩ hP rfl rfl hl.1 rfl rfl (Nat.le_of_ble_eq_true rfl) dX5_see_2 ⟨Nat.zero_le _, Nat.zero_le _⟩ (fun r2 p2 => ?_)
  rcases p2 with ⟨⟨j, hj, rfl⟩, rfl⟩ | ⟨h2, rfl⟩
  · refine n_if_ne (a := 1) (tgt := 10) hx hb (by decide) dX5_see_5 (by decide) (fun c5 => ?_) (fun c5 => absurd c5 (by decide))
    refine lv_iload_n hx hb dX5_see_10 rfl (lv_at hl 2 rfl) ?_
    refine lv_bipush (v := (-9)) hx hb dX5_see_11 (by decide) ?_
    refine lv_icmp_eq (x := a2) (y := (-9)) (tgt := 30) hx hb dX5_see_13 (by decide) (fun c13 => ?_) (fun c13 => ?_)
    · refine lv_aload_n hx hb dX5_see_30 rfl (lv_at hl 0 rfl) ?_
      refine va_get (D := G) (ci := 5) (v := .ref (tx 0)) (C := RX5) (T := TX5) (N := 7) hx hb hts hin5 hown hK hP 0 rfl rfl 0 (by decide) (hts (Cond.fieldLink RX5 12 "IndentRules" "text" "LIndentRules$Text;") (List.mem_of_getElem? (i := 1) rfl)) (fun _ h9 => h9) rfl dX5_see_31 ?_
      refine va_get (D := G) (ci := 4) (v := .ref (tx 1)) (C := RX4) (T := TX4) (N := 2) hx hb hts hin4 hown hK hP 3 rfl rfl 0 (by decide) (hts (Cond.fieldLink RX5 73 "IndentRules$Text" "lines" "[LIndentRules$Line;") (List.mem_of_getElem? (i := 2) rfl)) (fun _ h9 => h9) rfl dX5_see_34 ?_
      refine lv_iload_n hx hb dX5_see_37 rfl (lv_at hl 1 rfl) ?_
      refine k_aald (D := G) (tys := TYS E) (j := j) (f := (slot oa pi)) (n := 20) hx hb hK hP 4 2 rfl rfl (by omega) (by decide) dX5_see_38 ?_
      refine W.eq (g2 := F0 m 39 ls [.ref (oa (pi j))]) rfl ?_
      refine lv_astore_n (lv' := [(3, .ref (oa (pi j))), (0, .ref (ia 0)), (1, .int (nI j)), (2, .int a2)]) hx hb dX5_see_39 rfl hl (by decide) rfl (fun ls hl => ?_)
      refine lv_aload_n hx hb dX5_see_40 rfl (lv_at hl 0 rfl) ?_
      refine va_get (D := G) (ci := 1) (v := .int (sn (pi j))) (C := RX1) (T := TX1) (N := 6) hx hb hts hin1 hown hK hP (35 + (pi j)) (po_lnX rfl (hpi _ (by omega))) rfl 4 (by decide) (hts (Cond.fieldLink RX5 115 "IndentRules$Line" "seen" "I") (List.mem_of_getElem? (i := 3) rfl)) (fun _ h9 => h9) rfl dX5_see_41 ?_
      refine lv_istore (lv' := [(4, .int (sn (pi j))), (3, .ref (oa (pi j))), (0, .ref (ia 0)), (1, .int (nI j)), (2, .int a2)]) hx hb dX5_see_44 hl (by decide) rfl (fun ls hl => ?_)
      refine lv_aload_n hx hb dX5_see_46 rfl (lv_at hl 1 rfl) ?_
      refine lv_iload_n hx hb dX5_see_47 rfl (lv_at hl 4 rfl) ?_
      refine va_put (D := G) (ci := 1) (v := .int a2) (ty := .int) (C := RX1) (T := TX1) (N := 6) hx hb hts hin1 tyX1 tyX1_ok nmX1 hown hK hP hD hS (35 + (pi j)) (po_lnX rfl (hpi j (by omega))) rfl 4 (by decide) (hts (Cond.fieldLink RX5 115 "IndentRules$Line" "seen" "I") (List.mem_of_getElem? (i := 3) rfl)) (fun _ h9 => h9) rfl (by decide +kernel) rfl rfl (Nat.le_of_ble_eq_true rfl) dX5_see_48 (fun H locs hP hD hS => ?_)
      have hP := Eq.mp (congrArg (fun w => va_P G vwCl w H) (po_sn (X := (iaW E ia tx z y v kq gp gd) ++ (txW E tx n (slot oa pi)) ++ (neW E z op hg la tops dpt lst stry srt lin tokA wah fol par_ opn) ++ (lyW E y sett clA) ++ (lyW E v setv clV) ++ (pkW E (kq 0) kn0 kz0 kl0 kp0 kk0) ++ (pkW E (kq 1) kn1 kz1 kl1 kp1 kk1) ++ (pkW E (kq 2) kn2 kz2 kl2 kp2 kk2)) (n := 35) (i := (pi j)) (v := a2) rfl (hpi j (by omega)))) hP
      have hD := Eq.mp (congrArg (fun w => va_D A w) (po_sn (X := (iaW E ia tx z y v kq gp gd) ++ (txW E tx n (slot oa pi)) ++ (neW E z op hg la tops dpt lst stry srt lin tokA wah fol par_ opn) ++ (lyW E y sett clA) ++ (lyW E v setv clV) ++ (pkW E (kq 0) kn0 kz0 kl0 kp0 kk0) ++ (pkW E (kq 1) kn1 kz1 kl1 kp1 kk1) ++ (pkW E (kq 2) kn2 kz2 kl2 kp2 kk2)) (n := 35) (i := (pi j)) (v := a2) rfl (hpi j (by omega)))) hD
      obtain ⟨sn48, esn48⟩ : ∃ z : Nat → Int32, z = upd sn (pi j) a2 := ⟨_, rfl⟩
      rw [← esn48] at hP hD
      have hP : va_P G vwCl (((iaW E ia tx z y v kq gp gd) ++ (txW E tx n (slot oa pi)) ++ (neW E z op hg la tops dpt lst stry srt lin tokA wah fol par_ opn) ++ (lyW E y sett clA) ++ (lyW E v setv clV) ++ (pkW E (kq 0) kn0 kz0 kl0 kp0 kk0) ++ (pkW E (kq 1) kn1 kz1 kl1 kp1 kk1) ++ (pkW E (kq 2) kn2 kz2 kl2 kp2 kk2)) ++ poW E oa ta tl ct ps sn48 cb tk) H := hP
      have hD : va_D A (((iaW E ia tx z y v kq gp gd) ++ (txW E tx n (slot oa pi)) ++ (neW E z op hg la tops dpt lst stry srt lin tokA wah fol par_ opn) ++ (lyW E y sett clA) ++ (lyW E v setv clV) ++ (pkW E (kq 0) kn0 kz0 kl0 kp0 kk0) ++ (pkW E (kq 1) kn1 kz1 kl1 kp1 kk1) ++ (pkW E (kq 2) kn2 kz2 kl2 kp2 kk2)) ++ poW E oa ta tl ct ps sn48 cb tk) := hD
      refine lv_iload hx hb dX5_see_51 (lv_at hl 0 rfl) ?_
      exact W.iret (v := (sn (pi j))) hx hb hr (fun tZ htZ hWZ => ⟨⟨_, sn48, rfl, by rw [fSee_ok (A := ab) (by omega) (by omega) (Or.inl c13)]; exact ⟨hSN j hj, hN, okA_lines hok hok.1 hok.2.1, hop, hPL, by rw [esn48]; exact SN_upd hSN hpp hj hn, hpp, hCN, hsg, hcl, hk0, hk1, hk2⟩, by show va_P G vwCl _ tZ.heap; rw [htZ]; exact hP⟩, hS.F htZ⟩) hS.2.2 dX5_see_53
    · refine lv_iload_n hx hb dX5_see_16 rfl (lv_at hl 2 rfl) ?_
      refine lv_if_lt (x := a2) (tgt := 27) hx hb dX5_see_17 (by decide) (fun c17 => ?_) (fun c17 => ?_)
      · refine lv_bipush (v := (-2)) hx hb dX5_see_27 (by decide) ?_
        exact W.iret (v := (-2)) hx hb hr (fun tZ htZ hWZ => ⟨⟨_, sn, rfl, by rw [fSee_2 (ixP_n (by omega) (by omega)) (fun q => q.elim c13 (fun q => absurd c17 (Int32.not_lt.mpr (by have a3 := ((w_rgx (n := 200) (by decide)).mpr q).1; rw [nI_0] at a3; exact a3))))]; exact ⟨rfl, hab⟩, by show va_P G vwCl _ tZ.heap; rw [htZ]; exact hP⟩, hS.F htZ⟩) hS.2.2 dX5_see_29
      · refine lv_iload_n hx hb dX5_see_20 rfl (lv_at hl 2 rfl) ?_
        refine lv_sipush (v := (nI 200)) hx hb dX5_see_21 (by decide) ?_
        refine lv_icmp_le (x := a2) (y := (nI 200)) (tgt := 30) hx hb dX5_see_24 (by decide) (fun c24 => ?_) (fun c24 => ?_)
        · refine lv_aload_n hx hb dX5_see_30 rfl (lv_at hl 0 rfl) ?_
          refine va_get (D := G) (ci := 5) (v := .ref (tx 0)) (C := RX5) (T := TX5) (N := 7) hx hb hts hin5 hown hK hP 0 rfl rfl 0 (by decide) (hts (Cond.fieldLink RX5 12 "IndentRules" "text" "LIndentRules$Text;") (List.mem_of_getElem? (i := 1) rfl)) (fun _ h9 => h9) rfl dX5_see_31 ?_
          refine va_get (D := G) (ci := 4) (v := .ref (tx 1)) (C := RX4) (T := TX4) (N := 2) hx hb hts hin4 hown hK hP 3 rfl rfl 0 (by decide) (hts (Cond.fieldLink RX5 73 "IndentRules$Text" "lines" "[LIndentRules$Line;") (List.mem_of_getElem? (i := 2) rfl)) (fun _ h9 => h9) rfl dX5_see_34 ?_
          refine lv_iload_n hx hb dX5_see_37 rfl (lv_at hl 1 rfl) ?_
          refine k_aald (D := G) (tys := TYS E) (j := j) (f := (slot oa pi)) (n := 20) hx hb hK hP 4 2 rfl rfl (by omega) (by decide) dX5_see_38 ?_
          refine W.eq (g2 := F0 m 39 ls [.ref (oa (pi j))]) rfl ?_
          refine lv_astore_n (lv' := [(3, .ref (oa (pi j))), (0, .ref (ia 0)), (1, .int (nI j)), (2, .int a2)]) hx hb dX5_see_39 rfl hl (by decide) rfl (fun ls hl => ?_)
          refine lv_aload_n hx hb dX5_see_40 rfl (lv_at hl 0 rfl) ?_
          refine va_get (D := G) (ci := 1) (v := .int (sn (pi j))) (C := RX1) (T := TX1) (N := 6) hx hb hts hin1 hown hK hP (35 + (pi j)) (po_lnX rfl (hpi _ (by omega))) rfl 4 (by decide) (hts (Cond.fieldLink RX5 115 "IndentRules$Line" "seen" "I") (List.mem_of_getElem? (i := 3) rfl)) (fun _ h9 => h9) rfl dX5_see_41 ?_
          refine lv_istore (lv' := [(4, .int (sn (pi j))), (3, .ref (oa (pi j))), (0, .ref (ia 0)), (1, .int (nI j)), (2, .int a2)]) hx hb dX5_see_44 hl (by decide) rfl (fun ls hl => ?_)
          refine lv_aload_n hx hb dX5_see_46 rfl (lv_at hl 1 rfl) ?_
          refine lv_iload_n hx hb dX5_see_47 rfl (lv_at hl 4 rfl) ?_
          refine va_put (D := G) (ci := 1) (v := .int a2) (ty := .int) (C := RX1) (T := TX1) (N := 6) hx hb hts hin1 tyX1 tyX1_ok nmX1 hown hK hP hD hS (35 + (pi j)) (po_lnX rfl (hpi j (by omega))) rfl 4 (by decide) (hts (Cond.fieldLink RX5 115 "IndentRules$Line" "seen" "I") (List.mem_of_getElem? (i := 3) rfl)) (fun _ h9 => h9) rfl (by decide +kernel) rfl rfl (Nat.le_of_ble_eq_true rfl) dX5_see_48 (fun H locs hP hD hS => ?_)
          have hP := Eq.mp (congrArg (fun w => va_P G vwCl w H) (po_sn (X := (iaW E ia tx z y v kq gp gd) ++ (txW E tx n (slot oa pi)) ++ (neW E z op hg la tops dpt lst stry srt lin tokA wah fol par_ opn) ++ (lyW E y sett clA) ++ (lyW E v setv clV) ++ (pkW E (kq 0) kn0 kz0 kl0 kp0 kk0) ++ (pkW E (kq 1) kn1 kz1 kl1 kp1 kk1) ++ (pkW E (kq 2) kn2 kz2 kl2 kp2 kk2)) (n := 35) (i := (pi j)) (v := a2) rfl (hpi j (by omega)))) hP
          have hD := Eq.mp (congrArg (fun w => va_D A w) (po_sn (X := (iaW E ia tx z y v kq gp gd) ++ (txW E tx n (slot oa pi)) ++ (neW E z op hg la tops dpt lst stry srt lin tokA wah fol par_ opn) ++ (lyW E y sett clA) ++ (lyW E v setv clV) ++ (pkW E (kq 0) kn0 kz0 kl0 kp0 kk0) ++ (pkW E (kq 1) kn1 kz1 kl1 kp1 kk1) ++ (pkW E (kq 2) kn2 kz2 kl2 kp2 kk2)) (n := 35) (i := (pi j)) (v := a2) rfl (hpi j (by omega)))) hD
          obtain ⟨sn48, esn48⟩ : ∃ z : Nat → Int32, z = upd sn (pi j) a2 := ⟨_, rfl⟩
          rw [← esn48] at hP hD
          have hP : va_P G vwCl (((iaW E ia tx z y v kq gp gd) ++ (txW E tx n (slot oa pi)) ++ (neW E z op hg la tops dpt lst stry srt lin tokA wah fol par_ opn) ++ (lyW E y sett clA) ++ (lyW E v setv clV) ++ (pkW E (kq 0) kn0 kz0 kl0 kp0 kk0) ++ (pkW E (kq 1) kn1 kz1 kl1 kp1 kk1) ++ (pkW E (kq 2) kn2 kz2 kl2 kp2 kk2)) ++ poW E oa ta tl ct ps sn48 cb tk) H := hP
          have hD : va_D A (((iaW E ia tx z y v kq gp gd) ++ (txW E tx n (slot oa pi)) ++ (neW E z op hg la tops dpt lst stry srt lin tokA wah fol par_ opn) ++ (lyW E y sett clA) ++ (lyW E v setv clV) ++ (pkW E (kq 0) kn0 kz0 kl0 kp0 kk0) ++ (pkW E (kq 1) kn1 kz1 kl1 kp1 kk1) ++ (pkW E (kq 2) kn2 kz2 kl2 kp2 kk2)) ++ poW E oa ta tl ct ps sn48 cb tk) := hD
          refine lv_iload hx hb dX5_see_51 (lv_at hl 0 rfl) ?_
          exact W.iret (v := (sn (pi j))) hx hb hr (fun tZ htZ hWZ => ⟨⟨_, sn48, rfl, by rw [fSee_ok (A := ab) (by omega) (by omega) (Or.inr ((w_rgx (n := 200) (by decide)).mp ⟨(by rw [nI_0]; exact Int32.not_lt.mp c17), c24⟩))]; exact ⟨hSN j hj, hN, okA_lines hok hok.1 hok.2.1, hop, hPL, by rw [esn48]; exact SN_upd hSN hpp hj hn, hpp, hCN, hsg, hcl, hk0, hk1, hk2⟩, by show va_P G vwCl _ tZ.heap; rw [htZ]; exact hP⟩, hS.F htZ⟩) hS.2.2 dX5_see_53
        · refine lv_bipush (v := (-2)) hx hb dX5_see_27 (by decide) ?_
          exact W.iret (v := (-2)) hx hb hr (fun tZ htZ hWZ => ⟨⟨_, sn, rfl, by rw [fSee_2 (ixP_n (by omega) (by omega)) (fun q => q.elim c13 (fun q => c24 ((w_rgx (n := 200) (by decide)).mpr q).2))]; exact ⟨rfl, hab⟩, by show va_P G vwCl _ tZ.heap; rw [htZ]; exact hP⟩, hS.F htZ⟩) hS.2.2 dX5_see_29
  · have hx1 : ¬ ixP a1 (aN ab) := fun q => h2 (by rw [hN]; exact (ixP_iff (by omega)).mp q)
    refine n_if_ne (a := 0) (tgt := 10) hx hb (by decide) dX5_see_5 (by decide) (fun c5 => absurd c5 (by decide)) (fun c5 => ?_)
    refine lv_iconst (v := (-1)) hx hb dX5_see_8 (by decide) ?_
    exact W.iret (v := (-1)) hx hb hr (fun tZ htZ hWZ => ⟨⟨_, sn, rfl, by rw [fSee_1 hx1]; exact ⟨rfl, hab⟩, by show va_P G vwCl _ tZ.heap; rw [htZ]; exact hP⟩, hS.F htZ⟩) hS.2.2 dX5_see_9

set_option maxHeartbeats 4000000 in
set_option maxRecDepth 100000 in
theorem c_X5_ofLine (l : Launch) (G : va_G) (E : cEnv) (ia tx z y v : Nat → Nat) (kq : Nat → Nat → Nat) (gp : Int32) (gd : Nat → Int32) (n : Nat) (pi : Nat → Nat) (op hg la : Nat) (tops dpt lst stry srt lin tokA wah fol par_ opn : Nat → Int32) (sett clA setv clV : Nat → Int32) (kn0 kz0 kn1 kz1 kn2 kz2 : Nat) (kl0 kp0 kk0 kl1 kp1 kk1 kl2 kp2 kk2 : Nat → Int32) (oa ta : Nat → Nat) (tl ct ps : Nat → Nat) (sn cb : Nat → Int32) (tk : Nat → Nat → Int32) (a1 a2 : Int32) (ab : ABS) (hab : ClsOk ab n op pi tl ct ps sn tk tops dpt lst stry srt lin tokA wah fol par_ opn sett clA kn0 kz0 kn1 kz1 kn2 kz2 kl0 kp0 kk0 kl1 kp1 kk1 kl2 kp2 kk2) : Met l yX5_ofLine wsX5_ofLine ({ frames := 1, cells := 0, slots := 0, locals := 23 }) (va_Pc [.ref (ia 0), .int a1, .int a2] (PR G E (((iaW E ia tx z y v kq gp gd) ++ (txW E tx n (slot oa pi)) ++ (neW E z op hg la tops dpt lst stry srt lin tokA wah fol par_ opn) ++ (lyW E y sett clA) ++ (lyW E v setv clV) ++ (pkW E (kq 0) kn0 kz0 kl0 kp0 kk0) ++ (pkW E (kq 1) kn1 kz1 kl1 kp1 kk1) ++ (pkW E (kq 2) kn2 kz2 kl2 kp2 kk2)) ++ poW E oa ta tl ct ps sn cb tk))) (vp_Si (fun r => r = fOfLine ab a1 a2)) 0 0 (fun _ => False) := by
  refine Met.ofW (cc := cX5_ofLine) (maxL := 4) (ret := (some .int)) (by decide) rfl ?_
  intro p e s m args below meth c s₁ B hml hv
  obtain ⟨rfl, hP, hK, hZ⟩ := hv
  have hx := B.exec
  have hb := B.bytes
  have hr := B.returns
  have hts := atoms_spec (ws := wsX5_ofLine) B.pre
  have hown : s.vm.findClass RX5 = some m.cls := findClass_of_methodNamed B.named
  have hlocks := B.notSynchronized
  have hin0 : ∀ w ∈ u_ws RX0 TX0 2, w ∈ wsX5_ofLine := mem_pl [39, 40] (by rfl)
  have hin1 : ∀ w ∈ u_ws RX1 TX1 6, w ∈ wsX5_ofLine := mem_pl [33, 34, 35, 36, 37, 38] (by rfl)
  have hin2 : ∀ w ∈ u_ws RX2 TX2 14, w ∈ wsX5_ofLine := mem_pl [41, 42, 43, 44, 45, 46, 47, 48, 49, 50, 51, 52, 53, 54] (by rfl)
  have hin4 : ∀ w ∈ u_ws RX4 TX4 2, w ∈ wsX5_ofLine := mem_pl [31, 32] (by rfl)
  have hin5 : ∀ w ∈ u_ws RX5 TX5 7, w ∈ wsX5_ofLine := mem_pl [24, 25, 26, 27, 28, 29, 30] (by rfl)
  have hS : va_S (fun _ => False) s.heap s.heap [] := va_S.rf
  have hl := lv_entry ([.ref (ia 0), .int a1, .int a2]) (n := 4) (Nat.le_of_ble_eq_true rfl)
  rw [lg_entry_eq]
  generalize (lg_sl ([.ref (ia 0), .int a1, .int a2]) ++ List.replicate (4 - (lg_sl ([.ref (ia 0), .int a1, .int a2])).length) Slot.unset).toArray = ls at hl ⊢
  have hl : lv_has ls 4 [(0, .ref (ia 0)), (1, .int a1), (2, .int a2)] := hl
  obtain ⟨hN, hok, hop, hPL, hSN, hpp, hCN, hsg, hcl, hk0, hk1, hk2⟩ := id hab
  have hn : n ≤ 20 := by rw [hN]; exact hok.1
  have hrn : ∀ j, j < n → aR ab j < 1000000000 := fun j hj => (hok.2.1 j (by omega)).1
  have hpi : ∀ i, i < 20 → pi i < 20 := fun i hi => (hpp i hi).1
  have hwN := wfN_all (row := aR ab) (aN ab) (fun j hj => hrn j (by omega))
  have hob : nO (aNest ab) ≤ 180 := Nat.le_trans hwN.2.1 (by omega)
  have hCn : CN (nAll (aR ab) n) n tops dpt lst stry srt lin tokA wah fol par_ opn := by rw [hN] at hCN ⊢; exact hCN
  have hLN : LN (nF (aNest ab)) (nO (aNest ab)) srt lin wah fol := hCN.ln (by omega) (fun j hj => hrn j (by omega))
  refine lv_aload_n hx hb dX5_ofLine_0 rfl (lv_at hl 0 rfl) ?_
  refine lv_iload_n hx hb dX5_ofLine_1 rfl (lv_at hl 1 rfl) ?_
  refine rv_i (n := 1) (G := G) (E := E) (As := [.int a1]) (rest := []) (ci := 5) (q0 := 0) ⟨hx, hb, hml, hown, hts⟩ hK hZ hS (c_X5_isLine l G E ia tx z y v kq gp gd n pi op hg la tops dpt lst stry srt lin tokA wah fol par_ opn sett clA setv clV kn0 kz0 kn1 kz1 kn2 kz2 kl0 kp0 kk0 kl1 kp1 kk1 kl2 kp2 kk2 oa ta tl ct ps sn cb tk a1 (by first | assumption | omega)) gX5_ofLine_X5_isLine rfl rfl rfl (by decide +kernel) ⟨Nat.le_of_ble_eq_true rfl, Nat.le_of_ble_eq_true rfl⟩ hP rfl rfl hl.1 rfl rfl (Nat.le_of_ble_eq_true rfl) dX5_ofLine_2 ⟨Nat.zero_le _, Nat.zero_le _⟩ (fun r2 p2 => ?_)
  rcases p2 with ⟨⟨j, hj, rfl⟩, rfl⟩ | ⟨h2, rfl⟩
  · refine n_if_ne (a := 1) (tgt := 10) hx hb (by decide) dX5_ofLine_5 (by decide) (fun c5 => ?_) (fun c5 => absurd c5 (by decide))
    obtain ⟨hp1, hp2, hp3, hp4, hp5⟩ := hPL j hj
    have hl9 := (len_lt 9 (aR ab j)).mp (hrn j hj)
    refine lv_aload_n hx hb dX5_ofLine_10 rfl (lv_at hl 0 rfl) ?_
    refine va_get (D := G) (ci := 5) (v := .ref (tx 0)) (C := RX5) (T := TX5) (N := 7) hx hb hts hin5 hown hK hP 0 rfl rfl 0 (by decide) (hts (Cond.fieldLink RX5 12 "IndentRules" "text" "LIndentRules$Text;") (List.mem_of_getElem? (i := 1) rfl)) (fun _ h9 => h9) rfl dX5_ofLine_11 ?_
    refine va_get (D := G) (ci := 4) (v := .ref (tx 1)) (C := RX4) (T := TX4) (N := 2) hx hb hts hin4 hown hK hP 3 rfl rfl 0 (by decide) (hts (Cond.fieldLink RX5 73 "IndentRules$Text" "lines" "[LIndentRules$Line;") (List.mem_of_getElem? (i := 2) rfl)) (fun _ h9 => h9) rfl dX5_ofLine_14 ?_
    refine lv_iload_n hx hb dX5_ofLine_17 rfl (lv_at hl 1 rfl) ?_
    refine k_aald (D := G) (tys := TYS E) (j := j) (f := (slot oa pi)) (n := 20) hx hb hK hP 4 2 rfl rfl (by omega) (by decide) dX5_ofLine_18 ?_
    refine W.eq (g2 := F0 m 19 ls [.ref (oa (pi j))]) rfl ?_
    refine lv_astore_n (lv' := [(3, .ref (oa (pi j))), (0, .ref (ia 0)), (1, .int (nI j)), (2, .int a2)]) hx hb dX5_ofLine_19 rfl hl (by decide) rfl (fun ls hl => ?_)
    refine lv_iload_n hx hb dX5_ofLine_20 rfl (lv_at hl 3 rfl) ?_
    by_cases h21_0 : a2 = nI 0
    · refine lv_tableIn (off := 39) (tgt := 60) hx hb dX5_ofLine_21 (by rw [h21_0]; decide) (by rw [h21_0]; decide) (by rw [h21_0]; decide) (by decide) ?_
      refine lv_aload_n hx hb dX5_ofLine_60 rfl (lv_at hl 0 rfl) ?_
      refine va_get (D := G) (ci := 1) (v := .int (nI (tl (pi j)))) (C := RX1) (T := TX1) (N := 6) hx hb hts hin1 hown hK hP (35 + (pi j)) (po_lnX rfl hp1) rfl 1 (by decide) (hts (Cond.fieldLink RX5 97 "IndentRules$Line" "told" "I") (List.mem_of_getElem? (i := 3) rfl)) (fun _ h9 => h9) rfl dX5_ofLine_61 ?_
      exact W.iret (v := (nI (tl (pi j)))) hx hb hr (fun tZ htZ hWZ => ⟨_, rfl, by unfold fOfLine; rw [if_pos (ixP_n (by omega) (by omega)), ix_n (by omega), if_pos h21_0, hp2], htZ⟩) (fun _ h => by cases h) dX5_ofLine_64
    by_cases h21_1 : a2 = nI 1
    · refine lv_tableIn (off := 44) (tgt := 65) hx hb dX5_ofLine_21 (by rw [h21_1]; decide) (by rw [h21_1]; decide) (by rw [h21_1]; decide) (by decide) ?_
      refine lv_aload_n hx hb dX5_ofLine_65 rfl (lv_at hl 1 rfl) ?_
      refine va_get (D := G) (ci := 5) (v := .ref (y 0)) (C := RX5) (T := TX5) (N := 7) hx hb hts hin5 hown hK hP 0 rfl rfl 2 (by decide) (hts (Cond.fieldLink RX5 26 "IndentRules" "now" "LIndentRules$Layout;") (List.mem_of_getElem? (i := 4) rfl)) (fun _ h9 => h9) rfl dX5_ofLine_66 ?_
      refine va_get (D := G) (ci := 0) (v := .ref (y 2)) (C := RX0) (T := TX0) (N := 2) hx hb hts hin0 hown hK hP 17 rfl rfl 1 (by decide) (hts (Cond.fieldLink RX5 100 "IndentRules$Layout" "columns" "[I") (List.mem_of_getElem? (i := 5) rfl)) (fun _ h9 => h9) rfl dX5_ofLine_69 ?_
      refine lv_iload_n hx hb dX5_ofLine_72 rfl (lv_at hl 2 rfl) ?_
      refine k_iald (D := G) (tys := TYS E) (j := j) (f := clA) (n := 20) hx hb hK hP 19 0 rfl rfl (by omega) (by decide) dX5_ofLine_73 ?_
      exact W.iret (v := (clA j)) hx hb hr (fun tZ htZ hWZ => ⟨_, rfl, by unfold fOfLine; rw [if_pos (ixP_n (by omega) (by omega)), ix_n (by omega), if_neg h21_0, if_pos h21_1]; exact hcl j hj, htZ⟩) (fun _ h => by cases h) dX5_ofLine_74
    by_cases h21_2 : a2 = nI 2
    · refine lv_tableIn (off := 54) (tgt := 75) hx hb dX5_ofLine_21 (by rw [h21_2]; decide) (by rw [h21_2]; decide) (by rw [h21_2]; decide) (by decide) ?_
      refine lv_aload_n hx hb dX5_ofLine_75 rfl (lv_at hl 0 rfl) ?_
      refine va_get (D := G) (ci := 1) (v := .int (nI (ct (pi j)))) (C := RX1) (T := TX1) (N := 6) hx hb hts hin1 hown hK hP (35 + (pi j)) (po_lnX rfl hp1) rfl 2 (by decide) (hts (Cond.fieldLink RX5 103 "IndentRules$Line" "count" "I") (List.mem_of_getElem? (i := 6) rfl)) (fun _ h9 => h9) rfl dX5_ofLine_76 ?_
      refine n_if_ne (a := (ct (pi j))) (tgt := 86) hx hb (by omega) dX5_ofLine_79 (by decide) (fun c79 => ?_) (fun c79 => ?_)
      · refine lv_aload_n hx hb dX5_ofLine_86 rfl (lv_at hl 1 rfl) ?_
        refine va_get (D := G) (ci := 5) (v := .ref (y 0)) (C := RX5) (T := TX5) (N := 7) hx hb hts hin5 hown hK hP 0 rfl rfl 2 (by decide) (hts (Cond.fieldLink RX5 26 "IndentRules" "now" "LIndentRules$Layout;") (List.mem_of_getElem? (i := 4) rfl)) (fun _ h9 => h9) rfl dX5_ofLine_87 ?_
        refine va_get (D := G) (ci := 0) (v := .ref (y 2)) (C := RX0) (T := TX0) (N := 2) hx hb hts hin0 hown hK hP 17 rfl rfl 1 (by decide) (hts (Cond.fieldLink RX5 100 "IndentRules$Layout" "columns" "[I") (List.mem_of_getElem? (i := 5) rfl)) (fun _ h9 => h9) rfl dX5_ofLine_90 ?_
        refine lv_iload_n hx hb dX5_ofLine_93 rfl (lv_at hl 2 rfl) ?_
        refine k_iald (D := G) (tys := TYS E) (j := j) (f := clA) (n := 20) hx hb hK hP 19 0 rfl rfl (by omega) (by decide) dX5_ofLine_94 ?_
        refine lv_aload_n hx hb dX5_ofLine_95 rfl (lv_at hl 0 rfl) ?_
        refine lv_aload_n hx hb dX5_ofLine_96 rfl (lv_at hl 0 rfl) ?_
        refine va_get (D := G) (ci := 1) (v := .int (nI (ct (pi j)))) (C := RX1) (T := TX1) (N := 6) hx hb hts hin1 hown hK hP (35 + (pi j)) (po_lnX rfl hp1) rfl 2 (by decide) (hts (Cond.fieldLink RX5 103 "IndentRules$Line" "count" "I") (List.mem_of_getElem? (i := 6) rfl)) (fun _ h9 => h9) rfl dX5_ofLine_97 ?_
        refine rv_i (n := 1) (G := G) (E := E) (As := [.int (nI (ct (pi j)))]) (rest := [.int (clA j)]) (ci := 1) (q0 := 0) ⟨hx, hb, hml, hown, hts⟩ hK hZ hS (c_X1_widthAhead l G E (oa (pi j)) (ta (pi j)) (tl (pi j)) (ct (pi j)) (ps (pi j)) (sn (pi j)) (cb (pi j)) (tk (pi j)) (ct (pi j)) (aR ab j) (hrn j hj) hp3 hp5 (by omega)) gX5_ofLine_X1_widthAhead rfl rfl rfl (by decide +kernel) ⟨Nat.le_of_ble_eq_true rfl, Nat.le_of_ble_eq_true rfl⟩ (po_P2 hP hp1) rfl rfl hl.1 rfl rfl (Nat.le_of_ble_eq_true rfl) dX5_ofLine_100 ⟨Nat.zero_le _, Nat.zero_le _⟩ (fun r100 p100 => ?_)
        subst p100
        refine lv_iadd hx hb dX5_ofLine_103 ?_
        refine lv_topi (fun v103 ev103 => ?_)
        exact W.iret (v := v103) hx hb hr (fun tZ htZ hWZ => ⟨_, rfl, by unfold fOfLine; rw [if_pos (ixP_n (by omega) (by omega)), ix_n (by omega), if_neg h21_0, if_neg h21_1, if_pos h21_2, if_neg (fun q => by rw [q, len_0] at hp3; omega), ev103, hcl j hj, hp3], htZ⟩) (fun _ h => by cases h) dX5_ofLine_104
      · refine lv_iconst (v := (nI 0)) hx hb dX5_ofLine_82 (by decide) ?_
        refine lv_goto (tgt := 104) hx hb dX5_ofLine_83 (by decide) ?_
        exact W.iret (v := (nI 0)) hx hb hr (fun tZ htZ hWZ => ⟨_, rfl, by unfold fOfLine; rw [if_pos (ixP_n (by omega) (by omega)), ix_n (by omega), if_neg h21_0, if_neg h21_1, if_pos h21_2, if_pos (len_z.mp (by omega))], htZ⟩) (fun _ h => by cases h) dX5_ofLine_104
    by_cases h21_3 : a2 = nI 3
    · refine lv_tableIn (off := 84) (tgt := 105) hx hb dX5_ofLine_21 (by rw [h21_3]; decide) (by rw [h21_3]; decide) (by rw [h21_3]; decide) (by decide) ?_
      refine lv_aload_n hx hb dX5_ofLine_105 rfl (lv_at hl 1 rfl) ?_
      refine va_get (D := G) (ci := 5) (v := .ref (z 0)) (C := RX5) (T := TX5) (N := 7) hx hb hts hin5 hown hK hP 0 rfl rfl 1 (by decide) (hts (Cond.fieldLink RX5 19 "IndentRules" "nesting" "LIndentRules$Nesting;") (List.mem_of_getElem? (i := 7) rfl)) (fun _ h9 => h9) rfl dX5_ofLine_106 ?_
      refine va_get (D := G) (ci := 2) (v := .ref (z 2)) (C := RX2) (T := TX2) (N := 14) hx hb hts hin2 hown hK hP 5 rfl rfl 1 (by decide) (hts (Cond.fieldLink RX5 109 "IndentRules$Nesting" "depths" "[I") (List.mem_of_getElem? (i := 8) rfl)) (fun _ h9 => h9) rfl dX5_ofLine_109 ?_
      refine lv_iload_n hx hb dX5_ofLine_112 rfl (lv_at hl 2 rfl) ?_
      refine k_iald (D := G) (tys := TYS E) (j := j) (f := dpt) (n := 20) hx hb hK hP 7 0 rfl rfl (by omega) (by decide) dX5_ofLine_113 ?_
      rw [(hCN.2.1 j hj).2.1]
      exact W.iret (v := (nI (nF (aNest ab) 9 j))) hx hb hr (fun tZ htZ hWZ => ⟨_, rfl, by unfold fOfLine; rw [if_pos (ixP_n (by omega) (by omega)), ix_n (by omega), if_neg h21_0, if_neg h21_1, if_neg h21_2, if_pos h21_3], htZ⟩) (fun _ h => by cases h) dX5_ofLine_114
    by_cases h21_4 : a2 = nI 4
    · refine lv_tableIn (off := 94) (tgt := 115) hx hb dX5_ofLine_21 (by rw [h21_4]; decide) (by rw [h21_4]; decide) (by rw [h21_4]; decide) (by decide) ?_
      refine lv_aload_n hx hb dX5_ofLine_115 rfl (lv_at hl 1 rfl) ?_
      refine va_get (D := G) (ci := 5) (v := .ref (z 0)) (C := RX5) (T := TX5) (N := 7) hx hb hts hin5 hown hK hP 0 rfl rfl 1 (by decide) (hts (Cond.fieldLink RX5 19 "IndentRules" "nesting" "LIndentRules$Nesting;") (List.mem_of_getElem? (i := 7) rfl)) (fun _ h9 => h9) rfl dX5_ofLine_116 ?_
      refine va_get (D := G) (ci := 2) (v := .ref (z 4)) (C := RX2) (T := TX2) (N := 14) hx hb hts hin2 hown hK hP 5 rfl rfl 3 (by decide) (hts (Cond.fieldLink RX5 112 "IndentRules$Nesting" "strays" "[I") (List.mem_of_getElem? (i := 9) rfl)) (fun _ h9 => h9) rfl dX5_ofLine_119 ?_
      refine lv_iload_n hx hb dX5_ofLine_122 rfl (lv_at hl 2 rfl) ?_
      refine k_iald (D := G) (tys := TYS E) (j := j) (f := stry) (n := 20) hx hb hK hP 9 0 rfl rfl (by omega) (by decide) dX5_ofLine_123 ?_
      rw [(hCN.2.1 j hj).2.2.2]
      exact W.iret (v := (nI (nF (aNest ab) 7 j))) hx hb hr (fun tZ htZ hWZ => ⟨_, rfl, by unfold fOfLine; rw [if_pos (ixP_n (by omega) (by omega)), ix_n (by omega), if_neg h21_0, if_neg h21_1, if_neg h21_2, if_neg h21_3, if_pos h21_4], htZ⟩) (fun _ h => by cases h) dX5_ofLine_124
    by_cases h21_5 : a2 = nI 5
    · refine lv_tableIn (off := 104) (tgt := 125) hx hb dX5_ofLine_21 (by rw [h21_5]; decide) (by rw [h21_5]; decide) (by rw [h21_5]; decide) (by decide) ?_
      refine lv_aload_n hx hb dX5_ofLine_125 rfl (lv_at hl 0 rfl) ?_
      refine va_get (D := G) (ci := 1) (v := .int (sn (pi j))) (C := RX1) (T := TX1) (N := 6) hx hb hts hin1 hown hK hP (35 + (pi j)) (po_lnX rfl hp1) rfl 4 (by decide) (hts (Cond.fieldLink RX5 115 "IndentRules$Line" "seen" "I") (List.mem_of_getElem? (i := 10) rfl)) (fun _ h9 => h9) rfl dX5_ofLine_126 ?_
      exact W.iret (v := (sn (pi j))) hx hb hr (fun tZ htZ hWZ => ⟨_, rfl, by unfold fOfLine; rw [if_pos (ixP_n (by omega) (by omega)), ix_n (by omega), if_neg h21_0, if_neg h21_1, if_neg h21_2, if_neg h21_3, if_neg h21_4, if_pos h21_5]; exact hSN j hj, htZ⟩) (fun _ h => by cases h) dX5_ofLine_129
    refine lv_tableOut (tgt := 130) hx hb dX5_ofLine_21 (k_out a2 5 (by decide) (by intro j hj; rcases (show j = 0 ∨ j = 1 ∨ j = 2 ∨ j = 3 ∨ j = 4 ∨ j = 5 by omega) with rfl | rfl | rfl | rfl | rfl | rfl <;> assumption)) (by decide) ?_
    refine lv_bipush (v := (-2)) hx hb dX5_ofLine_130 (by decide) ?_
    exact W.iret (v := (-2)) hx hb hr (fun tZ htZ hWZ => ⟨_, rfl, by unfold fOfLine; rw [if_pos (ixP_n (by omega) (by omega)), ix_n (by omega), if_neg h21_0, if_neg h21_1, if_neg h21_2, if_neg h21_3, if_neg h21_4, if_neg h21_5], htZ⟩) (fun _ h => by cases h) dX5_ofLine_132
  · have hx1 : ¬ ixP a1 (aN ab) := fun q => h2 (by rw [hN]; exact (ixP_iff (by omega)).mp q)
    refine n_if_ne (a := 0) (tgt := 10) hx hb (by decide) dX5_ofLine_5 (by decide) (fun c5 => absurd c5 (by decide)) (fun c5 => ?_)
    refine lv_iconst (v := (-1)) hx hb dX5_ofLine_8 (by decide) ?_
    exact W.iret (v := (-1)) hx hb hr (fun tZ htZ hWZ => ⟨_, rfl, by unfold fOfLine; rw [if_neg hx1], htZ⟩) (fun _ h => by cases h) dX5_ofLine_9

set_option maxHeartbeats 4000000 in
set_option maxRecDepth 100000 in
theorem c_X5_opener (l : Launch) (G : va_G) (E : cEnv) (ia tx z y v : Nat → Nat) (kq : Nat → Nat → Nat) (gp : Int32) (gd : Nat → Int32) (n : Nat) (pi : Nat → Nat) (op hg la : Nat) (tops dpt lst stry srt lin tokA wah fol par_ opn : Nat → Int32) (sett clA setv clV : Nat → Int32) (kn0 kz0 kn1 kz1 kn2 kz2 : Nat) (kl0 kp0 kk0 kl1 kp1 kk1 kl2 kp2 kk2 : Nat → Int32) (oa ta : Nat → Nat) (tl ct ps : Nat → Nat) (sn cb : Nat → Int32) (tk : Nat → Nat → Int32) (a1 a2 : Int32) (ab : ABS) (hab : ClsOk ab n op pi tl ct ps sn tk tops dpt lst stry srt lin tokA wah fol par_ opn sett clA kn0 kz0 kn1 kz1 kn2 kz2 kl0 kp0 kk0 kl1 kp1 kk1 kl2 kp2 kk2) : Met l yX5_opener wsX5_opener ({ frames := 2, cells := 0, slots := 0, locals := 44 }) (va_Pc [.ref (ia 0), .int a1, .int a2] (PR G E (((iaW E ia tx z y v kq gp gd) ++ (txW E tx n (slot oa pi)) ++ (neW E z op hg la tops dpt lst stry srt lin tokA wah fol par_ opn) ++ (lyW E y sett clA) ++ (lyW E v setv clV) ++ (pkW E (kq 0) kn0 kz0 kl0 kp0 kk0) ++ (pkW E (kq 1) kn1 kz1 kl1 kp1 kk1) ++ (pkW E (kq 2) kn2 kz2 kl2 kp2 kk2)) ++ poW E oa ta tl ct ps sn cb tk))) (vp_Si (fun r => r = fOpener ab a1 a2)) 0 0 (fun _ => False) := by
  refine Met.ofW (cc := cX5_opener) (maxL := 3) (ret := (some .int)) (by decide) rfl ?_
  intro p e s m args below meth c s₁ B hml hv
  obtain ⟨rfl, hP, hK, hZ⟩ := hv
  have hx := B.exec
  have hb := B.bytes
  have hr := B.returns
  have hts := atoms_spec (ws := wsX5_opener) B.pre
  have hown : s.vm.findClass RX5 = some m.cls := findClass_of_methodNamed B.named
  have hlocks := B.notSynchronized
  have hin2 : ∀ w ∈ u_ws RX2 TX2 14, w ∈ wsX5_opener := mem_pl [42, 43, 44, 45, 46, 47, 48, 49, 50, 51, 52, 53, 54, 55] (by rfl)
  have hin5 : ∀ w ∈ u_ws RX5 TX5 7, w ∈ wsX5_opener := mem_pl [35, 36, 37, 38, 39, 40, 41] (by rfl)
  have hS : va_S (fun _ => False) s.heap s.heap [] := va_S.rf
  have hl := lv_entry ([.ref (ia 0), .int a1, .int a2]) (n := 3) (Nat.le_of_ble_eq_true rfl)
  rw [lg_entry_eq]
  generalize (lg_sl ([.ref (ia 0), .int a1, .int a2]) ++ List.replicate (3 - (lg_sl ([.ref (ia 0), .int a1, .int a2])).length) Slot.unset).toArray = ls at hl ⊢
  have hl : lv_has ls 3 [(0, .ref (ia 0)), (1, .int a1), (2, .int a2)] := hl
  obtain ⟨hN, hok, hop, hPL, hSN, hpp, hCN, hsg, hcl, hk0, hk1, hk2⟩ := id hab
  have hn : n ≤ 20 := by rw [hN]; exact hok.1
  have hrn : ∀ j, j < n → aR ab j < 1000000000 := fun j hj => (hok.2.1 j (by omega)).1
  have hpi : ∀ i, i < 20 → pi i < 20 := fun i hi => (hpp i hi).1
  have hwN := wfN_all (row := aR ab) (aN ab) (fun j hj => hrn j (by omega))
  have hob : nO (aNest ab) ≤ 180 := Nat.le_trans hwN.2.1 (by omega)
  have hCn : CN (nAll (aR ab) n) n tops dpt lst stry srt lin tokA wah fol par_ opn := by rw [hN] at hCN ⊢; exact hCN
  have hLN : LN (nF (aNest ab)) (nO (aNest ab)) srt lin wah fol := hCN.ln (by omega) (fun j hj => hrn j (by omega))
  refine lv_aload_n hx hb dX5_opener_0 rfl (lv_at hl 0 rfl) ?_
  refine lv_iload_n hx hb dX5_opener_1 rfl (lv_at hl 1 rfl) ?_
  refine rv_i (n := 1) (G := G) (E := E) (As := [.int a1]) (rest := []) (ci := 5) (q0 := 0) ⟨hx, hb, hml, hown, hts⟩ hK hZ hS (c_X5_isOpener l G E ia tx z y v kq gp gd n pi op hg la tops dpt lst stry srt lin tokA wah fol par_ opn sett clA setv clV kn0 kz0 kn1 kz1 kn2 kz2 kl0 kp0 kk0 kl1 kp1 kk1 kl2 kp2 kk2 oa ta tl ct ps sn cb tk a1 (by rw [hop]; exact hob)) gX5_opener_X5_isOpener rfl rfl rfl (by decide +kernel) ⟨Nat.le_of_ble_eq_true rfl, Nat.le_of_ble_eq_true rfl⟩ hP rfl rfl hl.1 rfl rfl (Nat.le_of_ble_eq_true rfl) dX5_opener_2 ⟨Nat.zero_le _, Nat.zero_le _⟩ (fun r2 p2 => ?_)
  rcases p2 with ⟨⟨j, hj, rfl⟩, rfl⟩ | ⟨h2, rfl⟩
  · have hj : j < nO (aNest ab) := by rw [← hop]; exact hj
    refine n_if_ne (a := 1) (tgt := 10) hx hb (by decide) dX5_opener_5 (by decide) (fun c5 => ?_) (fun c5 => absurd c5 (by decide))
    have hlj : nF (aNest ab) 1 j < n := by rw [hN]; exact (hwN.2.2.2.1 j hj).1
    refine lv_iload_n hx hb dX5_opener_10 rfl (lv_at hl 2 rfl) ?_
    by_cases h11_0 : a2 = nI 0
    · refine lv_tableIn (off := 37) (tgt := 48) hx hb dX5_opener_11 (by rw [h11_0]; decide) (by rw [h11_0]; decide) (by rw [h11_0]; decide) (by decide) ?_
      refine lv_aload_n hx hb dX5_opener_48 rfl (lv_at hl 0 rfl) ?_
      refine va_get (D := G) (ci := 5) (v := .ref (z 0)) (C := RX5) (T := TX5) (N := 7) hx hb hts hin5 hown hK hP 0 rfl rfl 1 (by decide) (hts (Cond.fieldLink RX5 19 "IndentRules" "nesting" "LIndentRules$Nesting;") (List.mem_of_getElem? (i := 1) rfl)) (fun _ h9 => h9) rfl dX5_opener_49 ?_
      refine va_get (D := G) (ci := 2) (v := .ref (z 7)) (C := RX2) (T := TX2) (N := 14) hx hb hts hin2 hown hK hP 5 rfl rfl 6 (by decide) (hts (Cond.fieldLink RX5 121 "IndentRules$Nesting" "lineOf" "[I") (List.mem_of_getElem? (i := 2) rfl)) (fun _ h9 => h9) rfl dX5_opener_52 ?_
      refine lv_iload_n hx hb dX5_opener_55 rfl (lv_at hl 1 rfl) ?_
      refine k_iald (D := G) (tys := TYS E) (j := j) (f := lin) (n := 180) hx hb hK hP 11 0 rfl rfl (by omega) (by decide) dX5_opener_56 ?_
      rw [(hCN.1 j hj).2.1]
      exact W.iret (v := (nI (nF (aNest ab) 1 j))) hx hb hr (fun tZ htZ hWZ => ⟨_, rfl, by unfold fOpener; rw [if_pos (ixP_n hj (by omega)), ix_n (by omega), if_pos h11_0], htZ⟩) (fun _ h => by cases h) dX5_opener_57
    by_cases h11_1 : a2 = nI 1
    · refine lv_tableIn (off := 47) (tgt := 58) hx hb dX5_opener_11 (by rw [h11_1]; decide) (by rw [h11_1]; decide) (by rw [h11_1]; decide) (by decide) ?_
      refine lv_aload_n hx hb dX5_opener_58 rfl (lv_at hl 0 rfl) ?_
      refine va_get (D := G) (ci := 5) (v := .ref (z 0)) (C := RX5) (T := TX5) (N := 7) hx hb hts hin5 hown hK hP 0 rfl rfl 1 (by decide) (hts (Cond.fieldLink RX5 19 "IndentRules" "nesting" "LIndentRules$Nesting;") (List.mem_of_getElem? (i := 1) rfl)) (fun _ h9 => h9) rfl dX5_opener_59 ?_
      refine va_get (D := G) (ci := 2) (v := .ref (z 8)) (C := RX2) (T := TX2) (N := 14) hx hb hts hin2 hown hK hP 5 rfl rfl 7 (by decide) (hts (Cond.fieldLink RX5 124 "IndentRules$Nesting" "tokenOf" "[I") (List.mem_of_getElem? (i := 3) rfl)) (fun _ h9 => h9) rfl dX5_opener_62 ?_
      refine lv_iload_n hx hb dX5_opener_65 rfl (lv_at hl 1 rfl) ?_
      refine k_iald (D := G) (tys := TYS E) (j := j) (f := tokA) (n := 180) hx hb hK hP 12 0 rfl rfl (by omega) (by decide) dX5_opener_66 ?_
      rw [(hCN.1 j hj).2.2.1]
      exact W.iret (v := (nI (nF (aNest ab) 2 j))) hx hb hr (fun tZ htZ hWZ => ⟨_, rfl, by unfold fOpener; rw [if_pos (ixP_n hj (by omega)), ix_n (by omega), if_neg h11_0, if_pos h11_1], htZ⟩) (fun _ h => by cases h) dX5_opener_67
    by_cases h11_2 : a2 = nI 2
    · refine lv_tableIn (off := 57) (tgt := 68) hx hb dX5_opener_11 (by rw [h11_2]; decide) (by rw [h11_2]; decide) (by rw [h11_2]; decide) (by decide) ?_
      refine lv_aload_n hx hb dX5_opener_68 rfl (lv_at hl 0 rfl) ?_
      refine va_get (D := G) (ci := 5) (v := .ref (y 0)) (C := RX5) (T := TX5) (N := 7) hx hb hts hin5 hown hK hP 0 rfl rfl 2 (by decide) (hts (Cond.fieldLink RX5 26 "IndentRules" "now" "LIndentRules$Layout;") (List.mem_of_getElem? (i := 4) rfl)) (fun _ h9 => h9) rfl dX5_opener_69 ?_
      refine lv_aload_n hx hb dX5_opener_72 rfl (lv_at hl 0 rfl) ?_
      refine va_get (D := G) (ci := 5) (v := .ref (z 0)) (C := RX5) (T := TX5) (N := 7) hx hb hts hin5 hown hK hP 0 rfl rfl 1 (by decide) (hts (Cond.fieldLink RX5 19 "IndentRules" "nesting" "LIndentRules$Nesting;") (List.mem_of_getElem? (i := 1) rfl)) (fun _ h9 => h9) rfl dX5_opener_73 ?_
      refine lv_iload_n hx hb dX5_opener_76 rfl (lv_at hl 1 rfl) ?_
      refine rv_i (n := 2) (G := G) (E := E) (As := [.ref (z 0), .int (nI j)]) (rest := []) (ci := 0) (q0 := 0) ⟨hx, hb, hml, hown, hts⟩ hK hZ hS (c_X0_placeOf l G E y sett clA z op hg la tops dpt lst stry srt lin tokA wah fol par_ opn j (nF (aNest ab)) (nO (aNest ab)) hLN (by first | assumption | omega)) gX5_opener_X0_placeOf rfl rfl rfl (by decide +kernel) ⟨Nat.le_of_ble_eq_true rfl, Nat.le_of_ble_eq_true rfl⟩ (hP.sub (ws' := ((lyW E y sett clA) ++ (neW E z op hg la tops dpt lst stry srt lin tokA wah fol par_ opn))) [17, 18, 19, 5, 6, 7, 8, 9, 10, 11, 12, 13, 14, 15, 16] rfl) rfl rfl hl.1 rfl rfl (Nat.le_of_ble_eq_true rfl) dX5_opener_77 ⟨Nat.zero_le _, Nat.zero_le _⟩ (fun r77 p77 => ?_)
      subst p77
      exact W.iret (v := (clA ((nF (aNest ab)) 1 j) + nI ((nF (aNest ab)) 3 j))) hx hb hr (fun tZ htZ hWZ => ⟨_, rfl, by unfold fOpener; rw [if_pos (ixP_n hj (by omega)), ix_n (by omega), if_neg h11_0, if_neg h11_1, if_pos h11_2, hcl _ hlj], htZ⟩) (fun _ h => by cases h) dX5_opener_80
    by_cases h11_3 : a2 = nI 3
    · refine lv_tableIn (off := 70) (tgt := 81) hx hb dX5_opener_11 (by rw [h11_3]; decide) (by rw [h11_3]; decide) (by rw [h11_3]; decide) (by decide) ?_
      refine lv_aload_n hx hb dX5_opener_81 rfl (lv_at hl 0 rfl) ?_
      refine va_get (D := G) (ci := 5) (v := .ref (y 0)) (C := RX5) (T := TX5) (N := 7) hx hb hts hin5 hown hK hP 0 rfl rfl 2 (by decide) (hts (Cond.fieldLink RX5 26 "IndentRules" "now" "LIndentRules$Layout;") (List.mem_of_getElem? (i := 4) rfl)) (fun _ h9 => h9) rfl dX5_opener_82 ?_
      refine lv_aload_n hx hb dX5_opener_85 rfl (lv_at hl 0 rfl) ?_
      refine va_get (D := G) (ci := 5) (v := .ref (z 0)) (C := RX5) (T := TX5) (N := 7) hx hb hts hin5 hown hK hP 0 rfl rfl 1 (by decide) (hts (Cond.fieldLink RX5 19 "IndentRules" "nesting" "LIndentRules$Nesting;") (List.mem_of_getElem? (i := 1) rfl)) (fun _ h9 => h9) rfl dX5_opener_86 ?_
      refine lv_iload_n hx hb dX5_opener_89 rfl (lv_at hl 1 rfl) ?_
      refine rv_i (n := 2) (G := G) (E := E) (As := [.ref (z 0), .int (nI j)]) (rest := []) (ci := 0) (q0 := 0) ⟨hx, hb, hml, hown, hts⟩ hK hZ hS (c_X0_baseOf l G E y sett clA z op hg la tops dpt lst stry srt lin tokA wah fol par_ opn j (nF (aNest ab)) (nO (aNest ab)) hLN (by first | assumption | omega)) gX5_opener_X0_baseOf rfl rfl rfl (by decide +kernel) ⟨Nat.le_of_ble_eq_true rfl, Nat.le_of_ble_eq_true rfl⟩ (hP.sub (ws' := ((lyW E y sett clA) ++ (neW E z op hg la tops dpt lst stry srt lin tokA wah fol par_ opn))) [17, 18, 19, 5, 6, 7, 8, 9, 10, 11, 12, 13, 14, 15, 16] rfl) rfl rfl hl.1 rfl rfl (Nat.le_of_ble_eq_true rfl) dX5_opener_90 ⟨Nat.zero_le _, Nat.zero_le _⟩ (fun r90 p90 => ?_)
      subst p90
      exact W.iret (v := (clA ((nF (aNest ab)) 1 j))) hx hb hr (fun tZ htZ hWZ => ⟨_, rfl, by unfold fOpener; rw [if_pos (ixP_n hj (by omega)), ix_n (by omega), if_neg h11_0, if_neg h11_1, if_neg h11_2, if_pos h11_3, hcl _ hlj], htZ⟩) (fun _ h => by cases h) dX5_opener_93
    by_cases h11_4 : a2 = nI 4
    · refine lv_tableIn (off := 83) (tgt := 94) hx hb dX5_opener_11 (by rw [h11_4]; decide) (by rw [h11_4]; decide) (by rw [h11_4]; decide) (by decide) ?_
      refine lv_aload_n hx hb dX5_opener_94 rfl (lv_at hl 0 rfl) ?_
      refine va_get (D := G) (ci := 5) (v := .ref (y 0)) (C := RX5) (T := TX5) (N := 7) hx hb hts hin5 hown hK hP 0 rfl rfl 2 (by decide) (hts (Cond.fieldLink RX5 26 "IndentRules" "now" "LIndentRules$Layout;") (List.mem_of_getElem? (i := 4) rfl)) (fun _ h9 => h9) rfl dX5_opener_95 ?_
      refine lv_aload_n hx hb dX5_opener_98 rfl (lv_at hl 0 rfl) ?_
      refine va_get (D := G) (ci := 5) (v := .ref (z 0)) (C := RX5) (T := TX5) (N := 7) hx hb hts hin5 hown hK hP 0 rfl rfl 1 (by decide) (hts (Cond.fieldLink RX5 19 "IndentRules" "nesting" "LIndentRules$Nesting;") (List.mem_of_getElem? (i := 1) rfl)) (fun _ h9 => h9) rfl dX5_opener_99 ?_
      refine lv_iload_n hx hb dX5_opener_102 rfl (lv_at hl 1 rfl) ?_
      refine rv_i (n := 2) (G := G) (E := E) (As := [.ref (z 0), .int (nI j)]) (rest := []) (ci := 0) (q0 := 0) ⟨hx, hb, hml, hown, hts⟩ hK hZ hS (c_X0_kindOf l G E y sett clA z op hg la tops dpt lst stry srt lin tokA wah fol par_ opn j (nF (aNest ab)) (nO (aNest ab)) hLN (by first | assumption | omega)) gX5_opener_X0_kindOf rfl rfl rfl (by decide +kernel) ⟨Nat.le_of_ble_eq_true rfl, Nat.le_of_ble_eq_true rfl⟩ (hP.sub (ws' := ((lyW E y sett clA) ++ (neW E z op hg la tops dpt lst stry srt lin tokA wah fol par_ opn))) [17, 18, 19, 5, 6, 7, 8, 9, 10, 11, 12, 13, 14, 15, 16] rfl) rfl rfl hl.1 rfl rfl (Nat.le_of_ble_eq_true rfl) dX5_opener_103 ⟨Nat.zero_le _, Nat.zero_le _⟩ (fun r103 p103 => ?_)
      subst p103
      exact W.iret (v := (nI (kd (sett 2) (nF (aNest ab)) j))) hx hb hr (fun tZ htZ hWZ => ⟨_, rfl, by unfold fOpener; rw [if_pos (ixP_n hj (by omega)), ix_n (by omega), if_neg h11_0, if_neg h11_1, if_neg h11_2, if_neg h11_3, if_pos h11_4, hsg 2 (by decide)], htZ⟩) (fun _ h => by cases h) dX5_opener_106
    by_cases h11_5 : a2 = nI 5
    · refine lv_tableIn (off := 96) (tgt := 107) hx hb dX5_opener_11 (by rw [h11_5]; decide) (by rw [h11_5]; decide) (by rw [h11_5]; decide) (by decide) ?_
      refine lv_aload_n hx hb dX5_opener_107 rfl (lv_at hl 0 rfl) ?_
      refine va_get (D := G) (ci := 5) (v := .ref (z 0)) (C := RX5) (T := TX5) (N := 7) hx hb hts hin5 hown hK hP 0 rfl rfl 1 (by decide) (hts (Cond.fieldLink RX5 19 "IndentRules" "nesting" "LIndentRules$Nesting;") (List.mem_of_getElem? (i := 1) rfl)) (fun _ h9 => h9) rfl dX5_opener_108 ?_
      refine va_get (D := G) (ci := 2) (v := .ref (z 11)) (C := RX2) (T := TX2) (N := 14) hx hb hts hin2 hown hK hP 5 rfl rfl 10 (by decide) (hts (Cond.fieldLink RX5 137 "IndentRules$Nesting" "partnerLineOf" "[I") (List.mem_of_getElem? (i := 5) rfl)) (fun _ h9 => h9) rfl dX5_opener_111 ?_
      refine lv_iload_n hx hb dX5_opener_114 rfl (lv_at hl 1 rfl) ?_
      refine k_iald (D := G) (tys := TYS E) (j := j) (f := par_) (n := 180) hx hb hK hP 15 0 rfl rfl (by omega) (by decide) dX5_opener_115 ?_
      rw [(hCN.1 j hj).2.2.2.2.2]
      exact W.iret (v := (pv (nF (aNest ab) 5 j))) hx hb hr (fun tZ htZ hWZ => ⟨_, rfl, by unfold fOpener; rw [if_pos (ixP_n hj (by omega)), ix_n (by omega), if_neg h11_0, if_neg h11_1, if_neg h11_2, if_neg h11_3, if_neg h11_4, if_pos h11_5], htZ⟩) (fun _ h => by cases h) dX5_opener_116
    refine lv_tableOut (tgt := 117) hx hb dX5_opener_11 (k_out a2 5 (by decide) (by intro j hj; rcases (show j = 0 ∨ j = 1 ∨ j = 2 ∨ j = 3 ∨ j = 4 ∨ j = 5 by omega) with rfl | rfl | rfl | rfl | rfl | rfl <;> assumption)) (by decide) ?_
    refine lv_bipush (v := (-2)) hx hb dX5_opener_117 (by decide) ?_
    exact W.iret (v := (-2)) hx hb hr (fun tZ htZ hWZ => ⟨_, rfl, by unfold fOpener; rw [if_pos (ixP_n hj (by omega)), ix_n (by omega), if_neg h11_0, if_neg h11_1, if_neg h11_2, if_neg h11_3, if_neg h11_4, if_neg h11_5], htZ⟩) (fun _ h => by cases h) dX5_opener_119
  · have ho1 : ¬ ixP a1 (nO (aNest ab)) := fun q => h2 (by rw [hop]; exact (ixP_iff (by omega)).mp q)
    refine n_if_ne (a := 0) (tgt := 10) hx hb (by decide) dX5_opener_5 (by decide) (fun c5 => absurd c5 (by decide)) (fun c5 => ?_)
    refine lv_iconst (v := (-1)) hx hb dX5_opener_8 (by decide) ?_
    exact W.iret (v := (-1)) hx hb hr (fun tZ htZ hWZ => ⟨_, rfl, by unfold fOpener; rw [if_neg ho1], htZ⟩) (fun _ h => by cases h) dX5_opener_9

set_option maxHeartbeats 4000000 in
set_option maxRecDepth 100000 in
theorem c_X5_unlike (l : Launch) (G : va_G) (E : cEnv) (ia tx z y v : Nat → Nat) (kq : Nat → Nat → Nat) (gp : Int32) (gd : Nat → Int32) (n : Nat) (pi : Nat → Nat) (op hg la : Nat) (tops dpt lst stry srt lin tokA wah fol par_ opn : Nat → Int32) (sett clA setv clV : Nat → Int32) (kn0 kz0 kn1 kz1 kn2 kz2 : Nat) (kl0 kp0 kk0 kl1 kp1 kk1 kl2 kp2 kk2 : Nat → Int32) (oa ta : Nat → Nat) (tl ct ps : Nat → Nat) (sn cb : Nat → Int32) (tk : Nat → Nat → Int32) (a1 : Int32) (ab : ABS) (hab : ClsOk ab n op pi tl ct ps sn tk tops dpt lst stry srt lin tokA wah fol par_ opn sett clA kn0 kz0 kn1 kz1 kn2 kz2 kl0 kp0 kk0 kl1 kp1 kk1 kl2 kp2 kk2) : Met l yX5_unlike wsX5_unlike ({ frames := 2, cells := 0, slots := 0, locals := 43 }) (va_Pc [.ref (ia 0), .int a1] (PR G E (((iaW E ia tx z y v kq gp gd) ++ (txW E tx n (slot oa pi)) ++ (neW E z op hg la tops dpt lst stry srt lin tokA wah fol par_ opn) ++ (lyW E y sett clA) ++ (lyW E v setv clV) ++ (pkW E (kq 0) kn0 kz0 kl0 kp0 kk0) ++ (pkW E (kq 1) kn1 kz1 kl1 kp1 kk1) ++ (pkW E (kq 2) kn2 kz2 kl2 kp2 kk2)) ++ poW E oa ta tl ct ps sn cb tk))) (vp_Si (fun r => r = fUnlike ab a1)) 0 0 (fun _ => False) := by
  refine Met.ofW (cc := cX5_unlike) (maxL := 3) (ret := (some .int)) (by decide) rfl ?_
  intro p e s m args below meth c s₁ B hml hv
  obtain ⟨rfl, hP, hK, hZ⟩ := hv
  have hx := B.exec
  have hb := B.bytes
  have hr := B.returns
  have hts := atoms_spec (ws := wsX5_unlike) B.pre
  have hown : s.vm.findClass RX5 = some m.cls := findClass_of_methodNamed B.named
  have hlocks := B.notSynchronized
  have hin4 : ∀ w ∈ u_ws RX4 TX4 2, w ∈ wsX5_unlike := mem_pl [30, 31] (by rfl)
  have hin5 : ∀ w ∈ u_ws RX5 TX5 7, w ∈ wsX5_unlike := mem_pl [23, 24, 25, 26, 27, 28, 29] (by rfl)
  have hS : va_S (fun _ => False) s.heap s.heap [] := va_S.rf
  have hl := lv_entry ([.ref (ia 0), .int a1]) (n := 3) (Nat.le_of_ble_eq_true rfl)
  rw [lg_entry_eq]
  generalize (lg_sl ([.ref (ia 0), .int a1]) ++ List.replicate (3 - (lg_sl ([.ref (ia 0), .int a1])).length) Slot.unset).toArray = ls at hl ⊢
  have hl : lv_has ls 3 [(0, .ref (ia 0)), (1, .int a1)] := hl
  obtain ⟨hN, hok, hop, hPL, hSN, hpp, hCN, hsg, hcl, hk0, hk1, hk2⟩ := id hab
  have hn : n ≤ 20 := by rw [hN]; exact hok.1
  have hrn : ∀ j, j < n → aR ab j < 1000000000 := fun j hj => (hok.2.1 j (by omega)).1
  have hpi : ∀ i, i < 20 → pi i < 20 := fun i hi => (hpp i hi).1
  have hwN := wfN_all (row := aR ab) (aN ab) (fun j hj => hrn j (by omega))
  have hob : nO (aNest ab) ≤ 180 := Nat.le_trans hwN.2.1 (by omega)
  have hCn : CN (nAll (aR ab) n) n tops dpt lst stry srt lin tokA wah fol par_ opn := by rw [hN] at hCN ⊢; exact hCN
  have hLN : LN (nF (aNest ab)) (nO (aNest ab)) srt lin wah fol := hCN.ln (by omega) (fun j hj => hrn j (by omega))
  refine lv_aload_n hx hb dX5_unlike_0 rfl (lv_at hl 0 rfl) ?_
  refine lv_iload_n hx hb dX5_unlike_1 rfl (lv_at hl 1 rfl) ?_
  refine rv_i (n := 1) (G := G) (E := E) (As := [.int a1]) (rest := []) (ci := 5) (q0 := 0) ⟨hx, hb, hml, hown, hts⟩ hK hZ hS (c_X5_isLine l G E ia tx z y v kq gp gd n pi op hg la tops dpt lst stry srt lin tokA wah fol par_ opn sett clA setv clV kn0 kz0 kn1 kz1 kn2 kz2 kl0 kp0 kk0 kl1 kp1 kk1 kl2 kp2 kk2 oa ta tl ct ps sn cb tk a1 (by first | assumption | omega)) gX5_unlike_X5_isLine rfl rfl rfl (by decide +kernel) ⟨Nat.le_of_ble_eq_true rfl, Nat.le_of_ble_eq_true rfl⟩ hP rfl rfl hl.1 rfl rfl (Nat.le_of_ble_eq_true rfl) dX5_unlike_2 ⟨Nat.zero_le _, Nat.zero_le _⟩ (fun r2 p2 => ?_)
  rcases p2 with ⟨⟨j, hj, rfl⟩, rfl⟩ | ⟨h2, rfl⟩
  · refine n_if_ne (a := 1) (tgt := 10) hx hb (by decide) dX5_unlike_5 (by decide) (fun c5 => ?_) (fun c5 => absurd c5 (by decide))
    refine lv_iload_n hx hb dX5_unlike_10 rfl (lv_at hl 1 rfl) ?_
    refine lv_istore_n (lv' := [(2, .int (nI j)), (0, .ref (ia 0)), (1, .int (nI j))]) hx hb dX5_unlike_11 rfl hl (by decide) rfl (fun ls hl => ?_)
    have lp12 : ∀ (kk : Nat) (i : Nat), (j ≤ i ∧ i ≤ n) → (scan ab (n - i) i = scan ab (n - j) j) → n - i < kk → ∀ ls : Array Slot, lv_has ls 3 [(2, .int (nI i)), (0, .ref (ia 0)), (1, .int (nI j))] → W p l e (headSpec wsX5_unlike ({ frames := 2, cells := 0, slots := 0, locals := 43 } : Room)).room s m ([.ref (ia 0), .int (nI j)] : List Value).toArray below meth c s.heap [] 0 0 (MQ below (vp_Si (fun r => r = fUnlike ab (nI j))) ([.ref (ia 0), .int (nI j)] : List Value).toArray s 0 0 (fun _ => False)) (F0 m 12 ls []) := by
      intro kk
      induction kk with
      | zero => intro i  hi hsc hkk; exact absurd hkk (Nat.not_lt_zero _)
      | succ kk ih12 =>
        intro i hi hsc hkk ls hl
        refine lv_iload_n hx hb dX5_unlike_12 rfl (lv_at hl 0 rfl) ?_
        refine lv_aload_n hx hb dX5_unlike_13 rfl (lv_at hl 1 rfl) ?_
        refine va_get (D := G) (ci := 5) (v := .ref (tx 0)) (C := RX5) (T := TX5) (N := 7) hx hb hts hin5 hown hK hP 0 rfl rfl 0 (by decide) (hts (Cond.fieldLink RX5 12 "IndentRules" "text" "LIndentRules$Text;") (List.mem_of_getElem? (i := 1) rfl)) (fun _ h9 => h9) rfl dX5_unlike_14 ?_
        refine va_get (D := G) (ci := 4) (v := .int (nI n)) (C := RX4) (T := TX4) (N := 2) hx hb hts hin4 hown hK hP 3 rfl rfl 1 (by decide) (hts (Cond.fieldLink RX5 48 "IndentRules$Text" "size" "I") (List.mem_of_getElem? (i := 2) rfl)) (fun _ h9 => h9) rfl dX5_unlike_17 ?_
        refine n_icmp_ge (a := i) (b := n) (tgt := 58) hx hb (by omega) (by omega) dX5_unlike_20 (by decide) (fun c20 => ?_) (fun c20 => ?_)
        · refine lv_bipush (v := (-9)) hx hb dX5_unlike_58 (by decide) ?_
          exact W.iret (v := (-9)) hx hb hr (fun tZ htZ hWZ => ⟨_, rfl, by unfold fUnlike; rw [if_pos (ixP_n (by omega) (by omega)), ix_n (by omega), ← hN, ← hsc, show n - i = 0 by omega]; rfl, htZ⟩) (fun _ h => by cases h) dX5_unlike_60
        · refine lv_aload_n hx hb dX5_unlike_23 rfl (lv_at hl 1 rfl) ?_
          refine va_get (D := G) (ci := 5) (v := .ref (tx 0)) (C := RX5) (T := TX5) (N := 7) hx hb hts hin5 hown hK hP 0 rfl rfl 0 (by decide) (hts (Cond.fieldLink RX5 12 "IndentRules" "text" "LIndentRules$Text;") (List.mem_of_getElem? (i := 1) rfl)) (fun _ h9 => h9) rfl dX5_unlike_24 ?_
          refine va_get (D := G) (ci := 4) (v := .ref (tx 1)) (C := RX4) (T := TX4) (N := 2) hx hb hts hin4 hown hK hP 3 rfl rfl 0 (by decide) (hts (Cond.fieldLink RX5 73 "IndentRules$Text" "lines" "[LIndentRules$Line;") (List.mem_of_getElem? (i := 3) rfl)) (fun _ h9 => h9) rfl dX5_unlike_27 ?_
          refine lv_iload_n hx hb dX5_unlike_30 rfl (lv_at hl 0 rfl) ?_
          refine k_aald (D := G) (tys := TYS E) (j := i) (f := (slot oa pi)) (n := 20) hx hb hK hP 4 2 rfl rfl (by omega) (by decide) dX5_unlike_31 ?_
          refine W.eq (g2 := F0 m 32 ls [.ref (oa (pi i))]) rfl ?_
          refine rv_i (n := 0) (G := G) (E := E) (As := []) (rest := []) (ci := 1) (q0 := 0) ⟨hx, hb, hml, hown, hts⟩ hK hZ hS (c_X1_counts l G E (oa (pi i)) (ta (pi i)) (tl (pi i)) (ct (pi i)) (ps (pi i)) (sn (pi i)) (cb (pi i)) (tk (pi i)) (by rw [(hPL i (by omega)).2.2.1]; have := (len_lt 9 (aR ab i)).mp (hrn i (by omega)); omega)) gX5_unlike_X1_counts rfl rfl rfl (by decide +kernel) ⟨Nat.le_of_ble_eq_true rfl, Nat.le_of_ble_eq_true rfl⟩ (po_P2 hP (hpi i (by omega))) rfl rfl hl.1 rfl rfl (Nat.le_of_ble_eq_true rfl) dX5_unlike_32 ⟨Nat.zero_le _, Nat.zero_le _⟩ (fun r32 p32 => ?_)
          rcases p32 with ⟨h32, rfl⟩ | ⟨h32, rfl⟩
          · have hcn : cnt ab i := by rw [hSN i (by omega), (hPL i (by omega)).2.2.1] at h32; exact cnt_iff.mp h32
            refine n_if_eq (a := 1) (tgt := 52) hx hb (by decide) dX5_unlike_35 (by decide) (fun c35 => absurd c35 (by decide)) (fun c35 => ?_)
            refine lv_aload_n hx hb dX5_unlike_38 rfl (lv_at hl 1 rfl) ?_
            refine lv_aload_n hx hb dX5_unlike_39 rfl (lv_at hl 1 rfl) ?_
            refine va_get (D := G) (ci := 5) (v := .ref (y 0)) (C := RX5) (T := TX5) (N := 7) hx hb hts hin5 hown hK hP 0 rfl rfl 2 (by decide) (hts (Cond.fieldLink RX5 26 "IndentRules" "now" "LIndentRules$Layout;") (List.mem_of_getElem? (i := 4) rfl)) (fun _ h9 => h9) rfl dX5_unlike_40 ?_
            refine lv_iload_n hx hb dX5_unlike_43 rfl (lv_at hl 0 rfl) ?_
            refine rv_i (n := 2) (G := G) (E := E) (As := [.ref (y 0), .int (nI i)]) (rest := []) (ci := 5) (q0 := 0) ⟨hx, hb, hml, hown, hts⟩ hK hZ hS (c_X5_isAsSeen l G E ia tx z y v gp n pi y sett clA oa ta tl ct ps sn cb tk i (aR ab) (aS ab) (by first | assumption | omega) (by first | assumption | omega) (by first | assumption | omega) (by first | assumption | omega) (by first | assumption | omega)) gX5_unlike_X5_isAsSeen rfl rfl rfl (by decide +kernel) ⟨Nat.le_of_ble_eq_true rfl, Nat.le_of_ble_eq_true rfl⟩ (hP.part (cx := ([(ia 0, .inr (5, [.ref (tx 0), .ref (z 0), .ref (y 0), .ref (v 0), .ref (ia 5), .int gp, .ref (ia 7)])), (tx 0, .inr (4, [.ref (tx 1), .int (nI n)])), (tx 1, .inl (E.2.2.1, 20, .inr (.inr (.inr (.inr (fun k => some ((slot oa pi) k))))))), (y 0, .inr (0, [.ref (y 1), .ref (y 2)])), (y 1, .inl (E.1, 4, .inl sett)), (y 2, .inl (E.1, 20, .inl clA))])) [0, 3, 4, 17, 18, 19] rfl) rfl rfl hl.1 rfl rfl (Nat.le_of_ble_eq_true rfl) dX5_unlike_44 ⟨Nat.zero_le _, Nat.zero_le _⟩ (fun r44 p44 => ?_)
            rcases p44 with ⟨h44, rfl⟩ | ⟨h44, rfl⟩
            · refine n_if_ne (a := 1) (tgt := 52) hx hb (by decide) dX5_unlike_47 (by decide) (fun c47 => ?_) (fun c47 => absurd c47 (by decide))
              refine lv_iinc (v := (nI (i + 1))) (lv' := [(2, .int (nI (i + 1))), (0, .ref (ia 0)), (1, .int (nI j))]) hx hb dX5_unlike_52 hl (k := 0) rfl (k_inc i) (by decide) rfl (fun ls hl => ?_)
              refine lv_goto (tgt := 12) hx hb dX5_unlike_55 (by decide) ?_
              exact ih12 (i + 1) ⟨by omega, by omega⟩ (by rw [← hsc, show n - i = n - (i + 1) + 1 by omega, scan_s, if_neg (fun q => q.2 (by rw [← hcl i (by omega)]; exact h44.2))]) (by omega) ls (lv_sub hl [0, 1, 2] rfl)
            · refine n_if_ne (a := 0) (tgt := 52) hx hb (by decide) dX5_unlike_47 (by decide) (fun c47 => absurd c47 (by decide)) (fun c47 => ?_)
              refine lv_iload_n hx hb dX5_unlike_50 rfl (lv_at hl 0 rfl) ?_
              exact W.iret (v := (nI i)) hx hb hr (fun tZ htZ hWZ => ⟨_, rfl, by unfold fUnlike; rw [if_pos (ixP_n (by omega) (by omega)), ix_n (by omega), ← hN, ← hsc, show n - i = n - (i + 1) + 1 by omega, scan_s, if_pos ⟨hcn, fun q => h44 ⟨hcn, by rw [hcl i (by omega)]; exact q⟩⟩], htZ⟩) (fun _ h => by cases h) dX5_unlike_51
          · have hcn : ¬ cnt ab i := by rw [hSN i (by omega), (hPL i (by omega)).2.2.1] at h32; exact fun z => h32 (cnt_iff.mpr z)
            refine n_if_eq (a := 0) (tgt := 52) hx hb (by decide) dX5_unlike_35 (by decide) (fun c35 => ?_) (fun c35 => absurd c35 (by decide))
            refine lv_iinc (v := (nI (i + 1))) (lv' := [(2, .int (nI (i + 1))), (0, .ref (ia 0)), (1, .int (nI j))]) hx hb dX5_unlike_52 hl (k := 0) rfl (k_inc i) (by decide) rfl (fun ls hl => ?_)
            refine lv_goto (tgt := 12) hx hb dX5_unlike_55 (by decide) ?_
            exact ih12 (i + 1) ⟨by omega, by omega⟩ (by rw [← hsc, show n - i = n - (i + 1) + 1 by omega, scan_s, if_neg (fun q => hcn q.1)]) (by omega) ls (lv_sub hl [0, 1, 2] rfl)
    exact lp12 (n - j + 1) j ⟨Nat.le_refl _, by omega⟩ rfl (Nat.lt_succ_self _) ls (lv_sub hl [0, 1, 2] rfl)
  · have hx1 : ¬ ixP a1 (aN ab) := fun q => h2 (by rw [hN]; exact (ixP_iff (by omega)).mp q)
    refine n_if_ne (a := 0) (tgt := 10) hx hb (by decide) dX5_unlike_5 (by decide) (fun c5 => absurd c5 (by decide)) (fun c5 => ?_)
    refine lv_iconst (v := (-1)) hx hb dX5_unlike_8 (by decide) ?_
    exact W.iret (v := (-1)) hx hb hr (fun tZ htZ hWZ => ⟨_, rfl, by unfold fUnlike; rw [if_neg hx1], htZ⟩) (fun _ h => by cases h) dX5_unlike_9

set_option maxHeartbeats 4000000 in
set_option maxRecDepth 100000 in
theorem c_X5_fits (l : Launch) (G : va_G) (E : cEnv) (ia tx z y v : Nat → Nat) (kq : Nat → Nat → Nat) (gp : Int32) (gd : Nat → Int32) (n : Nat) (pi : Nat → Nat) (op hg la : Nat) (tops dpt lst stry srt lin tokA wah fol par_ opn : Nat → Int32) (sett clA setv clV : Nat → Int32) (kn0 kz0 kn1 kz1 kn2 kz2 : Nat) (kl0 kp0 kk0 kl1 kp1 kk1 kl2 kp2 kk2 : Nat → Int32) (oa ta : Nat → Nat) (tl ct ps : Nat → Nat) (sn cb : Nat → Int32) (tk : Nat → Nat → Int32) (x0 x1 x2 x3 : Int32) (ab : ABS) (hab : ClsOk ab n op pi tl ct ps sn tk tops dpt lst stry srt lin tokA wah fol par_ opn sett clA kn0 kz0 kn1 kz1 kn2 kz2 kl0 kp0 kk0 kl1 kp1 kk1 kl2 kp2 kk2) (sz : Nat) : Met l yX5_fits wsX5_fits ({ frames := 5, cells := 0, slots := 0, locals := 120 }) (va_Pc [.ref (ia 0), .int x0, .int x1, .int x2, .int x3] (PW G E (((iaW E ia tx z y v kq gp gd) ++ (txW E tx n (slot oa pi)) ++ (neW E z op hg la tops dpt lst stry srt lin tokA wah fol par_ opn) ++ (lyW E y sett clA) ++ (lyW E v setv clV) ++ (pkW E (kq 0) kn0 kz0 kl0 kp0 kk0) ++ (pkW E (kq 1) kn1 kz1 kl1 kp1 kk1) ++ (pkW E (kq 2) kn2 kz2 kl2 kp2 kk2)) ++ poW E oa ta tl ct ps sn cb tk) sz)) (va_Qi (fun (r : Int32) (u : (Nat → Int32) × (Nat → Int32)) => r = fFits ab x0 x1 x2 x3) (fun (u : (Nat → Int32) × (Nat → Int32)) tQ => va_P G vwCl (((iaW E ia tx z y v kq gp gd) ++ (txW E tx n (slot oa pi)) ++ (neW E z op hg la tops dpt lst stry srt lin tokA wah fol par_ opn) ++ (lyW E y sett clA) ++ (lyW E v u.1 u.2) ++ (pkW E (kq 0) kn0 kz0 kl0 kp0 kk0) ++ (pkW E (kq 1) kn1 kz1 kl1 kp1 kk1) ++ (pkW E (kq 2) kn2 kz2 kl2 kp2 kk2)) ++ poW E oa ta tl ct ps sn cb tk) tQ.heap) (va_A (((iaW E ia tx z y v kq gp gd) ++ (txW E tx n (slot oa pi)) ++ (neW E z op hg la tops dpt lst stry srt lin tokA wah fol par_ opn) ++ (lyW E y sett clA) ++ (lyW E v setv clV) ++ (pkW E (kq 0) kn0 kz0 kl0 kp0 kk0) ++ (pkW E (kq 1) kn1 kz1 kl1 kp1 kk1) ++ (pkW E (kq 2) kn2 kz2 kl2 kp2 kk2)) ++ poW E oa ta tl ct ps sn cb tk) sz)) 0 0 (va_A (((iaW E ia tx z y v kq gp gd) ++ (txW E tx n (slot oa pi)) ++ (neW E z op hg la tops dpt lst stry srt lin tokA wah fol par_ opn) ++ (lyW E y sett clA) ++ (lyW E v setv clV) ++ (pkW E (kq 0) kn0 kz0 kl0 kp0 kk0) ++ (pkW E (kq 1) kn1 kz1 kl1 kp1 kk1) ++ (pkW E (kq 2) kn2 kz2 kl2 kp2 kk2)) ++ poW E oa ta tl ct ps sn cb tk) sz) := by
  refine Met.ofW (cc := cX5_fits) (maxL := 7) (ret := (some .int)) (by decide) rfl ?_
  intro p e s m args below meth c s₁ B hml hv
  obtain ⟨rfl, hsz, hP, hK, hD0, hZ⟩ := hv
  have hx := B.exec
  have hb := B.bytes
  have hr := B.returns
  have hts := atoms_spec (ws := wsX5_fits) B.pre
  have hown : s.vm.findClass RX5 = some m.cls := findClass_of_methodNamed B.named
  have hlocks := B.notSynchronized
  have hin4 : ∀ w ∈ u_ws RX4 TX4 2, w ∈ wsX5_fits := mem_pl [84, 85] (by rfl)
  have hin5 : ∀ w ∈ u_ws RX5 TX5 7, w ∈ wsX5_fits := mem_pl [77, 78, 79, 80, 81, 82, 83] (by rfl)
  subst hsz
  have hD := hD0.self (sz := s.heap.size)
  generalize hAe : va_A (((iaW E ia tx z y v kq gp gd) ++ (txW E tx n (slot oa pi)) ++ (neW E z op hg la tops dpt lst stry srt lin tokA wah fol par_ opn) ++ (lyW E y sett clA) ++ (lyW E v setv clV) ++ (pkW E (kq 0) kn0 kz0 kl0 kp0 kk0) ++ (pkW E (kq 1) kn1 kz1 kl1 kp1 kk1) ++ (pkW E (kq 2) kn2 kz2 kl2 kp2 kk2)) ++ poW E oa ta tl ct ps sn cb tk) s.heap.size = A at hD hZ ⊢
  have hA : ∀ q : Nat, s.heap.size ≤ q → A q := fun q h => by rw [← hAe]; exact Or.inr h
  have hS : va_S A s.heap s.heap [] := va_S.rf
  have hl := lv_entry ([.ref (ia 0), .int x0, .int x1, .int x2, .int x3]) (n := 7) (Nat.le_of_ble_eq_true rfl)
  rw [lg_entry_eq]
  generalize (lg_sl ([.ref (ia 0), .int x0, .int x1, .int x2, .int x3]) ++ List.replicate (7 - (lg_sl ([.ref (ia 0), .int x0, .int x1, .int x2, .int x3])).length) Slot.unset).toArray = ls at hl ⊢
  have hl : lv_has ls 7 [(0, .ref (ia 0)), (1, .int x0), (2, .int x1), (3, .int x2), (4, .int x3)] := hl
  obtain ⟨hN, hok, hop, hPL, hSN, hpp, hCN, hsg, hcl, hk0, hk1, hk2⟩ := id hab
  have hn : n ≤ 20 := by rw [hN]; exact hok.1
  have hrn : ∀ j, j < n → aR ab j < 1000000000 := fun j hj => (hok.2.1 j (by omega)).1
  have hpi : ∀ i, i < 20 → pi i < 20 := fun i hi => (hpp i hi).1
  have hwN := wfN_all (row := aR ab) (aN ab) (fun j hj => hrn j (by omega))
  have hob : nO (aNest ab) ≤ 180 := Nat.le_trans hwN.2.1 (by omega)
  have hCn : CN (nAll (aR ab) n) n tops dpt lst stry srt lin tokA wah fol par_ opn := by rw [hN] at hCN ⊢; exact hCN
  have hLN : LN (nF (aNest ab)) (nO (aNest ab)) srt lin wah fol := hCN.ln (by omega) (fun j hj => hrn j (by omega))
  refine lv_iload_n hx hb dX5_fits_0 rfl (lv_at hl 1 rfl) ?_
  refine lv_iload_n hx hb dX5_fits_1 rfl (lv_at hl 2 rfl) ?_
  refine lv_iload_n hx hb dX5_fits_2 rfl (lv_at hl 3 rfl) ?_
  refine lv_iload hx hb dX5_fits_3 (lv_at hl 4 rfl) ?_
  refine rs_i (n := 4) (G := G) (E := E) (As := [.int x0, .int x1, .int x2, .int x3]) (rest := []) ⟨hx, hb, hml, hown, hts⟩ hK hZ hS (c_X5_isStyle l G E x0 x1 x2 x3) gX5_fits_X5_isStyle rfl rfl rfl (by decide +kernel) ⟨Nat.le_of_ble_eq_true rfl, Nat.le_of_ble_eq_true rfl⟩ (fun k q h => by simp at h) hl.1 rfl rfl (Nat.le_of_ble_eq_true rfl) dX5_fits_5 ⟨Nat.zero_le _, Nat.zero_le _⟩ (fun r5 p5 => ?_)
  rcases p5 with ⟨h5, rfl⟩ | ⟨h5, rfl⟩
  · refine n_if_ne (a := 1) (tgt := 14) hx hb (by decide) dX5_fits_8 (by decide) (fun c8 => ?_) (fun c8 => absurd c8 (by decide))
    refine lv_aload_n hx hb dX5_fits_14 rfl (lv_at hl 0 rfl) ?_
    refine lv_iload_n hx hb dX5_fits_15 rfl (lv_at hl 1 rfl) ?_
    refine lv_iload_n hx hb dX5_fits_16 rfl (lv_at hl 2 rfl) ?_
    refine lv_iload_n hx hb dX5_fits_17 rfl (lv_at hl 3 rfl) ?_
    refine lv_iload hx hb dX5_fits_18 (lv_at hl 4 rfl) ?_
    refine wf_v (n := 4) (G := G) (E := E) (As := [.int x0, .int x1, .int x2, .int x3]) (rest := []) (ci := 5) (q0 := 0) (wn := fun (u : (Nat → Int32) × (Nat → Int32)) => ((iaW E ia tx z y v kq gp gd) ++ (txW E tx n (slot oa pi)) ++ (neW E z op hg la tops dpt lst stry srt lin tokA wah fol par_ opn) ++ (lyW E y sett clA) ++ (lyW E v u.1 u.2) ++ (pkW E (kq 0) kn0 kz0 kl0 kp0 kk0) ++ (pkW E (kq 1) kn1 kz1 kl1 kp1 kk1) ++ (pkW E (kq 2) kn2 kz2 kl2 kp2 kk2)) ++ poW E oa ta tl ct ps sn cb tk) ⟨hx, hb, hml, hown, hts⟩ hK hZ hS hA (fun sz => c_X5_layTried l G E ia tx z y v kq gp gd n pi op hg la tops dpt lst stry srt lin tokA wah fol par_ opn sett clA setv clV kn0 kz0 kn1 kz1 kn2 kz2 kl0 kp0 kk0 kl1 kp1 kk1 kl2 kp2 kk2 oa ta tl ct ps sn cb tk x0 x1 x2 x3 (aR ab) (by first | assumption | omega) (by first | assumption | omega) (by first | assumption | omega) (by rw [hop, hN]) hCn sz) gX5_fits_X5_layTried rfl rfl rfl (by decide +kernel) ⟨Nat.le_of_ble_eq_true rfl, Nat.le_of_ble_eq_true rfl⟩ hP hD (fun _ => po_fstA rfl) rfl rfl hl.1 rfl rfl (Nat.le_of_ble_eq_true rfl) dX5_fits_20 ⟨Nat.zero_le _, Nat.zero_le _⟩ (fun u20 H locs p20 hP hD hS => ?_)
    obtain ⟨setv'_20, clV'_20⟩ := u20
    try dsimp only at p20 hP hD
    have hP : va_P G vwCl (((iaW E ia tx z y v kq gp gd) ++ (txW E tx n (slot oa pi)) ++ (neW E z op hg la tops dpt lst stry srt lin tokA wah fol par_ opn) ++ (lyW E y sett clA) ++ (lyW E v setv'_20 clV'_20) ++ (pkW E (kq 0) kn0 kz0 kl0 kp0 kk0) ++ (pkW E (kq 1) kn1 kz1 kl1 kp1 kk1) ++ (pkW E (kq 2) kn2 kz2 kl2 kp2 kk2)) ++ poW E oa ta tl ct ps sn cb tk) H := hP
    have hD : va_D A (((iaW E ia tx z y v kq gp gd) ++ (txW E tx n (slot oa pi)) ++ (neW E z op hg la tops dpt lst stry srt lin tokA wah fol par_ opn) ++ (lyW E y sett clA) ++ (lyW E v setv'_20 clV'_20) ++ (pkW E (kq 0) kn0 kz0 kl0 kp0 kk0) ++ (pkW E (kq 1) kn1 kz1 kl1 kp1 kk1) ++ (pkW E (kq 2) kn2 kz2 kl2 kp2 kk2)) ++ poW E oa ta tl ct ps sn cb tk) := hD
    refine lv_iconst (v := (nI 0)) hx hb dX5_fits_23 (by decide) ?_
    refine lv_istore (lv' := [(5, .int (nI 0)), (0, .ref (ia 0)), (1, .int x0), (2, .int x1), (3, .int x2), (4, .int x3)]) hx hb dX5_fits_24 hl (by decide) rfl (fun ls hl => ?_)
    refine lv_iconst (v := (nI 0)) hx hb dX5_fits_26 (by decide) ?_
    refine lv_istore (lv' := [(6, .int (nI 0)), (5, .int (nI 0)), (0, .ref (ia 0)), (1, .int x0), (2, .int x1), (3, .int x2), (4, .int x3)]) hx hb dX5_fits_27 hl (by decide) rfl (fun ls hl => ?_)
    have lp29 : ∀ (kk : Nat) (nn : Nat) (i : Nat) (H : Heap) (locs : List Loc), (i ≤ n) → (nn = fitc ab (cols (st4 x0 x1 x2 x3) (aR ab) n) i) → n - i < kk → va_P G vwCl (((iaW E ia tx z y v kq gp gd) ++ (txW E tx n (slot oa pi)) ++ (neW E z op hg la tops dpt lst stry srt lin tokA wah fol par_ opn) ++ (lyW E y sett clA) ++ (lyW E v setv'_20 clV'_20) ++ (pkW E (kq 0) kn0 kz0 kl0 kp0 kk0) ++ (pkW E (kq 1) kn1 kz1 kl1 kp1 kk1) ++ (pkW E (kq 2) kn2 kz2 kl2 kp2 kk2)) ++ poW E oa ta tl ct ps sn cb tk) H → va_D A (((iaW E ia tx z y v kq gp gd) ++ (txW E tx n (slot oa pi)) ++ (neW E z op hg la tops dpt lst stry srt lin tokA wah fol par_ opn) ++ (lyW E y sett clA) ++ (lyW E v setv'_20 clV'_20) ++ (pkW E (kq 0) kn0 kz0 kl0 kp0 kk0) ++ (pkW E (kq 1) kn1 kz1 kl1 kp1 kk1) ++ (pkW E (kq 2) kn2 kz2 kl2 kp2 kk2)) ++ poW E oa ta tl ct ps sn cb tk) → va_S A s.heap H locs → ∀ ls : Array Slot, lv_has ls 7 [(6, .int (nI i)), (5, .int (nI nn)), (0, .ref (ia 0)), (1, .int x0), (2, .int x1), (3, .int x2), (4, .int x3)] → W p l e (headSpec wsX5_fits ({ frames := 5, cells := 0, slots := 0, locals := 120 } : Room)).room s m ([.ref (ia 0), .int x0, .int x1, .int x2, .int x3] : List Value).toArray below meth c H locs 0 0 (MQ below (va_Qi (fun (r : Int32) (u : (Nat → Int32) × (Nat → Int32)) => r = fFits ab x0 x1 x2 x3) (fun (u : (Nat → Int32) × (Nat → Int32)) tQ => va_P G vwCl (((iaW E ia tx z y v kq gp gd) ++ (txW E tx n (slot oa pi)) ++ (neW E z op hg la tops dpt lst stry srt lin tokA wah fol par_ opn) ++ (lyW E y sett clA) ++ (lyW E v u.1 u.2) ++ (pkW E (kq 0) kn0 kz0 kl0 kp0 kk0) ++ (pkW E (kq 1) kn1 kz1 kl1 kp1 kk1) ++ (pkW E (kq 2) kn2 kz2 kl2 kp2 kk2)) ++ poW E oa ta tl ct ps sn cb tk) tQ.heap) A) ([.ref (ia 0), .int x0, .int x1, .int x2, .int x3] : List Value).toArray s 0 0 A) (F0 m 29 ls []) := by
      intro kk
      induction kk with
      | zero => intro nn i H locs hi hnn hkk; exact absurd hkk (Nat.not_lt_zero _)
      | succ kk ih29 =>
        intro nn i H locs hi hnn hkk hP hD hS ls hl
        refine lv_iload hx hb dX5_fits_29 (lv_at hl 0 rfl) ?_
        refine lv_aload_n hx hb dX5_fits_31 rfl (lv_at hl 2 rfl) ?_
        refine va_get (D := G) (ci := 5) (v := .ref (tx 0)) (C := RX5) (T := TX5) (N := 7) hx hb hts hin5 hown hK hP 0 rfl rfl 0 (by decide) (hts (Cond.fieldLink RX5 12 "IndentRules" "text" "LIndentRules$Text;") (List.mem_of_getElem? (i := 1) rfl)) (fun _ h9 => h9) rfl dX5_fits_32 ?_
        refine va_get (D := G) (ci := 4) (v := .int (nI n)) (C := RX4) (T := TX4) (N := 2) hx hb hts hin4 hown hK hP 3 rfl rfl 1 (by decide) (hts (Cond.fieldLink RX5 48 "IndentRules$Text" "size" "I") (List.mem_of_getElem? (i := 2) rfl)) (fun _ h9 => h9) rfl dX5_fits_35 ?_
        refine n_icmp_ge (a := i) (b := n) (tgt := 63) hx hb (by omega) (by omega) dX5_fits_38 (by decide) (fun c38 => ?_) (fun c38 => ?_)
        · refine lv_iload hx hb dX5_fits_63 (lv_at hl 1 rfl) ?_
          exact W.iret (v := (nI nn)) hx hb hr (fun tZ htZ hWZ => ⟨⟨_, (setv'_20, clV'_20), rfl, by rw [fFits_ok h5, hnn, show i = n by omega, hN], by show va_P G vwCl _ tZ.heap; rw [htZ]; exact hP⟩, hS.F htZ⟩) hS.2.2 dX5_fits_65
        · refine lv_aload_n hx hb dX5_fits_41 rfl (lv_at hl 2 rfl) ?_
          refine lv_aload_n hx hb dX5_fits_42 rfl (lv_at hl 2 rfl) ?_
          refine va_get (D := G) (ci := 5) (v := .ref (v 0)) (C := RX5) (T := TX5) (N := 7) hx hb hts hin5 hown hK hP 0 rfl rfl 3 (by decide) (hts (Cond.fieldLink RX5 30 "IndentRules" "tried" "LIndentRules$Layout;") (List.mem_of_getElem? (i := 3) rfl)) (fun _ h9 => h9) rfl dX5_fits_43 ?_
          refine lv_iload hx hb dX5_fits_46 (lv_at hl 0 rfl) ?_
          refine rv_i (n := 2) (G := G) (E := E) (As := [.ref (v 0), .int (nI i)]) (rest := []) (ci := 5) (q0 := 0) ⟨hx, hb, hml, hown, hts⟩ hK hZ hS (c_X5_isAsSeen l G E ia tx z y v gp n pi v setv'_20 clV'_20 oa ta tl ct ps sn cb tk i (aR ab) (aS ab) (by first | assumption | omega) (by first | assumption | omega) (by first | assumption | omega) (by first | assumption | omega) (by first | assumption | omega)) gX5_fits_X5_isAsSeen rfl rfl rfl (by decide +kernel) ⟨Nat.le_of_ble_eq_true rfl, Nat.le_of_ble_eq_true rfl⟩ (hP.part (cx := ([(ia 0, .inr (5, [.ref (tx 0), .ref (z 0), .ref (y 0), .ref (v 0), .ref (ia 5), .int gp, .ref (ia 7)])), (tx 0, .inr (4, [.ref (tx 1), .int (nI n)])), (tx 1, .inl (E.2.2.1, 20, .inr (.inr (.inr (.inr (fun k => some ((slot oa pi) k))))))), (v 0, .inr (0, [.ref (v 1), .ref (v 2)])), (v 1, .inl (E.1, 4, .inl setv'_20)), (v 2, .inl (E.1, 20, .inl clV'_20))])) [0, 3, 4, 20, 21, 22] rfl) rfl rfl hl.1 rfl rfl (Nat.le_of_ble_eq_true rfl) dX5_fits_48 ⟨Nat.zero_le _, Nat.zero_le _⟩ (fun r48 p48 => ?_)
          rcases p48 with ⟨h48, rfl⟩ | ⟨h48, rfl⟩
          · refine n_if_eq (a := 1) (tgt := 57) hx hb (by decide) dX5_fits_51 (by decide) (fun c51 => absurd c51 (by decide)) (fun c51 => ?_)
            refine lv_iinc (v := (nI (nn + 1))) (lv' := [(5, .int (nI (nn + 1))), (6, .int (nI i)), (0, .ref (ia 0)), (1, .int x0), (2, .int x1), (3, .int x2), (4, .int x3)]) hx hb dX5_fits_54 hl (k := 1) rfl (k_inc nn) (by decide) rfl (fun ls hl => ?_)
            refine lv_iinc (v := (nI (i + 1))) (lv' := [(6, .int (nI (i + 1))), (5, .int (nI (nn + 1))), (0, .ref (ia 0)), (1, .int x0), (2, .int x1), (3, .int x2), (4, .int x3)]) hx hb dX5_fits_57 hl (k := 1) rfl (k_inc i) (by decide) rfl (fun ls hl => ?_)
            refine lv_goto (tgt := 29) hx hb dX5_fits_60 (by decide) ?_
            exact ih29 (nn + 1) (i + 1) _ _ (by omega) (by rw [hnn]; show _ = fitc ab _ i + _; rw [if_pos ⟨h48.1, by rw [← p20.2 i (by omega)]; exact h48.2⟩]) (by omega) hP hD hS ls (lv_sub hl [0, 1, 2, 3, 4, 5, 6] rfl)
          · refine n_if_eq (a := 0) (tgt := 57) hx hb (by decide) dX5_fits_51 (by decide) (fun c51 => ?_) (fun c51 => absurd c51 (by decide))
            refine lv_iinc (v := (nI (i + 1))) (lv' := [(6, .int (nI (i + 1))), (5, .int (nI nn)), (0, .ref (ia 0)), (1, .int x0), (2, .int x1), (3, .int x2), (4, .int x3)]) hx hb dX5_fits_57 hl (k := 0) rfl (k_inc i) (by decide) rfl (fun ls hl => ?_)
            refine lv_goto (tgt := 29) hx hb dX5_fits_60 (by decide) ?_
            exact ih29 nn (i + 1) _ _ (by omega) (by rw [hnn]; show _ = fitc ab _ i + _; rw [if_neg (fun q => h48 ⟨q.1, by rw [p20.2 i (by omega)]; exact q.2⟩), Nat.add_zero]) (by omega) hP hD hS ls (lv_sub hl [0, 1, 2, 3, 4, 5, 6] rfl)
    exact lp29 (n - 0 + 1) 0 0 _ _ (Nat.zero_le _) rfl (Nat.lt_succ_self _) hP hD hS ls (lv_sub hl [0, 1, 2, 3, 4, 5, 6] rfl)
  · refine n_if_ne (a := 0) (tgt := 14) hx hb (by decide) dX5_fits_8 (by decide) (fun c8 => absurd c8 (by decide)) (fun c8 => ?_)
    refine lv_bipush (v := (-2)) hx hb dX5_fits_11 (by decide) ?_
    exact W.iret (v := (-2)) hx hb hr (fun tZ htZ hWZ => ⟨⟨_, (setv, clV), rfl, (fFits_1 h5).symm, by show va_P G vwCl _ tZ.heap; rw [htZ]; exact hP⟩, hS.F htZ⟩) hS.2.2 dX5_fits_13

set_option maxHeartbeats 4000000 in
set_option maxRecDepth 100000 in
theorem c_X5_score (l : Launch) (G : va_G) (E : cEnv) (ia tx z y v : Nat → Nat) (kq : Nat → Nat → Nat) (gp : Int32) (gd : Nat → Int32) (n : Nat) (pi : Nat → Nat) (op hg la : Nat) (tops dpt lst stry srt lin tokA wah fol par_ opn : Nat → Int32) (sett clA setv clV : Nat → Int32) (kn0 kz0 kn1 kz1 kn2 kz2 : Nat) (kl0 kp0 kk0 kl1 kp1 kk1 kl2 kp2 kk2 : Nat → Int32) (oa ta : Nat → Nat) (tl ct ps : Nat → Nat) (sn cb : Nat → Int32) (tk : Nat → Nat → Int32) (x0 x1 x2 x3 a2 : Int32) (ab : ABS) (hab : ClsOk ab n op pi tl ct ps sn tk tops dpt lst stry srt lin tokA wah fol par_ opn sett clA kn0 kz0 kn1 kz1 kn2 kz2 kl0 kp0 kk0 kl1 kp1 kk1 kl2 kp2 kk2) (sz : Nat) : Met l yX5_score wsX5_score ({ frames := 5, cells := 0, slots := 0, locals := 120 }) (va_Pc [.ref (ia 0), .int x0, .int x1, .int x2, .int x3, .int a2] (PW G E (((iaW E ia tx z y v kq gp gd) ++ (txW E tx n (slot oa pi)) ++ (neW E z op hg la tops dpt lst stry srt lin tokA wah fol par_ opn) ++ (lyW E y sett clA) ++ (lyW E v setv clV) ++ (pkW E (kq 0) kn0 kz0 kl0 kp0 kk0) ++ (pkW E (kq 1) kn1 kz1 kl1 kp1 kk1) ++ (pkW E (kq 2) kn2 kz2 kl2 kp2 kk2)) ++ poW E oa ta tl ct ps sn cb tk) sz)) (va_Qi (fun (r : Int32) (u : (Nat → Int32) × (Nat → Int32)) => r = fScore ab x0 x1 x2 x3 a2) (fun (u : (Nat → Int32) × (Nat → Int32)) tQ => va_P G vwCl (((iaW E ia tx z y v kq gp gd) ++ (txW E tx n (slot oa pi)) ++ (neW E z op hg la tops dpt lst stry srt lin tokA wah fol par_ opn) ++ (lyW E y sett clA) ++ (lyW E v u.1 u.2) ++ (pkW E (kq 0) kn0 kz0 kl0 kp0 kk0) ++ (pkW E (kq 1) kn1 kz1 kl1 kp1 kk1) ++ (pkW E (kq 2) kn2 kz2 kl2 kp2 kk2)) ++ poW E oa ta tl ct ps sn cb tk) tQ.heap) (va_A (((iaW E ia tx z y v kq gp gd) ++ (txW E tx n (slot oa pi)) ++ (neW E z op hg la tops dpt lst stry srt lin tokA wah fol par_ opn) ++ (lyW E y sett clA) ++ (lyW E v setv clV) ++ (pkW E (kq 0) kn0 kz0 kl0 kp0 kk0) ++ (pkW E (kq 1) kn1 kz1 kl1 kp1 kk1) ++ (pkW E (kq 2) kn2 kz2 kl2 kp2 kk2)) ++ poW E oa ta tl ct ps sn cb tk) sz)) 0 0 (va_A (((iaW E ia tx z y v kq gp gd) ++ (txW E tx n (slot oa pi)) ++ (neW E z op hg la tops dpt lst stry srt lin tokA wah fol par_ opn) ++ (lyW E y sett clA) ++ (lyW E v setv clV) ++ (pkW E (kq 0) kn0 kz0 kl0 kp0 kk0) ++ (pkW E (kq 1) kn1 kz1 kl1 kp1 kk1) ++ (pkW E (kq 2) kn2 kz2 kl2 kp2 kk2)) ++ poW E oa ta tl ct ps sn cb tk) sz) := by
  refine Met.ofW (cc := cX5_score) (maxL := 7) (ret := (some .int)) (by decide) rfl ?_
  intro p e s m args below meth c s₁ B hml hv
  obtain ⟨rfl, hsz, hP, hK, hD0, hZ⟩ := hv
  have hx := B.exec
  have hb := B.bytes
  have hr := B.returns
  have hts := atoms_spec (ws := wsX5_score) B.pre
  have hown : s.vm.findClass RX5 = some m.cls := findClass_of_methodNamed B.named
  have hlocks := B.notSynchronized
  subst hsz
  have hD := hD0.self (sz := s.heap.size)
  generalize hAe : va_A (((iaW E ia tx z y v kq gp gd) ++ (txW E tx n (slot oa pi)) ++ (neW E z op hg la tops dpt lst stry srt lin tokA wah fol par_ opn) ++ (lyW E y sett clA) ++ (lyW E v setv clV) ++ (pkW E (kq 0) kn0 kz0 kl0 kp0 kk0) ++ (pkW E (kq 1) kn1 kz1 kl1 kp1 kk1) ++ (pkW E (kq 2) kn2 kz2 kl2 kp2 kk2)) ++ poW E oa ta tl ct ps sn cb tk) s.heap.size = A at hD hZ ⊢
  have hA : ∀ q : Nat, s.heap.size ≤ q → A q := fun q h => by rw [← hAe]; exact Or.inr h
  have hS : va_S A s.heap s.heap [] := va_S.rf
  have hl := lv_entry ([.ref (ia 0), .int x0, .int x1, .int x2, .int x3, .int a2]) (n := 7) (Nat.le_of_ble_eq_true rfl)
  rw [lg_entry_eq]
  generalize (lg_sl ([.ref (ia 0), .int x0, .int x1, .int x2, .int x3, .int a2]) ++ List.replicate (7 - (lg_sl ([.ref (ia 0), .int x0, .int x1, .int x2, .int x3, .int a2])).length) Slot.unset).toArray = ls at hl ⊢
  have hl : lv_has ls 7 [(0, .ref (ia 0)), (1, .int x0), (2, .int x1), (3, .int x2), (4, .int x3), (5, .int a2)] := hl
  obtain ⟨hN, hok, hop, hPL, hSN, hpp, hCN, hsg, hcl, hk0, hk1, hk2⟩ := id hab
  have hn : n ≤ 20 := by rw [hN]; exact hok.1
  have hrn : ∀ j, j < n → aR ab j < 1000000000 := fun j hj => (hok.2.1 j (by omega)).1
  have hpi : ∀ i, i < 20 → pi i < 20 := fun i hi => (hpp i hi).1
  have hwN := wfN_all (row := aR ab) (aN ab) (fun j hj => hrn j (by omega))
  have hob : nO (aNest ab) ≤ 180 := Nat.le_trans hwN.2.1 (by omega)
  have hCn : CN (nAll (aR ab) n) n tops dpt lst stry srt lin tokA wah fol par_ opn := by rw [hN] at hCN ⊢; exact hCN
  have hLN : LN (nF (aNest ab)) (nO (aNest ab)) srt lin wah fol := hCN.ln (by omega) (fun j hj => hrn j (by omega))
  refine lv_iload_n hx hb dX5_score_0 rfl (lv_at hl 1 rfl) ?_
  refine lv_iload_n hx hb dX5_score_1 rfl (lv_at hl 2 rfl) ?_
  refine lv_iload_n hx hb dX5_score_2 rfl (lv_at hl 3 rfl) ?_
  refine lv_iload hx hb dX5_score_3 (lv_at hl 4 rfl) ?_
  refine rs_i (n := 4) (G := G) (E := E) (As := [.int x0, .int x1, .int x2, .int x3]) (rest := []) ⟨hx, hb, hml, hown, hts⟩ hK hZ hS (c_X5_isStyle l G E x0 x1 x2 x3) gX5_score_X5_isStyle rfl rfl rfl (by decide +kernel) ⟨Nat.le_of_ble_eq_true rfl, Nat.le_of_ble_eq_true rfl⟩ (fun k q h => by simp at h) hl.1 rfl rfl (Nat.le_of_ble_eq_true rfl) dX5_score_5 ⟨Nat.zero_le _, Nat.zero_le _⟩ (fun r5 p5 => ?_)
  rcases p5 with ⟨h5, rfl⟩ | ⟨h5, rfl⟩
  · refine n_if_eq (a := 1) (tgt := 22) hx hb (by decide) dX5_score_8 (by decide) (fun c8 => absurd c8 (by decide)) (fun c8 => ?_)
    by_cases hx1 : ixP a2 2
    · obtain ⟨w, hw, rfl⟩ := (ixP_iff (by omega)).mp hx1
      refine lv_iload hx hb dX5_score_11 (lv_at hl 5 rfl) ?_
      refine n_if_lt (a := w) (tgt := 22) hx hb (by omega) dX5_score_13 (by decide) ?_
      refine lv_iload hx hb dX5_score_16 (lv_at hl 5 rfl) ?_
      refine lv_iconst (v := (nI 1)) hx hb dX5_score_18 (by decide) ?_
      refine n_icmp_le (a := w) (b := 1) (tgt := 25) hx hb (by omega) (by decide) dX5_score_19 (by decide) (fun c19 => ?_) (fun c19 => absurd c19 (by omega))
      refine lv_aload_n hx hb dX5_score_25 rfl (lv_at hl 0 rfl) ?_
      refine lv_iload_n hx hb dX5_score_26 rfl (lv_at hl 1 rfl) ?_
      refine lv_iload_n hx hb dX5_score_27 rfl (lv_at hl 2 rfl) ?_
      refine lv_iload_n hx hb dX5_score_28 rfl (lv_at hl 3 rfl) ?_
      refine lv_iload hx hb dX5_score_29 (lv_at hl 4 rfl) ?_
      refine wf_v (n := 4) (G := G) (E := E) (As := [.int x0, .int x1, .int x2, .int x3]) (rest := []) (ci := 5) (q0 := 0) (wn := fun (u : (Nat → Int32) × (Nat → Int32)) => ((iaW E ia tx z y v kq gp gd) ++ (txW E tx n (slot oa pi)) ++ (neW E z op hg la tops dpt lst stry srt lin tokA wah fol par_ opn) ++ (lyW E y sett clA) ++ (lyW E v u.1 u.2) ++ (pkW E (kq 0) kn0 kz0 kl0 kp0 kk0) ++ (pkW E (kq 1) kn1 kz1 kl1 kp1 kk1) ++ (pkW E (kq 2) kn2 kz2 kl2 kp2 kk2)) ++ poW E oa ta tl ct ps sn cb tk) ⟨hx, hb, hml, hown, hts⟩ hK hZ hS hA (fun sz => c_X5_layTried l G E ia tx z y v kq gp gd n pi op hg la tops dpt lst stry srt lin tokA wah fol par_ opn sett clA setv clV kn0 kz0 kn1 kz1 kn2 kz2 kl0 kp0 kk0 kl1 kp1 kk1 kl2 kp2 kk2 oa ta tl ct ps sn cb tk x0 x1 x2 x3 (aR ab) (by first | assumption | omega) (by first | assumption | omega) (by first | assumption | omega) (by rw [hop, hN]) hCn sz) gX5_score_X5_layTried rfl rfl rfl (by decide +kernel) ⟨Nat.le_of_ble_eq_true rfl, Nat.le_of_ble_eq_true rfl⟩ hP hD (fun _ => po_fstA rfl) rfl rfl hl.1 rfl rfl (Nat.le_of_ble_eq_true rfl) dX5_score_31 ⟨Nat.zero_le _, Nat.zero_le _⟩ (fun u31 H locs p31 hP hD hS => ?_)
      obtain ⟨setv'_31, clV'_31⟩ := u31
      try dsimp only at p31 hP hD
      have hP : va_P G vwCl (((iaW E ia tx z y v kq gp gd) ++ (txW E tx n (slot oa pi)) ++ (neW E z op hg la tops dpt lst stry srt lin tokA wah fol par_ opn) ++ (lyW E y sett clA) ++ (lyW E v setv'_31 clV'_31) ++ (pkW E (kq 0) kn0 kz0 kl0 kp0 kk0) ++ (pkW E (kq 1) kn1 kz1 kl1 kp1 kk1) ++ (pkW E (kq 2) kn2 kz2 kl2 kp2 kk2)) ++ poW E oa ta tl ct ps sn cb tk) H := hP
      have hD : va_D A (((iaW E ia tx z y v kq gp gd) ++ (txW E tx n (slot oa pi)) ++ (neW E z op hg la tops dpt lst stry srt lin tokA wah fol par_ opn) ++ (lyW E y sett clA) ++ (lyW E v setv'_31 clV'_31) ++ (pkW E (kq 0) kn0 kz0 kl0 kp0 kk0) ++ (pkW E (kq 1) kn1 kz1 kl1 kp1 kk1) ++ (pkW E (kq 2) kn2 kz2 kl2 kp2 kk2)) ++ poW E oa ta tl ct ps sn cb tk) := hD
      have hsl : scr ab (cols (st4 x0 x1 x2 x3) (aR ab) n) (aN ab) ≤ 81920 := by have q := scr_le ab (cols (st4 x0 x1 x2 x3) (aR ab) n) (aN ab); have := hok.1; omega
      have hsb : scr ab (cols (st4 x0 x1 x2 x3) (aR ab) n) (aN ab) = scoreBy ab x0 x1 x2 x3 := by rw [hN]; rfl
      refine lv_aload_n hx hb dX5_score_34 rfl (lv_at hl 0 rfl) ?_
      refine rv_i (n := 0) (G := G) (E := E) (As := []) (rest := []) (ci := 5) (q0 := 0) ⟨hx, hb, hml, hown, hts⟩ hK hZ hS (c_X5_partsOfTried l G E ia tx z y v kq gp gd n pi op hg la tops dpt lst stry srt lin tokA wah fol par_ opn sett clA setv'_31 clV'_31 kn0 kz0 kn1 kz1 kn2 kz2 kl0 kp0 kk0 kl1 kp1 kk1 kl2 kp2 kk2 oa ta tl ct ps sn cb tk (cols (st4 x0 x1 x2 x3) (aR ab) n) p31.2 ab hab) gX5_score_X5_partsOfTried rfl rfl rfl (by decide +kernel) ⟨Nat.le_of_ble_eq_true rfl, Nat.le_of_ble_eq_true rfl⟩ hP rfl rfl hl.1 rfl rfl (Nat.le_of_ble_eq_true rfl) dX5_score_35 ⟨Nat.zero_le _, Nat.zero_le _⟩ (fun r35 p35 => ?_)
      subst p35
      refine lv_istore (lv' := [(6, .int (nI (scr ab (cols (st4 x0 x1 x2 x3) (aR ab) n) (aN ab)))), (0, .ref (ia 0)), (1, .int x0), (2, .int x1), (3, .int x2), (4, .int x3), (5, .int (nI w))]) hx hb dX5_score_38 hl (by decide) rfl (fun ls hl => ?_)
      refine lv_iload hx hb dX5_score_40 (lv_at hl 6 rfl) ?_
      refine n_if_ne (a := w) (tgt := 53) hx hb (by omega) dX5_score_42 (by decide) (fun c42 => ?_) (fun c42 => ?_)
      · refine lv_iload hx hb dX5_score_53 (lv_at hl 0 rfl) ?_
        refine lv_sipush (v := (nI 1000)) hx hb dX5_score_55 (by decide) ?_
        refine k_imul (a := (scr ab (cols (st4 x0 x1 x2 x3) (aR ab) n) (aN ab))) (b := 1000) hx hb dX5_score_58 ?_
        refine lv_sipush (v := (nI 4096)) hx hb dX5_score_59 (by decide) ?_
        refine k_idiv (a := ((scr ab (cols (st4 x0 x1 x2 x3) (aR ab) n) (aN ab)) * 1000)) (b := 4096) hx hb (by omega) (by decide) (by decide) dX5_score_62 ?_
        exact W.iret (v := (nI (((scr ab (cols (st4 x0 x1 x2 x3) (aR ab) n) (aN ab)) * 1000) / 4096))) hx hb hr (fun tZ htZ hWZ => ⟨⟨_, (setv'_31, clV'_31), rfl, by rw [hsb, show w = 1 by omega, fScore_2 h5], by show va_P G vwCl _ tZ.heap; rw [htZ]; exact hP⟩, hS.F htZ⟩) hS.2.2 dX5_score_63
      · refine lv_iload hx hb dX5_score_45 (lv_at hl 0 rfl) ?_
        refine rs_i (n := 1) (G := G) (E := E) (As := [.int (nI (scr ab (cols (st4 x0 x1 x2 x3) (aR ab) n) (aN ab)))]) (rest := []) ⟨hx, hb, hml, hown, hts⟩ hK hZ hS (c_X5_floatBits l G E (scr ab (cols (st4 x0 x1 x2 x3) (aR ab) n) (aN ab)) hsl) gX5_score_X5_floatBits rfl rfl rfl (by decide +kernel) ⟨Nat.le_of_ble_eq_true rfl, Nat.le_of_ble_eq_true rfl⟩ (fun k q h => by simp at h) hl.1 rfl rfl (Nat.le_of_ble_eq_true rfl) dX5_score_47 ⟨Nat.zero_le _, Nat.zero_le _⟩ (fun r47 p47 => ?_)
        subst p47
        refine lv_goto (tgt := 63) hx hb dX5_score_50 (by decide) ?_
        exact W.iret (v := (nI (bitN (scr ab (cols (st4 x0 x1 x2 x3) (aR ab) n) (aN ab))))) hx hb hr (fun tZ htZ hWZ => ⟨⟨_, (setv'_31, clV'_31), rfl, by rw [hsb, show w = 0 by omega, fScore_0 h5], by show va_P G vwCl _ tZ.heap; rw [htZ]; exact hP⟩, hS.F htZ⟩) hS.2.2 dX5_score_63
    · have hx1b : True := trivial
      refine lv_iload hx hb dX5_score_11 (lv_at hl 5 rfl) ?_
      refine lv_if_lt (x := a2) (tgt := 22) hx hb dX5_score_13 (by decide) (fun c13 => ?_) (fun c13 => ?_)
      · refine lv_bipush (v := (-2)) hx hb dX5_score_22 (by decide) ?_
        exact W.iret (v := (-2)) hx hb hr (fun tZ htZ hWZ => ⟨⟨_, (setv, clV), rfl, (fScore_1 (fun q => hx1 q.2)).symm, by show va_P G vwCl _ tZ.heap; rw [htZ]; exact hP⟩, hS.F htZ⟩) hS.2.2 dX5_score_24
      · refine lv_iload hx hb dX5_score_16 (lv_at hl 5 rfl) ?_
        refine lv_iconst (v := (nI 1)) hx hb dX5_score_18 (by decide) ?_
        refine lv_icmp_le (x := a2) (y := (nI 1)) (tgt := 25) hx hb dX5_score_19 (by decide) (fun c19 => absurd ((w_rgx (n := 1) (by decide)).mp ⟨(by rw [nI_0]; exact Int32.not_lt.mp c13), c19⟩) hx1) (fun c19 => ?_)
        refine lv_bipush (v := (-2)) hx hb dX5_score_22 (by decide) ?_
        exact W.iret (v := (-2)) hx hb hr (fun tZ htZ hWZ => ⟨⟨_, (setv, clV), rfl, (fScore_1 (fun q => hx1 q.2)).symm, by show va_P G vwCl _ tZ.heap; rw [htZ]; exact hP⟩, hS.F htZ⟩) hS.2.2 dX5_score_24
  · refine n_if_eq (a := 0) (tgt := 22) hx hb (by decide) dX5_score_8 (by decide) (fun c8 => ?_) (fun c8 => absurd c8 (by decide))
    refine lv_bipush (v := (-2)) hx hb dX5_score_22 (by decide) ?_
    exact W.iret (v := (-2)) hx hb hr (fun tZ htZ hWZ => ⟨⟨_, (setv, clV), rfl, (fScore_1 (fun q => h5 q.1)).symm, by show va_P G vwCl _ tZ.heap; rw [htZ]; exact hP⟩, hS.F htZ⟩) hS.2.2 dX5_score_24

set_option maxHeartbeats 4000000 in
set_option maxRecDepth 100000 in
theorem c_X5_guess (l : Launch) (G : va_G) (E : cEnv) (ia tx z y v : Nat → Nat) (kq : Nat → Nat → Nat) (gp : Int32) (gd : Nat → Int32) (n : Nat) (pi : Nat → Nat) (op hg la : Nat) (tops dpt lst stry srt lin tokA wah fol par_ opn : Nat → Int32) (sett clA setv clV : Nat → Int32) (kn0 kz0 kn1 kz1 kn2 kz2 : Nat) (kl0 kp0 kk0 kl1 kp1 kk1 kl2 kp2 kk2 : Nat → Int32) (oa ta : Nat → Nat) (tl ct ps : Nat → Nat) (sn cb : Nat → Int32) (tk : Nat → Nat → Int32) (a2 : Int32) (ab : ABS) (hab : ClsOk ab n op pi tl ct ps sn tk tops dpt lst stry srt lin tokA wah fol par_ opn sett clA kn0 kz0 kn1 kz1 kn2 kz2 kl0 kp0 kk0 kl1 kp1 kk1 kl2 kp2 kk2) (sz : Nat) : Met l yX5_guess wsX5_guess ({ frames := 6, cells := 0, slots := 0, locals := 144 }) (va_Pc [.ref (ia 0), .int a2] (PW G E (((iaW E ia tx z y v kq gp gd) ++ (txW E tx n (slot oa pi)) ++ (neW E z op hg la tops dpt lst stry srt lin tokA wah fol par_ opn) ++ (lyW E y sett clA) ++ (lyW E v setv clV) ++ (pkW E (kq 0) kn0 kz0 kl0 kp0 kk0) ++ (pkW E (kq 1) kn1 kz1 kl1 kp1 kk1) ++ (pkW E (kq 2) kn2 kz2 kl2 kp2 kk2)) ++ poW E oa ta tl ct ps sn cb tk) sz)) (va_Qi (fun (r : Int32) (u : (Int32) × (Nat → Int32) × (Nat → Int32) × (Nat → Int32)) => r = fGuess ab a2) (fun (u : (Int32) × (Nat → Int32) × (Nat → Int32) × (Nat → Int32)) tQ => va_P G vwCl (((iaW E ia tx z y v kq u.1 u.2.1) ++ (txW E tx n (slot oa pi)) ++ (neW E z op hg la tops dpt lst stry srt lin tokA wah fol par_ opn) ++ (lyW E y sett clA) ++ (lyW E v u.2.2.1 u.2.2.2) ++ (pkW E (kq 0) kn0 kz0 kl0 kp0 kk0) ++ (pkW E (kq 1) kn1 kz1 kl1 kp1 kk1) ++ (pkW E (kq 2) kn2 kz2 kl2 kp2 kk2)) ++ poW E oa ta tl ct ps sn cb tk) tQ.heap) (va_A (((iaW E ia tx z y v kq gp gd) ++ (txW E tx n (slot oa pi)) ++ (neW E z op hg la tops dpt lst stry srt lin tokA wah fol par_ opn) ++ (lyW E y sett clA) ++ (lyW E v setv clV) ++ (pkW E (kq 0) kn0 kz0 kl0 kp0 kk0) ++ (pkW E (kq 1) kn1 kz1 kl1 kp1 kk1) ++ (pkW E (kq 2) kn2 kz2 kl2 kp2 kk2)) ++ poW E oa ta tl ct ps sn cb tk) sz)) 0 0 (va_A (((iaW E ia tx z y v kq gp gd) ++ (txW E tx n (slot oa pi)) ++ (neW E z op hg la tops dpt lst stry srt lin tokA wah fol par_ opn) ++ (lyW E y sett clA) ++ (lyW E v setv clV) ++ (pkW E (kq 0) kn0 kz0 kl0 kp0 kk0) ++ (pkW E (kq 1) kn1 kz1 kl1 kp1 kk1) ++ (pkW E (kq 2) kn2 kz2 kl2 kp2 kk2)) ++ poW E oa ta tl ct ps sn cb tk) sz) := by
  refine Met.ofW (cc := cX5_guess) (maxL := 2) (ret := (some .int)) (by decide) rfl ?_
  intro p e s m args below meth c s₁ B hml hv
  obtain ⟨rfl, hsz, hP, hK, hD0, hZ⟩ := hv
  have hx := B.exec
  have hb := B.bytes
  have hr := B.returns
  have hts := atoms_spec (ws := wsX5_guess) B.pre
  have hown : s.vm.findClass RX5 = some m.cls := findClass_of_methodNamed B.named
  have hlocks := B.notSynchronized
  have hin5 : ∀ w ∈ u_ws RX5 TX5 7, w ∈ wsX5_guess := mem_pl [98, 99, 100, 101, 102, 103, 104] (by rfl)
  subst hsz
  have hD := hD0.self (sz := s.heap.size)
  generalize hAe : va_A (((iaW E ia tx z y v kq gp gd) ++ (txW E tx n (slot oa pi)) ++ (neW E z op hg la tops dpt lst stry srt lin tokA wah fol par_ opn) ++ (lyW E y sett clA) ++ (lyW E v setv clV) ++ (pkW E (kq 0) kn0 kz0 kl0 kp0 kk0) ++ (pkW E (kq 1) kn1 kz1 kl1 kp1 kk1) ++ (pkW E (kq 2) kn2 kz2 kl2 kp2 kk2)) ++ poW E oa ta tl ct ps sn cb tk) s.heap.size = A at hD hZ ⊢
  have hA : ∀ q : Nat, s.heap.size ≤ q → A q := fun q h => by rw [← hAe]; exact Or.inr h
  have hS : va_S A s.heap s.heap [] := va_S.rf
  have hl := lv_entry ([.ref (ia 0), .int a2]) (n := 2) (Nat.le_of_ble_eq_true rfl)
  rw [lg_entry_eq]
  generalize (lg_sl ([.ref (ia 0), .int a2]) ++ List.replicate (2 - (lg_sl ([.ref (ia 0), .int a2])).length) Slot.unset).toArray = ls at hl ⊢
  have hl : lv_has ls 2 [(0, .ref (ia 0)), (1, .int a2)] := hl
  obtain ⟨hN, hok, hop, hPL, hSN, hpp, hCN, hsg, hcl, hk0, hk1, hk2⟩ := id hab
  have hn : n ≤ 20 := by rw [hN]; exact hok.1
  have hrn : ∀ j, j < n → aR ab j < 1000000000 := fun j hj => (hok.2.1 j (by omega)).1
  have hpi : ∀ i, i < 20 → pi i < 20 := fun i hi => (hpp i hi).1
  have hwN := wfN_all (row := aR ab) (aN ab) (fun j hj => hrn j (by omega))
  have hob : nO (aNest ab) ≤ 180 := Nat.le_trans hwN.2.1 (by omega)
  have hCn : CN (nAll (aR ab) n) n tops dpt lst stry srt lin tokA wah fol par_ opn := by rw [hN] at hCN ⊢; exact hCN
  have hLN : LN (nF (aNest ab)) (nO (aNest ab)) srt lin wah fol := hCN.ln (by omega) (fun j hj => hrn j (by omega))
  by_cases hx1 : ixP a2 5
  · obtain ⟨w, hw, rfl⟩ := (ixP_iff (by omega)).mp hx1
    refine lv_iload_n hx hb dX5_guess_0 rfl (lv_at hl 1 rfl) ?_
    refine n_if_lt (a := w) (tgt := 9) hx hb (by omega) dX5_guess_1 (by decide) ?_
    refine lv_iload_n hx hb dX5_guess_4 rfl (lv_at hl 1 rfl) ?_
    refine lv_iconst (v := (nI 4)) hx hb dX5_guess_5 (by decide) ?_
    refine n_icmp_le (a := w) (b := 4) (tgt := 12) hx hb (by omega) (by decide) dX5_guess_6 (by decide) (fun c6 => ?_) (fun c6 => absurd c6 (by omega))
    refine lv_aload_n hx hb dX5_guess_12 rfl (lv_at hl 0 rfl) ?_
    refine rv_i (n := 0) (G := G) (E := E) (As := []) (rest := []) (ci := 5) (q0 := 0) ⟨hx, hb, hml, hown, hts⟩ hK hZ hS (c_X5_hasSeenTokens l G E ia tx z y v kq gp gd n pi op hg la tops dpt lst stry srt lin tokA wah fol par_ opn sett clA setv clV kn0 kz0 kn1 kz1 kn2 kz2 kl0 kp0 kk0 kl1 kp1 kk1 kl2 kp2 kk2 oa ta tl ct ps sn cb tk ab (by first | assumption | omega)) gX5_guess_X5_hasSeenTokens rfl rfl rfl (by decide +kernel) ⟨Nat.le_of_ble_eq_true rfl, Nat.le_of_ble_eq_true rfl⟩ hP rfl rfl hl.1 rfl rfl (Nat.le_of_ble_eq_true rfl) dX5_guess_13 ⟨Nat.zero_le _, Nat.zero_le _⟩ (fun r13 p13 => ?_)
    rcases p13 with ⟨h13, rfl⟩ | ⟨h13, rfl⟩
    · refine n_if_ne (a := 1) (tgt := 22) hx hb (by decide) dX5_guess_16 (by decide) (fun c16 => ?_) (fun c16 => absurd c16 (by decide))
      refine lv_aload_n hx hb dX5_guess_22 rfl (lv_at hl 0 rfl) ?_
      refine wf_v (n := 0) (G := G) (E := E) (As := []) (rest := []) (ci := 5) (q0 := 0) (wn := fun (u : (Int32) × (Nat → Int32) × (Nat → Int32) × (Nat → Int32)) => ((iaW E ia tx z y v kq u.1 u.2.1) ++ (txW E tx n (slot oa pi)) ++ (neW E z op hg la tops dpt lst stry srt lin tokA wah fol par_ opn) ++ (lyW E y sett clA) ++ (lyW E v u.2.2.1 u.2.2.2) ++ (pkW E (kq 0) kn0 kz0 kl0 kp0 kk0) ++ (pkW E (kq 1) kn1 kz1 kl1 kp1 kk1) ++ (pkW E (kq 2) kn2 kz2 kl2 kp2 kk2)) ++ poW E oa ta tl ct ps sn cb tk) ⟨hx, hb, hml, hown, hts⟩ hK hZ hS hA (fun sz => c_X5_findGuess l G E ia tx z y v kq gp gd n pi op hg la tops dpt lst stry srt lin tokA wah fol par_ opn sett clA setv clV kn0 kz0 kn1 kz1 kn2 kz2 kl0 kp0 kk0 kl1 kp1 kk1 kl2 kp2 kk2 oa ta tl ct ps sn cb tk ab hab sz) gX5_guess_X5_findGuess rfl rfl rfl (by decide +kernel) ⟨Nat.le_of_ble_eq_true rfl, Nat.le_of_ble_eq_true rfl⟩ hP hD (fun _ => po_fstA rfl) rfl rfl hl.1 rfl rfl (Nat.le_of_ble_eq_true rfl) dX5_guess_23 ⟨Nat.zero_le _, Nat.zero_le _⟩ (fun u23 H locs p23 hP hD hS => ?_)
      obtain ⟨gp'_23, gd'_23, setv'_23, clV'_23⟩ := u23
      try dsimp only at p23 hP hD
      have hP : va_P G vwCl (((iaW E ia tx z y v kq gp'_23 gd'_23) ++ (txW E tx n (slot oa pi)) ++ (neW E z op hg la tops dpt lst stry srt lin tokA wah fol par_ opn) ++ (lyW E y sett clA) ++ (lyW E v setv'_23 clV'_23) ++ (pkW E (kq 0) kn0 kz0 kl0 kp0 kk0) ++ (pkW E (kq 1) kn1 kz1 kl1 kp1 kk1) ++ (pkW E (kq 2) kn2 kz2 kl2 kp2 kk2)) ++ poW E oa ta tl ct ps sn cb tk) H := hP
      have hD : va_D A (((iaW E ia tx z y v kq gp'_23 gd'_23) ++ (txW E tx n (slot oa pi)) ++ (neW E z op hg la tops dpt lst stry srt lin tokA wah fol par_ opn) ++ (lyW E y sett clA) ++ (lyW E v setv'_23 clV'_23) ++ (pkW E (kq 0) kn0 kz0 kl0 kp0 kk0) ++ (pkW E (kq 1) kn1 kz1 kl1 kp1 kk1) ++ (pkW E (kq 2) kn2 kz2 kl2 kp2 kk2)) ++ poW E oa ta tl ct ps sn cb tk) := hD
      refine lv_iload_n hx hb dX5_guess_26 rfl (lv_at hl 1 rfl) ?_
      refine lv_iconst (v := (nI 4)) hx hb dX5_guess_27 (by decide) ?_
      refine n_icmp_ge (a := w) (b := 4) (tgt := 40) hx hb (by omega) (by decide) dX5_guess_28 (by decide) (fun c28 => ?_) (fun c28 => ?_)
      · refine lv_aload_n hx hb dX5_guess_40 rfl (lv_at hl 0 rfl) ?_
        refine va_get (D := G) (ci := 5) (v := .int gp'_23) (C := RX5) (T := TX5) (N := 7) hx hb hts hin5 hown hK hP 0 rfl rfl 5 (by decide) (hts (Cond.fieldLink RX5 168 "IndentRules" "guessedParts" "I") (List.mem_of_getElem? (i := 2) rfl)) (fun _ h9 => h9) rfl dX5_guess_41 ?_
        rw [p23.1]
        refine rs_i (n := 1) (G := G) (E := E) (As := [.int (nI ((gbest ab 256).1 - 1))]) (rest := []) ⟨hx, hb, hml, hown, hts⟩ hK hZ hS (c_X5_floatBits l G E ((gbest ab 256).1 - 1) (by have := gb_le (A := ab) hok.1 256; omega)) gX5_guess_X5_floatBits rfl rfl rfl (by decide +kernel) ⟨Nat.le_of_ble_eq_true rfl, Nat.le_of_ble_eq_true rfl⟩ (fun k q h => by simp at h) hl.1 rfl rfl (Nat.le_of_ble_eq_true rfl) dX5_guess_44 ⟨Nat.zero_le _, Nat.zero_le _⟩ (fun r44 p44 => ?_)
        subst p44
        exact W.iret (v := (nI (bitN ((gbest ab 256).1 - 1)))) hx hb hr (fun tZ htZ hWZ => ⟨⟨_, (gp'_23, gd'_23, setv'_23, clV'_23), rfl, by unfold fGuess; rw [if_pos hx1, if_pos h13, ix_n (by omega), if_neg (by omega)], by show va_P G vwCl _ tZ.heap; rw [htZ]; exact hP⟩, hS.F htZ⟩) hS.2.2 dX5_guess_47
      · refine lv_aload_n hx hb dX5_guess_31 rfl (lv_at hl 0 rfl) ?_
        refine va_get (D := G) (ci := 5) (v := .ref (ia 5)) (C := RX5) (T := TX5) (N := 7) hx hb hts hin5 hown hK hP 0 rfl rfl 4 (by decide) (hts (Cond.fieldLink RX5 33 "IndentRules" "guessed" "[I") (List.mem_of_getElem? (i := 1) rfl)) (fun _ h9 => h9) rfl dX5_guess_32 ?_
        refine lv_iload_n hx hb dX5_guess_35 rfl (lv_at hl 1 rfl) ?_
        refine k_iald (D := G) (tys := TYS E) (j := w) (f := gd'_23) (n := 4) hx hb hK hP 1 0 rfl rfl (by omega) (by decide) dX5_guess_36 ?_
        rw [p23.2 w (by omega)]
        refine lv_goto (tgt := 47) hx hb dX5_guess_37 (by decide) ?_
        exact W.iret (v := (stx (gbest ab 256).2 w)) hx hb hr (fun tZ htZ hWZ => ⟨⟨_, (gp'_23, gd'_23, setv'_23, clV'_23), rfl, by unfold fGuess; rw [if_pos hx1, if_pos h13, ix_n (by omega), if_pos (by omega)], by show va_P G vwCl _ tZ.heap; rw [htZ]; exact hP⟩, hS.F htZ⟩) hS.2.2 dX5_guess_47
    · refine n_if_ne (a := 0) (tgt := 22) hx hb (by decide) dX5_guess_16 (by decide) (fun c16 => absurd c16 (by decide)) (fun c16 => ?_)
      refine lv_bipush (v := (-3)) hx hb dX5_guess_19 (by decide) ?_
      exact W.iret (v := (-3)) hx hb hr (fun tZ htZ hWZ => ⟨⟨_, (gp, gd, setv, clV), rfl, by unfold fGuess; rw [if_pos hx1, if_neg h13], by show va_P G vwCl _ tZ.heap; rw [htZ]; exact hP⟩, hS.F htZ⟩) hS.2.2 dX5_guess_21
  · have hx1b : True := trivial
    refine lv_iload_n hx hb dX5_guess_0 rfl (lv_at hl 1 rfl) ?_
    refine lv_if_lt (x := a2) (tgt := 9) hx hb dX5_guess_1 (by decide) (fun c1 => ?_) (fun c1 => ?_)
    · refine lv_bipush (v := (-2)) hx hb dX5_guess_9 (by decide) ?_
      exact W.iret (v := (-2)) hx hb hr (fun tZ htZ hWZ => ⟨⟨_, (gp, gd, setv, clV), rfl, by unfold fGuess; rw [if_neg hx1], by show va_P G vwCl _ tZ.heap; rw [htZ]; exact hP⟩, hS.F htZ⟩) hS.2.2 dX5_guess_11
    · refine lv_iload_n hx hb dX5_guess_4 rfl (lv_at hl 1 rfl) ?_
      refine lv_iconst (v := (nI 4)) hx hb dX5_guess_5 (by decide) ?_
      refine lv_icmp_le (x := a2) (y := (nI 4)) (tgt := 12) hx hb dX5_guess_6 (by decide) (fun c6 => absurd ((w_rgx (n := 4) (by decide)).mp ⟨(by rw [nI_0]; exact Int32.not_lt.mp c1), c6⟩) hx1) (fun c6 => ?_)
      refine lv_bipush (v := (-2)) hx hb dX5_guess_9 (by decide) ?_
      exact W.iret (v := (-2)) hx hb hr (fun tZ htZ hWZ => ⟨⟨_, (gp, gd, setv, clV), rfl, by unfold fGuess; rw [if_neg hx1], by show va_P G vwCl _ tZ.heap; rw [htZ]; exact hP⟩, hS.F htZ⟩) hS.2.2 dX5_guess_11

set_option maxHeartbeats 4000000 in
set_option maxRecDepth 100000 in
theorem c_X5_follow (l : Launch) (G : va_G) (E : cEnv) (ia tx z y v : Nat → Nat) (kq : Nat → Nat → Nat) (gp : Int32) (gd : Nat → Int32) (n : Nat) (pi : Nat → Nat) (op hg la : Nat) (tops dpt lst stry srt lin tokA wah fol par_ opn : Nat → Int32) (sett clA setv clV : Nat → Int32) (kn0 kz0 kn1 kz1 kn2 kz2 : Nat) (kl0 kp0 kk0 kl1 kp1 kk1 kl2 kp2 kk2 : Nat → Int32) (oa ta : Nat → Nat) (tl ct ps : Nat → Nat) (sn cb : Nat → Int32) (tk : Nat → Nat → Int32) (ab : ABS) (hab : ClsOk ab n op pi tl ct ps sn tk tops dpt lst stry srt lin tokA wah fol par_ opn sett clA kn0 kz0 kn1 kz1 kn2 kz2 kl0 kp0 kk0 kl1 kp1 kk1 kl2 kp2 kk2) (sz : Nat) : Met l yX5_follow wsX5_follow ({ frames := 6, cells := 0, slots := 0, locals := 144 }) (va_Pc [.ref (ia 0)] (PW G E (((iaW E ia tx z y v kq gp gd) ++ (txW E tx n (slot oa pi)) ++ (neW E z op hg la tops dpt lst stry srt lin tokA wah fol par_ opn) ++ (lyW E y sett clA) ++ (lyW E v setv clV) ++ (pkW E (kq 0) kn0 kz0 kl0 kp0 kk0) ++ (pkW E (kq 1) kn1 kz1 kl1 kp1 kk1) ++ (pkW E (kq 2) kn2 kz2 kl2 kp2 kk2)) ++ poW E oa ta tl ct ps sn cb tk) sz)) (va_Qi (fun (r : Int32) (u : (Int32) × (Nat → Int32) × (Nat → Int32) × (Nat → Int32) × (Nat → Int32) × (Nat → Int32) × (Nat → Int32)) => r = (fFollow ab).1 ∧ ClsOk ((fFollow ab).2) n op pi tl ct ps sn tk tops dpt lst stry srt lin tokA wah fol par_ opn u.2.2.2.2.2.1 u.2.2.2.2.2.2 kn0 kz0 kn1 kz1 kn2 kz2 kl0 kp0 kk0 kl1 kp1 kk1 kl2 kp2 kk2) (fun (u : (Int32) × (Nat → Int32) × (Nat → Int32) × (Nat → Int32) × (Nat → Int32) × (Nat → Int32) × (Nat → Int32)) tQ => va_P G vwCl (((iaW E ia tx z y v kq u.1 u.2.1) ++ (txW E tx n (slot oa pi)) ++ (neW E z op hg la tops dpt lst stry srt lin tokA wah fol par_ opn) ++ (lyW E y u.2.2.2.2.2.1 u.2.2.2.2.2.2) ++ (lyW E v u.2.2.1 u.2.2.2.1) ++ (pkW E (kq 0) kn0 kz0 kl0 kp0 kk0) ++ (pkW E (kq 1) kn1 kz1 kl1 kp1 kk1) ++ (pkW E (kq 2) kn2 kz2 kl2 kp2 kk2)) ++ poW E oa ta tl ct ps sn u.2.2.2.2.1 tk) tQ.heap) (va_A (((iaW E ia tx z y v kq gp gd) ++ (txW E tx n (slot oa pi)) ++ (neW E z op hg la tops dpt lst stry srt lin tokA wah fol par_ opn) ++ (lyW E y sett clA) ++ (lyW E v setv clV) ++ (pkW E (kq 0) kn0 kz0 kl0 kp0 kk0) ++ (pkW E (kq 1) kn1 kz1 kl1 kp1 kk1) ++ (pkW E (kq 2) kn2 kz2 kl2 kp2 kk2)) ++ poW E oa ta tl ct ps sn cb tk) sz)) 0 0 (va_A (((iaW E ia tx z y v kq gp gd) ++ (txW E tx n (slot oa pi)) ++ (neW E z op hg la tops dpt lst stry srt lin tokA wah fol par_ opn) ++ (lyW E y sett clA) ++ (lyW E v setv clV) ++ (pkW E (kq 0) kn0 kz0 kl0 kp0 kk0) ++ (pkW E (kq 1) kn1 kz1 kl1 kp1 kk1) ++ (pkW E (kq 2) kn2 kz2 kl2 kp2 kk2)) ++ poW E oa ta tl ct ps sn cb tk) sz) := by
  refine Met.ofW (cc := cX5_follow) (maxL := 1) (ret := (some .int)) (by decide) rfl ?_
  intro p e s m args below meth c s₁ B hml hv
  obtain ⟨rfl, hsz, hP, hK, hD0, hZ⟩ := hv
  have hx := B.exec
  have hb := B.bytes
  have hr := B.returns
  have hts := atoms_spec (ws := wsX5_follow) B.pre
  have hown : s.vm.findClass RX5 = some m.cls := findClass_of_methodNamed B.named
  have hlocks := B.notSynchronized
  have hin5 : ∀ w ∈ u_ws RX5 TX5 7, w ∈ wsX5_follow := mem_pl [105, 106, 107, 108, 109, 110, 111] (by rfl)
  subst hsz
  have hD := hD0.self (sz := s.heap.size)
  generalize hAe : va_A (((iaW E ia tx z y v kq gp gd) ++ (txW E tx n (slot oa pi)) ++ (neW E z op hg la tops dpt lst stry srt lin tokA wah fol par_ opn) ++ (lyW E y sett clA) ++ (lyW E v setv clV) ++ (pkW E (kq 0) kn0 kz0 kl0 kp0 kk0) ++ (pkW E (kq 1) kn1 kz1 kl1 kp1 kk1) ++ (pkW E (kq 2) kn2 kz2 kl2 kp2 kk2)) ++ poW E oa ta tl ct ps sn cb tk) s.heap.size = A at hD hZ ⊢
  have hA : ∀ q : Nat, s.heap.size ≤ q → A q := fun q h => by rw [← hAe]; exact Or.inr h
  have hS : va_S A s.heap s.heap [] := va_S.rf
  have hl := lv_entry ([.ref (ia 0)]) (n := 1) (Nat.le_of_ble_eq_true rfl)
  rw [lg_entry_eq]
  generalize (lg_sl ([.ref (ia 0)]) ++ List.replicate (1 - (lg_sl ([.ref (ia 0)])).length) Slot.unset).toArray = ls at hl ⊢
  have hl : lv_has ls 1 [(0, .ref (ia 0))] := hl
  obtain ⟨hN, hok, hop, hPL, hSN, hpp, hCN, hsg, hcl, hk0, hk1, hk2⟩ := id hab
  have hn : n ≤ 20 := by rw [hN]; exact hok.1
  have hrn : ∀ j, j < n → aR ab j < 1000000000 := fun j hj => (hok.2.1 j (by omega)).1
  have hpi : ∀ i, i < 20 → pi i < 20 := fun i hi => (hpp i hi).1
  have hwN := wfN_all (row := aR ab) (aN ab) (fun j hj => hrn j (by omega))
  have hob : nO (aNest ab) ≤ 180 := Nat.le_trans hwN.2.1 (by omega)
  have hCn : CN (nAll (aR ab) n) n tops dpt lst stry srt lin tokA wah fol par_ opn := by rw [hN] at hCN ⊢; exact hCN
  have hLN : LN (nF (aNest ab)) (nO (aNest ab)) srt lin wah fol := hCN.ln (by omega) (fun j hj => hrn j (by omega))
  refine lv_aload_n hx hb dX5_follow_0 rfl (lv_at hl 0 rfl) ?_
  refine rv_i (n := 0) (G := G) (E := E) (As := []) (rest := []) (ci := 5) (q0 := 0) ⟨hx, hb, hml, hown, hts⟩ hK hZ hS (c_X5_hasSeenTokens l G E ia tx z y v kq gp gd n pi op hg la tops dpt lst stry srt lin tokA wah fol par_ opn sett clA setv clV kn0 kz0 kn1 kz1 kn2 kz2 kl0 kp0 kk0 kl1 kp1 kk1 kl2 kp2 kk2 oa ta tl ct ps sn cb tk ab (by first | assumption | omega)) gX5_follow_X5_hasSeenTokens rfl rfl rfl (by decide +kernel) ⟨Nat.le_of_ble_eq_true rfl, Nat.le_of_ble_eq_true rfl⟩ hP rfl rfl hl.1 rfl rfl (Nat.le_of_ble_eq_true rfl) dX5_follow_1 ⟨Nat.zero_le _, Nat.zero_le _⟩ (fun r1 p1 => ?_)
  rcases p1 with ⟨h1, rfl⟩ | ⟨h1, rfl⟩
  · refine n_if_ne (a := 1) (tgt := 10) hx hb (by decide) dX5_follow_4 (by decide) (fun c4 => ?_) (fun c4 => absurd c4 (by decide))
    refine lv_aload_n hx hb dX5_follow_10 rfl (lv_at hl 0 rfl) ?_
    refine wf_v (n := 0) (G := G) (E := E) (As := []) (rest := []) (ci := 5) (q0 := 0) (wn := fun (u : (Int32) × (Nat → Int32) × (Nat → Int32) × (Nat → Int32)) => ((iaW E ia tx z y v kq u.1 u.2.1) ++ (txW E tx n (slot oa pi)) ++ (neW E z op hg la tops dpt lst stry srt lin tokA wah fol par_ opn) ++ (lyW E y sett clA) ++ (lyW E v u.2.2.1 u.2.2.2) ++ (pkW E (kq 0) kn0 kz0 kl0 kp0 kk0) ++ (pkW E (kq 1) kn1 kz1 kl1 kp1 kk1) ++ (pkW E (kq 2) kn2 kz2 kl2 kp2 kk2)) ++ poW E oa ta tl ct ps sn cb tk) ⟨hx, hb, hml, hown, hts⟩ hK hZ hS hA (fun sz => c_X5_findGuess l G E ia tx z y v kq gp gd n pi op hg la tops dpt lst stry srt lin tokA wah fol par_ opn sett clA setv clV kn0 kz0 kn1 kz1 kn2 kz2 kl0 kp0 kk0 kl1 kp1 kk1 kl2 kp2 kk2 oa ta tl ct ps sn cb tk ab hab sz) gX5_follow_X5_findGuess rfl rfl rfl (by decide +kernel) ⟨Nat.le_of_ble_eq_true rfl, Nat.le_of_ble_eq_true rfl⟩ hP hD (fun _ => po_fstA rfl) rfl rfl hl.1 rfl rfl (Nat.le_of_ble_eq_true rfl) dX5_follow_11 ⟨Nat.zero_le _, Nat.zero_le _⟩ (fun u11 H locs p11 hP hD hS => ?_)
    obtain ⟨gp'_11, gd'_11, setv'_11, clV'_11⟩ := u11
    try dsimp only at p11 hP hD
    have hP : va_P G vwCl (((iaW E ia tx z y v kq gp'_11 gd'_11) ++ (txW E tx n (slot oa pi)) ++ (neW E z op hg la tops dpt lst stry srt lin tokA wah fol par_ opn) ++ (lyW E y sett clA) ++ (lyW E v setv'_11 clV'_11) ++ (pkW E (kq 0) kn0 kz0 kl0 kp0 kk0) ++ (pkW E (kq 1) kn1 kz1 kl1 kp1 kk1) ++ (pkW E (kq 2) kn2 kz2 kl2 kp2 kk2)) ++ poW E oa ta tl ct ps sn cb tk) H := hP
    have hD : va_D A (((iaW E ia tx z y v kq gp'_11 gd'_11) ++ (txW E tx n (slot oa pi)) ++ (neW E z op hg la tops dpt lst stry srt lin tokA wah fol par_ opn) ++ (lyW E y sett clA) ++ (lyW E v setv'_11 clV'_11) ++ (pkW E (kq 0) kn0 kz0 kl0 kp0 kk0) ++ (pkW E (kq 1) kn1 kz1 kl1 kp1 kk1) ++ (pkW E (kq 2) kn2 kz2 kl2 kp2 kk2)) ++ poW E oa ta tl ct ps sn cb tk) := hD
    refine lv_aload_n hx hb dX5_follow_14 rfl (lv_at hl 0 rfl) ?_
    refine wf_v (n := 0) (G := G) (E := E) (As := []) (rest := []) (ci := 5) (q0 := 0) (wn := fun (cb' : Nat → Int32) => ((iaW E ia tx z y v kq gp'_11 gd'_11) ++ (txW E tx n (slot oa pi)) ++ (neW E z op hg la tops dpt lst stry srt lin tokA wah fol par_ opn) ++ (lyW E y sett clA) ++ (lyW E v setv'_11 clV'_11) ++ (pkW E (kq 0) kn0 kz0 kl0 kp0 kk0) ++ (pkW E (kq 1) kn1 kz1 kl1 kp1 kk1) ++ (pkW E (kq 2) kn2 kz2 kl2 kp2 kk2)) ++ poW E oa ta tl ct ps sn cb' tk) ⟨hx, hb, hml, hown, hts⟩ hK hZ hS hA (fun sz => c_X5_rememberColumns l G E ia tx z y v kq gp'_11 gd'_11 n pi op hg la tops dpt lst stry srt lin tokA wah fol par_ opn sett clA setv'_11 clV'_11 kn0 kz0 kn1 kz1 kn2 kz2 kl0 kp0 kk0 kl1 kp1 kk1 kl2 kp2 kk2 oa ta tl ct ps sn cb tk (by first | assumption | omega) (by first | assumption | omega) sz) gX5_follow_X5_rememberColumns rfl rfl rfl (by decide +kernel) ⟨Nat.le_of_ble_eq_true rfl, Nat.le_of_ble_eq_true rfl⟩ hP hD (fun _ => po_fstA rfl) rfl rfl hl.1 rfl rfl (Nat.le_of_ble_eq_true rfl) dX5_follow_15 ⟨Nat.zero_le _, Nat.zero_le _⟩ (fun u15 H locs p15 hP hD hS => ?_)
    generalize u15 = cb'_15 at p15 hP hD
    try dsimp only at p15 hP hD
    have hP : va_P G vwCl (((iaW E ia tx z y v kq gp'_11 gd'_11) ++ (txW E tx n (slot oa pi)) ++ (neW E z op hg la tops dpt lst stry srt lin tokA wah fol par_ opn) ++ (lyW E y sett clA) ++ (lyW E v setv'_11 clV'_11) ++ (pkW E (kq 0) kn0 kz0 kl0 kp0 kk0) ++ (pkW E (kq 1) kn1 kz1 kl1 kp1 kk1) ++ (pkW E (kq 2) kn2 kz2 kl2 kp2 kk2)) ++ poW E oa ta tl ct ps sn cb'_15 tk) H := hP
    have hD : va_D A (((iaW E ia tx z y v kq gp'_11 gd'_11) ++ (txW E tx n (slot oa pi)) ++ (neW E z op hg la tops dpt lst stry srt lin tokA wah fol par_ opn) ++ (lyW E y sett clA) ++ (lyW E v setv'_11 clV'_11) ++ (pkW E (kq 0) kn0 kz0 kl0 kp0 kk0) ++ (pkW E (kq 1) kn1 kz1 kl1 kp1 kk1) ++ (pkW E (kq 2) kn2 kz2 kl2 kp2 kk2)) ++ poW E oa ta tl ct ps sn cb'_15 tk) := hD
    have hcb : ∀ i, i < n → cb'_15 (pi i) = aCol ab i := fun i hi => (p15 i hi).trans (hcl i hi)
    refine lv_aload_n hx hb dX5_follow_18 rfl (lv_at hl 0 rfl) ?_
    refine va_get (D := G) (ci := 5) (v := .ref (y 0)) (C := RX5) (T := TX5) (N := 7) hx hb hts hin5 hown hK hP 0 rfl rfl 2 (by decide) (hts (Cond.fieldLink RX5 26 "IndentRules" "now" "LIndentRules$Layout;") (List.mem_of_getElem? (i := 1) rfl)) (fun _ h9 => h9) rfl dX5_follow_19 ?_
    refine lv_aload_n hx hb dX5_follow_22 rfl (lv_at hl 0 rfl) ?_
    refine va_get (D := G) (ci := 5) (v := .ref (ia 5)) (C := RX5) (T := TX5) (N := 7) hx hb hts hin5 hown hK hP 0 rfl rfl 4 (by decide) (hts (Cond.fieldLink RX5 33 "IndentRules" "guessed" "[I") (List.mem_of_getElem? (i := 2) rfl)) (fun _ h9 => h9) rfl dX5_follow_23 ?_
    refine lv_iconst (v := (nI 0)) hx hb dX5_follow_26 (by decide) ?_
    refine k_iald (D := G) (tys := TYS E) (j := 0) (f := gd'_11) (n := 4) hx hb hK hP 1 0 rfl rfl (by decide) (by decide) dX5_follow_27 ?_
    rw [p11.2 0 (by decide)]
    refine lv_aload_n hx hb dX5_follow_28 rfl (lv_at hl 0 rfl) ?_
    refine va_get (D := G) (ci := 5) (v := .ref (ia 5)) (C := RX5) (T := TX5) (N := 7) hx hb hts hin5 hown hK hP 0 rfl rfl 4 (by decide) (hts (Cond.fieldLink RX5 33 "IndentRules" "guessed" "[I") (List.mem_of_getElem? (i := 2) rfl)) (fun _ h9 => h9) rfl dX5_follow_29 ?_
    refine lv_iconst (v := (nI 1)) hx hb dX5_follow_32 (by decide) ?_
    refine k_iald (D := G) (tys := TYS E) (j := 1) (f := gd'_11) (n := 4) hx hb hK hP 1 0 rfl rfl (by decide) (by decide) dX5_follow_33 ?_
    rw [p11.2 1 (by decide)]
    refine lv_aload_n hx hb dX5_follow_34 rfl (lv_at hl 0 rfl) ?_
    refine va_get (D := G) (ci := 5) (v := .ref (ia 5)) (C := RX5) (T := TX5) (N := 7) hx hb hts hin5 hown hK hP 0 rfl rfl 4 (by decide) (hts (Cond.fieldLink RX5 33 "IndentRules" "guessed" "[I") (List.mem_of_getElem? (i := 2) rfl)) (fun _ h9 => h9) rfl dX5_follow_35 ?_
    refine lv_iconst (v := (nI 2)) hx hb dX5_follow_38 (by decide) ?_
    refine k_iald (D := G) (tys := TYS E) (j := 2) (f := gd'_11) (n := 4) hx hb hK hP 1 0 rfl rfl (by decide) (by decide) dX5_follow_39 ?_
    rw [p11.2 2 (by decide)]
    refine lv_aload_n hx hb dX5_follow_40 rfl (lv_at hl 0 rfl) ?_
    refine va_get (D := G) (ci := 5) (v := .ref (ia 5)) (C := RX5) (T := TX5) (N := 7) hx hb hts hin5 hown hK hP 0 rfl rfl 4 (by decide) (hts (Cond.fieldLink RX5 33 "IndentRules" "guessed" "[I") (List.mem_of_getElem? (i := 2) rfl)) (fun _ h9 => h9) rfl dX5_follow_41 ?_
    refine lv_iconst (v := (nI 3)) hx hb dX5_follow_44 (by decide) ?_
    refine k_iald (D := G) (tys := TYS E) (j := 3) (f := gd'_11) (n := 4) hx hb hK hP 1 0 rfl rfl (by decide) (by decide) dX5_follow_45 ?_
    rw [p11.2 3 (by decide)]
    refine we_v (n := 4) (G := G) (E := E) (As := [.int (stx (gbest ab 256).2 0), .int (stx (gbest ab 256).2 1), .int (stx (gbest ab 256).2 2), .int (stx (gbest ab 256).2 3)]) (rest := []) (ci := 0) (q0 := 17) (X := (iaW E ia tx z y v kq gp'_11 gd'_11) ++ (txW E tx n (slot oa pi)) ++ (neW E z op hg la tops dpt lst stry srt lin tokA wah fol par_ opn) ++ (lyW E y sett clA) ++ (lyW E v setv'_11 clV'_11) ++ (pkW E (kq 0) kn0 kz0 kl0 kp0 kk0) ++ (pkW E (kq 1) kn1 kz1 kl1 kp1 kk1) ++ (pkW E (kq 2) kn2 kz2 kl2 kp2 kk2)) (pl := poW E oa ta tl ct ps sn cb'_15 tk) (cx := lyW E y sett clA) (ex := ([] : va_W)) (wn := fun (sett' : Nat → Int32) => lyW E y sett' clA) ⟨hx, hb, hml, hown, hts⟩ hK hZ hS hA (fun sz => by have z := c_X0_choose l G E y sett clA (stx (gbest ab 256).2 0) (stx (gbest ab 256).2 1) (stx (gbest ab 256).2 2) (stx (gbest ab 256).2 3) sz; simpa only [List.append_nil] using z) gX5_follow_X0_choose rfl rfl rfl (by decide +kernel) ⟨Nat.le_of_ble_eq_true rfl, Nat.le_of_ble_eq_true rfl⟩ hP hD [17, 18, 19] rfl (by decide) (fun k => k) (fun k q h => by simp at h) (fun _ _ _ _ h => h) (fun _ => rfl) rfl rfl hl.1 rfl rfl (Nat.le_of_ble_eq_true rfl) dX5_follow_46 ⟨Nat.zero_le _, Nat.zero_le _⟩ (fun u46 H locs p46 hP hD hS => ?_)
    generalize u46 = sett'_46 at p46 hP hD
    try dsimp only at p46 hP hD
    have hP : va_P G vwCl (((iaW E ia tx z y v kq gp'_11 gd'_11) ++ (txW E tx n (slot oa pi)) ++ (neW E z op hg la tops dpt lst stry srt lin tokA wah fol par_ opn) ++ (lyW E y sett'_46 clA) ++ (lyW E v setv'_11 clV'_11) ++ (pkW E (kq 0) kn0 kz0 kl0 kp0 kk0) ++ (pkW E (kq 1) kn1 kz1 kl1 kp1 kk1) ++ (pkW E (kq 2) kn2 kz2 kl2 kp2 kk2)) ++ poW E oa ta tl ct ps sn cb'_15 tk) H := hP
    have hD : va_D A (((iaW E ia tx z y v kq gp'_11 gd'_11) ++ (txW E tx n (slot oa pi)) ++ (neW E z op hg la tops dpt lst stry srt lin tokA wah fol par_ opn) ++ (lyW E y sett'_46 clA) ++ (lyW E v setv'_11 clV'_11) ++ (pkW E (kq 0) kn0 kz0 kl0 kp0 kk0) ++ (pkW E (kq 1) kn1 kz1 kl1 kp1 kk1) ++ (pkW E (kq 2) kn2 kz2 kl2 kp2 kk2)) ++ poW E oa ta tl ct ps sn cb'_15 tk) := hD
    have hsg2 : ∀ k, k < 4 → sett'_46 k = stx (gbest ab 256).2 k := fun k hk => (p46 k hk).trans (st4_eta _ k hk)
    refine lv_aload_n hx hb dX5_follow_49 rfl (lv_at hl 0 rfl) ?_
    refine va_get (D := G) (ci := 5) (v := .ref (y 0)) (C := RX5) (T := TX5) (N := 7) hx hb hts hin5 hown hK hP 0 rfl rfl 2 (by decide) (hts (Cond.fieldLink RX5 26 "IndentRules" "now" "LIndentRules$Layout;") (List.mem_of_getElem? (i := 1) rfl)) (fun _ h9 => h9) rfl dX5_follow_50 ?_
    refine lv_aload_n hx hb dX5_follow_53 rfl (lv_at hl 0 rfl) ?_
    refine va_get (D := G) (ci := 5) (v := .ref (tx 0)) (C := RX5) (T := TX5) (N := 7) hx hb hts hin5 hown hK hP 0 rfl rfl 0 (by decide) (hts (Cond.fieldLink RX5 12 "IndentRules" "text" "LIndentRules$Text;") (List.mem_of_getElem? (i := 3) rfl)) (fun _ h9 => h9) rfl dX5_follow_54 ?_
    refine lv_aload_n hx hb dX5_follow_57 rfl (lv_at hl 0 rfl) ?_
    refine va_get (D := G) (ci := 5) (v := .ref (z 0)) (C := RX5) (T := TX5) (N := 7) hx hb hts hin5 hown hK hP 0 rfl rfl 1 (by decide) (hts (Cond.fieldLink RX5 19 "IndentRules" "nesting" "LIndentRules$Nesting;") (List.mem_of_getElem? (i := 4) rfl)) (fun _ h9 => h9) rfl dX5_follow_58 ?_
    refine we_v (n := 2) (G := G) (E := E) (As := [.ref (tx 0), .ref (z 0)]) (rest := []) (ci := 0) (q0 := 17) (X := (iaW E ia tx z y v kq gp'_11 gd'_11) ++ (txW E tx n (slot oa pi)) ++ (neW E z op hg la tops dpt lst stry srt lin tokA wah fol par_ opn) ++ (lyW E y sett'_46 clA) ++ (lyW E v setv'_11 clV'_11) ++ (pkW E (kq 0) kn0 kz0 kl0 kp0 kk0) ++ (pkW E (kq 1) kn1 kz1 kl1 kp1 kk1) ++ (pkW E (kq 2) kn2 kz2 kl2 kp2 kk2)) (pl := poW E oa ta tl ct ps sn cb'_15 tk) (cx := (lyW E y sett'_46 clA) ++ (neW E z op hg la tops dpt lst stry srt lin tokA wah fol par_ opn) ++ (txW E tx n (slot oa pi))) (ex := poW E oa ta tl ct ps sn cb'_15 tk) (wn := fun (clA' : Nat → Int32) => (lyW E y sett'_46 clA') ++ (neW E z op hg la tops dpt lst stry srt lin tokA wah fol par_ opn) ++ (txW E tx n (slot oa pi))) ⟨hx, hb, hml, hown, hts⟩ hK hZ hS hA (fun sz => c_X0_lay l G E y sett'_46 clA z op hg la tops dpt lst stry srt lin tokA wah fol par_ opn tx n pi oa ta tl ct ps sn cb'_15 tk (aR ab) (by first | assumption | omega) (by first | assumption | omega) (by first | assumption | omega) (by rw [hop, hN]) hCn sz) gX5_follow_X0_lay rfl rfl rfl (by decide +kernel) ⟨Nat.le_of_ble_eq_true rfl, Nat.le_of_ble_eq_true rfl⟩ hP hD [17, 18, 19, 5, 6, 7, 8, 9, 10, 11, 12, 13, 14, 15, 16, 3, 4] rfl (by decide) (fun k => k) (fun _ _ h => h) (fun _ _ _ _ h => h) (fun _ => rfl) rfl rfl hl.1 rfl rfl (Nat.le_of_ble_eq_true rfl) dX5_follow_61 ⟨Nat.zero_le _, Nat.zero_le _⟩ (fun u61 H locs p61 hP hD hS => ?_)
    generalize u61 = clA'_61 at p61 hP hD
    try dsimp only at p61 hP hD
    have hP : va_P G vwCl (((iaW E ia tx z y v kq gp'_11 gd'_11) ++ (txW E tx n (slot oa pi)) ++ (neW E z op hg la tops dpt lst stry srt lin tokA wah fol par_ opn) ++ (lyW E y sett'_46 clA'_61) ++ (lyW E v setv'_11 clV'_11) ++ (pkW E (kq 0) kn0 kz0 kl0 kp0 kk0) ++ (pkW E (kq 1) kn1 kz1 kl1 kp1 kk1) ++ (pkW E (kq 2) kn2 kz2 kl2 kp2 kk2)) ++ poW E oa ta tl ct ps sn cb'_15 tk) H := hP
    have hD : va_D A (((iaW E ia tx z y v kq gp'_11 gd'_11) ++ (txW E tx n (slot oa pi)) ++ (neW E z op hg la tops dpt lst stry srt lin tokA wah fol par_ opn) ++ (lyW E y sett'_46 clA'_61) ++ (lyW E v setv'_11 clV'_11) ++ (pkW E (kq 0) kn0 kz0 kl0 kp0 kk0) ++ (pkW E (kq 1) kn1 kz1 kl1 kp1 kk1) ++ (pkW E (kq 2) kn2 kz2 kl2 kp2 kk2)) ++ poW E oa ta tl ct ps sn cb'_15 tk) := hD
    refine lv_aload_n hx hb dX5_follow_64 rfl (lv_at hl 0 rfl) ?_
    refine lv_bipush (v := (-9)) hx hb dX5_follow_65 (by decide) ?_
    refine rv_i (n := 1) (G := G) (E := E) (As := [.int (-9)]) (rest := []) (ci := 5) (q0 := 0) ⟨hx, hb, hml, hown, hts⟩ hK hZ hS (c_X5_movedBut l G E ia tx z y v kq gp'_11 gd'_11 n pi op hg la tops dpt lst stry srt lin tokA wah fol par_ opn sett'_46 clA'_61 setv'_11 clV'_11 kn0 kz0 kn1 kz1 kn2 kz2 kl0 kp0 kk0 kl1 kp1 kk1 kl2 kp2 kk2 oa ta tl ct ps sn cb'_15 tk (-9) (by first | assumption | omega) (by first | assumption | omega)) gX5_follow_X5_movedBut rfl rfl rfl (by decide +kernel) ⟨Nat.le_of_ble_eq_true rfl, Nat.le_of_ble_eq_true rfl⟩ hP rfl rfl hl.1 rfl rfl (Nat.le_of_ble_eq_true rfl) dX5_follow_67 ⟨Nat.zero_le _, Nat.zero_le _⟩ (fun r67 p67 => ?_)
    have hans : r67 = nI (mvc (-9) (cols (stx (gbest ab 256).2) (aR ab) (aN ab)) (aCol ab) (aN ab)) := by
      rw [p67, ← hN]
      exact congrArg nI (mvc_congr (fun k hk hkj => ⟨(p61 k hk).trans (congrFun (cols_congr hsg2 _ _) k), hcb k hk⟩))
    exact W.iret (v := r67) hx hb hr (fun tZ htZ hWZ => ⟨⟨_, (gp'_11, gd'_11, setv'_11, clV'_11, cb'_15, sett'_46, clA'_61), rfl, by unfold fFollow; rw [if_pos h1]; exact ⟨hans, cls_style hab hsg2 p61⟩, by show va_P G vwCl _ tZ.heap; rw [htZ]; exact hP⟩, hS.F htZ⟩) hS.2.2 dX5_follow_70
  · refine n_if_ne (a := 0) (tgt := 10) hx hb (by decide) dX5_follow_4 (by decide) (fun c4 => absurd c4 (by decide)) (fun c4 => ?_)
    refine lv_bipush (v := (-3)) hx hb dX5_follow_7 (by decide) ?_
    exact W.iret (v := (-3)) hx hb hr (fun tZ htZ hWZ => ⟨⟨_, (gp, gd, setv, clV, cb, sett, clA), rfl, by unfold fFollow; rw [if_neg h1]; exact ⟨rfl, hab⟩, by show va_P G vwCl _ tZ.heap; rw [htZ]; exact hP⟩, hS.F htZ⟩) hS.2.2 dX5_follow_9

set_option maxHeartbeats 4000000 in
set_option maxRecDepth 100000 in
theorem c_X5_pocket (l : Launch) (G : va_G) (E : cEnv) (ia tx z y v : Nat → Nat) (kq : Nat → Nat → Nat) (gp : Int32) (gd : Nat → Int32) (n : Nat) (pi : Nat → Nat) (op hg la : Nat) (tops dpt lst stry srt lin tokA wah fol par_ opn : Nat → Int32) (sett clA setv clV : Nat → Int32) (kn0 kz0 kn1 kz1 kn2 kz2 : Nat) (kl0 kp0 kk0 kl1 kp1 kk1 kl2 kp2 kk2 : Nat → Int32) (oa ta : Nat → Nat) (tl ct ps : Nat → Nat) (sn cb : Nat → Int32) (tk : Nat → Nat → Int32) (a1 a2 a3 : Int32) (ab : ABS) (hab : ClsOk ab n op pi tl ct ps sn tk tops dpt lst stry srt lin tokA wah fol par_ opn sett clA kn0 kz0 kn1 kz1 kn2 kz2 kl0 kp0 kk0 kl1 kp1 kk1 kl2 kp2 kk2) (sz : Nat) : Met l yX5_pocket wsX5_pocket ({ frames := 2, cells := 0, slots := 0, locals := 47 }) (va_Pc [.ref (ia 0), .int a1, .int a2, .int a3] (PW G E (((iaW E ia tx z y v kq gp gd) ++ (txW E tx n (slot oa pi)) ++ (neW E z op hg la tops dpt lst stry srt lin tokA wah fol par_ opn) ++ (lyW E y sett clA) ++ (lyW E v setv clV) ++ (pkW E (kq 0) kn0 kz0 kl0 kp0 kk0) ++ (pkW E (kq 1) kn1 kz1 kl1 kp1 kk1) ++ (pkW E (kq 2) kn2 kz2 kl2 kp2 kk2)) ++ poW E oa ta tl ct ps sn cb tk) sz)) (va_Qi (fun (r : Int32) (u : (Nat) × (Nat) × (Nat) × (Nat) × (Nat) × (Nat) × (Nat → Int32) × (Nat → Int32) × (Nat → Int32) × (Nat → Int32) × (Nat → Int32) × (Nat → Int32) × (Nat → Int32) × (Nat → Int32) × (Nat → Int32)) => r = (fPocket ab a1 a2 a3).1 ∧ ClsOk ((fPocket ab a1 a2 a3).2) n op pi tl ct ps sn tk tops dpt lst stry srt lin tokA wah fol par_ opn sett clA u.1 u.2.1 u.2.2.1 u.2.2.2.1 u.2.2.2.2.1 u.2.2.2.2.2.1 u.2.2.2.2.2.2.1 u.2.2.2.2.2.2.2.1 u.2.2.2.2.2.2.2.2.1 u.2.2.2.2.2.2.2.2.2.1 u.2.2.2.2.2.2.2.2.2.2.1 u.2.2.2.2.2.2.2.2.2.2.2.1 u.2.2.2.2.2.2.2.2.2.2.2.2.1 u.2.2.2.2.2.2.2.2.2.2.2.2.2.1 u.2.2.2.2.2.2.2.2.2.2.2.2.2.2) (fun (u : (Nat) × (Nat) × (Nat) × (Nat) × (Nat) × (Nat) × (Nat → Int32) × (Nat → Int32) × (Nat → Int32) × (Nat → Int32) × (Nat → Int32) × (Nat → Int32) × (Nat → Int32) × (Nat → Int32) × (Nat → Int32)) tQ => va_P G vwCl (((iaW E ia tx z y v kq gp gd) ++ (txW E tx n (slot oa pi)) ++ (neW E z op hg la tops dpt lst stry srt lin tokA wah fol par_ opn) ++ (lyW E y sett clA) ++ (lyW E v setv clV) ++ (pkW E (kq 0) u.1 u.2.1 u.2.2.2.2.2.2.1 u.2.2.2.2.2.2.2.1 u.2.2.2.2.2.2.2.2.1) ++ (pkW E (kq 1) u.2.2.1 u.2.2.2.1 u.2.2.2.2.2.2.2.2.2.1 u.2.2.2.2.2.2.2.2.2.2.1 u.2.2.2.2.2.2.2.2.2.2.2.1) ++ (pkW E (kq 2) u.2.2.2.2.1 u.2.2.2.2.2.1 u.2.2.2.2.2.2.2.2.2.2.2.2.1 u.2.2.2.2.2.2.2.2.2.2.2.2.2.1 u.2.2.2.2.2.2.2.2.2.2.2.2.2.2)) ++ poW E oa ta tl ct ps sn cb tk) tQ.heap) (va_A (((iaW E ia tx z y v kq gp gd) ++ (txW E tx n (slot oa pi)) ++ (neW E z op hg la tops dpt lst stry srt lin tokA wah fol par_ opn) ++ (lyW E y sett clA) ++ (lyW E v setv clV) ++ (pkW E (kq 0) kn0 kz0 kl0 kp0 kk0) ++ (pkW E (kq 1) kn1 kz1 kl1 kp1 kk1) ++ (pkW E (kq 2) kn2 kz2 kl2 kp2 kk2)) ++ poW E oa ta tl ct ps sn cb tk) sz)) 0 0 (va_A (((iaW E ia tx z y v kq gp gd) ++ (txW E tx n (slot oa pi)) ++ (neW E z op hg la tops dpt lst stry srt lin tokA wah fol par_ opn) ++ (lyW E y sett clA) ++ (lyW E v setv clV) ++ (pkW E (kq 0) kn0 kz0 kl0 kp0 kk0) ++ (pkW E (kq 1) kn1 kz1 kl1 kp1 kk1) ++ (pkW E (kq 2) kn2 kz2 kl2 kp2 kk2)) ++ poW E oa ta tl ct ps sn cb tk) sz) := by
  refine Met.ofW (cc := cX5_pocket) (maxL := 4) (ret := (some .int)) (by decide) rfl ?_
  intro p e s m args below meth c s₁ B hml hv
  obtain ⟨rfl, hsz, hP, hK, hD0, hZ⟩ := hv
  have hx := B.exec
  have hb := B.bytes
  have hr := B.returns
  have hts := atoms_spec (ws := wsX5_pocket) B.pre
  have hown : s.vm.findClass RX5 = some m.cls := findClass_of_methodNamed B.named
  have hlocks := B.notSynchronized
  have hin5 : ∀ w ∈ u_ws RX5 TX5 7, w ∈ wsX5_pocket := mem_pl [20, 21, 22, 23, 24, 25, 26] (by rfl)
  subst hsz
  have hD := hD0.self (sz := s.heap.size)
  generalize hAe : va_A (((iaW E ia tx z y v kq gp gd) ++ (txW E tx n (slot oa pi)) ++ (neW E z op hg la tops dpt lst stry srt lin tokA wah fol par_ opn) ++ (lyW E y sett clA) ++ (lyW E v setv clV) ++ (pkW E (kq 0) kn0 kz0 kl0 kp0 kk0) ++ (pkW E (kq 1) kn1 kz1 kl1 kp1 kk1) ++ (pkW E (kq 2) kn2 kz2 kl2 kp2 kk2)) ++ poW E oa ta tl ct ps sn cb tk) s.heap.size = A at hD hZ ⊢
  have hA : ∀ q : Nat, s.heap.size ≤ q → A q := fun q h => by rw [← hAe]; exact Or.inr h
  have hS : va_S A s.heap s.heap [] := va_S.rf
  have hl := lv_entry ([.ref (ia 0), .int a1, .int a2, .int a3]) (n := 4) (Nat.le_of_ble_eq_true rfl)
  rw [lg_entry_eq]
  generalize (lg_sl ([.ref (ia 0), .int a1, .int a2, .int a3]) ++ List.replicate (4 - (lg_sl ([.ref (ia 0), .int a1, .int a2, .int a3])).length) Slot.unset).toArray = ls at hl ⊢
  have hl : lv_has ls 4 [(0, .ref (ia 0)), (1, .int a1), (2, .int a2), (3, .int a3)] := hl
  obtain ⟨hN, hok, hop, hPL, hSN, hpp, hCN, hsg, hcl, hk0, hk1, hk2⟩ := id hab
  have hn : n ≤ 20 := by rw [hN]; exact hok.1
  have hrn : ∀ j, j < n → aR ab j < 1000000000 := fun j hj => (hok.2.1 j (by omega)).1
  have hpi : ∀ i, i < 20 → pi i < 20 := fun i hi => (hpp i hi).1
  have hwN := wfN_all (row := aR ab) (aN ab) (fun j hj => hrn j (by omega))
  have hob : nO (aNest ab) ≤ 180 := Nat.le_trans hwN.2.1 (by omega)
  have hCn : CN (nAll (aR ab) n) n tops dpt lst stry srt lin tokA wah fol par_ opn := by rw [hN] at hCN ⊢; exact hCN
  have hLN : LN (nF (aNest ab)) (nO (aNest ab)) srt lin wah fol := hCN.ln (by omega) (fun j hj => hrn j (by omega))
  obtain ⟨hn0, hz0, hq0⟩ := id hk0
  obtain ⟨hn1, hz1, hq1⟩ := id hk1
  obtain ⟨hn2, hz2, hq2⟩ := id hk2
  obtain ⟨ho0, hoo0, -⟩ := hok.2.2 0 (by decide)
  obtain ⟨ho1, hoo1, -⟩ := hok.2.2 1 (by decide)
  obtain ⟨ho2, hoo2, -⟩ := hok.2.2 2 (by decide)
  rcases pk3 a1 with rfl | rfl | rfl | hx1
  · have hpk1 : True := trivial
    refine lv_iload_n hx hb dX5_pocket_0 rfl (lv_at hl 1 rfl) ?_
    refine rs_i (n := 1) (G := G) (E := E) (As := [.int (nI 0)]) (rest := []) ⟨hx, hb, hml, hown, hts⟩ hK hZ hS (c_X5_isPocket l G E (nI 0)) gX5_pocket_X5_isPocket rfl rfl rfl (by decide +kernel) ⟨Nat.le_of_ble_eq_true rfl, Nat.le_of_ble_eq_true rfl⟩ (fun k q h => by simp at h) hl.1 rfl rfl (Nat.le_of_ble_eq_true rfl) dX5_pocket_1 ⟨Nat.zero_le _, Nat.zero_le _⟩ (fun r1 p1 => ?_)
    rcases p1 with ⟨h1, rfl⟩ | ⟨h1, rfl⟩
    · refine n_if_ne (a := 1) (tgt := 9) hx hb (by decide) dX5_pocket_4 (by decide) (fun c4 => ?_) (fun c4 => absurd c4 (by decide))
      by_cases hy1 : ixP a2 4
      · obtain ⟨k, hk, rfl⟩ := (ixP_iff (by omega)).mp hy1
        refine lv_iload_n hx hb dX5_pocket_9 rfl (lv_at hl 2 rfl) ?_
        refine n_if_lt (a := k) (tgt := 29) hx hb (by omega) dX5_pocket_10 (by decide) ?_
        refine lv_iload_n hx hb dX5_pocket_13 rfl (lv_at hl 2 rfl) ?_
        refine lv_iconst (v := (nI 3)) hx hb dX5_pocket_14 (by decide) ?_
        refine n_icmp_gt (a := k) (b := 3) (tgt := 29) hx hb (by omega) (by decide) dX5_pocket_15 (by decide) (fun c15 => absurd c15 (by omega)) (fun c15 => ?_)
        by_cases hz1 : nI 1 ≤ a3 ∧ a3 ≤ nI 6
        · obtain ⟨i, hi1, hi2, rfl⟩ := (w_rg (by decide) (by decide)).mp hz1
          refine lv_iload_n hx hb dX5_pocket_18 rfl (lv_at hl 3 rfl) ?_
          refine lv_iconst (v := (nI 1)) hx hb dX5_pocket_19 (by decide) ?_
          refine n_icmp_lt (a := i) (b := 1) (tgt := 29) hx hb (by omega) (by decide) dX5_pocket_20 (by decide) (fun c20 => absurd c20 (by omega)) (fun c20 => ?_)
          refine lv_iload_n hx hb dX5_pocket_23 rfl (lv_at hl 3 rfl) ?_
          refine lv_bipush (v := (nI 6)) hx hb dX5_pocket_24 (by decide) ?_
          refine n_icmp_le (a := i) (b := 6) (tgt := 32) hx hb (by omega) (by decide) dX5_pocket_26 (by decide) (fun c26 => ?_) (fun c26 => absurd c26 (by omega))
          refine lv_aload_n hx hb dX5_pocket_32 rfl (lv_at hl 0 rfl) ?_
          refine va_get (D := G) (ci := 5) (v := .ref (ia 7)) (C := RX5) (T := TX5) (N := 7) hx hb hts hin5 hown hK hP 0 rfl rfl 6 (by decide) (hts (Cond.fieldLink RX5 39 "IndentRules" "pockets" "[LIndentRules$Pocket;") (List.mem_of_getElem? (i := 1) rfl)) (fun _ h9 => h9) rfl dX5_pocket_33 ?_
          refine lv_iload_n hx hb dX5_pocket_36 rfl (lv_at hl 1 rfl) ?_
          refine k_aald (D := G) (tys := TYS E) (j := 0) (f := (pkA kq)) (n := 3) hx hb hK hP 2 3 rfl rfl (by decide) (by decide) dX5_pocket_37 ?_
          refine W.eq (g2 := F0 m 38 ls [.ref (kq 0 0)]) rfl ?_
          refine lv_iload_n hx hb dX5_pocket_38 rfl (lv_at hl 2 rfl) ?_
          refine lv_iload_n hx hb dX5_pocket_39 rfl (lv_at hl 3 rfl) ?_
          refine we_v (n := 2) (G := G) (E := E) (As := [.int (nI k), .int (nI i)]) (rest := []) (ci := 3) (q0 := 23) (X := (iaW E ia tx z y v kq gp gd) ++ (txW E tx n (slot oa pi)) ++ (neW E z op hg la tops dpt lst stry srt lin tokA wah fol par_ opn) ++ (lyW E y sett clA) ++ (lyW E v setv clV) ++ (pkW E (kq 0) kn0 kz0 kl0 kp0 kk0) ++ (pkW E (kq 1) kn1 kz1 kl1 kp1 kk1) ++ (pkW E (kq 2) kn2 kz2 kl2 kp2 kk2)) (pl := poW E oa ta tl ct ps sn cb tk) (cx := pkW E (kq 0) kn0 kz0 kl0 kp0 kk0) (ex := ([] : va_W)) (wn := fun (u : (Nat → Int32) × (Nat → Int32) × (Nat → Int32)) => pkW E (kq 0) k i u.1 u.2.1 u.2.2) ⟨hx, hb, hml, hown, hts⟩ hK hZ hS hA (fun sz => by have z := c_X3_renew l G E (kq 0) kn0 kz0 kl0 kp0 kk0 k i sz; simpa only [List.append_nil] using z) gX5_pocket_X3_renew rfl rfl rfl (by decide +kernel) ⟨Nat.le_of_ble_eq_true rfl, Nat.le_of_ble_eq_true rfl⟩ hP hD [23, 24, 25, 26] rfl (by decide) (fun k => k) (fun k q h => by simp at h) (fun _ _ _ _ h => h) (fun _ => rfl) rfl rfl hl.1 rfl rfl (Nat.le_of_ble_eq_true rfl) dX5_pocket_40 ⟨Nat.zero_le _, Nat.zero_le _⟩ (fun u40 H locs p40 hP hD hS => ?_)
          obtain ⟨kl'_40, kp'_40, kk_'_40⟩ := u40
          try dsimp only at p40 hP hD
          have hP : va_P G vwCl (((iaW E ia tx z y v kq gp gd) ++ (txW E tx n (slot oa pi)) ++ (neW E z op hg la tops dpt lst stry srt lin tokA wah fol par_ opn) ++ (lyW E y sett clA) ++ (lyW E v setv clV) ++ (pkW E (kq 0) k i kl'_40 kp'_40 kk_'_40) ++ (pkW E (kq 1) kn1 kz1 kl1 kp1 kk1) ++ (pkW E (kq 2) kn2 kz2 kl2 kp2 kk2)) ++ poW E oa ta tl ct ps sn cb tk) H := hP
          have hD : va_D A (((iaW E ia tx z y v kq gp gd) ++ (txW E tx n (slot oa pi)) ++ (neW E z op hg la tops dpt lst stry srt lin tokA wah fol par_ opn) ++ (lyW E y sett clA) ++ (lyW E v setv clV) ++ (pkW E (kq 0) k i kl'_40 kp'_40 kk_'_40) ++ (pkW E (kq 1) kn1 kz1 kl1 kp1 kk1) ++ (pkW E (kq 2) kn2 kz2 kl2 kp2 kk2)) ++ poW E oa ta tl ct ps sn cb tk) := hD
          refine lv_iconst (v := (nI 1)) hx hb dX5_pocket_43 (by decide) ?_
          exact W.iret (v := (nI 1)) hx hb hr (fun tZ htZ hWZ => ⟨⟨_, (k, i, kn1, kz1, kn2, kz2, kl'_40, kp'_40, kk_'_40, kl1, kp1, kk1, kl2, kp2, kk2), rfl, by rw [fPocket_ok (by decide) hk (by omega) (by omega)]; exact ⟨rfl, hN, okA_new hok hk (by omega), hop, hPL, hSN, hpp, hCN, hsg, hcl, pkC_new p40, pkC_oth hk1 (by decide), pkC_oth hk2 (by decide)⟩, by show va_P G vwCl _ tZ.heap; rw [htZ]; exact hP⟩, hS.F htZ⟩) hS.2.2 dX5_pocket_44
        · have hz1b : True := trivial
          refine lv_iload_n hx hb dX5_pocket_18 rfl (lv_at hl 3 rfl) ?_
          refine lv_iconst (v := (nI 1)) hx hb dX5_pocket_19 (by decide) ?_
          refine lv_icmp_lt (x := a3) (y := (nI 1)) (tgt := 29) hx hb dX5_pocket_20 (by decide) (fun c20 => ?_) (fun c20 => ?_)
          · refine lv_bipush (v := (-2)) hx hb dX5_pocket_29 (by decide) ?_
            exact W.iret (v := (-2)) hx hb hr (fun tZ htZ hWZ => ⟨⟨_, (kn0, kz0, kn1, kz1, kn2, kz2, kl0, kp0, kk0, kl1, kp1, kk1, kl2, kp2, kk2), rfl, by rw [fPocket_2 (by decide) (fun q => hz1 q.2)]; exact ⟨rfl, hab⟩, by show va_P G vwCl _ tZ.heap; rw [htZ]; exact hP⟩, hS.F htZ⟩) hS.2.2 dX5_pocket_31
          · refine lv_iload_n hx hb dX5_pocket_23 rfl (lv_at hl 3 rfl) ?_
            refine lv_bipush (v := (nI 6)) hx hb dX5_pocket_24 (by decide) ?_
            refine lv_icmp_le (x := a3) (y := (nI 6)) (tgt := 32) hx hb dX5_pocket_26 (by decide) (fun c26 => absurd ⟨Int32.not_lt.mp c20, c26⟩ hz1) (fun c26 => ?_)
            refine lv_bipush (v := (-2)) hx hb dX5_pocket_29 (by decide) ?_
            exact W.iret (v := (-2)) hx hb hr (fun tZ htZ hWZ => ⟨⟨_, (kn0, kz0, kn1, kz1, kn2, kz2, kl0, kp0, kk0, kl1, kp1, kk1, kl2, kp2, kk2), rfl, by rw [fPocket_2 (by decide) (fun q => hz1 q.2)]; exact ⟨rfl, hab⟩, by show va_P G vwCl _ tZ.heap; rw [htZ]; exact hP⟩, hS.F htZ⟩) hS.2.2 dX5_pocket_31
      · have hy1b : True := trivial
        refine lv_iload_n hx hb dX5_pocket_9 rfl (lv_at hl 2 rfl) ?_
        refine lv_if_lt (x := a2) (tgt := 29) hx hb dX5_pocket_10 (by decide) (fun c10 => ?_) (fun c10 => ?_)
        · refine lv_bipush (v := (-2)) hx hb dX5_pocket_29 (by decide) ?_
          exact W.iret (v := (-2)) hx hb hr (fun tZ htZ hWZ => ⟨⟨_, (kn0, kz0, kn1, kz1, kn2, kz2, kl0, kp0, kk0, kl1, kp1, kk1, kl2, kp2, kk2), rfl, by rw [fPocket_2 (by decide) (fun q => hy1 q.1)]; exact ⟨rfl, hab⟩, by show va_P G vwCl _ tZ.heap; rw [htZ]; exact hP⟩, hS.F htZ⟩) hS.2.2 dX5_pocket_31
        · refine lv_iload_n hx hb dX5_pocket_13 rfl (lv_at hl 2 rfl) ?_
          refine lv_iconst (v := (nI 3)) hx hb dX5_pocket_14 (by decide) ?_
          refine lv_icmp_gt (x := a2) (y := (nI 3)) (tgt := 29) hx hb dX5_pocket_15 (by decide) (fun c15 => ?_) (fun c15 => absurd ((w_rgx (n := 3) (by decide)).mp ⟨(by rw [nI_0]; exact Int32.not_lt.mp c10), Int32.not_lt.mp c15⟩) hy1)
          refine lv_bipush (v := (-2)) hx hb dX5_pocket_29 (by decide) ?_
          exact W.iret (v := (-2)) hx hb hr (fun tZ htZ hWZ => ⟨⟨_, (kn0, kz0, kn1, kz1, kn2, kz2, kl0, kp0, kk0, kl1, kp1, kk1, kl2, kp2, kk2), rfl, by rw [fPocket_2 (by decide) (fun q => hy1 q.1)]; exact ⟨rfl, hab⟩, by show va_P G vwCl _ tZ.heap; rw [htZ]; exact hP⟩, hS.F htZ⟩) hS.2.2 dX5_pocket_31
    · exact absurd ⟨0, by decide, rfl⟩ h1
  · have hpk1 : True := trivial
    refine lv_iload_n hx hb dX5_pocket_0 rfl (lv_at hl 1 rfl) ?_
    refine rs_i (n := 1) (G := G) (E := E) (As := [.int (nI 1)]) (rest := []) ⟨hx, hb, hml, hown, hts⟩ hK hZ hS (c_X5_isPocket l G E (nI 1)) gX5_pocket_X5_isPocket rfl rfl rfl (by decide +kernel) ⟨Nat.le_of_ble_eq_true rfl, Nat.le_of_ble_eq_true rfl⟩ (fun k q h => by simp at h) hl.1 rfl rfl (Nat.le_of_ble_eq_true rfl) dX5_pocket_1 ⟨Nat.zero_le _, Nat.zero_le _⟩ (fun r1 p1 => ?_)
    rcases p1 with ⟨h1, rfl⟩ | ⟨h1, rfl⟩
    · refine n_if_ne (a := 1) (tgt := 9) hx hb (by decide) dX5_pocket_4 (by decide) (fun c4 => ?_) (fun c4 => absurd c4 (by decide))
      by_cases hy1 : ixP a2 4
      · obtain ⟨k, hk, rfl⟩ := (ixP_iff (by omega)).mp hy1
        refine lv_iload_n hx hb dX5_pocket_9 rfl (lv_at hl 2 rfl) ?_
        refine n_if_lt (a := k) (tgt := 29) hx hb (by omega) dX5_pocket_10 (by decide) ?_
        refine lv_iload_n hx hb dX5_pocket_13 rfl (lv_at hl 2 rfl) ?_
        refine lv_iconst (v := (nI 3)) hx hb dX5_pocket_14 (by decide) ?_
        refine n_icmp_gt (a := k) (b := 3) (tgt := 29) hx hb (by omega) (by decide) dX5_pocket_15 (by decide) (fun c15 => absurd c15 (by omega)) (fun c15 => ?_)
        by_cases hz1 : nI 1 ≤ a3 ∧ a3 ≤ nI 6
        · obtain ⟨i, hi1, hi2, rfl⟩ := (w_rg (by decide) (by decide)).mp hz1
          refine lv_iload_n hx hb dX5_pocket_18 rfl (lv_at hl 3 rfl) ?_
          refine lv_iconst (v := (nI 1)) hx hb dX5_pocket_19 (by decide) ?_
          refine n_icmp_lt (a := i) (b := 1) (tgt := 29) hx hb (by omega) (by decide) dX5_pocket_20 (by decide) (fun c20 => absurd c20 (by omega)) (fun c20 => ?_)
          refine lv_iload_n hx hb dX5_pocket_23 rfl (lv_at hl 3 rfl) ?_
          refine lv_bipush (v := (nI 6)) hx hb dX5_pocket_24 (by decide) ?_
          refine n_icmp_le (a := i) (b := 6) (tgt := 32) hx hb (by omega) (by decide) dX5_pocket_26 (by decide) (fun c26 => ?_) (fun c26 => absurd c26 (by omega))
          refine lv_aload_n hx hb dX5_pocket_32 rfl (lv_at hl 0 rfl) ?_
          refine va_get (D := G) (ci := 5) (v := .ref (ia 7)) (C := RX5) (T := TX5) (N := 7) hx hb hts hin5 hown hK hP 0 rfl rfl 6 (by decide) (hts (Cond.fieldLink RX5 39 "IndentRules" "pockets" "[LIndentRules$Pocket;") (List.mem_of_getElem? (i := 1) rfl)) (fun _ h9 => h9) rfl dX5_pocket_33 ?_
          refine lv_iload_n hx hb dX5_pocket_36 rfl (lv_at hl 1 rfl) ?_
          refine k_aald (D := G) (tys := TYS E) (j := 1) (f := (pkA kq)) (n := 3) hx hb hK hP 2 3 rfl rfl (by decide) (by decide) dX5_pocket_37 ?_
          refine W.eq (g2 := F0 m 38 ls [.ref (kq 1 0)]) rfl ?_
          refine lv_iload_n hx hb dX5_pocket_38 rfl (lv_at hl 2 rfl) ?_
          refine lv_iload_n hx hb dX5_pocket_39 rfl (lv_at hl 3 rfl) ?_
          refine we_v (n := 2) (G := G) (E := E) (As := [.int (nI k), .int (nI i)]) (rest := []) (ci := 3) (q0 := 27) (X := (iaW E ia tx z y v kq gp gd) ++ (txW E tx n (slot oa pi)) ++ (neW E z op hg la tops dpt lst stry srt lin tokA wah fol par_ opn) ++ (lyW E y sett clA) ++ (lyW E v setv clV) ++ (pkW E (kq 0) kn0 kz0 kl0 kp0 kk0) ++ (pkW E (kq 1) kn1 kz1 kl1 kp1 kk1) ++ (pkW E (kq 2) kn2 kz2 kl2 kp2 kk2)) (pl := poW E oa ta tl ct ps sn cb tk) (cx := pkW E (kq 1) kn1 kz1 kl1 kp1 kk1) (ex := ([] : va_W)) (wn := fun (u : (Nat → Int32) × (Nat → Int32) × (Nat → Int32)) => pkW E (kq 1) k i u.1 u.2.1 u.2.2) ⟨hx, hb, hml, hown, hts⟩ hK hZ hS hA (fun sz => by have z := c_X3_renew l G E (kq 1) kn1 kz1 kl1 kp1 kk1 k i sz; simpa only [List.append_nil] using z) gX5_pocket_X3_renew rfl rfl rfl (by decide +kernel) ⟨Nat.le_of_ble_eq_true rfl, Nat.le_of_ble_eq_true rfl⟩ hP hD [27, 28, 29, 30] rfl (by decide) (fun k => k) (fun k q h => by simp at h) (fun _ _ _ _ h => h) (fun _ => rfl) rfl rfl hl.1 rfl rfl (Nat.le_of_ble_eq_true rfl) dX5_pocket_40 ⟨Nat.zero_le _, Nat.zero_le _⟩ (fun u40 H locs p40 hP hD hS => ?_)
          obtain ⟨kl'_40, kp'_40, kk_'_40⟩ := u40
          try dsimp only at p40 hP hD
          have hP : va_P G vwCl (((iaW E ia tx z y v kq gp gd) ++ (txW E tx n (slot oa pi)) ++ (neW E z op hg la tops dpt lst stry srt lin tokA wah fol par_ opn) ++ (lyW E y sett clA) ++ (lyW E v setv clV) ++ (pkW E (kq 0) kn0 kz0 kl0 kp0 kk0) ++ (pkW E (kq 1) k i kl'_40 kp'_40 kk_'_40) ++ (pkW E (kq 2) kn2 kz2 kl2 kp2 kk2)) ++ poW E oa ta tl ct ps sn cb tk) H := hP
          have hD : va_D A (((iaW E ia tx z y v kq gp gd) ++ (txW E tx n (slot oa pi)) ++ (neW E z op hg la tops dpt lst stry srt lin tokA wah fol par_ opn) ++ (lyW E y sett clA) ++ (lyW E v setv clV) ++ (pkW E (kq 0) kn0 kz0 kl0 kp0 kk0) ++ (pkW E (kq 1) k i kl'_40 kp'_40 kk_'_40) ++ (pkW E (kq 2) kn2 kz2 kl2 kp2 kk2)) ++ poW E oa ta tl ct ps sn cb tk) := hD
          refine lv_iconst (v := (nI 1)) hx hb dX5_pocket_43 (by decide) ?_
          exact W.iret (v := (nI 1)) hx hb hr (fun tZ htZ hWZ => ⟨⟨_, (kn0, kz0, k, i, kn2, kz2, kl0, kp0, kk0, kl'_40, kp'_40, kk_'_40, kl2, kp2, kk2), rfl, by rw [fPocket_ok (by decide) hk (by omega) (by omega)]; exact ⟨rfl, hN, okA_new hok hk (by omega), hop, hPL, hSN, hpp, hCN, hsg, hcl, pkC_oth hk0 (by decide), pkC_new p40, pkC_oth hk2 (by decide)⟩, by show va_P G vwCl _ tZ.heap; rw [htZ]; exact hP⟩, hS.F htZ⟩) hS.2.2 dX5_pocket_44
        · have hz1b : True := trivial
          refine lv_iload_n hx hb dX5_pocket_18 rfl (lv_at hl 3 rfl) ?_
          refine lv_iconst (v := (nI 1)) hx hb dX5_pocket_19 (by decide) ?_
          refine lv_icmp_lt (x := a3) (y := (nI 1)) (tgt := 29) hx hb dX5_pocket_20 (by decide) (fun c20 => ?_) (fun c20 => ?_)
          · refine lv_bipush (v := (-2)) hx hb dX5_pocket_29 (by decide) ?_
            exact W.iret (v := (-2)) hx hb hr (fun tZ htZ hWZ => ⟨⟨_, (kn0, kz0, kn1, kz1, kn2, kz2, kl0, kp0, kk0, kl1, kp1, kk1, kl2, kp2, kk2), rfl, by rw [fPocket_2 (by decide) (fun q => hz1 q.2)]; exact ⟨rfl, hab⟩, by show va_P G vwCl _ tZ.heap; rw [htZ]; exact hP⟩, hS.F htZ⟩) hS.2.2 dX5_pocket_31
          · refine lv_iload_n hx hb dX5_pocket_23 rfl (lv_at hl 3 rfl) ?_
            refine lv_bipush (v := (nI 6)) hx hb dX5_pocket_24 (by decide) ?_
            refine lv_icmp_le (x := a3) (y := (nI 6)) (tgt := 32) hx hb dX5_pocket_26 (by decide) (fun c26 => absurd ⟨Int32.not_lt.mp c20, c26⟩ hz1) (fun c26 => ?_)
            refine lv_bipush (v := (-2)) hx hb dX5_pocket_29 (by decide) ?_
            exact W.iret (v := (-2)) hx hb hr (fun tZ htZ hWZ => ⟨⟨_, (kn0, kz0, kn1, kz1, kn2, kz2, kl0, kp0, kk0, kl1, kp1, kk1, kl2, kp2, kk2), rfl, by rw [fPocket_2 (by decide) (fun q => hz1 q.2)]; exact ⟨rfl, hab⟩, by show va_P G vwCl _ tZ.heap; rw [htZ]; exact hP⟩, hS.F htZ⟩) hS.2.2 dX5_pocket_31
      · have hy1b : True := trivial
        refine lv_iload_n hx hb dX5_pocket_9 rfl (lv_at hl 2 rfl) ?_
        refine lv_if_lt (x := a2) (tgt := 29) hx hb dX5_pocket_10 (by decide) (fun c10 => ?_) (fun c10 => ?_)
        · refine lv_bipush (v := (-2)) hx hb dX5_pocket_29 (by decide) ?_
          exact W.iret (v := (-2)) hx hb hr (fun tZ htZ hWZ => ⟨⟨_, (kn0, kz0, kn1, kz1, kn2, kz2, kl0, kp0, kk0, kl1, kp1, kk1, kl2, kp2, kk2), rfl, by rw [fPocket_2 (by decide) (fun q => hy1 q.1)]; exact ⟨rfl, hab⟩, by show va_P G vwCl _ tZ.heap; rw [htZ]; exact hP⟩, hS.F htZ⟩) hS.2.2 dX5_pocket_31
        · refine lv_iload_n hx hb dX5_pocket_13 rfl (lv_at hl 2 rfl) ?_
          refine lv_iconst (v := (nI 3)) hx hb dX5_pocket_14 (by decide) ?_
          refine lv_icmp_gt (x := a2) (y := (nI 3)) (tgt := 29) hx hb dX5_pocket_15 (by decide) (fun c15 => ?_) (fun c15 => absurd ((w_rgx (n := 3) (by decide)).mp ⟨(by rw [nI_0]; exact Int32.not_lt.mp c10), Int32.not_lt.mp c15⟩) hy1)
          refine lv_bipush (v := (-2)) hx hb dX5_pocket_29 (by decide) ?_
          exact W.iret (v := (-2)) hx hb hr (fun tZ htZ hWZ => ⟨⟨_, (kn0, kz0, kn1, kz1, kn2, kz2, kl0, kp0, kk0, kl1, kp1, kk1, kl2, kp2, kk2), rfl, by rw [fPocket_2 (by decide) (fun q => hy1 q.1)]; exact ⟨rfl, hab⟩, by show va_P G vwCl _ tZ.heap; rw [htZ]; exact hP⟩, hS.F htZ⟩) hS.2.2 dX5_pocket_31
    · exact absurd ⟨1, by decide, rfl⟩ h1
  · have hpk1 : True := trivial
    refine lv_iload_n hx hb dX5_pocket_0 rfl (lv_at hl 1 rfl) ?_
    refine rs_i (n := 1) (G := G) (E := E) (As := [.int (nI 2)]) (rest := []) ⟨hx, hb, hml, hown, hts⟩ hK hZ hS (c_X5_isPocket l G E (nI 2)) gX5_pocket_X5_isPocket rfl rfl rfl (by decide +kernel) ⟨Nat.le_of_ble_eq_true rfl, Nat.le_of_ble_eq_true rfl⟩ (fun k q h => by simp at h) hl.1 rfl rfl (Nat.le_of_ble_eq_true rfl) dX5_pocket_1 ⟨Nat.zero_le _, Nat.zero_le _⟩ (fun r1 p1 => ?_)
    rcases p1 with ⟨h1, rfl⟩ | ⟨h1, rfl⟩
    · refine n_if_ne (a := 1) (tgt := 9) hx hb (by decide) dX5_pocket_4 (by decide) (fun c4 => ?_) (fun c4 => absurd c4 (by decide))
      by_cases hy1 : ixP a2 4
      · obtain ⟨k, hk, rfl⟩ := (ixP_iff (by omega)).mp hy1
        refine lv_iload_n hx hb dX5_pocket_9 rfl (lv_at hl 2 rfl) ?_
        refine n_if_lt (a := k) (tgt := 29) hx hb (by omega) dX5_pocket_10 (by decide) ?_
        refine lv_iload_n hx hb dX5_pocket_13 rfl (lv_at hl 2 rfl) ?_
        refine lv_iconst (v := (nI 3)) hx hb dX5_pocket_14 (by decide) ?_
        refine n_icmp_gt (a := k) (b := 3) (tgt := 29) hx hb (by omega) (by decide) dX5_pocket_15 (by decide) (fun c15 => absurd c15 (by omega)) (fun c15 => ?_)
        by_cases hz1 : nI 1 ≤ a3 ∧ a3 ≤ nI 6
        · obtain ⟨i, hi1, hi2, rfl⟩ := (w_rg (by decide) (by decide)).mp hz1
          refine lv_iload_n hx hb dX5_pocket_18 rfl (lv_at hl 3 rfl) ?_
          refine lv_iconst (v := (nI 1)) hx hb dX5_pocket_19 (by decide) ?_
          refine n_icmp_lt (a := i) (b := 1) (tgt := 29) hx hb (by omega) (by decide) dX5_pocket_20 (by decide) (fun c20 => absurd c20 (by omega)) (fun c20 => ?_)
          refine lv_iload_n hx hb dX5_pocket_23 rfl (lv_at hl 3 rfl) ?_
          refine lv_bipush (v := (nI 6)) hx hb dX5_pocket_24 (by decide) ?_
          refine n_icmp_le (a := i) (b := 6) (tgt := 32) hx hb (by omega) (by decide) dX5_pocket_26 (by decide) (fun c26 => ?_) (fun c26 => absurd c26 (by omega))
          refine lv_aload_n hx hb dX5_pocket_32 rfl (lv_at hl 0 rfl) ?_
          refine va_get (D := G) (ci := 5) (v := .ref (ia 7)) (C := RX5) (T := TX5) (N := 7) hx hb hts hin5 hown hK hP 0 rfl rfl 6 (by decide) (hts (Cond.fieldLink RX5 39 "IndentRules" "pockets" "[LIndentRules$Pocket;") (List.mem_of_getElem? (i := 1) rfl)) (fun _ h9 => h9) rfl dX5_pocket_33 ?_
          refine lv_iload_n hx hb dX5_pocket_36 rfl (lv_at hl 1 rfl) ?_
          refine k_aald (D := G) (tys := TYS E) (j := 2) (f := (pkA kq)) (n := 3) hx hb hK hP 2 3 rfl rfl (by decide) (by decide) dX5_pocket_37 ?_
          refine W.eq (g2 := F0 m 38 ls [.ref (kq 2 0)]) rfl ?_
          refine lv_iload_n hx hb dX5_pocket_38 rfl (lv_at hl 2 rfl) ?_
          refine lv_iload_n hx hb dX5_pocket_39 rfl (lv_at hl 3 rfl) ?_
          refine we_v (n := 2) (G := G) (E := E) (As := [.int (nI k), .int (nI i)]) (rest := []) (ci := 3) (q0 := 31) (X := (iaW E ia tx z y v kq gp gd) ++ (txW E tx n (slot oa pi)) ++ (neW E z op hg la tops dpt lst stry srt lin tokA wah fol par_ opn) ++ (lyW E y sett clA) ++ (lyW E v setv clV) ++ (pkW E (kq 0) kn0 kz0 kl0 kp0 kk0) ++ (pkW E (kq 1) kn1 kz1 kl1 kp1 kk1) ++ (pkW E (kq 2) kn2 kz2 kl2 kp2 kk2)) (pl := poW E oa ta tl ct ps sn cb tk) (cx := pkW E (kq 2) kn2 kz2 kl2 kp2 kk2) (ex := ([] : va_W)) (wn := fun (u : (Nat → Int32) × (Nat → Int32) × (Nat → Int32)) => pkW E (kq 2) k i u.1 u.2.1 u.2.2) ⟨hx, hb, hml, hown, hts⟩ hK hZ hS hA (fun sz => by have z := c_X3_renew l G E (kq 2) kn2 kz2 kl2 kp2 kk2 k i sz; simpa only [List.append_nil] using z) gX5_pocket_X3_renew rfl rfl rfl (by decide +kernel) ⟨Nat.le_of_ble_eq_true rfl, Nat.le_of_ble_eq_true rfl⟩ hP hD [31, 32, 33, 34] rfl (by decide) (fun k => k) (fun k q h => by simp at h) (fun _ _ _ _ h => h) (fun _ => rfl) rfl rfl hl.1 rfl rfl (Nat.le_of_ble_eq_true rfl) dX5_pocket_40 ⟨Nat.zero_le _, Nat.zero_le _⟩ (fun u40 H locs p40 hP hD hS => ?_)
          obtain ⟨kl'_40, kp'_40, kk_'_40⟩ := u40
          try dsimp only at p40 hP hD
          have hP : va_P G vwCl (((iaW E ia tx z y v kq gp gd) ++ (txW E tx n (slot oa pi)) ++ (neW E z op hg la tops dpt lst stry srt lin tokA wah fol par_ opn) ++ (lyW E y sett clA) ++ (lyW E v setv clV) ++ (pkW E (kq 0) kn0 kz0 kl0 kp0 kk0) ++ (pkW E (kq 1) kn1 kz1 kl1 kp1 kk1) ++ (pkW E (kq 2) k i kl'_40 kp'_40 kk_'_40)) ++ poW E oa ta tl ct ps sn cb tk) H := hP
          have hD : va_D A (((iaW E ia tx z y v kq gp gd) ++ (txW E tx n (slot oa pi)) ++ (neW E z op hg la tops dpt lst stry srt lin tokA wah fol par_ opn) ++ (lyW E y sett clA) ++ (lyW E v setv clV) ++ (pkW E (kq 0) kn0 kz0 kl0 kp0 kk0) ++ (pkW E (kq 1) kn1 kz1 kl1 kp1 kk1) ++ (pkW E (kq 2) k i kl'_40 kp'_40 kk_'_40)) ++ poW E oa ta tl ct ps sn cb tk) := hD
          refine lv_iconst (v := (nI 1)) hx hb dX5_pocket_43 (by decide) ?_
          exact W.iret (v := (nI 1)) hx hb hr (fun tZ htZ hWZ => ⟨⟨_, (kn0, kz0, kn1, kz1, k, i, kl0, kp0, kk0, kl1, kp1, kk1, kl'_40, kp'_40, kk_'_40), rfl, by rw [fPocket_ok (by decide) hk (by omega) (by omega)]; exact ⟨rfl, hN, okA_new hok hk (by omega), hop, hPL, hSN, hpp, hCN, hsg, hcl, pkC_oth hk0 (by decide), pkC_oth hk1 (by decide), pkC_new p40⟩, by show va_P G vwCl _ tZ.heap; rw [htZ]; exact hP⟩, hS.F htZ⟩) hS.2.2 dX5_pocket_44
        · have hz1b : True := trivial
          refine lv_iload_n hx hb dX5_pocket_18 rfl (lv_at hl 3 rfl) ?_
          refine lv_iconst (v := (nI 1)) hx hb dX5_pocket_19 (by decide) ?_
          refine lv_icmp_lt (x := a3) (y := (nI 1)) (tgt := 29) hx hb dX5_pocket_20 (by decide) (fun c20 => ?_) (fun c20 => ?_)
          · refine lv_bipush (v := (-2)) hx hb dX5_pocket_29 (by decide) ?_
            exact W.iret (v := (-2)) hx hb hr (fun tZ htZ hWZ => ⟨⟨_, (kn0, kz0, kn1, kz1, kn2, kz2, kl0, kp0, kk0, kl1, kp1, kk1, kl2, kp2, kk2), rfl, by rw [fPocket_2 (by decide) (fun q => hz1 q.2)]; exact ⟨rfl, hab⟩, by show va_P G vwCl _ tZ.heap; rw [htZ]; exact hP⟩, hS.F htZ⟩) hS.2.2 dX5_pocket_31
          · refine lv_iload_n hx hb dX5_pocket_23 rfl (lv_at hl 3 rfl) ?_
            refine lv_bipush (v := (nI 6)) hx hb dX5_pocket_24 (by decide) ?_
            refine lv_icmp_le (x := a3) (y := (nI 6)) (tgt := 32) hx hb dX5_pocket_26 (by decide) (fun c26 => absurd ⟨Int32.not_lt.mp c20, c26⟩ hz1) (fun c26 => ?_)
            refine lv_bipush (v := (-2)) hx hb dX5_pocket_29 (by decide) ?_
            exact W.iret (v := (-2)) hx hb hr (fun tZ htZ hWZ => ⟨⟨_, (kn0, kz0, kn1, kz1, kn2, kz2, kl0, kp0, kk0, kl1, kp1, kk1, kl2, kp2, kk2), rfl, by rw [fPocket_2 (by decide) (fun q => hz1 q.2)]; exact ⟨rfl, hab⟩, by show va_P G vwCl _ tZ.heap; rw [htZ]; exact hP⟩, hS.F htZ⟩) hS.2.2 dX5_pocket_31
      · have hy1b : True := trivial
        refine lv_iload_n hx hb dX5_pocket_9 rfl (lv_at hl 2 rfl) ?_
        refine lv_if_lt (x := a2) (tgt := 29) hx hb dX5_pocket_10 (by decide) (fun c10 => ?_) (fun c10 => ?_)
        · refine lv_bipush (v := (-2)) hx hb dX5_pocket_29 (by decide) ?_
          exact W.iret (v := (-2)) hx hb hr (fun tZ htZ hWZ => ⟨⟨_, (kn0, kz0, kn1, kz1, kn2, kz2, kl0, kp0, kk0, kl1, kp1, kk1, kl2, kp2, kk2), rfl, by rw [fPocket_2 (by decide) (fun q => hy1 q.1)]; exact ⟨rfl, hab⟩, by show va_P G vwCl _ tZ.heap; rw [htZ]; exact hP⟩, hS.F htZ⟩) hS.2.2 dX5_pocket_31
        · refine lv_iload_n hx hb dX5_pocket_13 rfl (lv_at hl 2 rfl) ?_
          refine lv_iconst (v := (nI 3)) hx hb dX5_pocket_14 (by decide) ?_
          refine lv_icmp_gt (x := a2) (y := (nI 3)) (tgt := 29) hx hb dX5_pocket_15 (by decide) (fun c15 => ?_) (fun c15 => absurd ((w_rgx (n := 3) (by decide)).mp ⟨(by rw [nI_0]; exact Int32.not_lt.mp c10), Int32.not_lt.mp c15⟩) hy1)
          refine lv_bipush (v := (-2)) hx hb dX5_pocket_29 (by decide) ?_
          exact W.iret (v := (-2)) hx hb hr (fun tZ htZ hWZ => ⟨⟨_, (kn0, kz0, kn1, kz1, kn2, kz2, kl0, kp0, kk0, kl1, kp1, kk1, kl2, kp2, kk2), rfl, by rw [fPocket_2 (by decide) (fun q => hy1 q.1)]; exact ⟨rfl, hab⟩, by show va_P G vwCl _ tZ.heap; rw [htZ]; exact hP⟩, hS.F htZ⟩) hS.2.2 dX5_pocket_31
    · exact absurd ⟨2, by decide, rfl⟩ h1
  · have hpk1 : True := trivial
    refine lv_iload_n hx hb dX5_pocket_0 rfl (lv_at hl 1 rfl) ?_
    refine rs_i (n := 1) (G := G) (E := E) (As := [.int a1]) (rest := []) ⟨hx, hb, hml, hown, hts⟩ hK hZ hS (c_X5_isPocket l G E a1) gX5_pocket_X5_isPocket rfl rfl rfl (by decide +kernel) ⟨Nat.le_of_ble_eq_true rfl, Nat.le_of_ble_eq_true rfl⟩ (fun k q h => by simp at h) hl.1 rfl rfl (Nat.le_of_ble_eq_true rfl) dX5_pocket_1 ⟨Nat.zero_le _, Nat.zero_le _⟩ (fun r1 p1 => ?_)
    rcases p1 with ⟨h1, rfl⟩ | ⟨h1, rfl⟩
    · exact absurd ((ixP_iff (by decide)).mpr h1) hx1
    · refine n_if_ne (a := 0) (tgt := 9) hx hb (by decide) dX5_pocket_4 (by decide) (fun c4 => absurd c4 (by decide)) (fun c4 => ?_)
      refine lv_iconst (v := (-1)) hx hb dX5_pocket_7 (by decide) ?_
      exact W.iret (v := (-1)) hx hb hr (fun tZ htZ hWZ => ⟨⟨_, (kn0, kz0, kn1, kz1, kn2, kz2, kl0, kp0, kk0, kl1, kp1, kk1, kl2, kp2, kk2), rfl, by rw [fPocket_1 hx1]; exact ⟨rfl, hab⟩, by show va_P G vwCl _ tZ.heap; rw [htZ]; exact hP⟩, hS.F htZ⟩) hS.2.2 dX5_pocket_8

set_option maxHeartbeats 4000000 in
set_option maxRecDepth 100000 in
theorem c_X5_store (l : Launch) (G : va_G) (E : cEnv) (ia tx z y v : Nat → Nat) (kq : Nat → Nat → Nat) (gp : Int32) (gd : Nat → Int32) (n : Nat) (pi : Nat → Nat) (op hg la : Nat) (tops dpt lst stry srt lin tokA wah fol par_ opn : Nat → Int32) (sett clA setv clV : Nat → Int32) (kn0 kz0 kn1 kz1 kn2 kz2 : Nat) (kl0 kp0 kk0 kl1 kp1 kk1 kl2 kp2 kk2 : Nat → Int32) (oa ta : Nat → Nat) (tl ct ps : Nat → Nat) (sn cb : Nat → Int32) (tk : Nat → Nat → Int32) (a1 a2 a3 : Int32) (ab : ABS) (hab : ClsOk ab n op pi tl ct ps sn tk tops dpt lst stry srt lin tokA wah fol par_ opn sett clA kn0 kz0 kn1 kz1 kn2 kz2 kl0 kp0 kk0 kl1 kp1 kk1 kl2 kp2 kk2) (sz : Nat) : Met l yX5_store wsX5_store ({ frames := 2, cells := 0, slots := 0, locals := 44 }) (va_Pc [.ref (ia 0), .int a1, .int a2, .int a3] (PW G E (((iaW E ia tx z y v kq gp gd) ++ (txW E tx n (slot oa pi)) ++ (neW E z op hg la tops dpt lst stry srt lin tokA wah fol par_ opn) ++ (lyW E y sett clA) ++ (lyW E v setv clV) ++ (pkW E (kq 0) kn0 kz0 kl0 kp0 kk0) ++ (pkW E (kq 1) kn1 kz1 kl1 kp1 kk1) ++ (pkW E (kq 2) kn2 kz2 kl2 kp2 kk2)) ++ poW E oa ta tl ct ps sn cb tk) sz)) (va_Qi (fun (r : Int32) (u : (Nat → Int32) × (Nat → Int32) × (Nat → Int32) × (Nat → Int32) × (Nat → Int32) × (Nat → Int32) × (Nat → Int32) × (Nat → Int32) × (Nat → Int32)) => r = (fStore ab a1 a2 a3).1 ∧ ClsOk ((fStore ab a1 a2 a3).2) n op pi tl ct ps sn tk tops dpt lst stry srt lin tokA wah fol par_ opn sett clA kn0 kz0 kn1 kz1 kn2 kz2 u.1 u.2.1 u.2.2.1 u.2.2.2.1 u.2.2.2.2.1 u.2.2.2.2.2.1 u.2.2.2.2.2.2.1 u.2.2.2.2.2.2.2.1 u.2.2.2.2.2.2.2.2) (fun (u : (Nat → Int32) × (Nat → Int32) × (Nat → Int32) × (Nat → Int32) × (Nat → Int32) × (Nat → Int32) × (Nat → Int32) × (Nat → Int32) × (Nat → Int32)) tQ => va_P G vwCl (((iaW E ia tx z y v kq gp gd) ++ (txW E tx n (slot oa pi)) ++ (neW E z op hg la tops dpt lst stry srt lin tokA wah fol par_ opn) ++ (lyW E y sett clA) ++ (lyW E v setv clV) ++ (pkW E (kq 0) kn0 kz0 u.1 u.2.1 u.2.2.1) ++ (pkW E (kq 1) kn1 kz1 u.2.2.2.1 u.2.2.2.2.1 u.2.2.2.2.2.1) ++ (pkW E (kq 2) kn2 kz2 u.2.2.2.2.2.2.1 u.2.2.2.2.2.2.2.1 u.2.2.2.2.2.2.2.2)) ++ poW E oa ta tl ct ps sn cb tk) tQ.heap) (va_A (((iaW E ia tx z y v kq gp gd) ++ (txW E tx n (slot oa pi)) ++ (neW E z op hg la tops dpt lst stry srt lin tokA wah fol par_ opn) ++ (lyW E y sett clA) ++ (lyW E v setv clV) ++ (pkW E (kq 0) kn0 kz0 kl0 kp0 kk0) ++ (pkW E (kq 1) kn1 kz1 kl1 kp1 kk1) ++ (pkW E (kq 2) kn2 kz2 kl2 kp2 kk2)) ++ poW E oa ta tl ct ps sn cb tk) sz)) 0 0 (va_A (((iaW E ia tx z y v kq gp gd) ++ (txW E tx n (slot oa pi)) ++ (neW E z op hg la tops dpt lst stry srt lin tokA wah fol par_ opn) ++ (lyW E y sett clA) ++ (lyW E v setv clV) ++ (pkW E (kq 0) kn0 kz0 kl0 kp0 kk0) ++ (pkW E (kq 1) kn1 kz1 kl1 kp1 kk1) ++ (pkW E (kq 2) kn2 kz2 kl2 kp2 kk2)) ++ poW E oa ta tl ct ps sn cb tk) sz) := by
  refine Met.ofW (cc := cX5_store) (maxL := 6) (ret := (some .int)) (by decide) rfl ?_
  intro p e s m args below meth c s₁ B hml hv
  obtain ⟨rfl, hsz, hP, hK, hD0, hZ⟩ := hv
  have hx := B.exec
  have hb := B.bytes
  have hr := B.returns
  have hts := atoms_spec (ws := wsX5_store) B.pre
  have hown : s.vm.findClass RX5 = some m.cls := findClass_of_methodNamed B.named
  have hlocks := B.notSynchronized
  have hin2 : ∀ w ∈ u_ws RX2 TX2 14, w ∈ wsX5_store := mem_pl [64, 65, 66, 67, 68, 69, 70, 71, 72, 73, 74, 75, 76, 77] (by rfl)
  have hin3 : ∀ w ∈ u_ws RX3 TX3 5, w ∈ wsX5_store := mem_pl [59, 60, 61, 62, 63] (by rfl)
  have hin5 : ∀ w ∈ u_ws RX5 TX5 7, w ∈ wsX5_store := mem_pl [52, 53, 54, 55, 56, 57, 58] (by rfl)
  subst hsz
  have hD := hD0.self (sz := s.heap.size)
  generalize hAe : va_A (((iaW E ia tx z y v kq gp gd) ++ (txW E tx n (slot oa pi)) ++ (neW E z op hg la tops dpt lst stry srt lin tokA wah fol par_ opn) ++ (lyW E y sett clA) ++ (lyW E v setv clV) ++ (pkW E (kq 0) kn0 kz0 kl0 kp0 kk0) ++ (pkW E (kq 1) kn1 kz1 kl1 kp1 kk1) ++ (pkW E (kq 2) kn2 kz2 kl2 kp2 kk2)) ++ poW E oa ta tl ct ps sn cb tk) s.heap.size = A at hD hZ ⊢
  have hA : ∀ q : Nat, s.heap.size ≤ q → A q := fun q h => by rw [← hAe]; exact Or.inr h
  have hS : va_S A s.heap s.heap [] := va_S.rf
  have hl := lv_entry ([.ref (ia 0), .int a1, .int a2, .int a3]) (n := 6) (Nat.le_of_ble_eq_true rfl)
  rw [lg_entry_eq]
  generalize (lg_sl ([.ref (ia 0), .int a1, .int a2, .int a3]) ++ List.replicate (6 - (lg_sl ([.ref (ia 0), .int a1, .int a2, .int a3])).length) Slot.unset).toArray = ls at hl ⊢
  have hl : lv_has ls 6 [(0, .ref (ia 0)), (1, .int a1), (2, .int a2), (3, .int a3)] := hl
  obtain ⟨hN, hok, hop, hPL, hSN, hpp, hCN, hsg, hcl, hk0, hk1, hk2⟩ := id hab
  have hn : n ≤ 20 := by rw [hN]; exact hok.1
  have hrn : ∀ j, j < n → aR ab j < 1000000000 := fun j hj => (hok.2.1 j (by omega)).1
  have hpi : ∀ i, i < 20 → pi i < 20 := fun i hi => (hpp i hi).1
  have hwN := wfN_all (row := aR ab) (aN ab) (fun j hj => hrn j (by omega))
  have hob : nO (aNest ab) ≤ 180 := Nat.le_trans hwN.2.1 (by omega)
  have hCn : CN (nAll (aR ab) n) n tops dpt lst stry srt lin tokA wah fol par_ opn := by rw [hN] at hCN ⊢; exact hCN
  have hLN : LN (nF (aNest ab)) (nO (aNest ab)) srt lin wah fol := hCN.ln (by omega) (fun j hj => hrn j (by omega))
  obtain ⟨hn0, hz0, hq0⟩ := id hk0
  obtain ⟨hn1, hz1, hq1⟩ := id hk1
  obtain ⟨hn2, hz2, hq2⟩ := id hk2
  obtain ⟨ho0, hoo0, -⟩ := hok.2.2 0 (by decide)
  obtain ⟨ho1, hoo1, -⟩ := hok.2.2 1 (by decide)
  obtain ⟨ho2, hoo2, -⟩ := hok.2.2 2 (by decide)
  rcases pk3 a1 with rfl | rfl | rfl | hx1
  · have hpk1 : True := trivial
    refine lv_iload_n hx hb dX5_store_0 rfl (lv_at hl 1 rfl) ?_
    refine rs_i (n := 1) (G := G) (E := E) (As := [.int (nI 0)]) (rest := []) ⟨hx, hb, hml, hown, hts⟩ hK hZ hS (c_X5_isPocket l G E (nI 0)) gX5_store_X5_isPocket rfl rfl rfl (by decide +kernel) ⟨Nat.le_of_ble_eq_true rfl, Nat.le_of_ble_eq_true rfl⟩ (fun k q h => by simp at h) hl.1 rfl rfl (Nat.le_of_ble_eq_true rfl) dX5_store_1 ⟨Nat.zero_le _, Nat.zero_le _⟩ (fun r1 p1 => ?_)
    rcases p1 with ⟨h1, rfl⟩ | ⟨h1, rfl⟩
    · refine n_if_eq (a := 1) (tgt := 15) hx hb (by decide) dX5_store_4 (by decide) (fun c4 => absurd c4 (by decide)) (fun c4 => ?_)
      refine lv_aload_n hx hb dX5_store_7 rfl (lv_at hl 0 rfl) ?_
      refine lv_iload_n hx hb dX5_store_8 rfl (lv_at hl 3 rfl) ?_
      refine rv_i (n := 1) (G := G) (E := E) (As := [.int a3]) (rest := []) (ci := 5) (q0 := 0) ⟨hx, hb, hml, hown, hts⟩ hK hZ hS (c_X5_isOpener l G E ia tx z y v kq gp gd n pi op hg la tops dpt lst stry srt lin tokA wah fol par_ opn sett clA setv clV kn0 kz0 kn1 kz1 kn2 kz2 kl0 kp0 kk0 kl1 kp1 kk1 kl2 kp2 kk2 oa ta tl ct ps sn cb tk a3 (by rw [hop]; exact hob)) gX5_store_X5_isOpener rfl rfl rfl (by decide +kernel) ⟨Nat.le_of_ble_eq_true rfl, Nat.le_of_ble_eq_true rfl⟩ hP rfl rfl hl.1 rfl rfl (Nat.le_of_ble_eq_true rfl) dX5_store_9 ⟨Nat.zero_le _, Nat.zero_le _⟩ (fun r9 p9 => ?_)
      rcases p9 with ⟨⟨k, hk, rfl⟩, rfl⟩ | ⟨h9, rfl⟩
      · have hk : k < nO (aNest ab) := by rw [← hop]; exact hk
        refine n_if_ne (a := 1) (tgt := 17) hx hb (by decide) dX5_store_12 (by decide) (fun c12 => ?_) (fun c12 => absurd c12 (by decide))
        have hlk : nF (aNest ab) 1 k < n := by rw [hN]; exact (hwN.2.2.2.1 k hk).1
        have hFl : nF (aNest ab) 1 k < 2 ^ 31 := by omega
        refine lv_aload_n hx hb dX5_store_17 rfl (lv_at hl 0 rfl) ?_
        refine va_get (D := G) (ci := 5) (v := .ref (ia 7)) (C := RX5) (T := TX5) (N := 7) hx hb hts hin5 hown hK hP 0 rfl rfl 6 (by decide) (hts (Cond.fieldLink RX5 39 "IndentRules" "pockets" "[LIndentRules$Pocket;") (List.mem_of_getElem? (i := 1) rfl)) (fun _ h9 => h9) rfl dX5_store_18 ?_
        refine lv_iload_n hx hb dX5_store_21 rfl (lv_at hl 1 rfl) ?_
        refine k_aald (D := G) (tys := TYS E) (j := 0) (f := (pkA kq)) (n := 3) hx hb hK hP 2 3 rfl rfl (by decide) (by decide) dX5_store_22 ?_
        refine W.eq (g2 := F0 m 23 ls [.ref (kq 0 0)]) rfl ?_
        refine lv_astore (lv' := [(4, .ref (kq 0 0)), (0, .ref (ia 0)), (1, .int (nI 0)), (2, .int a2), (3, .int (nI k))]) hx hb dX5_store_23 hl (by decide) rfl (fun ls hl => ?_)
        refine lv_aload hx hb dX5_store_25 (lv_at hl 0 rfl) ?_
        refine va_get (D := G) (ci := 3) (v := .int (nI kz0)) (C := RX3) (T := TX3) (N := 5) hx hb hts hin3 hown hK hP 23 rfl rfl 1 (by decide) (hts (Cond.fieldLink RX5 177 "IndentRules$Pocket" "size" "I") (List.mem_of_getElem? (i := 2) rfl)) (fun _ h9 => h9) rfl dX5_store_27 ?_
        refine n_if_ne (a := kz0) (tgt := 36) hx hb (by omega) dX5_store_30 (by decide) (fun c30 => ?_) (fun c30 => ?_)
        · refine lv_aload hx hb dX5_store_36 (lv_at hl 0 rfl) ?_
          refine lv_iload_n hx hb dX5_store_38 rfl (lv_at hl 3 rfl) ?_
          refine rv_i (n := 1) (G := G) (E := E) (As := [.int a2]) (rest := []) (ci := 3) (q0 := 0) ⟨hx, hb, hml, hown, hts⟩ hK hZ hS (c_X3_hasCell l G E (kq 0) kn0 kz0 kl0 kp0 kk0 a2 (by omega)) gX5_store_X3_hasCell rfl rfl rfl (by decide +kernel) ⟨Nat.le_of_ble_eq_true rfl, Nat.le_of_ble_eq_true rfl⟩ (hP.sub (ws' := (pkW E (kq 0) kn0 kz0 kl0 kp0 kk0)) [23, 24, 25, 26] rfl) rfl rfl hl.1 rfl rfl (Nat.le_of_ble_eq_true rfl) dX5_store_39 ⟨Nat.zero_le _, Nat.zero_le _⟩ (fun r39 p39 => ?_)
          rcases p39 with ⟨⟨i, hi, rfl⟩, rfl⟩ | ⟨h39, rfl⟩
          · have hi2 : i < aC ab 0 := by omega
            refine n_if_ne (a := 1) (tgt := 48) hx hb (by decide) dX5_store_42 (by decide) (fun c42 => ?_) (fun c42 => absurd c42 (by decide))
            refine lv_aload_n hx hb dX5_store_48 rfl (lv_at hl 1 rfl) ?_
            refine va_get (D := G) (ci := 5) (v := .ref (y 0)) (C := RX5) (T := TX5) (N := 7) hx hb hts hin5 hown hK hP 0 rfl rfl 2 (by decide) (hts (Cond.fieldLink RX5 26 "IndentRules" "now" "LIndentRules$Layout;") (List.mem_of_getElem? (i := 3) rfl)) (fun _ h9 => h9) rfl dX5_store_49 ?_
            refine lv_aload_n hx hb dX5_store_52 rfl (lv_at hl 1 rfl) ?_
            refine va_get (D := G) (ci := 5) (v := .ref (z 0)) (C := RX5) (T := TX5) (N := 7) hx hb hts hin5 hown hK hP 0 rfl rfl 1 (by decide) (hts (Cond.fieldLink RX5 19 "IndentRules" "nesting" "LIndentRules$Nesting;") (List.mem_of_getElem? (i := 4) rfl)) (fun _ h9 => h9) rfl dX5_store_53 ?_
            refine lv_iload_n hx hb dX5_store_56 rfl (lv_at hl 4 rfl) ?_
            refine rv_i (n := 2) (G := G) (E := E) (As := [.ref (z 0), .int (nI k)]) (rest := []) (ci := 0) (q0 := 0) ⟨hx, hb, hml, hown, hts⟩ hK hZ hS (c_X0_kindOf l G E y sett clA z op hg la tops dpt lst stry srt lin tokA wah fol par_ opn k (nF (aNest ab)) (nO (aNest ab)) hLN (by first | assumption | omega)) gX5_store_X0_kindOf rfl rfl rfl (by decide +kernel) ⟨Nat.le_of_ble_eq_true rfl, Nat.le_of_ble_eq_true rfl⟩ (hP.sub (ws' := ((lyW E y sett clA) ++ (neW E z op hg la tops dpt lst stry srt lin tokA wah fol par_ opn))) [17, 18, 19, 5, 6, 7, 8, 9, 10, 11, 12, 13, 14, 15, 16] rfl) rfl rfl hl.1 rfl rfl (Nat.le_of_ble_eq_true rfl) dX5_store_57 ⟨Nat.zero_le _, Nat.zero_le _⟩ (fun r57 p57 => ?_)
            subst p57
            refine lv_istore (lv' := [(5, .int (nI (kd (sett 2) (nF (aNest ab)) k))), (4, .ref (kq 0 0)), (0, .ref (ia 0)), (1, .int (nI 0)), (2, .int (nI i)), (3, .int (nI k))]) hx hb dX5_store_60 hl (by decide) rfl (fun ls hl => ?_)
            refine lv_aload hx hb dX5_store_62 (lv_at hl 1 rfl) ?_
            refine lv_iload hx hb dX5_store_64 (lv_at hl 0 rfl) ?_
            refine rv_i (n := 1) (G := G) (E := E) (As := [.int (nI (kd (sett 2) (nF (aNest ab)) k))]) (rest := []) (ci := 3) (q0 := 0) ⟨hx, hb, hml, hown, hts⟩ hK hZ hS (c_X3_takes l G E (kq 0) kn0 kz0 kl0 kp0 kk0 (kd (sett 2) (nF (aNest ab)) k) (kd_lt _ _ _) (by omega)) gX5_store_X3_takes rfl rfl rfl (by decide +kernel) ⟨Nat.le_of_ble_eq_true rfl, Nat.le_of_ble_eq_true rfl⟩ (hP.sub (ws' := (pkW E (kq 0) kn0 kz0 kl0 kp0 kk0)) [23, 24, 25, 26] rfl) rfl rfl hl.1 rfl rfl (Nat.le_of_ble_eq_true rfl) dX5_store_66 ⟨Nat.zero_le _, Nat.zero_le _⟩ (fun r66 p66 => ?_)
            rcases p66 with ⟨h66, rfl⟩ | ⟨h66, rfl⟩
            · have hks := h66
              rw [hsg 2 (by decide)] at hks
              refine n_if_ne (a := 1) (tgt := 75) hx hb (by decide) dX5_store_69 (by decide) (fun c69 => ?_) (fun c69 => absurd c69 (by decide))
              refine lv_aload hx hb dX5_store_75 (lv_at hl 1 rfl) ?_
              refine lv_iload_n hx hb dX5_store_77 rfl (lv_at hl 4 rfl) ?_
              refine lv_aload_n hx hb dX5_store_78 rfl (lv_at hl 2 rfl) ?_
              refine va_get (D := G) (ci := 5) (v := .ref (z 0)) (C := RX5) (T := TX5) (N := 7) hx hb hts hin5 hown hK hP 0 rfl rfl 1 (by decide) (hts (Cond.fieldLink RX5 19 "IndentRules" "nesting" "LIndentRules$Nesting;") (List.mem_of_getElem? (i := 4) rfl)) (fun _ h9 => h9) rfl dX5_store_79 ?_
              refine va_get (D := G) (ci := 2) (v := .ref (z 7)) (C := RX2) (T := TX2) (N := 14) hx hb hts hin2 hown hK hP 5 rfl rfl 6 (by decide) (hts (Cond.fieldLink RX5 121 "IndentRules$Nesting" "lineOf" "[I") (List.mem_of_getElem? (i := 5) rfl)) (fun _ h9 => h9) rfl dX5_store_82 ?_
              refine lv_iload_n hx hb dX5_store_85 rfl (lv_at hl 5 rfl) ?_
              refine k_iald (D := G) (tys := TYS E) (j := k) (f := lin) (n := 180) hx hb hK hP 11 0 rfl rfl (by omega) (by decide) dX5_store_86 ?_
              rw [(hCN.1 k hk).2.1]
              refine lv_aload_n hx hb dX5_store_87 rfl (lv_at hl 2 rfl) ?_
              refine va_get (D := G) (ci := 5) (v := .ref (y 0)) (C := RX5) (T := TX5) (N := 7) hx hb hts hin5 hown hK hP 0 rfl rfl 2 (by decide) (hts (Cond.fieldLink RX5 26 "IndentRules" "now" "LIndentRules$Layout;") (List.mem_of_getElem? (i := 3) rfl)) (fun _ h9 => h9) rfl dX5_store_88 ?_
              refine lv_aload_n hx hb dX5_store_91 rfl (lv_at hl 2 rfl) ?_
              refine va_get (D := G) (ci := 5) (v := .ref (z 0)) (C := RX5) (T := TX5) (N := 7) hx hb hts hin5 hown hK hP 0 rfl rfl 1 (by decide) (hts (Cond.fieldLink RX5 19 "IndentRules" "nesting" "LIndentRules$Nesting;") (List.mem_of_getElem? (i := 4) rfl)) (fun _ h9 => h9) rfl dX5_store_92 ?_
              refine lv_iload_n hx hb dX5_store_95 rfl (lv_at hl 5 rfl) ?_
              refine rv_i (n := 2) (G := G) (E := E) (As := [.ref (z 0), .int (nI k)]) (rest := [.int (nI (nF (aNest ab) 1 k)), .int (nI i), .ref (kq 0 0)]) (ci := 0) (q0 := 0) ⟨hx, hb, hml, hown, hts⟩ hK hZ hS (c_X0_placeOf l G E y sett clA z op hg la tops dpt lst stry srt lin tokA wah fol par_ opn k (nF (aNest ab)) (nO (aNest ab)) hLN (by first | assumption | omega)) gX5_store_X0_placeOf rfl rfl rfl (by decide +kernel) ⟨Nat.le_of_ble_eq_true rfl, Nat.le_of_ble_eq_true rfl⟩ (hP.sub (ws' := ((lyW E y sett clA) ++ (neW E z op hg la tops dpt lst stry srt lin tokA wah fol par_ opn))) [17, 18, 19, 5, 6, 7, 8, 9, 10, 11, 12, 13, 14, 15, 16] rfl) rfl rfl hl.1 rfl rfl (Nat.le_of_ble_eq_true rfl) dX5_store_96 ⟨Nat.zero_le _, Nat.zero_le _⟩ (fun r96 p96 => ?_)
              subst p96
              refine lv_iload hx hb dX5_store_99 (lv_at hl 0 rfl) ?_
              refine we_v (n := 4) (G := G) (E := E) (As := [.int (nI i), .int (nI (nF (aNest ab) 1 k)), .int (clA ((nF (aNest ab)) 1 k) + nI ((nF (aNest ab)) 3 k)), .int (nI (kd (sett 2) (nF (aNest ab)) k))]) (rest := []) (ci := 3) (q0 := 23) (X := (iaW E ia tx z y v kq gp gd) ++ (txW E tx n (slot oa pi)) ++ (neW E z op hg la tops dpt lst stry srt lin tokA wah fol par_ opn) ++ (lyW E y sett clA) ++ (lyW E v setv clV) ++ (pkW E (kq 0) kn0 kz0 kl0 kp0 kk0) ++ (pkW E (kq 1) kn1 kz1 kl1 kp1 kk1) ++ (pkW E (kq 2) kn2 kz2 kl2 kp2 kk2)) (pl := poW E oa ta tl ct ps sn cb tk) (cx := pkW E (kq 0) kn0 kz0 kl0 kp0 kk0) (ex := ([] : va_W)) (wn := fun (_ : Unit) => pkW E (kq 0) kn0 kz0 (upd kl0 i (nI (nF (aNest ab) 1 k))) (upd kp0 i (clA ((nF (aNest ab)) 1 k) + nI ((nF (aNest ab)) 3 k))) (upd kk0 i (nI (kd (sett 2) (nF (aNest ab)) k)))) ⟨hx, hb, hml, hown, hts⟩ hK hZ hS hA (fun sz => by have z := c_X3_fill l G E (kq 0) kn0 kz0 kl0 kp0 kk0 i (nI (nF (aNest ab) 1 k)) (clA ((nF (aNest ab)) 1 k) + nI ((nF (aNest ab)) 3 k)) (nI (kd (sett 2) (nF (aNest ab)) k)) (by omega) sz; simpa only [List.append_nil] using z) gX5_store_X3_fill rfl rfl rfl (by decide +kernel) ⟨Nat.le_of_ble_eq_true rfl, Nat.le_of_ble_eq_true rfl⟩ hP hD [23, 24, 25, 26] rfl (by decide) (fun k => k) (fun k q h => by simp at h) (fun _ _ _ _ h => h) (fun _ => rfl) rfl rfl hl.1 rfl rfl (Nat.le_of_ble_eq_true rfl) dX5_store_101 ⟨Nat.zero_le _, Nat.zero_le _⟩ (fun u101 H locs p101 hP hD hS => ?_)
              have hP : va_P G vwCl (((iaW E ia tx z y v kq gp gd) ++ (txW E tx n (slot oa pi)) ++ (neW E z op hg la tops dpt lst stry srt lin tokA wah fol par_ opn) ++ (lyW E y sett clA) ++ (lyW E v setv clV) ++ (pkW E (kq 0) kn0 kz0 (upd kl0 i (nI (nF (aNest ab) 1 k))) (upd kp0 i (clA ((nF (aNest ab)) 1 k) + nI ((nF (aNest ab)) 3 k))) (upd kk0 i (nI (kd (sett 2) (nF (aNest ab)) k)))) ++ (pkW E (kq 1) kn1 kz1 kl1 kp1 kk1) ++ (pkW E (kq 2) kn2 kz2 kl2 kp2 kk2)) ++ poW E oa ta tl ct ps sn cb tk) H := hP
              have hD : va_D A (((iaW E ia tx z y v kq gp gd) ++ (txW E tx n (slot oa pi)) ++ (neW E z op hg la tops dpt lst stry srt lin tokA wah fol par_ opn) ++ (lyW E y sett clA) ++ (lyW E v setv clV) ++ (pkW E (kq 0) kn0 kz0 (upd kl0 i (nI (nF (aNest ab) 1 k))) (upd kp0 i (clA ((nF (aNest ab)) 1 k) + nI ((nF (aNest ab)) 3 k))) (upd kk0 i (nI (kd (sett 2) (nF (aNest ab)) k)))) ++ (pkW E (kq 1) kn1 kz1 kl1 kp1 kk1) ++ (pkW E (kq 2) kn2 kz2 kl2 kp2 kk2)) ++ poW E oa ta tl ct ps sn cb tk) := hD
              refine lv_iconst (v := (nI 1)) hx hb dX5_store_104 (by decide) ?_
              exact W.iret (v := (nI 1)) hx hb hr (fun tZ htZ hWZ => ⟨⟨_, ((upd kl0 i (nI (nF (aNest ab) 1 k))), (upd kp0 i (clA ((nF (aNest ab)) 1 k) + nI ((nF (aNest ab)) 3 k))), (upd kk0 i (nI (kd (sett 2) (nF (aNest ab)) k))), kl1, kp1, kk1, kl2, kp2, kk2), rfl, by rw [fStore_ok (by decide) hk hob hi2 ho0 (by rw [← hn0]; exact hks), ← hcl _ hlk, ← hsg 2 (by decide)]; exact ⟨rfl, hN, okA_put hok (by decide) (k_nneg (by decide) hFl), hop, hPL, hSN, hpp, hCN, hsg, hcl, pkC_put hk0, pkC_oth2 hk1 (by decide), pkC_oth2 hk2 (by decide)⟩, by show va_P G vwCl _ tZ.heap; rw [htZ]; exact hP⟩, hS.F htZ⟩) hS.2.2 dX5_store_105
            · have hks := h66
              rw [hsg 2 (by decide)] at hks
              refine n_if_ne (a := 0) (tgt := 75) hx hb (by decide) dX5_store_69 (by decide) (fun c69 => absurd c69 (by decide)) (fun c69 => ?_)
              refine lv_bipush (v := (-11)) hx hb dX5_store_72 (by decide) ?_
              exact W.iret (v := (-11)) hx hb hr (fun tZ htZ hWZ => ⟨⟨_, (kl0, kp0, kk0, kl1, kp1, kk1, kl2, kp2, kk2), rfl, by rw [fStore_11 (by decide) hk hob hi2 ho0 (by rw [← hn0]; exact hks)]; exact ⟨rfl, hab⟩, by show va_P G vwCl _ tZ.heap; rw [htZ]; exact hP⟩, hS.F htZ⟩) hS.2.2 dX5_store_74
          · refine n_if_ne (a := 0) (tgt := 48) hx hb (by decide) dX5_store_42 (by decide) (fun c42 => absurd c42 (by decide)) (fun c42 => ?_)
            refine lv_bipush (v := (-13)) hx hb dX5_store_45 (by decide) ?_
            exact W.iret (v := (-13)) hx hb hr (fun tZ htZ hWZ => ⟨⟨_, (kl0, kp0, kk0, kl1, kp1, kk1, kl2, kp2, kk2), rfl, by rw [fStore_13 (by decide) hk hob (by omega) (fun q => h39 (by rw [hz0]; exact (ixP_iff (by omega)).mp q))]; exact ⟨rfl, hab⟩, by show va_P G vwCl _ tZ.heap; rw [htZ]; exact hP⟩, hS.F htZ⟩) hS.2.2 dX5_store_47
        · refine lv_bipush (v := (-3)) hx hb dX5_store_33 (by decide) ?_
          exact W.iret (v := (-3)) hx hb hr (fun tZ htZ hWZ => ⟨⟨_, (kl0, kp0, kk0, kl1, kp1, kk1, kl2, kp2, kk2), rfl, by rw [fStore_3 (by decide) hk hob (by omega)]; exact ⟨rfl, hab⟩, by show va_P G vwCl _ tZ.heap; rw [htZ]; exact hP⟩, hS.F htZ⟩) hS.2.2 dX5_store_35
      · have ho1 : ¬ ixP a3 (nO (aNest ab)) := fun q => h9 (by rw [hop]; exact (ixP_iff (by omega)).mp q)
        refine n_if_ne (a := 0) (tgt := 17) hx hb (by decide) dX5_store_12 (by decide) (fun c12 => absurd c12 (by decide)) (fun c12 => ?_)
        refine lv_iconst (v := (-1)) hx hb dX5_store_15 (by decide) ?_
        exact W.iret (v := (-1)) hx hb hr (fun tZ htZ hWZ => ⟨⟨_, (kl0, kp0, kk0, kl1, kp1, kk1, kl2, kp2, kk2), rfl, by rw [fStore_1 (fun q => ho1 q.2)]; exact ⟨rfl, hab⟩, by show va_P G vwCl _ tZ.heap; rw [htZ]; exact hP⟩, hS.F htZ⟩) hS.2.2 dX5_store_16
    · exact absurd ⟨0, by decide, rfl⟩ h1
  · have hpk1 : True := trivial
    refine lv_iload_n hx hb dX5_store_0 rfl (lv_at hl 1 rfl) ?_
    refine rs_i (n := 1) (G := G) (E := E) (As := [.int (nI 1)]) (rest := []) ⟨hx, hb, hml, hown, hts⟩ hK hZ hS (c_X5_isPocket l G E (nI 1)) gX5_store_X5_isPocket rfl rfl rfl (by decide +kernel) ⟨Nat.le_of_ble_eq_true rfl, Nat.le_of_ble_eq_true rfl⟩ (fun k q h => by simp at h) hl.1 rfl rfl (Nat.le_of_ble_eq_true rfl) dX5_store_1 ⟨Nat.zero_le _, Nat.zero_le _⟩ (fun r1 p1 => ?_)
    rcases p1 with ⟨h1, rfl⟩ | ⟨h1, rfl⟩
    · refine n_if_eq (a := 1) (tgt := 15) hx hb (by decide) dX5_store_4 (by decide) (fun c4 => absurd c4 (by decide)) (fun c4 => ?_)
      refine lv_aload_n hx hb dX5_store_7 rfl (lv_at hl 0 rfl) ?_
      refine lv_iload_n hx hb dX5_store_8 rfl (lv_at hl 3 rfl) ?_
      refine rv_i (n := 1) (G := G) (E := E) (As := [.int a3]) (rest := []) (ci := 5) (q0 := 0) ⟨hx, hb, hml, hown, hts⟩ hK hZ hS (c_X5_isOpener l G E ia tx z y v kq gp gd n pi op hg la tops dpt lst stry srt lin tokA wah fol par_ opn sett clA setv clV kn0 kz0 kn1 kz1 kn2 kz2 kl0 kp0 kk0 kl1 kp1 kk1 kl2 kp2 kk2 oa ta tl ct ps sn cb tk a3 (by rw [hop]; exact hob)) gX5_store_X5_isOpener rfl rfl rfl (by decide +kernel) ⟨Nat.le_of_ble_eq_true rfl, Nat.le_of_ble_eq_true rfl⟩ hP rfl rfl hl.1 rfl rfl (Nat.le_of_ble_eq_true rfl) dX5_store_9 ⟨Nat.zero_le _, Nat.zero_le _⟩ (fun r9 p9 => ?_)
      rcases p9 with ⟨⟨k, hk, rfl⟩, rfl⟩ | ⟨h9, rfl⟩
      · have hk : k < nO (aNest ab) := by rw [← hop]; exact hk
        refine n_if_ne (a := 1) (tgt := 17) hx hb (by decide) dX5_store_12 (by decide) (fun c12 => ?_) (fun c12 => absurd c12 (by decide))
        have hlk : nF (aNest ab) 1 k < n := by rw [hN]; exact (hwN.2.2.2.1 k hk).1
        have hFl : nF (aNest ab) 1 k < 2 ^ 31 := by omega
        refine lv_aload_n hx hb dX5_store_17 rfl (lv_at hl 0 rfl) ?_
        refine va_get (D := G) (ci := 5) (v := .ref (ia 7)) (C := RX5) (T := TX5) (N := 7) hx hb hts hin5 hown hK hP 0 rfl rfl 6 (by decide) (hts (Cond.fieldLink RX5 39 "IndentRules" "pockets" "[LIndentRules$Pocket;") (List.mem_of_getElem? (i := 1) rfl)) (fun _ h9 => h9) rfl dX5_store_18 ?_
        refine lv_iload_n hx hb dX5_store_21 rfl (lv_at hl 1 rfl) ?_
        refine k_aald (D := G) (tys := TYS E) (j := 1) (f := (pkA kq)) (n := 3) hx hb hK hP 2 3 rfl rfl (by decide) (by decide) dX5_store_22 ?_
        refine W.eq (g2 := F0 m 23 ls [.ref (kq 1 0)]) rfl ?_
        refine lv_astore (lv' := [(4, .ref (kq 1 0)), (0, .ref (ia 0)), (1, .int (nI 1)), (2, .int a2), (3, .int (nI k))]) hx hb dX5_store_23 hl (by decide) rfl (fun ls hl => ?_)
        refine lv_aload hx hb dX5_store_25 (lv_at hl 0 rfl) ?_
        refine va_get (D := G) (ci := 3) (v := .int (nI kz1)) (C := RX3) (T := TX3) (N := 5) hx hb hts hin3 hown hK hP 27 rfl rfl 1 (by decide) (hts (Cond.fieldLink RX5 177 "IndentRules$Pocket" "size" "I") (List.mem_of_getElem? (i := 2) rfl)) (fun _ h9 => h9) rfl dX5_store_27 ?_
        refine n_if_ne (a := kz1) (tgt := 36) hx hb (by omega) dX5_store_30 (by decide) (fun c30 => ?_) (fun c30 => ?_)
        · refine lv_aload hx hb dX5_store_36 (lv_at hl 0 rfl) ?_
          refine lv_iload_n hx hb dX5_store_38 rfl (lv_at hl 3 rfl) ?_
          refine rv_i (n := 1) (G := G) (E := E) (As := [.int a2]) (rest := []) (ci := 3) (q0 := 0) ⟨hx, hb, hml, hown, hts⟩ hK hZ hS (c_X3_hasCell l G E (kq 1) kn1 kz1 kl1 kp1 kk1 a2 (by omega)) gX5_store_X3_hasCell rfl rfl rfl (by decide +kernel) ⟨Nat.le_of_ble_eq_true rfl, Nat.le_of_ble_eq_true rfl⟩ (hP.sub (ws' := (pkW E (kq 1) kn1 kz1 kl1 kp1 kk1)) [27, 28, 29, 30] rfl) rfl rfl hl.1 rfl rfl (Nat.le_of_ble_eq_true rfl) dX5_store_39 ⟨Nat.zero_le _, Nat.zero_le _⟩ (fun r39 p39 => ?_)
          rcases p39 with ⟨⟨i, hi, rfl⟩, rfl⟩ | ⟨h39, rfl⟩
          · have hi2 : i < aC ab 1 := by omega
            refine n_if_ne (a := 1) (tgt := 48) hx hb (by decide) dX5_store_42 (by decide) (fun c42 => ?_) (fun c42 => absurd c42 (by decide))
            refine lv_aload_n hx hb dX5_store_48 rfl (lv_at hl 1 rfl) ?_
            refine va_get (D := G) (ci := 5) (v := .ref (y 0)) (C := RX5) (T := TX5) (N := 7) hx hb hts hin5 hown hK hP 0 rfl rfl 2 (by decide) (hts (Cond.fieldLink RX5 26 "IndentRules" "now" "LIndentRules$Layout;") (List.mem_of_getElem? (i := 3) rfl)) (fun _ h9 => h9) rfl dX5_store_49 ?_
            refine lv_aload_n hx hb dX5_store_52 rfl (lv_at hl 1 rfl) ?_
            refine va_get (D := G) (ci := 5) (v := .ref (z 0)) (C := RX5) (T := TX5) (N := 7) hx hb hts hin5 hown hK hP 0 rfl rfl 1 (by decide) (hts (Cond.fieldLink RX5 19 "IndentRules" "nesting" "LIndentRules$Nesting;") (List.mem_of_getElem? (i := 4) rfl)) (fun _ h9 => h9) rfl dX5_store_53 ?_
            refine lv_iload_n hx hb dX5_store_56 rfl (lv_at hl 4 rfl) ?_
            refine rv_i (n := 2) (G := G) (E := E) (As := [.ref (z 0), .int (nI k)]) (rest := []) (ci := 0) (q0 := 0) ⟨hx, hb, hml, hown, hts⟩ hK hZ hS (c_X0_kindOf l G E y sett clA z op hg la tops dpt lst stry srt lin tokA wah fol par_ opn k (nF (aNest ab)) (nO (aNest ab)) hLN (by first | assumption | omega)) gX5_store_X0_kindOf rfl rfl rfl (by decide +kernel) ⟨Nat.le_of_ble_eq_true rfl, Nat.le_of_ble_eq_true rfl⟩ (hP.sub (ws' := ((lyW E y sett clA) ++ (neW E z op hg la tops dpt lst stry srt lin tokA wah fol par_ opn))) [17, 18, 19, 5, 6, 7, 8, 9, 10, 11, 12, 13, 14, 15, 16] rfl) rfl rfl hl.1 rfl rfl (Nat.le_of_ble_eq_true rfl) dX5_store_57 ⟨Nat.zero_le _, Nat.zero_le _⟩ (fun r57 p57 => ?_)
            subst p57
            refine lv_istore (lv' := [(5, .int (nI (kd (sett 2) (nF (aNest ab)) k))), (4, .ref (kq 1 0)), (0, .ref (ia 0)), (1, .int (nI 1)), (2, .int (nI i)), (3, .int (nI k))]) hx hb dX5_store_60 hl (by decide) rfl (fun ls hl => ?_)
            refine lv_aload hx hb dX5_store_62 (lv_at hl 1 rfl) ?_
            refine lv_iload hx hb dX5_store_64 (lv_at hl 0 rfl) ?_
            refine rv_i (n := 1) (G := G) (E := E) (As := [.int (nI (kd (sett 2) (nF (aNest ab)) k))]) (rest := []) (ci := 3) (q0 := 0) ⟨hx, hb, hml, hown, hts⟩ hK hZ hS (c_X3_takes l G E (kq 1) kn1 kz1 kl1 kp1 kk1 (kd (sett 2) (nF (aNest ab)) k) (kd_lt _ _ _) (by omega)) gX5_store_X3_takes rfl rfl rfl (by decide +kernel) ⟨Nat.le_of_ble_eq_true rfl, Nat.le_of_ble_eq_true rfl⟩ (hP.sub (ws' := (pkW E (kq 1) kn1 kz1 kl1 kp1 kk1)) [27, 28, 29, 30] rfl) rfl rfl hl.1 rfl rfl (Nat.le_of_ble_eq_true rfl) dX5_store_66 ⟨Nat.zero_le _, Nat.zero_le _⟩ (fun r66 p66 => ?_)
            rcases p66 with ⟨h66, rfl⟩ | ⟨h66, rfl⟩
            · have hks := h66
              rw [hsg 2 (by decide)] at hks
              refine n_if_ne (a := 1) (tgt := 75) hx hb (by decide) dX5_store_69 (by decide) (fun c69 => ?_) (fun c69 => absurd c69 (by decide))
              refine lv_aload hx hb dX5_store_75 (lv_at hl 1 rfl) ?_
              refine lv_iload_n hx hb dX5_store_77 rfl (lv_at hl 4 rfl) ?_
              refine lv_aload_n hx hb dX5_store_78 rfl (lv_at hl 2 rfl) ?_
              refine va_get (D := G) (ci := 5) (v := .ref (z 0)) (C := RX5) (T := TX5) (N := 7) hx hb hts hin5 hown hK hP 0 rfl rfl 1 (by decide) (hts (Cond.fieldLink RX5 19 "IndentRules" "nesting" "LIndentRules$Nesting;") (List.mem_of_getElem? (i := 4) rfl)) (fun _ h9 => h9) rfl dX5_store_79 ?_
              refine va_get (D := G) (ci := 2) (v := .ref (z 7)) (C := RX2) (T := TX2) (N := 14) hx hb hts hin2 hown hK hP 5 rfl rfl 6 (by decide) (hts (Cond.fieldLink RX5 121 "IndentRules$Nesting" "lineOf" "[I") (List.mem_of_getElem? (i := 5) rfl)) (fun _ h9 => h9) rfl dX5_store_82 ?_
              refine lv_iload_n hx hb dX5_store_85 rfl (lv_at hl 5 rfl) ?_
              refine k_iald (D := G) (tys := TYS E) (j := k) (f := lin) (n := 180) hx hb hK hP 11 0 rfl rfl (by omega) (by decide) dX5_store_86 ?_
              rw [(hCN.1 k hk).2.1]
              refine lv_aload_n hx hb dX5_store_87 rfl (lv_at hl 2 rfl) ?_
              refine va_get (D := G) (ci := 5) (v := .ref (y 0)) (C := RX5) (T := TX5) (N := 7) hx hb hts hin5 hown hK hP 0 rfl rfl 2 (by decide) (hts (Cond.fieldLink RX5 26 "IndentRules" "now" "LIndentRules$Layout;") (List.mem_of_getElem? (i := 3) rfl)) (fun _ h9 => h9) rfl dX5_store_88 ?_
              refine lv_aload_n hx hb dX5_store_91 rfl (lv_at hl 2 rfl) ?_
              refine va_get (D := G) (ci := 5) (v := .ref (z 0)) (C := RX5) (T := TX5) (N := 7) hx hb hts hin5 hown hK hP 0 rfl rfl 1 (by decide) (hts (Cond.fieldLink RX5 19 "IndentRules" "nesting" "LIndentRules$Nesting;") (List.mem_of_getElem? (i := 4) rfl)) (fun _ h9 => h9) rfl dX5_store_92 ?_
              refine lv_iload_n hx hb dX5_store_95 rfl (lv_at hl 5 rfl) ?_
              refine rv_i (n := 2) (G := G) (E := E) (As := [.ref (z 0), .int (nI k)]) (rest := [.int (nI (nF (aNest ab) 1 k)), .int (nI i), .ref (kq 1 0)]) (ci := 0) (q0 := 0) ⟨hx, hb, hml, hown, hts⟩ hK hZ hS (c_X0_placeOf l G E y sett clA z op hg la tops dpt lst stry srt lin tokA wah fol par_ opn k (nF (aNest ab)) (nO (aNest ab)) hLN (by first | assumption | omega)) gX5_store_X0_placeOf rfl rfl rfl (by decide +kernel) ⟨Nat.le_of_ble_eq_true rfl, Nat.le_of_ble_eq_true rfl⟩ (hP.sub (ws' := ((lyW E y sett clA) ++ (neW E z op hg la tops dpt lst stry srt lin tokA wah fol par_ opn))) [17, 18, 19, 5, 6, 7, 8, 9, 10, 11, 12, 13, 14, 15, 16] rfl) rfl rfl hl.1 rfl rfl (Nat.le_of_ble_eq_true rfl) dX5_store_96 ⟨Nat.zero_le _, Nat.zero_le _⟩ (fun r96 p96 => ?_)
              subst p96
              refine lv_iload hx hb dX5_store_99 (lv_at hl 0 rfl) ?_
              refine we_v (n := 4) (G := G) (E := E) (As := [.int (nI i), .int (nI (nF (aNest ab) 1 k)), .int (clA ((nF (aNest ab)) 1 k) + nI ((nF (aNest ab)) 3 k)), .int (nI (kd (sett 2) (nF (aNest ab)) k))]) (rest := []) (ci := 3) (q0 := 27) (X := (iaW E ia tx z y v kq gp gd) ++ (txW E tx n (slot oa pi)) ++ (neW E z op hg la tops dpt lst stry srt lin tokA wah fol par_ opn) ++ (lyW E y sett clA) ++ (lyW E v setv clV) ++ (pkW E (kq 0) kn0 kz0 kl0 kp0 kk0) ++ (pkW E (kq 1) kn1 kz1 kl1 kp1 kk1) ++ (pkW E (kq 2) kn2 kz2 kl2 kp2 kk2)) (pl := poW E oa ta tl ct ps sn cb tk) (cx := pkW E (kq 1) kn1 kz1 kl1 kp1 kk1) (ex := ([] : va_W)) (wn := fun (_ : Unit) => pkW E (kq 1) kn1 kz1 (upd kl1 i (nI (nF (aNest ab) 1 k))) (upd kp1 i (clA ((nF (aNest ab)) 1 k) + nI ((nF (aNest ab)) 3 k))) (upd kk1 i (nI (kd (sett 2) (nF (aNest ab)) k)))) ⟨hx, hb, hml, hown, hts⟩ hK hZ hS hA (fun sz => by have z := c_X3_fill l G E (kq 1) kn1 kz1 kl1 kp1 kk1 i (nI (nF (aNest ab) 1 k)) (clA ((nF (aNest ab)) 1 k) + nI ((nF (aNest ab)) 3 k)) (nI (kd (sett 2) (nF (aNest ab)) k)) (by omega) sz; simpa only [List.append_nil] using z) gX5_store_X3_fill rfl rfl rfl (by decide +kernel) ⟨Nat.le_of_ble_eq_true rfl, Nat.le_of_ble_eq_true rfl⟩ hP hD [27, 28, 29, 30] rfl (by decide) (fun k => k) (fun k q h => by simp at h) (fun _ _ _ _ h => h) (fun _ => rfl) rfl rfl hl.1 rfl rfl (Nat.le_of_ble_eq_true rfl) dX5_store_101 ⟨Nat.zero_le _, Nat.zero_le _⟩ (fun u101 H locs p101 hP hD hS => ?_)
              have hP : va_P G vwCl (((iaW E ia tx z y v kq gp gd) ++ (txW E tx n (slot oa pi)) ++ (neW E z op hg la tops dpt lst stry srt lin tokA wah fol par_ opn) ++ (lyW E y sett clA) ++ (lyW E v setv clV) ++ (pkW E (kq 0) kn0 kz0 kl0 kp0 kk0) ++ (pkW E (kq 1) kn1 kz1 (upd kl1 i (nI (nF (aNest ab) 1 k))) (upd kp1 i (clA ((nF (aNest ab)) 1 k) + nI ((nF (aNest ab)) 3 k))) (upd kk1 i (nI (kd (sett 2) (nF (aNest ab)) k)))) ++ (pkW E (kq 2) kn2 kz2 kl2 kp2 kk2)) ++ poW E oa ta tl ct ps sn cb tk) H := hP
              have hD : va_D A (((iaW E ia tx z y v kq gp gd) ++ (txW E tx n (slot oa pi)) ++ (neW E z op hg la tops dpt lst stry srt lin tokA wah fol par_ opn) ++ (lyW E y sett clA) ++ (lyW E v setv clV) ++ (pkW E (kq 0) kn0 kz0 kl0 kp0 kk0) ++ (pkW E (kq 1) kn1 kz1 (upd kl1 i (nI (nF (aNest ab) 1 k))) (upd kp1 i (clA ((nF (aNest ab)) 1 k) + nI ((nF (aNest ab)) 3 k))) (upd kk1 i (nI (kd (sett 2) (nF (aNest ab)) k)))) ++ (pkW E (kq 2) kn2 kz2 kl2 kp2 kk2)) ++ poW E oa ta tl ct ps sn cb tk) := hD
              refine lv_iconst (v := (nI 1)) hx hb dX5_store_104 (by decide) ?_
              exact W.iret (v := (nI 1)) hx hb hr (fun tZ htZ hWZ => ⟨⟨_, (kl0, kp0, kk0, (upd kl1 i (nI (nF (aNest ab) 1 k))), (upd kp1 i (clA ((nF (aNest ab)) 1 k) + nI ((nF (aNest ab)) 3 k))), (upd kk1 i (nI (kd (sett 2) (nF (aNest ab)) k))), kl2, kp2, kk2), rfl, by rw [fStore_ok (by decide) hk hob hi2 ho1 (by rw [← hn1]; exact hks), ← hcl _ hlk, ← hsg 2 (by decide)]; exact ⟨rfl, hN, okA_put hok (by decide) (k_nneg (by decide) hFl), hop, hPL, hSN, hpp, hCN, hsg, hcl, pkC_oth2 hk0 (by decide), pkC_put hk1, pkC_oth2 hk2 (by decide)⟩, by show va_P G vwCl _ tZ.heap; rw [htZ]; exact hP⟩, hS.F htZ⟩) hS.2.2 dX5_store_105
            · have hks := h66
              rw [hsg 2 (by decide)] at hks
              refine n_if_ne (a := 0) (tgt := 75) hx hb (by decide) dX5_store_69 (by decide) (fun c69 => absurd c69 (by decide)) (fun c69 => ?_)
              refine lv_bipush (v := (-11)) hx hb dX5_store_72 (by decide) ?_
              exact W.iret (v := (-11)) hx hb hr (fun tZ htZ hWZ => ⟨⟨_, (kl0, kp0, kk0, kl1, kp1, kk1, kl2, kp2, kk2), rfl, by rw [fStore_11 (by decide) hk hob hi2 ho1 (by rw [← hn1]; exact hks)]; exact ⟨rfl, hab⟩, by show va_P G vwCl _ tZ.heap; rw [htZ]; exact hP⟩, hS.F htZ⟩) hS.2.2 dX5_store_74
          · refine n_if_ne (a := 0) (tgt := 48) hx hb (by decide) dX5_store_42 (by decide) (fun c42 => absurd c42 (by decide)) (fun c42 => ?_)
            refine lv_bipush (v := (-13)) hx hb dX5_store_45 (by decide) ?_
            exact W.iret (v := (-13)) hx hb hr (fun tZ htZ hWZ => ⟨⟨_, (kl0, kp0, kk0, kl1, kp1, kk1, kl2, kp2, kk2), rfl, by rw [fStore_13 (by decide) hk hob (by omega) (fun q => h39 (by rw [hz1]; exact (ixP_iff (by omega)).mp q))]; exact ⟨rfl, hab⟩, by show va_P G vwCl _ tZ.heap; rw [htZ]; exact hP⟩, hS.F htZ⟩) hS.2.2 dX5_store_47
        · refine lv_bipush (v := (-3)) hx hb dX5_store_33 (by decide) ?_
          exact W.iret (v := (-3)) hx hb hr (fun tZ htZ hWZ => ⟨⟨_, (kl0, kp0, kk0, kl1, kp1, kk1, kl2, kp2, kk2), rfl, by rw [fStore_3 (by decide) hk hob (by omega)]; exact ⟨rfl, hab⟩, by show va_P G vwCl _ tZ.heap; rw [htZ]; exact hP⟩, hS.F htZ⟩) hS.2.2 dX5_store_35
      · have ho1 : ¬ ixP a3 (nO (aNest ab)) := fun q => h9 (by rw [hop]; exact (ixP_iff (by omega)).mp q)
        refine n_if_ne (a := 0) (tgt := 17) hx hb (by decide) dX5_store_12 (by decide) (fun c12 => absurd c12 (by decide)) (fun c12 => ?_)
        refine lv_iconst (v := (-1)) hx hb dX5_store_15 (by decide) ?_
        exact W.iret (v := (-1)) hx hb hr (fun tZ htZ hWZ => ⟨⟨_, (kl0, kp0, kk0, kl1, kp1, kk1, kl2, kp2, kk2), rfl, by rw [fStore_1 (fun q => ho1 q.2)]; exact ⟨rfl, hab⟩, by show va_P G vwCl _ tZ.heap; rw [htZ]; exact hP⟩, hS.F htZ⟩) hS.2.2 dX5_store_16
    · exact absurd ⟨1, by decide, rfl⟩ h1
  · have hpk1 : True := trivial
    refine lv_iload_n hx hb dX5_store_0 rfl (lv_at hl 1 rfl) ?_
    refine rs_i (n := 1) (G := G) (E := E) (As := [.int (nI 2)]) (rest := []) ⟨hx, hb, hml, hown, hts⟩ hK hZ hS (c_X5_isPocket l G E (nI 2)) gX5_store_X5_isPocket rfl rfl rfl (by decide +kernel) ⟨Nat.le_of_ble_eq_true rfl, Nat.le_of_ble_eq_true rfl⟩ (fun k q h => by simp at h) hl.1 rfl rfl (Nat.le_of_ble_eq_true rfl) dX5_store_1 ⟨Nat.zero_le _, Nat.zero_le _⟩ (fun r1 p1 => ?_)
    rcases p1 with ⟨h1, rfl⟩ | ⟨h1, rfl⟩
    · refine n_if_eq (a := 1) (tgt := 15) hx hb (by decide) dX5_store_4 (by decide) (fun c4 => absurd c4 (by decide)) (fun c4 => ?_)
      refine lv_aload_n hx hb dX5_store_7 rfl (lv_at hl 0 rfl) ?_
      refine lv_iload_n hx hb dX5_store_8 rfl (lv_at hl 3 rfl) ?_
      refine rv_i (n := 1) (G := G) (E := E) (As := [.int a3]) (rest := []) (ci := 5) (q0 := 0) ⟨hx, hb, hml, hown, hts⟩ hK hZ hS (c_X5_isOpener l G E ia tx z y v kq gp gd n pi op hg la tops dpt lst stry srt lin tokA wah fol par_ opn sett clA setv clV kn0 kz0 kn1 kz1 kn2 kz2 kl0 kp0 kk0 kl1 kp1 kk1 kl2 kp2 kk2 oa ta tl ct ps sn cb tk a3 (by rw [hop]; exact hob)) gX5_store_X5_isOpener rfl rfl rfl (by decide +kernel) ⟨Nat.le_of_ble_eq_true rfl, Nat.le_of_ble_eq_true rfl⟩ hP rfl rfl hl.1 rfl rfl (Nat.le_of_ble_eq_true rfl) dX5_store_9 ⟨Nat.zero_le _, Nat.zero_le _⟩ (fun r9 p9 => ?_)
      rcases p9 with ⟨⟨k, hk, rfl⟩, rfl⟩ | ⟨h9, rfl⟩
      · have hk : k < nO (aNest ab) := by rw [← hop]; exact hk
        refine n_if_ne (a := 1) (tgt := 17) hx hb (by decide) dX5_store_12 (by decide) (fun c12 => ?_) (fun c12 => absurd c12 (by decide))
        have hlk : nF (aNest ab) 1 k < n := by rw [hN]; exact (hwN.2.2.2.1 k hk).1
        have hFl : nF (aNest ab) 1 k < 2 ^ 31 := by omega
        refine lv_aload_n hx hb dX5_store_17 rfl (lv_at hl 0 rfl) ?_
        refine va_get (D := G) (ci := 5) (v := .ref (ia 7)) (C := RX5) (T := TX5) (N := 7) hx hb hts hin5 hown hK hP 0 rfl rfl 6 (by decide) (hts (Cond.fieldLink RX5 39 "IndentRules" "pockets" "[LIndentRules$Pocket;") (List.mem_of_getElem? (i := 1) rfl)) (fun _ h9 => h9) rfl dX5_store_18 ?_
        refine lv_iload_n hx hb dX5_store_21 rfl (lv_at hl 1 rfl) ?_
        refine k_aald (D := G) (tys := TYS E) (j := 2) (f := (pkA kq)) (n := 3) hx hb hK hP 2 3 rfl rfl (by decide) (by decide) dX5_store_22 ?_
        refine W.eq (g2 := F0 m 23 ls [.ref (kq 2 0)]) rfl ?_
        refine lv_astore (lv' := [(4, .ref (kq 2 0)), (0, .ref (ia 0)), (1, .int (nI 2)), (2, .int a2), (3, .int (nI k))]) hx hb dX5_store_23 hl (by decide) rfl (fun ls hl => ?_)
        refine lv_aload hx hb dX5_store_25 (lv_at hl 0 rfl) ?_
        refine va_get (D := G) (ci := 3) (v := .int (nI kz2)) (C := RX3) (T := TX3) (N := 5) hx hb hts hin3 hown hK hP 31 rfl rfl 1 (by decide) (hts (Cond.fieldLink RX5 177 "IndentRules$Pocket" "size" "I") (List.mem_of_getElem? (i := 2) rfl)) (fun _ h9 => h9) rfl dX5_store_27 ?_
        refine n_if_ne (a := kz2) (tgt := 36) hx hb (by omega) dX5_store_30 (by decide) (fun c30 => ?_) (fun c30 => ?_)
        · refine lv_aload hx hb dX5_store_36 (lv_at hl 0 rfl) ?_
          refine lv_iload_n hx hb dX5_store_38 rfl (lv_at hl 3 rfl) ?_
          refine rv_i (n := 1) (G := G) (E := E) (As := [.int a2]) (rest := []) (ci := 3) (q0 := 0) ⟨hx, hb, hml, hown, hts⟩ hK hZ hS (c_X3_hasCell l G E (kq 2) kn2 kz2 kl2 kp2 kk2 a2 (by omega)) gX5_store_X3_hasCell rfl rfl rfl (by decide +kernel) ⟨Nat.le_of_ble_eq_true rfl, Nat.le_of_ble_eq_true rfl⟩ (hP.sub (ws' := (pkW E (kq 2) kn2 kz2 kl2 kp2 kk2)) [31, 32, 33, 34] rfl) rfl rfl hl.1 rfl rfl (Nat.le_of_ble_eq_true rfl) dX5_store_39 ⟨Nat.zero_le _, Nat.zero_le _⟩ (fun r39 p39 => ?_)
          rcases p39 with ⟨⟨i, hi, rfl⟩, rfl⟩ | ⟨h39, rfl⟩
          · have hi2 : i < aC ab 2 := by omega
            refine n_if_ne (a := 1) (tgt := 48) hx hb (by decide) dX5_store_42 (by decide) (fun c42 => ?_) (fun c42 => absurd c42 (by decide))
            refine lv_aload_n hx hb dX5_store_48 rfl (lv_at hl 1 rfl) ?_
            refine va_get (D := G) (ci := 5) (v := .ref (y 0)) (C := RX5) (T := TX5) (N := 7) hx hb hts hin5 hown hK hP 0 rfl rfl 2 (by decide) (hts (Cond.fieldLink RX5 26 "IndentRules" "now" "LIndentRules$Layout;") (List.mem_of_getElem? (i := 3) rfl)) (fun _ h9 => h9) rfl dX5_store_49 ?_
            refine lv_aload_n hx hb dX5_store_52 rfl (lv_at hl 1 rfl) ?_
            refine va_get (D := G) (ci := 5) (v := .ref (z 0)) (C := RX5) (T := TX5) (N := 7) hx hb hts hin5 hown hK hP 0 rfl rfl 1 (by decide) (hts (Cond.fieldLink RX5 19 "IndentRules" "nesting" "LIndentRules$Nesting;") (List.mem_of_getElem? (i := 4) rfl)) (fun _ h9 => h9) rfl dX5_store_53 ?_
            refine lv_iload_n hx hb dX5_store_56 rfl (lv_at hl 4 rfl) ?_
            refine rv_i (n := 2) (G := G) (E := E) (As := [.ref (z 0), .int (nI k)]) (rest := []) (ci := 0) (q0 := 0) ⟨hx, hb, hml, hown, hts⟩ hK hZ hS (c_X0_kindOf l G E y sett clA z op hg la tops dpt lst stry srt lin tokA wah fol par_ opn k (nF (aNest ab)) (nO (aNest ab)) hLN (by first | assumption | omega)) gX5_store_X0_kindOf rfl rfl rfl (by decide +kernel) ⟨Nat.le_of_ble_eq_true rfl, Nat.le_of_ble_eq_true rfl⟩ (hP.sub (ws' := ((lyW E y sett clA) ++ (neW E z op hg la tops dpt lst stry srt lin tokA wah fol par_ opn))) [17, 18, 19, 5, 6, 7, 8, 9, 10, 11, 12, 13, 14, 15, 16] rfl) rfl rfl hl.1 rfl rfl (Nat.le_of_ble_eq_true rfl) dX5_store_57 ⟨Nat.zero_le _, Nat.zero_le _⟩ (fun r57 p57 => ?_)
            subst p57
            refine lv_istore (lv' := [(5, .int (nI (kd (sett 2) (nF (aNest ab)) k))), (4, .ref (kq 2 0)), (0, .ref (ia 0)), (1, .int (nI 2)), (2, .int (nI i)), (3, .int (nI k))]) hx hb dX5_store_60 hl (by decide) rfl (fun ls hl => ?_)
            refine lv_aload hx hb dX5_store_62 (lv_at hl 1 rfl) ?_
            refine lv_iload hx hb dX5_store_64 (lv_at hl 0 rfl) ?_
            refine rv_i (n := 1) (G := G) (E := E) (As := [.int (nI (kd (sett 2) (nF (aNest ab)) k))]) (rest := []) (ci := 3) (q0 := 0) ⟨hx, hb, hml, hown, hts⟩ hK hZ hS (c_X3_takes l G E (kq 2) kn2 kz2 kl2 kp2 kk2 (kd (sett 2) (nF (aNest ab)) k) (kd_lt _ _ _) (by omega)) gX5_store_X3_takes rfl rfl rfl (by decide +kernel) ⟨Nat.le_of_ble_eq_true rfl, Nat.le_of_ble_eq_true rfl⟩ (hP.sub (ws' := (pkW E (kq 2) kn2 kz2 kl2 kp2 kk2)) [31, 32, 33, 34] rfl) rfl rfl hl.1 rfl rfl (Nat.le_of_ble_eq_true rfl) dX5_store_66 ⟨Nat.zero_le _, Nat.zero_le _⟩ (fun r66 p66 => ?_)
            rcases p66 with ⟨h66, rfl⟩ | ⟨h66, rfl⟩
            · have hks := h66
              rw [hsg 2 (by decide)] at hks
              refine n_if_ne (a := 1) (tgt := 75) hx hb (by decide) dX5_store_69 (by decide) (fun c69 => ?_) (fun c69 => absurd c69 (by decide))
              refine lv_aload hx hb dX5_store_75 (lv_at hl 1 rfl) ?_
              refine lv_iload_n hx hb dX5_store_77 rfl (lv_at hl 4 rfl) ?_
              refine lv_aload_n hx hb dX5_store_78 rfl (lv_at hl 2 rfl) ?_
              refine va_get (D := G) (ci := 5) (v := .ref (z 0)) (C := RX5) (T := TX5) (N := 7) hx hb hts hin5 hown hK hP 0 rfl rfl 1 (by decide) (hts (Cond.fieldLink RX5 19 "IndentRules" "nesting" "LIndentRules$Nesting;") (List.mem_of_getElem? (i := 4) rfl)) (fun _ h9 => h9) rfl dX5_store_79 ?_
              refine va_get (D := G) (ci := 2) (v := .ref (z 7)) (C := RX2) (T := TX2) (N := 14) hx hb hts hin2 hown hK hP 5 rfl rfl 6 (by decide) (hts (Cond.fieldLink RX5 121 "IndentRules$Nesting" "lineOf" "[I") (List.mem_of_getElem? (i := 5) rfl)) (fun _ h9 => h9) rfl dX5_store_82 ?_
              refine lv_iload_n hx hb dX5_store_85 rfl (lv_at hl 5 rfl) ?_
              refine k_iald (D := G) (tys := TYS E) (j := k) (f := lin) (n := 180) hx hb hK hP 11 0 rfl rfl (by omega) (by decide) dX5_store_86 ?_
              rw [(hCN.1 k hk).2.1]
              refine lv_aload_n hx hb dX5_store_87 rfl (lv_at hl 2 rfl) ?_
              refine va_get (D := G) (ci := 5) (v := .ref (y 0)) (C := RX5) (T := TX5) (N := 7) hx hb hts hin5 hown hK hP 0 rfl rfl 2 (by decide) (hts (Cond.fieldLink RX5 26 "IndentRules" "now" "LIndentRules$Layout;") (List.mem_of_getElem? (i := 3) rfl)) (fun _ h9 => h9) rfl dX5_store_88 ?_
              refine lv_aload_n hx hb dX5_store_91 rfl (lv_at hl 2 rfl) ?_
              refine va_get (D := G) (ci := 5) (v := .ref (z 0)) (C := RX5) (T := TX5) (N := 7) hx hb hts hin5 hown hK hP 0 rfl rfl 1 (by decide) (hts (Cond.fieldLink RX5 19 "IndentRules" "nesting" "LIndentRules$Nesting;") (List.mem_of_getElem? (i := 4) rfl)) (fun _ h9 => h9) rfl dX5_store_92 ?_
              refine lv_iload_n hx hb dX5_store_95 rfl (lv_at hl 5 rfl) ?_
              refine rv_i (n := 2) (G := G) (E := E) (As := [.ref (z 0), .int (nI k)]) (rest := [.int (nI (nF (aNest ab) 1 k)), .int (nI i), .ref (kq 2 0)]) (ci := 0) (q0 := 0) ⟨hx, hb, hml, hown, hts⟩ hK hZ hS (c_X0_placeOf l G E y sett clA z op hg la tops dpt lst stry srt lin tokA wah fol par_ opn k (nF (aNest ab)) (nO (aNest ab)) hLN (by first | assumption | omega)) gX5_store_X0_placeOf rfl rfl rfl (by decide +kernel) ⟨Nat.le_of_ble_eq_true rfl, Nat.le_of_ble_eq_true rfl⟩ (hP.sub (ws' := ((lyW E y sett clA) ++ (neW E z op hg la tops dpt lst stry srt lin tokA wah fol par_ opn))) [17, 18, 19, 5, 6, 7, 8, 9, 10, 11, 12, 13, 14, 15, 16] rfl) rfl rfl hl.1 rfl rfl (Nat.le_of_ble_eq_true rfl) dX5_store_96 ⟨Nat.zero_le _, Nat.zero_le _⟩ (fun r96 p96 => ?_)
              subst p96
              refine lv_iload hx hb dX5_store_99 (lv_at hl 0 rfl) ?_
              refine we_v (n := 4) (G := G) (E := E) (As := [.int (nI i), .int (nI (nF (aNest ab) 1 k)), .int (clA ((nF (aNest ab)) 1 k) + nI ((nF (aNest ab)) 3 k)), .int (nI (kd (sett 2) (nF (aNest ab)) k))]) (rest := []) (ci := 3) (q0 := 31) (X := (iaW E ia tx z y v kq gp gd) ++ (txW E tx n (slot oa pi)) ++ (neW E z op hg la tops dpt lst stry srt lin tokA wah fol par_ opn) ++ (lyW E y sett clA) ++ (lyW E v setv clV) ++ (pkW E (kq 0) kn0 kz0 kl0 kp0 kk0) ++ (pkW E (kq 1) kn1 kz1 kl1 kp1 kk1) ++ (pkW E (kq 2) kn2 kz2 kl2 kp2 kk2)) (pl := poW E oa ta tl ct ps sn cb tk) (cx := pkW E (kq 2) kn2 kz2 kl2 kp2 kk2) (ex := ([] : va_W)) (wn := fun (_ : Unit) => pkW E (kq 2) kn2 kz2 (upd kl2 i (nI (nF (aNest ab) 1 k))) (upd kp2 i (clA ((nF (aNest ab)) 1 k) + nI ((nF (aNest ab)) 3 k))) (upd kk2 i (nI (kd (sett 2) (nF (aNest ab)) k)))) ⟨hx, hb, hml, hown, hts⟩ hK hZ hS hA (fun sz => by have z := c_X3_fill l G E (kq 2) kn2 kz2 kl2 kp2 kk2 i (nI (nF (aNest ab) 1 k)) (clA ((nF (aNest ab)) 1 k) + nI ((nF (aNest ab)) 3 k)) (nI (kd (sett 2) (nF (aNest ab)) k)) (by omega) sz; simpa only [List.append_nil] using z) gX5_store_X3_fill rfl rfl rfl (by decide +kernel) ⟨Nat.le_of_ble_eq_true rfl, Nat.le_of_ble_eq_true rfl⟩ hP hD [31, 32, 33, 34] rfl (by decide) (fun k => k) (fun k q h => by simp at h) (fun _ _ _ _ h => h) (fun _ => rfl) rfl rfl hl.1 rfl rfl (Nat.le_of_ble_eq_true rfl) dX5_store_101 ⟨Nat.zero_le _, Nat.zero_le _⟩ (fun u101 H locs p101 hP hD hS => ?_)
              have hP : va_P G vwCl (((iaW E ia tx z y v kq gp gd) ++ (txW E tx n (slot oa pi)) ++ (neW E z op hg la tops dpt lst stry srt lin tokA wah fol par_ opn) ++ (lyW E y sett clA) ++ (lyW E v setv clV) ++ (pkW E (kq 0) kn0 kz0 kl0 kp0 kk0) ++ (pkW E (kq 1) kn1 kz1 kl1 kp1 kk1) ++ (pkW E (kq 2) kn2 kz2 (upd kl2 i (nI (nF (aNest ab) 1 k))) (upd kp2 i (clA ((nF (aNest ab)) 1 k) + nI ((nF (aNest ab)) 3 k))) (upd kk2 i (nI (kd (sett 2) (nF (aNest ab)) k))))) ++ poW E oa ta tl ct ps sn cb tk) H := hP
              have hD : va_D A (((iaW E ia tx z y v kq gp gd) ++ (txW E tx n (slot oa pi)) ++ (neW E z op hg la tops dpt lst stry srt lin tokA wah fol par_ opn) ++ (lyW E y sett clA) ++ (lyW E v setv clV) ++ (pkW E (kq 0) kn0 kz0 kl0 kp0 kk0) ++ (pkW E (kq 1) kn1 kz1 kl1 kp1 kk1) ++ (pkW E (kq 2) kn2 kz2 (upd kl2 i (nI (nF (aNest ab) 1 k))) (upd kp2 i (clA ((nF (aNest ab)) 1 k) + nI ((nF (aNest ab)) 3 k))) (upd kk2 i (nI (kd (sett 2) (nF (aNest ab)) k))))) ++ poW E oa ta tl ct ps sn cb tk) := hD
              refine lv_iconst (v := (nI 1)) hx hb dX5_store_104 (by decide) ?_
              exact W.iret (v := (nI 1)) hx hb hr (fun tZ htZ hWZ => ⟨⟨_, (kl0, kp0, kk0, kl1, kp1, kk1, (upd kl2 i (nI (nF (aNest ab) 1 k))), (upd kp2 i (clA ((nF (aNest ab)) 1 k) + nI ((nF (aNest ab)) 3 k))), (upd kk2 i (nI (kd (sett 2) (nF (aNest ab)) k)))), rfl, by rw [fStore_ok (by decide) hk hob hi2 ho2 (by rw [← hn2]; exact hks), ← hcl _ hlk, ← hsg 2 (by decide)]; exact ⟨rfl, hN, okA_put hok (by decide) (k_nneg (by decide) hFl), hop, hPL, hSN, hpp, hCN, hsg, hcl, pkC_oth2 hk0 (by decide), pkC_oth2 hk1 (by decide), pkC_put hk2⟩, by show va_P G vwCl _ tZ.heap; rw [htZ]; exact hP⟩, hS.F htZ⟩) hS.2.2 dX5_store_105
            · have hks := h66
              rw [hsg 2 (by decide)] at hks
              refine n_if_ne (a := 0) (tgt := 75) hx hb (by decide) dX5_store_69 (by decide) (fun c69 => absurd c69 (by decide)) (fun c69 => ?_)
              refine lv_bipush (v := (-11)) hx hb dX5_store_72 (by decide) ?_
              exact W.iret (v := (-11)) hx hb hr (fun tZ htZ hWZ => ⟨⟨_, (kl0, kp0, kk0, kl1, kp1, kk1, kl2, kp2, kk2), rfl, by rw [fStore_11 (by decide) hk hob hi2 ho2 (by rw [← hn2]; exact hks)]; exact ⟨rfl, hab⟩, by show va_P G vwCl _ tZ.heap; rw [htZ]; exact hP⟩, hS.F htZ⟩) hS.2.2 dX5_store_74
          · refine n_if_ne (a := 0) (tgt := 48) hx hb (by decide) dX5_store_42 (by decide) (fun c42 => absurd c42 (by decide)) (fun c42 => ?_)
            refine lv_bipush (v := (-13)) hx hb dX5_store_45 (by decide) ?_
            exact W.iret (v := (-13)) hx hb hr (fun tZ htZ hWZ => ⟨⟨_, (kl0, kp0, kk0, kl1, kp1, kk1, kl2, kp2, kk2), rfl, by rw [fStore_13 (by decide) hk hob (by omega) (fun q => h39 (by rw [hz2]; exact (ixP_iff (by omega)).mp q))]; exact ⟨rfl, hab⟩, by show va_P G vwCl _ tZ.heap; rw [htZ]; exact hP⟩, hS.F htZ⟩) hS.2.2 dX5_store_47
        · refine lv_bipush (v := (-3)) hx hb dX5_store_33 (by decide) ?_
          exact W.iret (v := (-3)) hx hb hr (fun tZ htZ hWZ => ⟨⟨_, (kl0, kp0, kk0, kl1, kp1, kk1, kl2, kp2, kk2), rfl, by rw [fStore_3 (by decide) hk hob (by omega)]; exact ⟨rfl, hab⟩, by show va_P G vwCl _ tZ.heap; rw [htZ]; exact hP⟩, hS.F htZ⟩) hS.2.2 dX5_store_35
      · have ho1 : ¬ ixP a3 (nO (aNest ab)) := fun q => h9 (by rw [hop]; exact (ixP_iff (by omega)).mp q)
        refine n_if_ne (a := 0) (tgt := 17) hx hb (by decide) dX5_store_12 (by decide) (fun c12 => absurd c12 (by decide)) (fun c12 => ?_)
        refine lv_iconst (v := (-1)) hx hb dX5_store_15 (by decide) ?_
        exact W.iret (v := (-1)) hx hb hr (fun tZ htZ hWZ => ⟨⟨_, (kl0, kp0, kk0, kl1, kp1, kk1, kl2, kp2, kk2), rfl, by rw [fStore_1 (fun q => ho1 q.2)]; exact ⟨rfl, hab⟩, by show va_P G vwCl _ tZ.heap; rw [htZ]; exact hP⟩, hS.F htZ⟩) hS.2.2 dX5_store_16
    · exact absurd ⟨2, by decide, rfl⟩ h1
  · have hpk1 : True := trivial
    refine lv_iload_n hx hb dX5_store_0 rfl (lv_at hl 1 rfl) ?_
    refine rs_i (n := 1) (G := G) (E := E) (As := [.int a1]) (rest := []) ⟨hx, hb, hml, hown, hts⟩ hK hZ hS (c_X5_isPocket l G E a1) gX5_store_X5_isPocket rfl rfl rfl (by decide +kernel) ⟨Nat.le_of_ble_eq_true rfl, Nat.le_of_ble_eq_true rfl⟩ (fun k q h => by simp at h) hl.1 rfl rfl (Nat.le_of_ble_eq_true rfl) dX5_store_1 ⟨Nat.zero_le _, Nat.zero_le _⟩ (fun r1 p1 => ?_)
    rcases p1 with ⟨h1, rfl⟩ | ⟨h1, rfl⟩
    · exact absurd ((ixP_iff (by decide)).mpr h1) hx1
    · refine n_if_eq (a := 0) (tgt := 15) hx hb (by decide) dX5_store_4 (by decide) (fun c4 => ?_) (fun c4 => absurd c4 (by decide))
      refine lv_iconst (v := (-1)) hx hb dX5_store_15 (by decide) ?_
      exact W.iret (v := (-1)) hx hb hr (fun tZ htZ hWZ => ⟨⟨_, (kl0, kp0, kk0, kl1, kp1, kk1, kl2, kp2, kk2), rfl, by rw [fStore_1 (fun q => hx1 q.1)]; exact ⟨rfl, hab⟩, by show va_P G vwCl _ tZ.heap; rw [htZ]; exact hP⟩, hS.F htZ⟩) hS.2.2 dX5_store_16

set_option maxHeartbeats 4000000 in
set_option maxRecDepth 100000 in
theorem c_X5_copy (l : Launch) (G : va_G) (E : cEnv) (ia tx z y v : Nat → Nat) (kq : Nat → Nat → Nat) (gp : Int32) (gd : Nat → Int32) (n : Nat) (pi : Nat → Nat) (op hg la : Nat) (tops dpt lst stry srt lin tokA wah fol par_ opn : Nat → Int32) (sett clA setv clV : Nat → Int32) (kn0 kz0 kn1 kz1 kn2 kz2 : Nat) (kl0 kp0 kk0 kl1 kp1 kk1 kl2 kp2 kk2 : Nat → Int32) (oa ta : Nat → Nat) (tl ct ps : Nat → Nat) (sn cb : Nat → Int32) (tk : Nat → Nat → Int32) (a1 a2 : Int32) (ab : ABS) (hab : ClsOk ab n op pi tl ct ps sn tk tops dpt lst stry srt lin tokA wah fol par_ opn sett clA kn0 kz0 kn1 kz1 kn2 kz2 kl0 kp0 kk0 kl1 kp1 kk1 kl2 kp2 kk2) (sz : Nat) : Met l yX5_copy wsX5_copy ({ frames := 2, cells := 0, slots := 0, locals := 46 }) (va_Pc [.ref (ia 0), .int a1, .int a2] (PW G E (((iaW E ia tx z y v kq gp gd) ++ (txW E tx n (slot oa pi)) ++ (neW E z op hg la tops dpt lst stry srt lin tokA wah fol par_ opn) ++ (lyW E y sett clA) ++ (lyW E v setv clV) ++ (pkW E (kq 0) kn0 kz0 kl0 kp0 kk0) ++ (pkW E (kq 1) kn1 kz1 kl1 kp1 kk1) ++ (pkW E (kq 2) kn2 kz2 kl2 kp2 kk2)) ++ poW E oa ta tl ct ps sn cb tk) sz)) (va_Qi (fun (r : Int32) (u : (Nat) × (Nat) × (Nat) × (Nat) × (Nat) × (Nat) × (Nat → Int32) × (Nat → Int32) × (Nat → Int32) × (Nat → Int32) × (Nat → Int32) × (Nat → Int32) × (Nat → Int32) × (Nat → Int32) × (Nat → Int32)) => r = (fCopy ab a1 a2).1 ∧ ClsOk ((fCopy ab a1 a2).2) n op pi tl ct ps sn tk tops dpt lst stry srt lin tokA wah fol par_ opn sett clA u.1 u.2.1 u.2.2.1 u.2.2.2.1 u.2.2.2.2.1 u.2.2.2.2.2.1 u.2.2.2.2.2.2.1 u.2.2.2.2.2.2.2.1 u.2.2.2.2.2.2.2.2.1 u.2.2.2.2.2.2.2.2.2.1 u.2.2.2.2.2.2.2.2.2.2.1 u.2.2.2.2.2.2.2.2.2.2.2.1 u.2.2.2.2.2.2.2.2.2.2.2.2.1 u.2.2.2.2.2.2.2.2.2.2.2.2.2.1 u.2.2.2.2.2.2.2.2.2.2.2.2.2.2) (fun (u : (Nat) × (Nat) × (Nat) × (Nat) × (Nat) × (Nat) × (Nat → Int32) × (Nat → Int32) × (Nat → Int32) × (Nat → Int32) × (Nat → Int32) × (Nat → Int32) × (Nat → Int32) × (Nat → Int32) × (Nat → Int32)) tQ => va_P G vwCl (((iaW E ia tx z y v kq gp gd) ++ (txW E tx n (slot oa pi)) ++ (neW E z op hg la tops dpt lst stry srt lin tokA wah fol par_ opn) ++ (lyW E y sett clA) ++ (lyW E v setv clV) ++ (pkW E (kq 0) u.1 u.2.1 u.2.2.2.2.2.2.1 u.2.2.2.2.2.2.2.1 u.2.2.2.2.2.2.2.2.1) ++ (pkW E (kq 1) u.2.2.1 u.2.2.2.1 u.2.2.2.2.2.2.2.2.2.1 u.2.2.2.2.2.2.2.2.2.2.1 u.2.2.2.2.2.2.2.2.2.2.2.1) ++ (pkW E (kq 2) u.2.2.2.2.1 u.2.2.2.2.2.1 u.2.2.2.2.2.2.2.2.2.2.2.2.1 u.2.2.2.2.2.2.2.2.2.2.2.2.2.1 u.2.2.2.2.2.2.2.2.2.2.2.2.2.2)) ++ poW E oa ta tl ct ps sn cb tk) tQ.heap) (va_A (((iaW E ia tx z y v kq gp gd) ++ (txW E tx n (slot oa pi)) ++ (neW E z op hg la tops dpt lst stry srt lin tokA wah fol par_ opn) ++ (lyW E y sett clA) ++ (lyW E v setv clV) ++ (pkW E (kq 0) kn0 kz0 kl0 kp0 kk0) ++ (pkW E (kq 1) kn1 kz1 kl1 kp1 kk1) ++ (pkW E (kq 2) kn2 kz2 kl2 kp2 kk2)) ++ poW E oa ta tl ct ps sn cb tk) sz)) 0 0 (va_A (((iaW E ia tx z y v kq gp gd) ++ (txW E tx n (slot oa pi)) ++ (neW E z op hg la tops dpt lst stry srt lin tokA wah fol par_ opn) ++ (lyW E y sett clA) ++ (lyW E v setv clV) ++ (pkW E (kq 0) kn0 kz0 kl0 kp0 kk0) ++ (pkW E (kq 1) kn1 kz1 kl1 kp1 kk1) ++ (pkW E (kq 2) kn2 kz2 kl2 kp2 kk2)) ++ poW E oa ta tl ct ps sn cb tk) sz) := by
  refine Met.ofW (cc := cX5_copy) (maxL := 3) (ret := (some .int)) (by decide) rfl ?_
  intro p e s m args below meth c s₁ B hml hv
  obtain ⟨rfl, hsz, hP, hK, hD0, hZ⟩ := hv
  have hx := B.exec
  have hb := B.bytes
  have hr := B.returns
  have hts := atoms_spec (ws := wsX5_copy) B.pre
  have hown : s.vm.findClass RX5 = some m.cls := findClass_of_methodNamed B.named
  have hlocks := B.notSynchronized
  have hin3 : ∀ w ∈ u_ws RX3 TX3 5, w ∈ wsX5_copy := mem_pl [28, 29, 30, 31, 32] (by rfl)
  have hin5 : ∀ w ∈ u_ws RX5 TX5 7, w ∈ wsX5_copy := mem_pl [21, 22, 23, 24, 25, 26, 27] (by rfl)
  subst hsz
  have hD := hD0.self (sz := s.heap.size)
  generalize hAe : va_A (((iaW E ia tx z y v kq gp gd) ++ (txW E tx n (slot oa pi)) ++ (neW E z op hg la tops dpt lst stry srt lin tokA wah fol par_ opn) ++ (lyW E y sett clA) ++ (lyW E v setv clV) ++ (pkW E (kq 0) kn0 kz0 kl0 kp0 kk0) ++ (pkW E (kq 1) kn1 kz1 kl1 kp1 kk1) ++ (pkW E (kq 2) kn2 kz2 kl2 kp2 kk2)) ++ poW E oa ta tl ct ps sn cb tk) s.heap.size = A at hD hZ ⊢
  have hA : ∀ q : Nat, s.heap.size ≤ q → A q := fun q h => by rw [← hAe]; exact Or.inr h
  have hS : va_S A s.heap s.heap [] := va_S.rf
  have hl := lv_entry ([.ref (ia 0), .int a1, .int a2]) (n := 3) (Nat.le_of_ble_eq_true rfl)
  rw [lg_entry_eq]
  generalize (lg_sl ([.ref (ia 0), .int a1, .int a2]) ++ List.replicate (3 - (lg_sl ([.ref (ia 0), .int a1, .int a2])).length) Slot.unset).toArray = ls at hl ⊢
  have hl : lv_has ls 3 [(0, .ref (ia 0)), (1, .int a1), (2, .int a2)] := hl
  obtain ⟨hN, hok, hop, hPL, hSN, hpp, hCN, hsg, hcl, hk0, hk1, hk2⟩ := id hab
  have hn : n ≤ 20 := by rw [hN]; exact hok.1
  have hrn : ∀ j, j < n → aR ab j < 1000000000 := fun j hj => (hok.2.1 j (by omega)).1
  have hpi : ∀ i, i < 20 → pi i < 20 := fun i hi => (hpp i hi).1
  have hwN := wfN_all (row := aR ab) (aN ab) (fun j hj => hrn j (by omega))
  have hob : nO (aNest ab) ≤ 180 := Nat.le_trans hwN.2.1 (by omega)
  have hCn : CN (nAll (aR ab) n) n tops dpt lst stry srt lin tokA wah fol par_ opn := by rw [hN] at hCN ⊢; exact hCN
  have hLN : LN (nF (aNest ab)) (nO (aNest ab)) srt lin wah fol := hCN.ln (by omega) (fun j hj => hrn j (by omega))
  obtain ⟨hn0, hz0, hq0⟩ := id hk0
  obtain ⟨hn1, hz1, hq1⟩ := id hk1
  obtain ⟨hn2, hz2, hq2⟩ := id hk2
  obtain ⟨ho0, hoo0, -⟩ := hok.2.2 0 (by decide)
  obtain ⟨ho1, hoo1, -⟩ := hok.2.2 1 (by decide)
  obtain ⟨ho2, hoo2, -⟩ := hok.2.2 2 (by decide)
  rcases pk3 a1 with rfl | rfl | rfl | hx1
  · have hpk1 : True := trivial
    refine lv_iload_n hx hb dX5_copy_0 rfl (lv_at hl 1 rfl) ?_
    refine rs_i (n := 1) (G := G) (E := E) (As := [.int (nI 0)]) (rest := []) ⟨hx, hb, hml, hown, hts⟩ hK hZ hS (c_X5_isPocket l G E (nI 0)) gX5_copy_X5_isPocket rfl rfl rfl (by decide +kernel) ⟨Nat.le_of_ble_eq_true rfl, Nat.le_of_ble_eq_true rfl⟩ (fun k q h => by simp at h) hl.1 rfl rfl (Nat.le_of_ble_eq_true rfl) dX5_copy_1 ⟨Nat.zero_le _, Nat.zero_le _⟩ (fun r1 p1 => ?_)
    rcases p1 with ⟨h1, rfl⟩ | ⟨h1, rfl⟩
    · refine n_if_eq (a := 1) (tgt := 14) hx hb (by decide) dX5_copy_4 (by decide) (fun c4 => absurd c4 (by decide)) (fun c4 => ?_)
      rcases pk3 a2 with rfl | rfl | rfl | hx2
      · have hpk2 : True := trivial
        refine lv_iload_n hx hb dX5_copy_7 rfl (lv_at hl 2 rfl) ?_
        refine rs_i (n := 1) (G := G) (E := E) (As := [.int (nI 0)]) (rest := []) ⟨hx, hb, hml, hown, hts⟩ hK hZ hS (c_X5_isPocket l G E (nI 0)) gX5_copy_X5_isPocket rfl rfl rfl (by decide +kernel) ⟨Nat.le_of_ble_eq_true rfl, Nat.le_of_ble_eq_true rfl⟩ (fun k q h => by simp at h) hl.1 rfl rfl (Nat.le_of_ble_eq_true rfl) dX5_copy_8 ⟨Nat.zero_le _, Nat.zero_le _⟩ (fun r8 p8 => ?_)
        rcases p8 with ⟨h8, rfl⟩ | ⟨h8, rfl⟩
        · refine n_if_ne (a := 1) (tgt := 16) hx hb (by decide) dX5_copy_11 (by decide) (fun c11 => ?_) (fun c11 => absurd c11 (by decide))
          refine lv_aload_n hx hb dX5_copy_16 rfl (lv_at hl 0 rfl) ?_
          refine va_get (D := G) (ci := 5) (v := .ref (ia 7)) (C := RX5) (T := TX5) (N := 7) hx hb hts hin5 hown hK hP 0 rfl rfl 6 (by decide) (hts (Cond.fieldLink RX5 39 "IndentRules" "pockets" "[LIndentRules$Pocket;") (List.mem_of_getElem? (i := 1) rfl)) (fun _ h9 => h9) rfl dX5_copy_17 ?_
          refine lv_iload_n hx hb dX5_copy_20 rfl (lv_at hl 1 rfl) ?_
          refine k_aald (D := G) (tys := TYS E) (j := 0) (f := (pkA kq)) (n := 3) hx hb hK hP 2 3 rfl rfl (by decide) (by decide) dX5_copy_21 ?_
          refine W.eq (g2 := F0 m 22 ls [.ref (kq 0 0)]) rfl ?_
          refine va_get (D := G) (ci := 3) (v := .int (nI kz0)) (C := RX3) (T := TX3) (N := 5) hx hb hts hin3 hown hK hP 23 rfl rfl 1 (by decide) (hts (Cond.fieldLink RX5 177 "IndentRules$Pocket" "size" "I") (List.mem_of_getElem? (i := 2) rfl)) (fun _ h9 => h9) rfl dX5_copy_22 ?_
          refine n_if_ne (a := kz0) (tgt := 31) hx hb (by omega) dX5_copy_25 (by decide) (fun c25 => ?_) (fun c25 => ?_)
          · refine lv_aload_n hx hb dX5_copy_31 rfl (lv_at hl 0 rfl) ?_
            refine va_get (D := G) (ci := 5) (v := .ref (ia 7)) (C := RX5) (T := TX5) (N := 7) hx hb hts hin5 hown hK hP 0 rfl rfl 6 (by decide) (hts (Cond.fieldLink RX5 39 "IndentRules" "pockets" "[LIndentRules$Pocket;") (List.mem_of_getElem? (i := 1) rfl)) (fun _ h9 => h9) rfl dX5_copy_32 ?_
            refine lv_iload_n hx hb dX5_copy_35 rfl (lv_at hl 2 rfl) ?_
            refine k_aald (D := G) (tys := TYS E) (j := 0) (f := (pkA kq)) (n := 3) hx hb hK hP 2 3 rfl rfl (by decide) (by decide) dX5_copy_36 ?_
            refine W.eq (g2 := F0 m 37 ls [.ref (kq 0 0)]) rfl ?_
            refine lv_aload_n hx hb dX5_copy_37 rfl (lv_at hl 0 rfl) ?_
            refine va_get (D := G) (ci := 5) (v := .ref (ia 7)) (C := RX5) (T := TX5) (N := 7) hx hb hts hin5 hown hK hP 0 rfl rfl 6 (by decide) (hts (Cond.fieldLink RX5 39 "IndentRules" "pockets" "[LIndentRules$Pocket;") (List.mem_of_getElem? (i := 1) rfl)) (fun _ h9 => h9) rfl dX5_copy_38 ?_
            refine lv_iload_n hx hb dX5_copy_41 rfl (lv_at hl 1 rfl) ?_
            refine k_aald (D := G) (tys := TYS E) (j := 0) (f := (pkA kq)) (n := 3) hx hb hK hP 2 3 rfl rfl (by decide) (by decide) dX5_copy_42 ?_
            refine W.eq (g2 := F0 m 43 ls [.ref (kq 0 0), .ref (kq 0 0)]) rfl ?_
            refine we_v (n := 1) (G := G) (E := E) (As := [.ref (kq 0 0)]) (rest := []) (ci := 3) (q0 := 23) (X := (iaW E ia tx z y v kq gp gd) ++ (txW E tx n (slot oa pi)) ++ (neW E z op hg la tops dpt lst stry srt lin tokA wah fol par_ opn) ++ (lyW E y sett clA) ++ (lyW E v setv clV) ++ (pkW E (kq 0) kn0 kz0 kl0 kp0 kk0) ++ (pkW E (kq 1) kn1 kz1 kl1 kp1 kk1) ++ (pkW E (kq 2) kn2 kz2 kl2 kp2 kk2)) (pl := poW E oa ta tl ct ps sn cb tk) (cx := pkW E (kq 0) kn0 kz0 kl0 kp0 kk0) (ex := ([] : va_W)) (wn := fun (u : (Nat → Int32) × (Nat → Int32) × (Nat → Int32)) => pkW E (kq 0) kn0 kz0 u.1 u.2.1 u.2.2) ⟨hx, hb, hml, hown, hts⟩ hK hZ hS hA (fun sz => by have z := c_X3_becomeLike_own l G E (kq 0) kn0 kz0 kl0 kp0 kk0 sz; simpa only [List.append_nil] using z) gX5_copy_X3_becomeLike rfl rfl rfl (by decide +kernel) ⟨Nat.le_of_ble_eq_true rfl, Nat.le_of_ble_eq_true rfl⟩ hP hD [23, 24, 25, 26] rfl (by decide) (fun k => k) (fun k q h => by simp at h) (fun _ _ _ _ h => h) (fun _ => rfl) rfl rfl hl.1 rfl rfl (Nat.le_of_ble_eq_true rfl) dX5_copy_43 ⟨Nat.zero_le _, Nat.zero_le _⟩ (fun u43 H locs p43 hP hD hS => ?_)
            obtain ⟨kl'_43, kp'_43, kk_'_43⟩ := u43
            try dsimp only at p43 hP hD
            have hP : va_P G vwCl (((iaW E ia tx z y v kq gp gd) ++ (txW E tx n (slot oa pi)) ++ (neW E z op hg la tops dpt lst stry srt lin tokA wah fol par_ opn) ++ (lyW E y sett clA) ++ (lyW E v setv clV) ++ (pkW E (kq 0) kn0 kz0 kl'_43 kp'_43 kk_'_43) ++ (pkW E (kq 1) kn1 kz1 kl1 kp1 kk1) ++ (pkW E (kq 2) kn2 kz2 kl2 kp2 kk2)) ++ poW E oa ta tl ct ps sn cb tk) H := hP
            have hD : va_D A (((iaW E ia tx z y v kq gp gd) ++ (txW E tx n (slot oa pi)) ++ (neW E z op hg la tops dpt lst stry srt lin tokA wah fol par_ opn) ++ (lyW E y sett clA) ++ (lyW E v setv clV) ++ (pkW E (kq 0) kn0 kz0 kl'_43 kp'_43 kk_'_43) ++ (pkW E (kq 1) kn1 kz1 kl1 kp1 kk1) ++ (pkW E (kq 2) kn2 kz2 kl2 kp2 kk2)) ++ poW E oa ta tl ct ps sn cb tk) := hD
            refine lv_iconst (v := (nI 1)) hx hb dX5_copy_46 (by decide) ?_
            exact W.iret (v := (nI 1)) hx hb hr (fun tZ htZ hWZ => ⟨⟨_, (kn0, kz0, kn1, kz1, kn2, kz2, kl'_43, kp'_43, kk_'_43, kl1, kp1, kk1, kl2, kp2, kk2), rfl, by rw [fCopy_ok (by decide) (by decide) (by omega)]; exact ⟨rfl, hN, okA_cp hok (by decide), hop, hPL, hSN, hpp, hCN, hsg, hcl, pkC_cp hk0 p43, pkC_oth hk1 (by decide), pkC_oth hk2 (by decide)⟩, by show va_P G vwCl _ tZ.heap; rw [htZ]; exact hP⟩, hS.F htZ⟩) hS.2.2 dX5_copy_47
          · refine lv_bipush (v := (-3)) hx hb dX5_copy_28 (by decide) ?_
            exact W.iret (v := (-3)) hx hb hr (fun tZ htZ hWZ => ⟨⟨_, (kn0, kz0, kn1, kz1, kn2, kz2, kl0, kp0, kk0, kl1, kp1, kk1, kl2, kp2, kk2), rfl, by rw [fCopy_3 (by decide) (by decide) (by omega)]; exact ⟨rfl, hab⟩, by show va_P G vwCl _ tZ.heap; rw [htZ]; exact hP⟩, hS.F htZ⟩) hS.2.2 dX5_copy_30
        · exact absurd ⟨0, by decide, rfl⟩ h8
      · have hpk2 : True := trivial
        refine lv_iload_n hx hb dX5_copy_7 rfl (lv_at hl 2 rfl) ?_
        refine rs_i (n := 1) (G := G) (E := E) (As := [.int (nI 1)]) (rest := []) ⟨hx, hb, hml, hown, hts⟩ hK hZ hS (c_X5_isPocket l G E (nI 1)) gX5_copy_X5_isPocket rfl rfl rfl (by decide +kernel) ⟨Nat.le_of_ble_eq_true rfl, Nat.le_of_ble_eq_true rfl⟩ (fun k q h => by simp at h) hl.1 rfl rfl (Nat.le_of_ble_eq_true rfl) dX5_copy_8 ⟨Nat.zero_le _, Nat.zero_le _⟩ (fun r8 p8 => ?_)
        rcases p8 with ⟨h8, rfl⟩ | ⟨h8, rfl⟩
        · refine n_if_ne (a := 1) (tgt := 16) hx hb (by decide) dX5_copy_11 (by decide) (fun c11 => ?_) (fun c11 => absurd c11 (by decide))
          refine lv_aload_n hx hb dX5_copy_16 rfl (lv_at hl 0 rfl) ?_
          refine va_get (D := G) (ci := 5) (v := .ref (ia 7)) (C := RX5) (T := TX5) (N := 7) hx hb hts hin5 hown hK hP 0 rfl rfl 6 (by decide) (hts (Cond.fieldLink RX5 39 "IndentRules" "pockets" "[LIndentRules$Pocket;") (List.mem_of_getElem? (i := 1) rfl)) (fun _ h9 => h9) rfl dX5_copy_17 ?_
          refine lv_iload_n hx hb dX5_copy_20 rfl (lv_at hl 1 rfl) ?_
          refine k_aald (D := G) (tys := TYS E) (j := 0) (f := (pkA kq)) (n := 3) hx hb hK hP 2 3 rfl rfl (by decide) (by decide) dX5_copy_21 ?_
          refine W.eq (g2 := F0 m 22 ls [.ref (kq 0 0)]) rfl ?_
          refine va_get (D := G) (ci := 3) (v := .int (nI kz0)) (C := RX3) (T := TX3) (N := 5) hx hb hts hin3 hown hK hP 23 rfl rfl 1 (by decide) (hts (Cond.fieldLink RX5 177 "IndentRules$Pocket" "size" "I") (List.mem_of_getElem? (i := 2) rfl)) (fun _ h9 => h9) rfl dX5_copy_22 ?_
          refine n_if_ne (a := kz0) (tgt := 31) hx hb (by omega) dX5_copy_25 (by decide) (fun c25 => ?_) (fun c25 => ?_)
          · refine lv_aload_n hx hb dX5_copy_31 rfl (lv_at hl 0 rfl) ?_
            refine va_get (D := G) (ci := 5) (v := .ref (ia 7)) (C := RX5) (T := TX5) (N := 7) hx hb hts hin5 hown hK hP 0 rfl rfl 6 (by decide) (hts (Cond.fieldLink RX5 39 "IndentRules" "pockets" "[LIndentRules$Pocket;") (List.mem_of_getElem? (i := 1) rfl)) (fun _ h9 => h9) rfl dX5_copy_32 ?_
            refine lv_iload_n hx hb dX5_copy_35 rfl (lv_at hl 2 rfl) ?_
            refine k_aald (D := G) (tys := TYS E) (j := 1) (f := (pkA kq)) (n := 3) hx hb hK hP 2 3 rfl rfl (by decide) (by decide) dX5_copy_36 ?_
            refine W.eq (g2 := F0 m 37 ls [.ref (kq 1 0)]) rfl ?_
            refine lv_aload_n hx hb dX5_copy_37 rfl (lv_at hl 0 rfl) ?_
            refine va_get (D := G) (ci := 5) (v := .ref (ia 7)) (C := RX5) (T := TX5) (N := 7) hx hb hts hin5 hown hK hP 0 rfl rfl 6 (by decide) (hts (Cond.fieldLink RX5 39 "IndentRules" "pockets" "[LIndentRules$Pocket;") (List.mem_of_getElem? (i := 1) rfl)) (fun _ h9 => h9) rfl dX5_copy_38 ?_
            refine lv_iload_n hx hb dX5_copy_41 rfl (lv_at hl 1 rfl) ?_
            refine k_aald (D := G) (tys := TYS E) (j := 0) (f := (pkA kq)) (n := 3) hx hb hK hP 2 3 rfl rfl (by decide) (by decide) dX5_copy_42 ?_
            refine W.eq (g2 := F0 m 43 ls [.ref (kq 0 0), .ref (kq 1 0)]) rfl ?_
            refine we_v (n := 1) (G := G) (E := E) (As := [.ref (kq 0 0)]) (rest := []) (ci := 3) (q0 := 27) (X := (iaW E ia tx z y v kq gp gd) ++ (txW E tx n (slot oa pi)) ++ (neW E z op hg la tops dpt lst stry srt lin tokA wah fol par_ opn) ++ (lyW E y sett clA) ++ (lyW E v setv clV) ++ (pkW E (kq 0) kn0 kz0 kl0 kp0 kk0) ++ (pkW E (kq 1) kn1 kz1 kl1 kp1 kk1) ++ (pkW E (kq 2) kn2 kz2 kl2 kp2 kk2)) (pl := poW E oa ta tl ct ps sn cb tk) (cx := (pkW E (kq 1) kn1 kz1 kl1 kp1 kk1) ++ (pkW E (kq 0) kn0 kz0 kl0 kp0 kk0)) (ex := ([] : va_W)) (wn := fun (u : (Nat → Int32) × (Nat → Int32) × (Nat → Int32)) => (pkW E (kq 1) kn0 kz0 u.1 u.2.1 u.2.2) ++ (pkW E (kq 0) kn0 kz0 kl0 kp0 kk0)) ⟨hx, hb, hml, hown, hts⟩ hK hZ hS hA (fun sz => by have z := c_X3_becomeLike l G E (kq 1) kn1 kz1 kl1 kp1 kk1 (kq 0) kn0 kz0 kl0 kp0 kk0 sz; simpa only [List.append_nil] using z) gX5_copy_X3_becomeLike rfl rfl rfl (by decide +kernel) ⟨Nat.le_of_ble_eq_true rfl, Nat.le_of_ble_eq_true rfl⟩ hP hD [27, 28, 29, 30, 23, 24, 25, 26] rfl (by decide) (fun k => k) (fun k q h => by simp at h) (fun _ _ _ _ h => h) (fun _ => rfl) rfl rfl hl.1 rfl rfl (Nat.le_of_ble_eq_true rfl) dX5_copy_43 ⟨Nat.zero_le _, Nat.zero_le _⟩ (fun u43 H locs p43 hP hD hS => ?_)
            obtain ⟨kl'_43, kp'_43, kk_'_43⟩ := u43
            try dsimp only at p43 hP hD
            have hP : va_P G vwCl (((iaW E ia tx z y v kq gp gd) ++ (txW E tx n (slot oa pi)) ++ (neW E z op hg la tops dpt lst stry srt lin tokA wah fol par_ opn) ++ (lyW E y sett clA) ++ (lyW E v setv clV) ++ (pkW E (kq 0) kn0 kz0 kl0 kp0 kk0) ++ (pkW E (kq 1) kn0 kz0 kl'_43 kp'_43 kk_'_43) ++ (pkW E (kq 2) kn2 kz2 kl2 kp2 kk2)) ++ poW E oa ta tl ct ps sn cb tk) H := hP
            have hD : va_D A (((iaW E ia tx z y v kq gp gd) ++ (txW E tx n (slot oa pi)) ++ (neW E z op hg la tops dpt lst stry srt lin tokA wah fol par_ opn) ++ (lyW E y sett clA) ++ (lyW E v setv clV) ++ (pkW E (kq 0) kn0 kz0 kl0 kp0 kk0) ++ (pkW E (kq 1) kn0 kz0 kl'_43 kp'_43 kk_'_43) ++ (pkW E (kq 2) kn2 kz2 kl2 kp2 kk2)) ++ poW E oa ta tl ct ps sn cb tk) := hD
            refine lv_iconst (v := (nI 1)) hx hb dX5_copy_46 (by decide) ?_
            exact W.iret (v := (nI 1)) hx hb hr (fun tZ htZ hWZ => ⟨⟨_, (kn0, kz0, kn0, kz0, kn2, kz2, kl0, kp0, kk0, kl'_43, kp'_43, kk_'_43, kl2, kp2, kk2), rfl, by rw [fCopy_ok (by decide) (by decide) (by omega)]; exact ⟨rfl, hN, okA_cp hok (by decide), hop, hPL, hSN, hpp, hCN, hsg, hcl, pkC_oth hk0 (by decide), pkC_cp hk0 p43, pkC_oth hk2 (by decide)⟩, by show va_P G vwCl _ tZ.heap; rw [htZ]; exact hP⟩, hS.F htZ⟩) hS.2.2 dX5_copy_47
          · refine lv_bipush (v := (-3)) hx hb dX5_copy_28 (by decide) ?_
            exact W.iret (v := (-3)) hx hb hr (fun tZ htZ hWZ => ⟨⟨_, (kn0, kz0, kn1, kz1, kn2, kz2, kl0, kp0, kk0, kl1, kp1, kk1, kl2, kp2, kk2), rfl, by rw [fCopy_3 (by decide) (by decide) (by omega)]; exact ⟨rfl, hab⟩, by show va_P G vwCl _ tZ.heap; rw [htZ]; exact hP⟩, hS.F htZ⟩) hS.2.2 dX5_copy_30
        · exact absurd ⟨1, by decide, rfl⟩ h8
      · have hpk2 : True := trivial
        refine lv_iload_n hx hb dX5_copy_7 rfl (lv_at hl 2 rfl) ?_
        refine rs_i (n := 1) (G := G) (E := E) (As := [.int (nI 2)]) (rest := []) ⟨hx, hb, hml, hown, hts⟩ hK hZ hS (c_X5_isPocket l G E (nI 2)) gX5_copy_X5_isPocket rfl rfl rfl (by decide +kernel) ⟨Nat.le_of_ble_eq_true rfl, Nat.le_of_ble_eq_true rfl⟩ (fun k q h => by simp at h) hl.1 rfl rfl (Nat.le_of_ble_eq_true rfl) dX5_copy_8 ⟨Nat.zero_le _, Nat.zero_le _⟩ (fun r8 p8 => ?_)
        rcases p8 with ⟨h8, rfl⟩ | ⟨h8, rfl⟩
        · refine n_if_ne (a := 1) (tgt := 16) hx hb (by decide) dX5_copy_11 (by decide) (fun c11 => ?_) (fun c11 => absurd c11 (by decide))
          refine lv_aload_n hx hb dX5_copy_16 rfl (lv_at hl 0 rfl) ?_
          refine va_get (D := G) (ci := 5) (v := .ref (ia 7)) (C := RX5) (T := TX5) (N := 7) hx hb hts hin5 hown hK hP 0 rfl rfl 6 (by decide) (hts (Cond.fieldLink RX5 39 "IndentRules" "pockets" "[LIndentRules$Pocket;") (List.mem_of_getElem? (i := 1) rfl)) (fun _ h9 => h9) rfl dX5_copy_17 ?_
          refine lv_iload_n hx hb dX5_copy_20 rfl (lv_at hl 1 rfl) ?_
          refine k_aald (D := G) (tys := TYS E) (j := 0) (f := (pkA kq)) (n := 3) hx hb hK hP 2 3 rfl rfl (by decide) (by decide) dX5_copy_21 ?_
          refine W.eq (g2 := F0 m 22 ls [.ref (kq 0 0)]) rfl ?_
          refine va_get (D := G) (ci := 3) (v := .int (nI kz0)) (C := RX3) (T := TX3) (N := 5) hx hb hts hin3 hown hK hP 23 rfl rfl 1 (by decide) (hts (Cond.fieldLink RX5 177 "IndentRules$Pocket" "size" "I") (List.mem_of_getElem? (i := 2) rfl)) (fun _ h9 => h9) rfl dX5_copy_22 ?_
          refine n_if_ne (a := kz0) (tgt := 31) hx hb (by omega) dX5_copy_25 (by decide) (fun c25 => ?_) (fun c25 => ?_)
          · refine lv_aload_n hx hb dX5_copy_31 rfl (lv_at hl 0 rfl) ?_
            refine va_get (D := G) (ci := 5) (v := .ref (ia 7)) (C := RX5) (T := TX5) (N := 7) hx hb hts hin5 hown hK hP 0 rfl rfl 6 (by decide) (hts (Cond.fieldLink RX5 39 "IndentRules" "pockets" "[LIndentRules$Pocket;") (List.mem_of_getElem? (i := 1) rfl)) (fun _ h9 => h9) rfl dX5_copy_32 ?_
            refine lv_iload_n hx hb dX5_copy_35 rfl (lv_at hl 2 rfl) ?_
            refine k_aald (D := G) (tys := TYS E) (j := 2) (f := (pkA kq)) (n := 3) hx hb hK hP 2 3 rfl rfl (by decide) (by decide) dX5_copy_36 ?_
            refine W.eq (g2 := F0 m 37 ls [.ref (kq 2 0)]) rfl ?_
            refine lv_aload_n hx hb dX5_copy_37 rfl (lv_at hl 0 rfl) ?_
            refine va_get (D := G) (ci := 5) (v := .ref (ia 7)) (C := RX5) (T := TX5) (N := 7) hx hb hts hin5 hown hK hP 0 rfl rfl 6 (by decide) (hts (Cond.fieldLink RX5 39 "IndentRules" "pockets" "[LIndentRules$Pocket;") (List.mem_of_getElem? (i := 1) rfl)) (fun _ h9 => h9) rfl dX5_copy_38 ?_
            refine lv_iload_n hx hb dX5_copy_41 rfl (lv_at hl 1 rfl) ?_
            refine k_aald (D := G) (tys := TYS E) (j := 0) (f := (pkA kq)) (n := 3) hx hb hK hP 2 3 rfl rfl (by decide) (by decide) dX5_copy_42 ?_
            refine W.eq (g2 := F0 m 43 ls [.ref (kq 0 0), .ref (kq 2 0)]) rfl ?_
            refine we_v (n := 1) (G := G) (E := E) (As := [.ref (kq 0 0)]) (rest := []) (ci := 3) (q0 := 31) (X := (iaW E ia tx z y v kq gp gd) ++ (txW E tx n (slot oa pi)) ++ (neW E z op hg la tops dpt lst stry srt lin tokA wah fol par_ opn) ++ (lyW E y sett clA) ++ (lyW E v setv clV) ++ (pkW E (kq 0) kn0 kz0 kl0 kp0 kk0) ++ (pkW E (kq 1) kn1 kz1 kl1 kp1 kk1) ++ (pkW E (kq 2) kn2 kz2 kl2 kp2 kk2)) (pl := poW E oa ta tl ct ps sn cb tk) (cx := (pkW E (kq 2) kn2 kz2 kl2 kp2 kk2) ++ (pkW E (kq 0) kn0 kz0 kl0 kp0 kk0)) (ex := ([] : va_W)) (wn := fun (u : (Nat → Int32) × (Nat → Int32) × (Nat → Int32)) => (pkW E (kq 2) kn0 kz0 u.1 u.2.1 u.2.2) ++ (pkW E (kq 0) kn0 kz0 kl0 kp0 kk0)) ⟨hx, hb, hml, hown, hts⟩ hK hZ hS hA (fun sz => by have z := c_X3_becomeLike l G E (kq 2) kn2 kz2 kl2 kp2 kk2 (kq 0) kn0 kz0 kl0 kp0 kk0 sz; simpa only [List.append_nil] using z) gX5_copy_X3_becomeLike rfl rfl rfl (by decide +kernel) ⟨Nat.le_of_ble_eq_true rfl, Nat.le_of_ble_eq_true rfl⟩ hP hD [31, 32, 33, 34, 23, 24, 25, 26] rfl (by decide) (fun k => k) (fun k q h => by simp at h) (fun _ _ _ _ h => h) (fun _ => rfl) rfl rfl hl.1 rfl rfl (Nat.le_of_ble_eq_true rfl) dX5_copy_43 ⟨Nat.zero_le _, Nat.zero_le _⟩ (fun u43 H locs p43 hP hD hS => ?_)
            obtain ⟨kl'_43, kp'_43, kk_'_43⟩ := u43
            try dsimp only at p43 hP hD
            have hP : va_P G vwCl (((iaW E ia tx z y v kq gp gd) ++ (txW E tx n (slot oa pi)) ++ (neW E z op hg la tops dpt lst stry srt lin tokA wah fol par_ opn) ++ (lyW E y sett clA) ++ (lyW E v setv clV) ++ (pkW E (kq 0) kn0 kz0 kl0 kp0 kk0) ++ (pkW E (kq 1) kn1 kz1 kl1 kp1 kk1) ++ (pkW E (kq 2) kn0 kz0 kl'_43 kp'_43 kk_'_43)) ++ poW E oa ta tl ct ps sn cb tk) H := hP
            have hD : va_D A (((iaW E ia tx z y v kq gp gd) ++ (txW E tx n (slot oa pi)) ++ (neW E z op hg la tops dpt lst stry srt lin tokA wah fol par_ opn) ++ (lyW E y sett clA) ++ (lyW E v setv clV) ++ (pkW E (kq 0) kn0 kz0 kl0 kp0 kk0) ++ (pkW E (kq 1) kn1 kz1 kl1 kp1 kk1) ++ (pkW E (kq 2) kn0 kz0 kl'_43 kp'_43 kk_'_43)) ++ poW E oa ta tl ct ps sn cb tk) := hD
            refine lv_iconst (v := (nI 1)) hx hb dX5_copy_46 (by decide) ?_
            exact W.iret (v := (nI 1)) hx hb hr (fun tZ htZ hWZ => ⟨⟨_, (kn0, kz0, kn1, kz1, kn0, kz0, kl0, kp0, kk0, kl1, kp1, kk1, kl'_43, kp'_43, kk_'_43), rfl, by rw [fCopy_ok (by decide) (by decide) (by omega)]; exact ⟨rfl, hN, okA_cp hok (by decide), hop, hPL, hSN, hpp, hCN, hsg, hcl, pkC_oth hk0 (by decide), pkC_oth hk1 (by decide), pkC_cp hk0 p43⟩, by show va_P G vwCl _ tZ.heap; rw [htZ]; exact hP⟩, hS.F htZ⟩) hS.2.2 dX5_copy_47
          · refine lv_bipush (v := (-3)) hx hb dX5_copy_28 (by decide) ?_
            exact W.iret (v := (-3)) hx hb hr (fun tZ htZ hWZ => ⟨⟨_, (kn0, kz0, kn1, kz1, kn2, kz2, kl0, kp0, kk0, kl1, kp1, kk1, kl2, kp2, kk2), rfl, by rw [fCopy_3 (by decide) (by decide) (by omega)]; exact ⟨rfl, hab⟩, by show va_P G vwCl _ tZ.heap; rw [htZ]; exact hP⟩, hS.F htZ⟩) hS.2.2 dX5_copy_30
        · exact absurd ⟨2, by decide, rfl⟩ h8
      · have hpk2 : True := trivial
        refine lv_iload_n hx hb dX5_copy_7 rfl (lv_at hl 2 rfl) ?_
        refine rs_i (n := 1) (G := G) (E := E) (As := [.int a2]) (rest := []) ⟨hx, hb, hml, hown, hts⟩ hK hZ hS (c_X5_isPocket l G E a2) gX5_copy_X5_isPocket rfl rfl rfl (by decide +kernel) ⟨Nat.le_of_ble_eq_true rfl, Nat.le_of_ble_eq_true rfl⟩ (fun k q h => by simp at h) hl.1 rfl rfl (Nat.le_of_ble_eq_true rfl) dX5_copy_8 ⟨Nat.zero_le _, Nat.zero_le _⟩ (fun r8 p8 => ?_)
        rcases p8 with ⟨h8, rfl⟩ | ⟨h8, rfl⟩
        · exact absurd ((ixP_iff (by decide)).mpr h8) hx2
        · refine n_if_ne (a := 0) (tgt := 16) hx hb (by decide) dX5_copy_11 (by decide) (fun c11 => absurd c11 (by decide)) (fun c11 => ?_)
          refine lv_iconst (v := (-1)) hx hb dX5_copy_14 (by decide) ?_
          exact W.iret (v := (-1)) hx hb hr (fun tZ htZ hWZ => ⟨⟨_, (kn0, kz0, kn1, kz1, kn2, kz2, kl0, kp0, kk0, kl1, kp1, kk1, kl2, kp2, kk2), rfl, by rw [fCopy_1 (fun q => hx2 q.2)]; exact ⟨rfl, hab⟩, by show va_P G vwCl _ tZ.heap; rw [htZ]; exact hP⟩, hS.F htZ⟩) hS.2.2 dX5_copy_15
    · exact absurd ⟨0, by decide, rfl⟩ h1
  · have hpk1 : True := trivial
    refine lv_iload_n hx hb dX5_copy_0 rfl (lv_at hl 1 rfl) ?_
    refine rs_i (n := 1) (G := G) (E := E) (As := [.int (nI 1)]) (rest := []) ⟨hx, hb, hml, hown, hts⟩ hK hZ hS (c_X5_isPocket l G E (nI 1)) gX5_copy_X5_isPocket rfl rfl rfl (by decide +kernel) ⟨Nat.le_of_ble_eq_true rfl, Nat.le_of_ble_eq_true rfl⟩ (fun k q h => by simp at h) hl.1 rfl rfl (Nat.le_of_ble_eq_true rfl) dX5_copy_1 ⟨Nat.zero_le _, Nat.zero_le _⟩ (fun r1 p1 => ?_)
    rcases p1 with ⟨h1, rfl⟩ | ⟨h1, rfl⟩
    · refine n_if_eq (a := 1) (tgt := 14) hx hb (by decide) dX5_copy_4 (by decide) (fun c4 => absurd c4 (by decide)) (fun c4 => ?_)
      rcases pk3 a2 with rfl | rfl | rfl | hx2
      · have hpk2 : True := trivial
        refine lv_iload_n hx hb dX5_copy_7 rfl (lv_at hl 2 rfl) ?_
        refine rs_i (n := 1) (G := G) (E := E) (As := [.int (nI 0)]) (rest := []) ⟨hx, hb, hml, hown, hts⟩ hK hZ hS (c_X5_isPocket l G E (nI 0)) gX5_copy_X5_isPocket rfl rfl rfl (by decide +kernel) ⟨Nat.le_of_ble_eq_true rfl, Nat.le_of_ble_eq_true rfl⟩ (fun k q h => by simp at h) hl.1 rfl rfl (Nat.le_of_ble_eq_true rfl) dX5_copy_8 ⟨Nat.zero_le _, Nat.zero_le _⟩ (fun r8 p8 => ?_)
        rcases p8 with ⟨h8, rfl⟩ | ⟨h8, rfl⟩
        · refine n_if_ne (a := 1) (tgt := 16) hx hb (by decide) dX5_copy_11 (by decide) (fun c11 => ?_) (fun c11 => absurd c11 (by decide))
          refine lv_aload_n hx hb dX5_copy_16 rfl (lv_at hl 0 rfl) ?_
          refine va_get (D := G) (ci := 5) (v := .ref (ia 7)) (C := RX5) (T := TX5) (N := 7) hx hb hts hin5 hown hK hP 0 rfl rfl 6 (by decide) (hts (Cond.fieldLink RX5 39 "IndentRules" "pockets" "[LIndentRules$Pocket;") (List.mem_of_getElem? (i := 1) rfl)) (fun _ h9 => h9) rfl dX5_copy_17 ?_
          refine lv_iload_n hx hb dX5_copy_20 rfl (lv_at hl 1 rfl) ?_
          refine k_aald (D := G) (tys := TYS E) (j := 1) (f := (pkA kq)) (n := 3) hx hb hK hP 2 3 rfl rfl (by decide) (by decide) dX5_copy_21 ?_
          refine W.eq (g2 := F0 m 22 ls [.ref (kq 1 0)]) rfl ?_
          refine va_get (D := G) (ci := 3) (v := .int (nI kz1)) (C := RX3) (T := TX3) (N := 5) hx hb hts hin3 hown hK hP 27 rfl rfl 1 (by decide) (hts (Cond.fieldLink RX5 177 "IndentRules$Pocket" "size" "I") (List.mem_of_getElem? (i := 2) rfl)) (fun _ h9 => h9) rfl dX5_copy_22 ?_
          refine n_if_ne (a := kz1) (tgt := 31) hx hb (by omega) dX5_copy_25 (by decide) (fun c25 => ?_) (fun c25 => ?_)
          · refine lv_aload_n hx hb dX5_copy_31 rfl (lv_at hl 0 rfl) ?_
            refine va_get (D := G) (ci := 5) (v := .ref (ia 7)) (C := RX5) (T := TX5) (N := 7) hx hb hts hin5 hown hK hP 0 rfl rfl 6 (by decide) (hts (Cond.fieldLink RX5 39 "IndentRules" "pockets" "[LIndentRules$Pocket;") (List.mem_of_getElem? (i := 1) rfl)) (fun _ h9 => h9) rfl dX5_copy_32 ?_
            refine lv_iload_n hx hb dX5_copy_35 rfl (lv_at hl 2 rfl) ?_
            refine k_aald (D := G) (tys := TYS E) (j := 0) (f := (pkA kq)) (n := 3) hx hb hK hP 2 3 rfl rfl (by decide) (by decide) dX5_copy_36 ?_
            refine W.eq (g2 := F0 m 37 ls [.ref (kq 0 0)]) rfl ?_
            refine lv_aload_n hx hb dX5_copy_37 rfl (lv_at hl 0 rfl) ?_
            refine va_get (D := G) (ci := 5) (v := .ref (ia 7)) (C := RX5) (T := TX5) (N := 7) hx hb hts hin5 hown hK hP 0 rfl rfl 6 (by decide) (hts (Cond.fieldLink RX5 39 "IndentRules" "pockets" "[LIndentRules$Pocket;") (List.mem_of_getElem? (i := 1) rfl)) (fun _ h9 => h9) rfl dX5_copy_38 ?_
            refine lv_iload_n hx hb dX5_copy_41 rfl (lv_at hl 1 rfl) ?_
            refine k_aald (D := G) (tys := TYS E) (j := 1) (f := (pkA kq)) (n := 3) hx hb hK hP 2 3 rfl rfl (by decide) (by decide) dX5_copy_42 ?_
            refine W.eq (g2 := F0 m 43 ls [.ref (kq 1 0), .ref (kq 0 0)]) rfl ?_
            refine we_v (n := 1) (G := G) (E := E) (As := [.ref (kq 1 0)]) (rest := []) (ci := 3) (q0 := 23) (X := (iaW E ia tx z y v kq gp gd) ++ (txW E tx n (slot oa pi)) ++ (neW E z op hg la tops dpt lst stry srt lin tokA wah fol par_ opn) ++ (lyW E y sett clA) ++ (lyW E v setv clV) ++ (pkW E (kq 0) kn0 kz0 kl0 kp0 kk0) ++ (pkW E (kq 1) kn1 kz1 kl1 kp1 kk1) ++ (pkW E (kq 2) kn2 kz2 kl2 kp2 kk2)) (pl := poW E oa ta tl ct ps sn cb tk) (cx := (pkW E (kq 0) kn0 kz0 kl0 kp0 kk0) ++ (pkW E (kq 1) kn1 kz1 kl1 kp1 kk1)) (ex := ([] : va_W)) (wn := fun (u : (Nat → Int32) × (Nat → Int32) × (Nat → Int32)) => (pkW E (kq 0) kn1 kz1 u.1 u.2.1 u.2.2) ++ (pkW E (kq 1) kn1 kz1 kl1 kp1 kk1)) ⟨hx, hb, hml, hown, hts⟩ hK hZ hS hA (fun sz => by have z := c_X3_becomeLike l G E (kq 0) kn0 kz0 kl0 kp0 kk0 (kq 1) kn1 kz1 kl1 kp1 kk1 sz; simpa only [List.append_nil] using z) gX5_copy_X3_becomeLike rfl rfl rfl (by decide +kernel) ⟨Nat.le_of_ble_eq_true rfl, Nat.le_of_ble_eq_true rfl⟩ hP hD [23, 24, 25, 26, 27, 28, 29, 30] rfl (by decide) (fun k => k) (fun k q h => by simp at h) (fun _ _ _ _ h => h) (fun _ => rfl) rfl rfl hl.1 rfl rfl (Nat.le_of_ble_eq_true rfl) dX5_copy_43 ⟨Nat.zero_le _, Nat.zero_le _⟩ (fun u43 H locs p43 hP hD hS => ?_)
            obtain ⟨kl'_43, kp'_43, kk_'_43⟩ := u43
            try dsimp only at p43 hP hD
            have hP : va_P G vwCl (((iaW E ia tx z y v kq gp gd) ++ (txW E tx n (slot oa pi)) ++ (neW E z op hg la tops dpt lst stry srt lin tokA wah fol par_ opn) ++ (lyW E y sett clA) ++ (lyW E v setv clV) ++ (pkW E (kq 0) kn1 kz1 kl'_43 kp'_43 kk_'_43) ++ (pkW E (kq 1) kn1 kz1 kl1 kp1 kk1) ++ (pkW E (kq 2) kn2 kz2 kl2 kp2 kk2)) ++ poW E oa ta tl ct ps sn cb tk) H := hP
            have hD : va_D A (((iaW E ia tx z y v kq gp gd) ++ (txW E tx n (slot oa pi)) ++ (neW E z op hg la tops dpt lst stry srt lin tokA wah fol par_ opn) ++ (lyW E y sett clA) ++ (lyW E v setv clV) ++ (pkW E (kq 0) kn1 kz1 kl'_43 kp'_43 kk_'_43) ++ (pkW E (kq 1) kn1 kz1 kl1 kp1 kk1) ++ (pkW E (kq 2) kn2 kz2 kl2 kp2 kk2)) ++ poW E oa ta tl ct ps sn cb tk) := hD
            refine lv_iconst (v := (nI 1)) hx hb dX5_copy_46 (by decide) ?_
            exact W.iret (v := (nI 1)) hx hb hr (fun tZ htZ hWZ => ⟨⟨_, (kn1, kz1, kn1, kz1, kn2, kz2, kl'_43, kp'_43, kk_'_43, kl1, kp1, kk1, kl2, kp2, kk2), rfl, by rw [fCopy_ok (by decide) (by decide) (by omega)]; exact ⟨rfl, hN, okA_cp hok (by decide), hop, hPL, hSN, hpp, hCN, hsg, hcl, pkC_cp hk1 p43, pkC_oth hk1 (by decide), pkC_oth hk2 (by decide)⟩, by show va_P G vwCl _ tZ.heap; rw [htZ]; exact hP⟩, hS.F htZ⟩) hS.2.2 dX5_copy_47
          · refine lv_bipush (v := (-3)) hx hb dX5_copy_28 (by decide) ?_
            exact W.iret (v := (-3)) hx hb hr (fun tZ htZ hWZ => ⟨⟨_, (kn0, kz0, kn1, kz1, kn2, kz2, kl0, kp0, kk0, kl1, kp1, kk1, kl2, kp2, kk2), rfl, by rw [fCopy_3 (by decide) (by decide) (by omega)]; exact ⟨rfl, hab⟩, by show va_P G vwCl _ tZ.heap; rw [htZ]; exact hP⟩, hS.F htZ⟩) hS.2.2 dX5_copy_30
        · exact absurd ⟨0, by decide, rfl⟩ h8
      · have hpk2 : True := trivial
        refine lv_iload_n hx hb dX5_copy_7 rfl (lv_at hl 2 rfl) ?_
        refine rs_i (n := 1) (G := G) (E := E) (As := [.int (nI 1)]) (rest := []) ⟨hx, hb, hml, hown, hts⟩ hK hZ hS (c_X5_isPocket l G E (nI 1)) gX5_copy_X5_isPocket rfl rfl rfl (by decide +kernel) ⟨Nat.le_of_ble_eq_true rfl, Nat.le_of_ble_eq_true rfl⟩ (fun k q h => by simp at h) hl.1 rfl rfl (Nat.le_of_ble_eq_true rfl) dX5_copy_8 ⟨Nat.zero_le _, Nat.zero_le _⟩ (fun r8 p8 => ?_)
        rcases p8 with ⟨h8, rfl⟩ | ⟨h8, rfl⟩
        · refine n_if_ne (a := 1) (tgt := 16) hx hb (by decide) dX5_copy_11 (by decide) (fun c11 => ?_) (fun c11 => absurd c11 (by decide))
          refine lv_aload_n hx hb dX5_copy_16 rfl (lv_at hl 0 rfl) ?_
          refine va_get (D := G) (ci := 5) (v := .ref (ia 7)) (C := RX5) (T := TX5) (N := 7) hx hb hts hin5 hown hK hP 0 rfl rfl 6 (by decide) (hts (Cond.fieldLink RX5 39 "IndentRules" "pockets" "[LIndentRules$Pocket;") (List.mem_of_getElem? (i := 1) rfl)) (fun _ h9 => h9) rfl dX5_copy_17 ?_
          refine lv_iload_n hx hb dX5_copy_20 rfl (lv_at hl 1 rfl) ?_
          refine k_aald (D := G) (tys := TYS E) (j := 1) (f := (pkA kq)) (n := 3) hx hb hK hP 2 3 rfl rfl (by decide) (by decide) dX5_copy_21 ?_
          refine W.eq (g2 := F0 m 22 ls [.ref (kq 1 0)]) rfl ?_
          refine va_get (D := G) (ci := 3) (v := .int (nI kz1)) (C := RX3) (T := TX3) (N := 5) hx hb hts hin3 hown hK hP 27 rfl rfl 1 (by decide) (hts (Cond.fieldLink RX5 177 "IndentRules$Pocket" "size" "I") (List.mem_of_getElem? (i := 2) rfl)) (fun _ h9 => h9) rfl dX5_copy_22 ?_
          refine n_if_ne (a := kz1) (tgt := 31) hx hb (by omega) dX5_copy_25 (by decide) (fun c25 => ?_) (fun c25 => ?_)
          · refine lv_aload_n hx hb dX5_copy_31 rfl (lv_at hl 0 rfl) ?_
            refine va_get (D := G) (ci := 5) (v := .ref (ia 7)) (C := RX5) (T := TX5) (N := 7) hx hb hts hin5 hown hK hP 0 rfl rfl 6 (by decide) (hts (Cond.fieldLink RX5 39 "IndentRules" "pockets" "[LIndentRules$Pocket;") (List.mem_of_getElem? (i := 1) rfl)) (fun _ h9 => h9) rfl dX5_copy_32 ?_
            refine lv_iload_n hx hb dX5_copy_35 rfl (lv_at hl 2 rfl) ?_
            refine k_aald (D := G) (tys := TYS E) (j := 1) (f := (pkA kq)) (n := 3) hx hb hK hP 2 3 rfl rfl (by decide) (by decide) dX5_copy_36 ?_
            refine W.eq (g2 := F0 m 37 ls [.ref (kq 1 0)]) rfl ?_
            refine lv_aload_n hx hb dX5_copy_37 rfl (lv_at hl 0 rfl) ?_
            refine va_get (D := G) (ci := 5) (v := .ref (ia 7)) (C := RX5) (T := TX5) (N := 7) hx hb hts hin5 hown hK hP 0 rfl rfl 6 (by decide) (hts (Cond.fieldLink RX5 39 "IndentRules" "pockets" "[LIndentRules$Pocket;") (List.mem_of_getElem? (i := 1) rfl)) (fun _ h9 => h9) rfl dX5_copy_38 ?_
            refine lv_iload_n hx hb dX5_copy_41 rfl (lv_at hl 1 rfl) ?_
            refine k_aald (D := G) (tys := TYS E) (j := 1) (f := (pkA kq)) (n := 3) hx hb hK hP 2 3 rfl rfl (by decide) (by decide) dX5_copy_42 ?_
            refine W.eq (g2 := F0 m 43 ls [.ref (kq 1 0), .ref (kq 1 0)]) rfl ?_
            refine we_v (n := 1) (G := G) (E := E) (As := [.ref (kq 1 0)]) (rest := []) (ci := 3) (q0 := 27) (X := (iaW E ia tx z y v kq gp gd) ++ (txW E tx n (slot oa pi)) ++ (neW E z op hg la tops dpt lst stry srt lin tokA wah fol par_ opn) ++ (lyW E y sett clA) ++ (lyW E v setv clV) ++ (pkW E (kq 0) kn0 kz0 kl0 kp0 kk0) ++ (pkW E (kq 1) kn1 kz1 kl1 kp1 kk1) ++ (pkW E (kq 2) kn2 kz2 kl2 kp2 kk2)) (pl := poW E oa ta tl ct ps sn cb tk) (cx := pkW E (kq 1) kn1 kz1 kl1 kp1 kk1) (ex := ([] : va_W)) (wn := fun (u : (Nat → Int32) × (Nat → Int32) × (Nat → Int32)) => pkW E (kq 1) kn1 kz1 u.1 u.2.1 u.2.2) ⟨hx, hb, hml, hown, hts⟩ hK hZ hS hA (fun sz => by have z := c_X3_becomeLike_own l G E (kq 1) kn1 kz1 kl1 kp1 kk1 sz; simpa only [List.append_nil] using z) gX5_copy_X3_becomeLike rfl rfl rfl (by decide +kernel) ⟨Nat.le_of_ble_eq_true rfl, Nat.le_of_ble_eq_true rfl⟩ hP hD [27, 28, 29, 30] rfl (by decide) (fun k => k) (fun k q h => by simp at h) (fun _ _ _ _ h => h) (fun _ => rfl) rfl rfl hl.1 rfl rfl (Nat.le_of_ble_eq_true rfl) dX5_copy_43 ⟨Nat.zero_le _, Nat.zero_le _⟩ (fun u43 H locs p43 hP hD hS => ?_)
            obtain ⟨kl'_43, kp'_43, kk_'_43⟩ := u43
            try dsimp only at p43 hP hD
            have hP : va_P G vwCl (((iaW E ia tx z y v kq gp gd) ++ (txW E tx n (slot oa pi)) ++ (neW E z op hg la tops dpt lst stry srt lin tokA wah fol par_ opn) ++ (lyW E y sett clA) ++ (lyW E v setv clV) ++ (pkW E (kq 0) kn0 kz0 kl0 kp0 kk0) ++ (pkW E (kq 1) kn1 kz1 kl'_43 kp'_43 kk_'_43) ++ (pkW E (kq 2) kn2 kz2 kl2 kp2 kk2)) ++ poW E oa ta tl ct ps sn cb tk) H := hP
            have hD : va_D A (((iaW E ia tx z y v kq gp gd) ++ (txW E tx n (slot oa pi)) ++ (neW E z op hg la tops dpt lst stry srt lin tokA wah fol par_ opn) ++ (lyW E y sett clA) ++ (lyW E v setv clV) ++ (pkW E (kq 0) kn0 kz0 kl0 kp0 kk0) ++ (pkW E (kq 1) kn1 kz1 kl'_43 kp'_43 kk_'_43) ++ (pkW E (kq 2) kn2 kz2 kl2 kp2 kk2)) ++ poW E oa ta tl ct ps sn cb tk) := hD
            refine lv_iconst (v := (nI 1)) hx hb dX5_copy_46 (by decide) ?_
            exact W.iret (v := (nI 1)) hx hb hr (fun tZ htZ hWZ => ⟨⟨_, (kn0, kz0, kn1, kz1, kn2, kz2, kl0, kp0, kk0, kl'_43, kp'_43, kk_'_43, kl2, kp2, kk2), rfl, by rw [fCopy_ok (by decide) (by decide) (by omega)]; exact ⟨rfl, hN, okA_cp hok (by decide), hop, hPL, hSN, hpp, hCN, hsg, hcl, pkC_oth hk0 (by decide), pkC_cp hk1 p43, pkC_oth hk2 (by decide)⟩, by show va_P G vwCl _ tZ.heap; rw [htZ]; exact hP⟩, hS.F htZ⟩) hS.2.2 dX5_copy_47
          · refine lv_bipush (v := (-3)) hx hb dX5_copy_28 (by decide) ?_
            exact W.iret (v := (-3)) hx hb hr (fun tZ htZ hWZ => ⟨⟨_, (kn0, kz0, kn1, kz1, kn2, kz2, kl0, kp0, kk0, kl1, kp1, kk1, kl2, kp2, kk2), rfl, by rw [fCopy_3 (by decide) (by decide) (by omega)]; exact ⟨rfl, hab⟩, by show va_P G vwCl _ tZ.heap; rw [htZ]; exact hP⟩, hS.F htZ⟩) hS.2.2 dX5_copy_30
        · exact absurd ⟨1, by decide, rfl⟩ h8
      · have hpk2 : True := trivial
        refine lv_iload_n hx hb dX5_copy_7 rfl (lv_at hl 2 rfl) ?_
        refine rs_i (n := 1) (G := G) (E := E) (As := [.int (nI 2)]) (rest := []) ⟨hx, hb, hml, hown, hts⟩ hK hZ hS (c_X5_isPocket l G E (nI 2)) gX5_copy_X5_isPocket rfl rfl rfl (by decide +kernel) ⟨Nat.le_of_ble_eq_true rfl, Nat.le_of_ble_eq_true rfl⟩ (fun k q h => by simp at h) hl.1 rfl rfl (Nat.le_of_ble_eq_true rfl) dX5_copy_8 ⟨Nat.zero_le _, Nat.zero_le _⟩ (fun r8 p8 => ?_)
        rcases p8 with ⟨h8, rfl⟩ | ⟨h8, rfl⟩
        · refine n_if_ne (a := 1) (tgt := 16) hx hb (by decide) dX5_copy_11 (by decide) (fun c11 => ?_) (fun c11 => absurd c11 (by decide))
          refine lv_aload_n hx hb dX5_copy_16 rfl (lv_at hl 0 rfl) ?_
          refine va_get (D := G) (ci := 5) (v := .ref (ia 7)) (C := RX5) (T := TX5) (N := 7) hx hb hts hin5 hown hK hP 0 rfl rfl 6 (by decide) (hts (Cond.fieldLink RX5 39 "IndentRules" "pockets" "[LIndentRules$Pocket;") (List.mem_of_getElem? (i := 1) rfl)) (fun _ h9 => h9) rfl dX5_copy_17 ?_
          refine lv_iload_n hx hb dX5_copy_20 rfl (lv_at hl 1 rfl) ?_
          refine k_aald (D := G) (tys := TYS E) (j := 1) (f := (pkA kq)) (n := 3) hx hb hK hP 2 3 rfl rfl (by decide) (by decide) dX5_copy_21 ?_
          refine W.eq (g2 := F0 m 22 ls [.ref (kq 1 0)]) rfl ?_
          refine va_get (D := G) (ci := 3) (v := .int (nI kz1)) (C := RX3) (T := TX3) (N := 5) hx hb hts hin3 hown hK hP 27 rfl rfl 1 (by decide) (hts (Cond.fieldLink RX5 177 "IndentRules$Pocket" "size" "I") (List.mem_of_getElem? (i := 2) rfl)) (fun _ h9 => h9) rfl dX5_copy_22 ?_
          refine n_if_ne (a := kz1) (tgt := 31) hx hb (by omega) dX5_copy_25 (by decide) (fun c25 => ?_) (fun c25 => ?_)
          · refine lv_aload_n hx hb dX5_copy_31 rfl (lv_at hl 0 rfl) ?_
            refine va_get (D := G) (ci := 5) (v := .ref (ia 7)) (C := RX5) (T := TX5) (N := 7) hx hb hts hin5 hown hK hP 0 rfl rfl 6 (by decide) (hts (Cond.fieldLink RX5 39 "IndentRules" "pockets" "[LIndentRules$Pocket;") (List.mem_of_getElem? (i := 1) rfl)) (fun _ h9 => h9) rfl dX5_copy_32 ?_
            refine lv_iload_n hx hb dX5_copy_35 rfl (lv_at hl 2 rfl) ?_
            refine k_aald (D := G) (tys := TYS E) (j := 2) (f := (pkA kq)) (n := 3) hx hb hK hP 2 3 rfl rfl (by decide) (by decide) dX5_copy_36 ?_
            refine W.eq (g2 := F0 m 37 ls [.ref (kq 2 0)]) rfl ?_
            refine lv_aload_n hx hb dX5_copy_37 rfl (lv_at hl 0 rfl) ?_
            refine va_get (D := G) (ci := 5) (v := .ref (ia 7)) (C := RX5) (T := TX5) (N := 7) hx hb hts hin5 hown hK hP 0 rfl rfl 6 (by decide) (hts (Cond.fieldLink RX5 39 "IndentRules" "pockets" "[LIndentRules$Pocket;") (List.mem_of_getElem? (i := 1) rfl)) (fun _ h9 => h9) rfl dX5_copy_38 ?_
            refine lv_iload_n hx hb dX5_copy_41 rfl (lv_at hl 1 rfl) ?_
            refine k_aald (D := G) (tys := TYS E) (j := 1) (f := (pkA kq)) (n := 3) hx hb hK hP 2 3 rfl rfl (by decide) (by decide) dX5_copy_42 ?_
            refine W.eq (g2 := F0 m 43 ls [.ref (kq 1 0), .ref (kq 2 0)]) rfl ?_
            refine we_v (n := 1) (G := G) (E := E) (As := [.ref (kq 1 0)]) (rest := []) (ci := 3) (q0 := 31) (X := (iaW E ia tx z y v kq gp gd) ++ (txW E tx n (slot oa pi)) ++ (neW E z op hg la tops dpt lst stry srt lin tokA wah fol par_ opn) ++ (lyW E y sett clA) ++ (lyW E v setv clV) ++ (pkW E (kq 0) kn0 kz0 kl0 kp0 kk0) ++ (pkW E (kq 1) kn1 kz1 kl1 kp1 kk1) ++ (pkW E (kq 2) kn2 kz2 kl2 kp2 kk2)) (pl := poW E oa ta tl ct ps sn cb tk) (cx := (pkW E (kq 2) kn2 kz2 kl2 kp2 kk2) ++ (pkW E (kq 1) kn1 kz1 kl1 kp1 kk1)) (ex := ([] : va_W)) (wn := fun (u : (Nat → Int32) × (Nat → Int32) × (Nat → Int32)) => (pkW E (kq 2) kn1 kz1 u.1 u.2.1 u.2.2) ++ (pkW E (kq 1) kn1 kz1 kl1 kp1 kk1)) ⟨hx, hb, hml, hown, hts⟩ hK hZ hS hA (fun sz => by have z := c_X3_becomeLike l G E (kq 2) kn2 kz2 kl2 kp2 kk2 (kq 1) kn1 kz1 kl1 kp1 kk1 sz; simpa only [List.append_nil] using z) gX5_copy_X3_becomeLike rfl rfl rfl (by decide +kernel) ⟨Nat.le_of_ble_eq_true rfl, Nat.le_of_ble_eq_true rfl⟩ hP hD [31, 32, 33, 34, 27, 28, 29, 30] rfl (by decide) (fun k => k) (fun k q h => by simp at h) (fun _ _ _ _ h => h) (fun _ => rfl) rfl rfl hl.1 rfl rfl (Nat.le_of_ble_eq_true rfl) dX5_copy_43 ⟨Nat.zero_le _, Nat.zero_le _⟩ (fun u43 H locs p43 hP hD hS => ?_)
            obtain ⟨kl'_43, kp'_43, kk_'_43⟩ := u43
            try dsimp only at p43 hP hD
            have hP : va_P G vwCl (((iaW E ia tx z y v kq gp gd) ++ (txW E tx n (slot oa pi)) ++ (neW E z op hg la tops dpt lst stry srt lin tokA wah fol par_ opn) ++ (lyW E y sett clA) ++ (lyW E v setv clV) ++ (pkW E (kq 0) kn0 kz0 kl0 kp0 kk0) ++ (pkW E (kq 1) kn1 kz1 kl1 kp1 kk1) ++ (pkW E (kq 2) kn1 kz1 kl'_43 kp'_43 kk_'_43)) ++ poW E oa ta tl ct ps sn cb tk) H := hP
            have hD : va_D A (((iaW E ia tx z y v kq gp gd) ++ (txW E tx n (slot oa pi)) ++ (neW E z op hg la tops dpt lst stry srt lin tokA wah fol par_ opn) ++ (lyW E y sett clA) ++ (lyW E v setv clV) ++ (pkW E (kq 0) kn0 kz0 kl0 kp0 kk0) ++ (pkW E (kq 1) kn1 kz1 kl1 kp1 kk1) ++ (pkW E (kq 2) kn1 kz1 kl'_43 kp'_43 kk_'_43)) ++ poW E oa ta tl ct ps sn cb tk) := hD
            refine lv_iconst (v := (nI 1)) hx hb dX5_copy_46 (by decide) ?_
            exact W.iret (v := (nI 1)) hx hb hr (fun tZ htZ hWZ => ⟨⟨_, (kn0, kz0, kn1, kz1, kn1, kz1, kl0, kp0, kk0, kl1, kp1, kk1, kl'_43, kp'_43, kk_'_43), rfl, by rw [fCopy_ok (by decide) (by decide) (by omega)]; exact ⟨rfl, hN, okA_cp hok (by decide), hop, hPL, hSN, hpp, hCN, hsg, hcl, pkC_oth hk0 (by decide), pkC_oth hk1 (by decide), pkC_cp hk1 p43⟩, by show va_P G vwCl _ tZ.heap; rw [htZ]; exact hP⟩, hS.F htZ⟩) hS.2.2 dX5_copy_47
          · refine lv_bipush (v := (-3)) hx hb dX5_copy_28 (by decide) ?_
            exact W.iret (v := (-3)) hx hb hr (fun tZ htZ hWZ => ⟨⟨_, (kn0, kz0, kn1, kz1, kn2, kz2, kl0, kp0, kk0, kl1, kp1, kk1, kl2, kp2, kk2), rfl, by rw [fCopy_3 (by decide) (by decide) (by omega)]; exact ⟨rfl, hab⟩, by show va_P G vwCl _ tZ.heap; rw [htZ]; exact hP⟩, hS.F htZ⟩) hS.2.2 dX5_copy_30
        · exact absurd ⟨2, by decide, rfl⟩ h8
      · have hpk2 : True := trivial
        refine lv_iload_n hx hb dX5_copy_7 rfl (lv_at hl 2 rfl) ?_
        refine rs_i (n := 1) (G := G) (E := E) (As := [.int a2]) (rest := []) ⟨hx, hb, hml, hown, hts⟩ hK hZ hS (c_X5_isPocket l G E a2) gX5_copy_X5_isPocket rfl rfl rfl (by decide +kernel) ⟨Nat.le_of_ble_eq_true rfl, Nat.le_of_ble_eq_true rfl⟩ (fun k q h => by simp at h) hl.1 rfl rfl (Nat.le_of_ble_eq_true rfl) dX5_copy_8 ⟨Nat.zero_le _, Nat.zero_le _⟩ (fun r8 p8 => ?_)
        rcases p8 with ⟨h8, rfl⟩ | ⟨h8, rfl⟩
        · exact absurd ((ixP_iff (by decide)).mpr h8) hx2
        · refine n_if_ne (a := 0) (tgt := 16) hx hb (by decide) dX5_copy_11 (by decide) (fun c11 => absurd c11 (by decide)) (fun c11 => ?_)
          refine lv_iconst (v := (-1)) hx hb dX5_copy_14 (by decide) ?_
          exact W.iret (v := (-1)) hx hb hr (fun tZ htZ hWZ => ⟨⟨_, (kn0, kz0, kn1, kz1, kn2, kz2, kl0, kp0, kk0, kl1, kp1, kk1, kl2, kp2, kk2), rfl, by rw [fCopy_1 (fun q => hx2 q.2)]; exact ⟨rfl, hab⟩, by show va_P G vwCl _ tZ.heap; rw [htZ]; exact hP⟩, hS.F htZ⟩) hS.2.2 dX5_copy_15
    · exact absurd ⟨1, by decide, rfl⟩ h1
  · have hpk1 : True := trivial
    refine lv_iload_n hx hb dX5_copy_0 rfl (lv_at hl 1 rfl) ?_
    refine rs_i (n := 1) (G := G) (E := E) (As := [.int (nI 2)]) (rest := []) ⟨hx, hb, hml, hown, hts⟩ hK hZ hS (c_X5_isPocket l G E (nI 2)) gX5_copy_X5_isPocket rfl rfl rfl (by decide +kernel) ⟨Nat.le_of_ble_eq_true rfl, Nat.le_of_ble_eq_true rfl⟩ (fun k q h => by simp at h) hl.1 rfl rfl (Nat.le_of_ble_eq_true rfl) dX5_copy_1 ⟨Nat.zero_le _, Nat.zero_le _⟩ (fun r1 p1 => ?_)
    rcases p1 with ⟨h1, rfl⟩ | ⟨h1, rfl⟩
    · refine n_if_eq (a := 1) (tgt := 14) hx hb (by decide) dX5_copy_4 (by decide) (fun c4 => absurd c4 (by decide)) (fun c4 => ?_)
      rcases pk3 a2 with rfl | rfl | rfl | hx2
      · have hpk2 : True := trivial
        refine lv_iload_n hx hb dX5_copy_7 rfl (lv_at hl 2 rfl) ?_
        refine rs_i (n := 1) (G := G) (E := E) (As := [.int (nI 0)]) (rest := []) ⟨hx, hb, hml, hown, hts⟩ hK hZ hS (c_X5_isPocket l G E (nI 0)) gX5_copy_X5_isPocket rfl rfl rfl (by decide +kernel) ⟨Nat.le_of_ble_eq_true rfl, Nat.le_of_ble_eq_true rfl⟩ (fun k q h => by simp at h) hl.1 rfl rfl (Nat.le_of_ble_eq_true rfl) dX5_copy_8 ⟨Nat.zero_le _, Nat.zero_le _⟩ (fun r8 p8 => ?_)
        rcases p8 with ⟨h8, rfl⟩ | ⟨h8, rfl⟩
        · refine n_if_ne (a := 1) (tgt := 16) hx hb (by decide) dX5_copy_11 (by decide) (fun c11 => ?_) (fun c11 => absurd c11 (by decide))
          refine lv_aload_n hx hb dX5_copy_16 rfl (lv_at hl 0 rfl) ?_
          refine va_get (D := G) (ci := 5) (v := .ref (ia 7)) (C := RX5) (T := TX5) (N := 7) hx hb hts hin5 hown hK hP 0 rfl rfl 6 (by decide) (hts (Cond.fieldLink RX5 39 "IndentRules" "pockets" "[LIndentRules$Pocket;") (List.mem_of_getElem? (i := 1) rfl)) (fun _ h9 => h9) rfl dX5_copy_17 ?_
          refine lv_iload_n hx hb dX5_copy_20 rfl (lv_at hl 1 rfl) ?_
          refine k_aald (D := G) (tys := TYS E) (j := 2) (f := (pkA kq)) (n := 3) hx hb hK hP 2 3 rfl rfl (by decide) (by decide) dX5_copy_21 ?_
          refine W.eq (g2 := F0 m 22 ls [.ref (kq 2 0)]) rfl ?_
          refine va_get (D := G) (ci := 3) (v := .int (nI kz2)) (C := RX3) (T := TX3) (N := 5) hx hb hts hin3 hown hK hP 31 rfl rfl 1 (by decide) (hts (Cond.fieldLink RX5 177 "IndentRules$Pocket" "size" "I") (List.mem_of_getElem? (i := 2) rfl)) (fun _ h9 => h9) rfl dX5_copy_22 ?_
          refine n_if_ne (a := kz2) (tgt := 31) hx hb (by omega) dX5_copy_25 (by decide) (fun c25 => ?_) (fun c25 => ?_)
          · refine lv_aload_n hx hb dX5_copy_31 rfl (lv_at hl 0 rfl) ?_
            refine va_get (D := G) (ci := 5) (v := .ref (ia 7)) (C := RX5) (T := TX5) (N := 7) hx hb hts hin5 hown hK hP 0 rfl rfl 6 (by decide) (hts (Cond.fieldLink RX5 39 "IndentRules" "pockets" "[LIndentRules$Pocket;") (List.mem_of_getElem? (i := 1) rfl)) (fun _ h9 => h9) rfl dX5_copy_32 ?_
            refine lv_iload_n hx hb dX5_copy_35 rfl (lv_at hl 2 rfl) ?_
            refine k_aald (D := G) (tys := TYS E) (j := 0) (f := (pkA kq)) (n := 3) hx hb hK hP 2 3 rfl rfl (by decide) (by decide) dX5_copy_36 ?_
            refine W.eq (g2 := F0 m 37 ls [.ref (kq 0 0)]) rfl ?_
            refine lv_aload_n hx hb dX5_copy_37 rfl (lv_at hl 0 rfl) ?_
            refine va_get (D := G) (ci := 5) (v := .ref (ia 7)) (C := RX5) (T := TX5) (N := 7) hx hb hts hin5 hown hK hP 0 rfl rfl 6 (by decide) (hts (Cond.fieldLink RX5 39 "IndentRules" "pockets" "[LIndentRules$Pocket;") (List.mem_of_getElem? (i := 1) rfl)) (fun _ h9 => h9) rfl dX5_copy_38 ?_
            refine lv_iload_n hx hb dX5_copy_41 rfl (lv_at hl 1 rfl) ?_
            refine k_aald (D := G) (tys := TYS E) (j := 2) (f := (pkA kq)) (n := 3) hx hb hK hP 2 3 rfl rfl (by decide) (by decide) dX5_copy_42 ?_
            refine W.eq (g2 := F0 m 43 ls [.ref (kq 2 0), .ref (kq 0 0)]) rfl ?_
            refine we_v (n := 1) (G := G) (E := E) (As := [.ref (kq 2 0)]) (rest := []) (ci := 3) (q0 := 23) (X := (iaW E ia tx z y v kq gp gd) ++ (txW E tx n (slot oa pi)) ++ (neW E z op hg la tops dpt lst stry srt lin tokA wah fol par_ opn) ++ (lyW E y sett clA) ++ (lyW E v setv clV) ++ (pkW E (kq 0) kn0 kz0 kl0 kp0 kk0) ++ (pkW E (kq 1) kn1 kz1 kl1 kp1 kk1) ++ (pkW E (kq 2) kn2 kz2 kl2 kp2 kk2)) (pl := poW E oa ta tl ct ps sn cb tk) (cx := (pkW E (kq 0) kn0 kz0 kl0 kp0 kk0) ++ (pkW E (kq 2) kn2 kz2 kl2 kp2 kk2)) (ex := ([] : va_W)) (wn := fun (u : (Nat → Int32) × (Nat → Int32) × (Nat → Int32)) => (pkW E (kq 0) kn2 kz2 u.1 u.2.1 u.2.2) ++ (pkW E (kq 2) kn2 kz2 kl2 kp2 kk2)) ⟨hx, hb, hml, hown, hts⟩ hK hZ hS hA (fun sz => by have z := c_X3_becomeLike l G E (kq 0) kn0 kz0 kl0 kp0 kk0 (kq 2) kn2 kz2 kl2 kp2 kk2 sz; simpa only [List.append_nil] using z) gX5_copy_X3_becomeLike rfl rfl rfl (by decide +kernel) ⟨Nat.le_of_ble_eq_true rfl, Nat.le_of_ble_eq_true rfl⟩ hP hD [23, 24, 25, 26, 31, 32, 33, 34] rfl (by decide) (fun k => k) (fun k q h => by simp at h) (fun _ _ _ _ h => h) (fun _ => rfl) rfl rfl hl.1 rfl rfl (Nat.le_of_ble_eq_true rfl) dX5_copy_43 ⟨Nat.zero_le _, Nat.zero_le _⟩ (fun u43 H locs p43 hP hD hS => ?_)
            obtain ⟨kl'_43, kp'_43, kk_'_43⟩ := u43
            try dsimp only at p43 hP hD
            have hP : va_P G vwCl (((iaW E ia tx z y v kq gp gd) ++ (txW E tx n (slot oa pi)) ++ (neW E z op hg la tops dpt lst stry srt lin tokA wah fol par_ opn) ++ (lyW E y sett clA) ++ (lyW E v setv clV) ++ (pkW E (kq 0) kn2 kz2 kl'_43 kp'_43 kk_'_43) ++ (pkW E (kq 1) kn1 kz1 kl1 kp1 kk1) ++ (pkW E (kq 2) kn2 kz2 kl2 kp2 kk2)) ++ poW E oa ta tl ct ps sn cb tk) H := hP
            have hD : va_D A (((iaW E ia tx z y v kq gp gd) ++ (txW E tx n (slot oa pi)) ++ (neW E z op hg la tops dpt lst stry srt lin tokA wah fol par_ opn) ++ (lyW E y sett clA) ++ (lyW E v setv clV) ++ (pkW E (kq 0) kn2 kz2 kl'_43 kp'_43 kk_'_43) ++ (pkW E (kq 1) kn1 kz1 kl1 kp1 kk1) ++ (pkW E (kq 2) kn2 kz2 kl2 kp2 kk2)) ++ poW E oa ta tl ct ps sn cb tk) := hD
            refine lv_iconst (v := (nI 1)) hx hb dX5_copy_46 (by decide) ?_
            exact W.iret (v := (nI 1)) hx hb hr (fun tZ htZ hWZ => ⟨⟨_, (kn2, kz2, kn1, kz1, kn2, kz2, kl'_43, kp'_43, kk_'_43, kl1, kp1, kk1, kl2, kp2, kk2), rfl, by rw [fCopy_ok (by decide) (by decide) (by omega)]; exact ⟨rfl, hN, okA_cp hok (by decide), hop, hPL, hSN, hpp, hCN, hsg, hcl, pkC_cp hk2 p43, pkC_oth hk1 (by decide), pkC_oth hk2 (by decide)⟩, by show va_P G vwCl _ tZ.heap; rw [htZ]; exact hP⟩, hS.F htZ⟩) hS.2.2 dX5_copy_47
          · refine lv_bipush (v := (-3)) hx hb dX5_copy_28 (by decide) ?_
            exact W.iret (v := (-3)) hx hb hr (fun tZ htZ hWZ => ⟨⟨_, (kn0, kz0, kn1, kz1, kn2, kz2, kl0, kp0, kk0, kl1, kp1, kk1, kl2, kp2, kk2), rfl, by rw [fCopy_3 (by decide) (by decide) (by omega)]; exact ⟨rfl, hab⟩, by show va_P G vwCl _ tZ.heap; rw [htZ]; exact hP⟩, hS.F htZ⟩) hS.2.2 dX5_copy_30
        · exact absurd ⟨0, by decide, rfl⟩ h8
      · have hpk2 : True := trivial
        refine lv_iload_n hx hb dX5_copy_7 rfl (lv_at hl 2 rfl) ?_
        refine rs_i (n := 1) (G := G) (E := E) (As := [.int (nI 1)]) (rest := []) ⟨hx, hb, hml, hown, hts⟩ hK hZ hS (c_X5_isPocket l G E (nI 1)) gX5_copy_X5_isPocket rfl rfl rfl (by decide +kernel) ⟨Nat.le_of_ble_eq_true rfl, Nat.le_of_ble_eq_true rfl⟩ (fun k q h => by simp at h) hl.1 rfl rfl (Nat.le_of_ble_eq_true rfl) dX5_copy_8 ⟨Nat.zero_le _, Nat.zero_le _⟩ (fun r8 p8 => ?_)
        rcases p8 with ⟨h8, rfl⟩ | ⟨h8, rfl⟩
        · refine n_if_ne (a := 1) (tgt := 16) hx hb (by decide) dX5_copy_11 (by decide) (fun c11 => ?_) (fun c11 => absurd c11 (by decide))
          refine lv_aload_n hx hb dX5_copy_16 rfl (lv_at hl 0 rfl) ?_
          refine va_get (D := G) (ci := 5) (v := .ref (ia 7)) (C := RX5) (T := TX5) (N := 7) hx hb hts hin5 hown hK hP 0 rfl rfl 6 (by decide) (hts (Cond.fieldLink RX5 39 "IndentRules" "pockets" "[LIndentRules$Pocket;") (List.mem_of_getElem? (i := 1) rfl)) (fun _ h9 => h9) rfl dX5_copy_17 ?_
          refine lv_iload_n hx hb dX5_copy_20 rfl (lv_at hl 1 rfl) ?_
          refine k_aald (D := G) (tys := TYS E) (j := 2) (f := (pkA kq)) (n := 3) hx hb hK hP 2 3 rfl rfl (by decide) (by decide) dX5_copy_21 ?_
          refine W.eq (g2 := F0 m 22 ls [.ref (kq 2 0)]) rfl ?_
          refine va_get (D := G) (ci := 3) (v := .int (nI kz2)) (C := RX3) (T := TX3) (N := 5) hx hb hts hin3 hown hK hP 31 rfl rfl 1 (by decide) (hts (Cond.fieldLink RX5 177 "IndentRules$Pocket" "size" "I") (List.mem_of_getElem? (i := 2) rfl)) (fun _ h9 => h9) rfl dX5_copy_22 ?_
          refine n_if_ne (a := kz2) (tgt := 31) hx hb (by omega) dX5_copy_25 (by decide) (fun c25 => ?_) (fun c25 => ?_)
          · refine lv_aload_n hx hb dX5_copy_31 rfl (lv_at hl 0 rfl) ?_
            refine va_get (D := G) (ci := 5) (v := .ref (ia 7)) (C := RX5) (T := TX5) (N := 7) hx hb hts hin5 hown hK hP 0 rfl rfl 6 (by decide) (hts (Cond.fieldLink RX5 39 "IndentRules" "pockets" "[LIndentRules$Pocket;") (List.mem_of_getElem? (i := 1) rfl)) (fun _ h9 => h9) rfl dX5_copy_32 ?_
            refine lv_iload_n hx hb dX5_copy_35 rfl (lv_at hl 2 rfl) ?_
            refine k_aald (D := G) (tys := TYS E) (j := 1) (f := (pkA kq)) (n := 3) hx hb hK hP 2 3 rfl rfl (by decide) (by decide) dX5_copy_36 ?_
            refine W.eq (g2 := F0 m 37 ls [.ref (kq 1 0)]) rfl ?_
            refine lv_aload_n hx hb dX5_copy_37 rfl (lv_at hl 0 rfl) ?_
            refine va_get (D := G) (ci := 5) (v := .ref (ia 7)) (C := RX5) (T := TX5) (N := 7) hx hb hts hin5 hown hK hP 0 rfl rfl 6 (by decide) (hts (Cond.fieldLink RX5 39 "IndentRules" "pockets" "[LIndentRules$Pocket;") (List.mem_of_getElem? (i := 1) rfl)) (fun _ h9 => h9) rfl dX5_copy_38 ?_
            refine lv_iload_n hx hb dX5_copy_41 rfl (lv_at hl 1 rfl) ?_
            refine k_aald (D := G) (tys := TYS E) (j := 2) (f := (pkA kq)) (n := 3) hx hb hK hP 2 3 rfl rfl (by decide) (by decide) dX5_copy_42 ?_
            refine W.eq (g2 := F0 m 43 ls [.ref (kq 2 0), .ref (kq 1 0)]) rfl ?_
            refine we_v (n := 1) (G := G) (E := E) (As := [.ref (kq 2 0)]) (rest := []) (ci := 3) (q0 := 27) (X := (iaW E ia tx z y v kq gp gd) ++ (txW E tx n (slot oa pi)) ++ (neW E z op hg la tops dpt lst stry srt lin tokA wah fol par_ opn) ++ (lyW E y sett clA) ++ (lyW E v setv clV) ++ (pkW E (kq 0) kn0 kz0 kl0 kp0 kk0) ++ (pkW E (kq 1) kn1 kz1 kl1 kp1 kk1) ++ (pkW E (kq 2) kn2 kz2 kl2 kp2 kk2)) (pl := poW E oa ta tl ct ps sn cb tk) (cx := (pkW E (kq 1) kn1 kz1 kl1 kp1 kk1) ++ (pkW E (kq 2) kn2 kz2 kl2 kp2 kk2)) (ex := ([] : va_W)) (wn := fun (u : (Nat → Int32) × (Nat → Int32) × (Nat → Int32)) => (pkW E (kq 1) kn2 kz2 u.1 u.2.1 u.2.2) ++ (pkW E (kq 2) kn2 kz2 kl2 kp2 kk2)) ⟨hx, hb, hml, hown, hts⟩ hK hZ hS hA (fun sz => by have z := c_X3_becomeLike l G E (kq 1) kn1 kz1 kl1 kp1 kk1 (kq 2) kn2 kz2 kl2 kp2 kk2 sz; simpa only [List.append_nil] using z) gX5_copy_X3_becomeLike rfl rfl rfl (by decide +kernel) ⟨Nat.le_of_ble_eq_true rfl, Nat.le_of_ble_eq_true rfl⟩ hP hD [27, 28, 29, 30, 31, 32, 33, 34] rfl (by decide) (fun k => k) (fun k q h => by simp at h) (fun _ _ _ _ h => h) (fun _ => rfl) rfl rfl hl.1 rfl rfl (Nat.le_of_ble_eq_true rfl) dX5_copy_43 ⟨Nat.zero_le _, Nat.zero_le _⟩ (fun u43 H locs p43 hP hD hS => ?_)
            obtain ⟨kl'_43, kp'_43, kk_'_43⟩ := u43
            try dsimp only at p43 hP hD
            have hP : va_P G vwCl (((iaW E ia tx z y v kq gp gd) ++ (txW E tx n (slot oa pi)) ++ (neW E z op hg la tops dpt lst stry srt lin tokA wah fol par_ opn) ++ (lyW E y sett clA) ++ (lyW E v setv clV) ++ (pkW E (kq 0) kn0 kz0 kl0 kp0 kk0) ++ (pkW E (kq 1) kn2 kz2 kl'_43 kp'_43 kk_'_43) ++ (pkW E (kq 2) kn2 kz2 kl2 kp2 kk2)) ++ poW E oa ta tl ct ps sn cb tk) H := hP
            have hD : va_D A (((iaW E ia tx z y v kq gp gd) ++ (txW E tx n (slot oa pi)) ++ (neW E z op hg la tops dpt lst stry srt lin tokA wah fol par_ opn) ++ (lyW E y sett clA) ++ (lyW E v setv clV) ++ (pkW E (kq 0) kn0 kz0 kl0 kp0 kk0) ++ (pkW E (kq 1) kn2 kz2 kl'_43 kp'_43 kk_'_43) ++ (pkW E (kq 2) kn2 kz2 kl2 kp2 kk2)) ++ poW E oa ta tl ct ps sn cb tk) := hD
            refine lv_iconst (v := (nI 1)) hx hb dX5_copy_46 (by decide) ?_
            exact W.iret (v := (nI 1)) hx hb hr (fun tZ htZ hWZ => ⟨⟨_, (kn0, kz0, kn2, kz2, kn2, kz2, kl0, kp0, kk0, kl'_43, kp'_43, kk_'_43, kl2, kp2, kk2), rfl, by rw [fCopy_ok (by decide) (by decide) (by omega)]; exact ⟨rfl, hN, okA_cp hok (by decide), hop, hPL, hSN, hpp, hCN, hsg, hcl, pkC_oth hk0 (by decide), pkC_cp hk2 p43, pkC_oth hk2 (by decide)⟩, by show va_P G vwCl _ tZ.heap; rw [htZ]; exact hP⟩, hS.F htZ⟩) hS.2.2 dX5_copy_47
          · refine lv_bipush (v := (-3)) hx hb dX5_copy_28 (by decide) ?_
            exact W.iret (v := (-3)) hx hb hr (fun tZ htZ hWZ => ⟨⟨_, (kn0, kz0, kn1, kz1, kn2, kz2, kl0, kp0, kk0, kl1, kp1, kk1, kl2, kp2, kk2), rfl, by rw [fCopy_3 (by decide) (by decide) (by omega)]; exact ⟨rfl, hab⟩, by show va_P G vwCl _ tZ.heap; rw [htZ]; exact hP⟩, hS.F htZ⟩) hS.2.2 dX5_copy_30
        · exact absurd ⟨1, by decide, rfl⟩ h8
      · have hpk2 : True := trivial
        refine lv_iload_n hx hb dX5_copy_7 rfl (lv_at hl 2 rfl) ?_
        refine rs_i (n := 1) (G := G) (E := E) (As := [.int (nI 2)]) (rest := []) ⟨hx, hb, hml, hown, hts⟩ hK hZ hS (c_X5_isPocket l G E (nI 2)) gX5_copy_X5_isPocket rfl rfl rfl (by decide +kernel) ⟨Nat.le_of_ble_eq_true rfl, Nat.le_of_ble_eq_true rfl⟩ (fun k q h => by simp at h) hl.1 rfl rfl (Nat.le_of_ble_eq_true rfl) dX5_copy_8 ⟨Nat.zero_le _, Nat.zero_le _⟩ (fun r8 p8 => ?_)
        rcases p8 with ⟨h8, rfl⟩ | ⟨h8, rfl⟩
        · refine n_if_ne (a := 1) (tgt := 16) hx hb (by decide) dX5_copy_11 (by decide) (fun c11 => ?_) (fun c11 => absurd c11 (by decide))
          refine lv_aload_n hx hb dX5_copy_16 rfl (lv_at hl 0 rfl) ?_
          refine va_get (D := G) (ci := 5) (v := .ref (ia 7)) (C := RX5) (T := TX5) (N := 7) hx hb hts hin5 hown hK hP 0 rfl rfl 6 (by decide) (hts (Cond.fieldLink RX5 39 "IndentRules" "pockets" "[LIndentRules$Pocket;") (List.mem_of_getElem? (i := 1) rfl)) (fun _ h9 => h9) rfl dX5_copy_17 ?_
          refine lv_iload_n hx hb dX5_copy_20 rfl (lv_at hl 1 rfl) ?_
          refine k_aald (D := G) (tys := TYS E) (j := 2) (f := (pkA kq)) (n := 3) hx hb hK hP 2 3 rfl rfl (by decide) (by decide) dX5_copy_21 ?_
          refine W.eq (g2 := F0 m 22 ls [.ref (kq 2 0)]) rfl ?_
          refine va_get (D := G) (ci := 3) (v := .int (nI kz2)) (C := RX3) (T := TX3) (N := 5) hx hb hts hin3 hown hK hP 31 rfl rfl 1 (by decide) (hts (Cond.fieldLink RX5 177 "IndentRules$Pocket" "size" "I") (List.mem_of_getElem? (i := 2) rfl)) (fun _ h9 => h9) rfl dX5_copy_22 ?_
          refine n_if_ne (a := kz2) (tgt := 31) hx hb (by omega) dX5_copy_25 (by decide) (fun c25 => ?_) (fun c25 => ?_)
          · refine lv_aload_n hx hb dX5_copy_31 rfl (lv_at hl 0 rfl) ?_
            refine va_get (D := G) (ci := 5) (v := .ref (ia 7)) (C := RX5) (T := TX5) (N := 7) hx hb hts hin5 hown hK hP 0 rfl rfl 6 (by decide) (hts (Cond.fieldLink RX5 39 "IndentRules" "pockets" "[LIndentRules$Pocket;") (List.mem_of_getElem? (i := 1) rfl)) (fun _ h9 => h9) rfl dX5_copy_32 ?_
            refine lv_iload_n hx hb dX5_copy_35 rfl (lv_at hl 2 rfl) ?_
            refine k_aald (D := G) (tys := TYS E) (j := 2) (f := (pkA kq)) (n := 3) hx hb hK hP 2 3 rfl rfl (by decide) (by decide) dX5_copy_36 ?_
            refine W.eq (g2 := F0 m 37 ls [.ref (kq 2 0)]) rfl ?_
            refine lv_aload_n hx hb dX5_copy_37 rfl (lv_at hl 0 rfl) ?_
            refine va_get (D := G) (ci := 5) (v := .ref (ia 7)) (C := RX5) (T := TX5) (N := 7) hx hb hts hin5 hown hK hP 0 rfl rfl 6 (by decide) (hts (Cond.fieldLink RX5 39 "IndentRules" "pockets" "[LIndentRules$Pocket;") (List.mem_of_getElem? (i := 1) rfl)) (fun _ h9 => h9) rfl dX5_copy_38 ?_
            refine lv_iload_n hx hb dX5_copy_41 rfl (lv_at hl 1 rfl) ?_
            refine k_aald (D := G) (tys := TYS E) (j := 2) (f := (pkA kq)) (n := 3) hx hb hK hP 2 3 rfl rfl (by decide) (by decide) dX5_copy_42 ?_
            refine W.eq (g2 := F0 m 43 ls [.ref (kq 2 0), .ref (kq 2 0)]) rfl ?_
            refine we_v (n := 1) (G := G) (E := E) (As := [.ref (kq 2 0)]) (rest := []) (ci := 3) (q0 := 31) (X := (iaW E ia tx z y v kq gp gd) ++ (txW E tx n (slot oa pi)) ++ (neW E z op hg la tops dpt lst stry srt lin tokA wah fol par_ opn) ++ (lyW E y sett clA) ++ (lyW E v setv clV) ++ (pkW E (kq 0) kn0 kz0 kl0 kp0 kk0) ++ (pkW E (kq 1) kn1 kz1 kl1 kp1 kk1) ++ (pkW E (kq 2) kn2 kz2 kl2 kp2 kk2)) (pl := poW E oa ta tl ct ps sn cb tk) (cx := pkW E (kq 2) kn2 kz2 kl2 kp2 kk2) (ex := ([] : va_W)) (wn := fun (u : (Nat → Int32) × (Nat → Int32) × (Nat → Int32)) => pkW E (kq 2) kn2 kz2 u.1 u.2.1 u.2.2) ⟨hx, hb, hml, hown, hts⟩ hK hZ hS hA (fun sz => by have z := c_X3_becomeLike_own l G E (kq 2) kn2 kz2 kl2 kp2 kk2 sz; simpa only [List.append_nil] using z) gX5_copy_X3_becomeLike rfl rfl rfl (by decide +kernel) ⟨Nat.le_of_ble_eq_true rfl, Nat.le_of_ble_eq_true rfl⟩ hP hD [31, 32, 33, 34] rfl (by decide) (fun k => k) (fun k q h => by simp at h) (fun _ _ _ _ h => h) (fun _ => rfl) rfl rfl hl.1 rfl rfl (Nat.le_of_ble_eq_true rfl) dX5_copy_43 ⟨Nat.zero_le _, Nat.zero_le _⟩ (fun u43 H locs p43 hP hD hS => ?_)
            obtain ⟨kl'_43, kp'_43, kk_'_43⟩ := u43
            try dsimp only at p43 hP hD
            have hP : va_P G vwCl (((iaW E ia tx z y v kq gp gd) ++ (txW E tx n (slot oa pi)) ++ (neW E z op hg la tops dpt lst stry srt lin tokA wah fol par_ opn) ++ (lyW E y sett clA) ++ (lyW E v setv clV) ++ (pkW E (kq 0) kn0 kz0 kl0 kp0 kk0) ++ (pkW E (kq 1) kn1 kz1 kl1 kp1 kk1) ++ (pkW E (kq 2) kn2 kz2 kl'_43 kp'_43 kk_'_43)) ++ poW E oa ta tl ct ps sn cb tk) H := hP
            have hD : va_D A (((iaW E ia tx z y v kq gp gd) ++ (txW E tx n (slot oa pi)) ++ (neW E z op hg la tops dpt lst stry srt lin tokA wah fol par_ opn) ++ (lyW E y sett clA) ++ (lyW E v setv clV) ++ (pkW E (kq 0) kn0 kz0 kl0 kp0 kk0) ++ (pkW E (kq 1) kn1 kz1 kl1 kp1 kk1) ++ (pkW E (kq 2) kn2 kz2 kl'_43 kp'_43 kk_'_43)) ++ poW E oa ta tl ct ps sn cb tk) := hD
            refine lv_iconst (v := (nI 1)) hx hb dX5_copy_46 (by decide) ?_
            exact W.iret (v := (nI 1)) hx hb hr (fun tZ htZ hWZ => ⟨⟨_, (kn0, kz0, kn1, kz1, kn2, kz2, kl0, kp0, kk0, kl1, kp1, kk1, kl'_43, kp'_43, kk_'_43), rfl, by rw [fCopy_ok (by decide) (by decide) (by omega)]; exact ⟨rfl, hN, okA_cp hok (by decide), hop, hPL, hSN, hpp, hCN, hsg, hcl, pkC_oth hk0 (by decide), pkC_oth hk1 (by decide), pkC_cp hk2 p43⟩, by show va_P G vwCl _ tZ.heap; rw [htZ]; exact hP⟩, hS.F htZ⟩) hS.2.2 dX5_copy_47
          · refine lv_bipush (v := (-3)) hx hb dX5_copy_28 (by decide) ?_
            exact W.iret (v := (-3)) hx hb hr (fun tZ htZ hWZ => ⟨⟨_, (kn0, kz0, kn1, kz1, kn2, kz2, kl0, kp0, kk0, kl1, kp1, kk1, kl2, kp2, kk2), rfl, by rw [fCopy_3 (by decide) (by decide) (by omega)]; exact ⟨rfl, hab⟩, by show va_P G vwCl _ tZ.heap; rw [htZ]; exact hP⟩, hS.F htZ⟩) hS.2.2 dX5_copy_30
        · exact absurd ⟨2, by decide, rfl⟩ h8
      · have hpk2 : True := trivial
        refine lv_iload_n hx hb dX5_copy_7 rfl (lv_at hl 2 rfl) ?_
        refine rs_i (n := 1) (G := G) (E := E) (As := [.int a2]) (rest := []) ⟨hx, hb, hml, hown, hts⟩ hK hZ hS (c_X5_isPocket l G E a2) gX5_copy_X5_isPocket rfl rfl rfl (by decide +kernel) ⟨Nat.le_of_ble_eq_true rfl, Nat.le_of_ble_eq_true rfl⟩ (fun k q h => by simp at h) hl.1 rfl rfl (Nat.le_of_ble_eq_true rfl) dX5_copy_8 ⟨Nat.zero_le _, Nat.zero_le _⟩ (fun r8 p8 => ?_)
        rcases p8 with ⟨h8, rfl⟩ | ⟨h8, rfl⟩
        · exact absurd ((ixP_iff (by decide)).mpr h8) hx2
        · refine n_if_ne (a := 0) (tgt := 16) hx hb (by decide) dX5_copy_11 (by decide) (fun c11 => absurd c11 (by decide)) (fun c11 => ?_)
          refine lv_iconst (v := (-1)) hx hb dX5_copy_14 (by decide) ?_
          exact W.iret (v := (-1)) hx hb hr (fun tZ htZ hWZ => ⟨⟨_, (kn0, kz0, kn1, kz1, kn2, kz2, kl0, kp0, kk0, kl1, kp1, kk1, kl2, kp2, kk2), rfl, by rw [fCopy_1 (fun q => hx2 q.2)]; exact ⟨rfl, hab⟩, by show va_P G vwCl _ tZ.heap; rw [htZ]; exact hP⟩, hS.F htZ⟩) hS.2.2 dX5_copy_15
    · exact absurd ⟨2, by decide, rfl⟩ h1
  · have hpk1 : True := trivial
    refine lv_iload_n hx hb dX5_copy_0 rfl (lv_at hl 1 rfl) ?_
    refine rs_i (n := 1) (G := G) (E := E) (As := [.int a1]) (rest := []) ⟨hx, hb, hml, hown, hts⟩ hK hZ hS (c_X5_isPocket l G E a1) gX5_copy_X5_isPocket rfl rfl rfl (by decide +kernel) ⟨Nat.le_of_ble_eq_true rfl, Nat.le_of_ble_eq_true rfl⟩ (fun k q h => by simp at h) hl.1 rfl rfl (Nat.le_of_ble_eq_true rfl) dX5_copy_1 ⟨Nat.zero_le _, Nat.zero_le _⟩ (fun r1 p1 => ?_)
    rcases p1 with ⟨h1, rfl⟩ | ⟨h1, rfl⟩
    · exact absurd ((ixP_iff (by decide)).mpr h1) hx1
    · refine n_if_eq (a := 0) (tgt := 14) hx hb (by decide) dX5_copy_4 (by decide) (fun c4 => ?_) (fun c4 => absurd c4 (by decide))
      refine lv_iconst (v := (-1)) hx hb dX5_copy_14 (by decide) ?_
      exact W.iret (v := (-1)) hx hb hr (fun tZ htZ hWZ => ⟨⟨_, (kn0, kz0, kn1, kz1, kn2, kz2, kl0, kp0, kk0, kl1, kp1, kk1, kl2, kp2, kk2), rfl, by rw [fCopy_1 (fun q => hx1 q.1)]; exact ⟨rfl, hab⟩, by show va_P G vwCl _ tZ.heap; rw [htZ]; exact hP⟩, hS.F htZ⟩) hS.2.2 dX5_copy_15

set_option maxHeartbeats 4000000 in
set_option maxRecDepth 100000 in
theorem c_X5_ofPocket (l : Launch) (G : va_G) (E : cEnv) (ia tx z y v : Nat → Nat) (kq : Nat → Nat → Nat) (gp : Int32) (gd : Nat → Int32) (n : Nat) (pi : Nat → Nat) (op hg la : Nat) (tops dpt lst stry srt lin tokA wah fol par_ opn : Nat → Int32) (sett clA setv clV : Nat → Int32) (kn0 kz0 kn1 kz1 kn2 kz2 : Nat) (kl0 kp0 kk0 kl1 kp1 kk1 kl2 kp2 kk2 : Nat → Int32) (oa ta : Nat → Nat) (tl ct ps : Nat → Nat) (sn cb : Nat → Int32) (tk : Nat → Nat → Int32) (a1 a2 a3 : Int32) (ab : ABS) (hab : ClsOk ab n op pi tl ct ps sn tk tops dpt lst stry srt lin tokA wah fol par_ opn sett clA kn0 kz0 kn1 kz1 kn2 kz2 kl0 kp0 kk0 kl1 kp1 kk1 kl2 kp2 kk2) : Met l yX5_ofPocket wsX5_ofPocket ({ frames := 1, cells := 0, slots := 0, locals := 22 }) (va_Pc [.ref (ia 0), .int a1, .int a2, .int a3] (PR G E (((iaW E ia tx z y v kq gp gd) ++ (txW E tx n (slot oa pi)) ++ (neW E z op hg la tops dpt lst stry srt lin tokA wah fol par_ opn) ++ (lyW E y sett clA) ++ (lyW E v setv clV) ++ (pkW E (kq 0) kn0 kz0 kl0 kp0 kk0) ++ (pkW E (kq 1) kn1 kz1 kl1 kp1 kk1) ++ (pkW E (kq 2) kn2 kz2 kl2 kp2 kk2)) ++ poW E oa ta tl ct ps sn cb tk))) (vp_Si (fun r => r = fOfPocket ab a1 a2 a3)) 0 0 (fun _ => False) := by
  refine Met.ofW (cc := cX5_ofPocket) (maxL := 5) (ret := (some .int)) (by decide) rfl ?_
  intro p e s m args below meth c s₁ B hml hv
  obtain ⟨rfl, hP, hK, hZ⟩ := hv
  have hx := B.exec
  have hb := B.bytes
  have hr := B.returns
  have hts := atoms_spec (ws := wsX5_ofPocket) B.pre
  have hown : s.vm.findClass RX5 = some m.cls := findClass_of_methodNamed B.named
  have hlocks := B.notSynchronized
  have hin3 : ∀ w ∈ u_ws RX3 TX3 5, w ∈ wsX5_ofPocket := mem_pl [27, 28, 29, 30, 31] (by rfl)
  have hin5 : ∀ w ∈ u_ws RX5 TX5 7, w ∈ wsX5_ofPocket := mem_pl [20, 21, 22, 23, 24, 25, 26] (by rfl)
  have hS : va_S (fun _ => False) s.heap s.heap [] := va_S.rf
  have hl := lv_entry ([.ref (ia 0), .int a1, .int a2, .int a3]) (n := 5) (Nat.le_of_ble_eq_true rfl)
  rw [lg_entry_eq]
  generalize (lg_sl ([.ref (ia 0), .int a1, .int a2, .int a3]) ++ List.replicate (5 - (lg_sl ([.ref (ia 0), .int a1, .int a2, .int a3])).length) Slot.unset).toArray = ls at hl ⊢
  have hl : lv_has ls 5 [(0, .ref (ia 0)), (1, .int a1), (2, .int a2), (3, .int a3)] := hl
  obtain ⟨hN, hok, hop, hPL, hSN, hpp, hCN, hsg, hcl, hk0, hk1, hk2⟩ := id hab
  have hn : n ≤ 20 := by rw [hN]; exact hok.1
  have hrn : ∀ j, j < n → aR ab j < 1000000000 := fun j hj => (hok.2.1 j (by omega)).1
  have hpi : ∀ i, i < 20 → pi i < 20 := fun i hi => (hpp i hi).1
  have hwN := wfN_all (row := aR ab) (aN ab) (fun j hj => hrn j (by omega))
  have hob : nO (aNest ab) ≤ 180 := Nat.le_trans hwN.2.1 (by omega)
  have hCn : CN (nAll (aR ab) n) n tops dpt lst stry srt lin tokA wah fol par_ opn := by rw [hN] at hCN ⊢; exact hCN
  have hLN : LN (nF (aNest ab)) (nO (aNest ab)) srt lin wah fol := hCN.ln (by omega) (fun j hj => hrn j (by omega))
  obtain ⟨hn0, hz0, hq0⟩ := id hk0
  obtain ⟨hn1, hz1, hq1⟩ := id hk1
  obtain ⟨hn2, hz2, hq2⟩ := id hk2
  obtain ⟨ho0, hoo0, -⟩ := hok.2.2 0 (by decide)
  obtain ⟨ho1, hoo1, -⟩ := hok.2.2 1 (by decide)
  obtain ⟨ho2, hoo2, -⟩ := hok.2.2 2 (by decide)
  rcases pk3 a1 with rfl | rfl | rfl | hx1
  · have hpk1 : True := trivial
    refine lv_iload_n hx hb dX5_ofPocket_0 rfl (lv_at hl 1 rfl) ?_
    refine rs_i (n := 1) (G := G) (E := E) (As := [.int (nI 0)]) (rest := []) ⟨hx, hb, hml, hown, hts⟩ hK hZ hS (c_X5_isPocket l G E (nI 0)) gX5_ofPocket_X5_isPocket rfl rfl rfl (by decide +kernel) ⟨Nat.le_of_ble_eq_true rfl, Nat.le_of_ble_eq_true rfl⟩ (fun k q h => by simp at h) hl.1 rfl rfl (Nat.le_of_ble_eq_true rfl) dX5_ofPocket_1 ⟨Nat.zero_le _, Nat.zero_le _⟩ (fun r1 p1 => ?_)
    rcases p1 with ⟨h1, rfl⟩ | ⟨h1, rfl⟩
    · refine n_if_ne (a := 1) (tgt := 9) hx hb (by decide) dX5_ofPocket_4 (by decide) (fun c4 => ?_) (fun c4 => absurd c4 (by decide))
      by_cases hz3 : ixP a3 3
      · obtain ⟨u, hu, rfl⟩ := (ixP_iff (by omega)).mp hz3
        refine lv_iload_n hx hb dX5_ofPocket_9 rfl (lv_at hl 3 rfl) ?_
        refine n_if_lt (a := u) (tgt := 18) hx hb (by omega) dX5_ofPocket_10 (by decide) ?_
        refine lv_iload_n hx hb dX5_ofPocket_13 rfl (lv_at hl 3 rfl) ?_
        refine lv_iconst (v := (nI 2)) hx hb dX5_ofPocket_14 (by decide) ?_
        refine n_icmp_le (a := u) (b := 2) (tgt := 21) hx hb (by omega) (by decide) dX5_ofPocket_15 (by decide) (fun c15 => ?_) (fun c15 => absurd c15 (by omega))
        refine lv_aload_n hx hb dX5_ofPocket_21 rfl (lv_at hl 0 rfl) ?_
        refine va_get (D := G) (ci := 5) (v := .ref (ia 7)) (C := RX5) (T := TX5) (N := 7) hx hb hts hin5 hown hK hP 0 rfl rfl 6 (by decide) (hts (Cond.fieldLink RX5 39 "IndentRules" "pockets" "[LIndentRules$Pocket;") (List.mem_of_getElem? (i := 1) rfl)) (fun _ h9 => h9) rfl dX5_ofPocket_22 ?_
        refine lv_iload_n hx hb dX5_ofPocket_25 rfl (lv_at hl 1 rfl) ?_
        refine k_aald (D := G) (tys := TYS E) (j := 0) (f := (pkA kq)) (n := 3) hx hb hK hP 2 3 rfl rfl (by decide) (by decide) dX5_ofPocket_26 ?_
        refine W.eq (g2 := F0 m 27 ls [.ref (kq 0 0)]) rfl ?_
        refine lv_astore (lv' := [(4, .ref (kq 0 0)), (0, .ref (ia 0)), (1, .int (nI 0)), (2, .int a2), (3, .int (nI u))]) hx hb dX5_ofPocket_27 hl (by decide) rfl (fun ls hl => ?_)
        refine lv_aload hx hb dX5_ofPocket_29 (lv_at hl 0 rfl) ?_
        refine va_get (D := G) (ci := 3) (v := .int (nI kz0)) (C := RX3) (T := TX3) (N := 5) hx hb hts hin3 hown hK hP 23 rfl rfl 1 (by decide) (hts (Cond.fieldLink RX5 177 "IndentRules$Pocket" "size" "I") (List.mem_of_getElem? (i := 2) rfl)) (fun _ h9 => h9) rfl dX5_ofPocket_31 ?_
        refine n_if_ne (a := kz0) (tgt := 40) hx hb (by omega) dX5_ofPocket_34 (by decide) (fun c34 => ?_) (fun c34 => ?_)
        · refine lv_aload hx hb dX5_ofPocket_40 (lv_at hl 0 rfl) ?_
          refine lv_iload_n hx hb dX5_ofPocket_42 rfl (lv_at hl 3 rfl) ?_
          refine rv_i (n := 1) (G := G) (E := E) (As := [.int a2]) (rest := []) (ci := 3) (q0 := 0) ⟨hx, hb, hml, hown, hts⟩ hK hZ hS (c_X3_hasCell l G E (kq 0) kn0 kz0 kl0 kp0 kk0 a2 (by omega)) gX5_ofPocket_X3_hasCell rfl rfl rfl (by decide +kernel) ⟨Nat.le_of_ble_eq_true rfl, Nat.le_of_ble_eq_true rfl⟩ (hP.sub (ws' := (pkW E (kq 0) kn0 kz0 kl0 kp0 kk0)) [23, 24, 25, 26] rfl) rfl rfl hl.1 rfl rfl (Nat.le_of_ble_eq_true rfl) dX5_ofPocket_43 ⟨Nat.zero_le _, Nat.zero_le _⟩ (fun r43 p43 => ?_)
          rcases p43 with ⟨⟨i, hi, rfl⟩, rfl⟩ | ⟨h43, rfl⟩
          · have hi2 : i < aC ab 0 := by omega
            refine n_if_ne (a := 1) (tgt := 52) hx hb (by decide) dX5_ofPocket_46 (by decide) (fun c46 => ?_) (fun c46 => absurd c46 (by decide))
            refine lv_aload hx hb dX5_ofPocket_52 (lv_at hl 0 rfl) ?_
            refine lv_iload_n hx hb dX5_ofPocket_54 rfl (lv_at hl 3 rfl) ?_
            refine lv_iload_n hx hb dX5_ofPocket_55 rfl (lv_at hl 4 rfl) ?_
            refine rv_i (n := 2) (G := G) (E := E) (As := [.int (nI i), .int (nI u)]) (rest := []) (ci := 3) (q0 := 0) ⟨hx, hb, hml, hown, hts⟩ hK hZ hS (c_X3_tell l G E (kq 0) kn0 kz0 kl0 kp0 kk0 i u (by omega) hu) gX5_ofPocket_X3_tell rfl rfl rfl (by decide +kernel) ⟨Nat.le_of_ble_eq_true rfl, Nat.le_of_ble_eq_true rfl⟩ (hP.sub (ws' := (pkW E (kq 0) kn0 kz0 kl0 kp0 kk0)) [23, 24, 25, 26] rfl) rfl rfl hl.1 rfl rfl (Nat.le_of_ble_eq_true rfl) dX5_ofPocket_56 ⟨Nat.zero_le _, Nat.zero_le _⟩ (fun r56 p56 => ?_)
            exact W.iret (v := r56) hx hb hr (fun tZ htZ hWZ => ⟨_, rfl, by rw [p56, fOfPocket_ok (by decide) hi2 ho0 hu]; exact ofPk hk0 (by omega), htZ⟩) (fun _ h => by cases h) dX5_ofPocket_59
          · refine n_if_ne (a := 0) (tgt := 52) hx hb (by decide) dX5_ofPocket_46 (by decide) (fun c46 => absurd c46 (by decide)) (fun c46 => ?_)
            refine lv_bipush (v := (-13)) hx hb dX5_ofPocket_49 (by decide) ?_
            exact W.iret (v := (-13)) hx hb hr (fun tZ htZ hWZ => ⟨_, rfl, by unfold fOfPocket; rw [if_pos (ixP_n (by decide) (by decide)), if_pos hz3, ix_n (by decide), if_neg (by omega), if_neg (fun q => h43 (by rw [hz0]; exact (ixP_iff (by omega)).mp q))], htZ⟩) (fun _ h => by cases h) dX5_ofPocket_51
        · refine lv_bipush (v := (-3)) hx hb dX5_ofPocket_37 (by decide) ?_
          exact W.iret (v := (-3)) hx hb hr (fun tZ htZ hWZ => ⟨_, rfl, by unfold fOfPocket; rw [if_pos (ixP_n (by decide) (by decide)), if_pos hz3, ix_n (by decide), if_pos (by omega)], htZ⟩) (fun _ h => by cases h) dX5_ofPocket_39
      · have hz3b : True := trivial
        refine lv_iload_n hx hb dX5_ofPocket_9 rfl (lv_at hl 3 rfl) ?_
        refine lv_if_lt (x := a3) (tgt := 18) hx hb dX5_ofPocket_10 (by decide) (fun c10 => ?_) (fun c10 => ?_)
        · refine lv_bipush (v := (-2)) hx hb dX5_ofPocket_18 (by decide) ?_
          exact W.iret (v := (-2)) hx hb hr (fun tZ htZ hWZ => ⟨_, rfl, by unfold fOfPocket; rw [if_pos (ixP_n (by decide) (by decide)), if_neg hz3], htZ⟩) (fun _ h => by cases h) dX5_ofPocket_20
        · refine lv_iload_n hx hb dX5_ofPocket_13 rfl (lv_at hl 3 rfl) ?_
          refine lv_iconst (v := (nI 2)) hx hb dX5_ofPocket_14 (by decide) ?_
          refine lv_icmp_le (x := a3) (y := (nI 2)) (tgt := 21) hx hb dX5_ofPocket_15 (by decide) (fun c15 => absurd ((w_rgx (n := 2) (by decide)).mp ⟨(by rw [nI_0]; exact Int32.not_lt.mp c10), c15⟩) hz3) (fun c15 => ?_)
          refine lv_bipush (v := (-2)) hx hb dX5_ofPocket_18 (by decide) ?_
          exact W.iret (v := (-2)) hx hb hr (fun tZ htZ hWZ => ⟨_, rfl, by unfold fOfPocket; rw [if_pos (ixP_n (by decide) (by decide)), if_neg hz3], htZ⟩) (fun _ h => by cases h) dX5_ofPocket_20
    · exact absurd ⟨0, by decide, rfl⟩ h1
  · have hpk1 : True := trivial
    refine lv_iload_n hx hb dX5_ofPocket_0 rfl (lv_at hl 1 rfl) ?_
    refine rs_i (n := 1) (G := G) (E := E) (As := [.int (nI 1)]) (rest := []) ⟨hx, hb, hml, hown, hts⟩ hK hZ hS (c_X5_isPocket l G E (nI 1)) gX5_ofPocket_X5_isPocket rfl rfl rfl (by decide +kernel) ⟨Nat.le_of_ble_eq_true rfl, Nat.le_of_ble_eq_true rfl⟩ (fun k q h => by simp at h) hl.1 rfl rfl (Nat.le_of_ble_eq_true rfl) dX5_ofPocket_1 ⟨Nat.zero_le _, Nat.zero_le _⟩ (fun r1 p1 => ?_)
    rcases p1 with ⟨h1, rfl⟩ | ⟨h1, rfl⟩
    · refine n_if_ne (a := 1) (tgt := 9) hx hb (by decide) dX5_ofPocket_4 (by decide) (fun c4 => ?_) (fun c4 => absurd c4 (by decide))
      by_cases hz3 : ixP a3 3
      · obtain ⟨u, hu, rfl⟩ := (ixP_iff (by omega)).mp hz3
        refine lv_iload_n hx hb dX5_ofPocket_9 rfl (lv_at hl 3 rfl) ?_
        refine n_if_lt (a := u) (tgt := 18) hx hb (by omega) dX5_ofPocket_10 (by decide) ?_
        refine lv_iload_n hx hb dX5_ofPocket_13 rfl (lv_at hl 3 rfl) ?_
        refine lv_iconst (v := (nI 2)) hx hb dX5_ofPocket_14 (by decide) ?_
        refine n_icmp_le (a := u) (b := 2) (tgt := 21) hx hb (by omega) (by decide) dX5_ofPocket_15 (by decide) (fun c15 => ?_) (fun c15 => absurd c15 (by omega))
        refine lv_aload_n hx hb dX5_ofPocket_21 rfl (lv_at hl 0 rfl) ?_
        refine va_get (D := G) (ci := 5) (v := .ref (ia 7)) (C := RX5) (T := TX5) (N := 7) hx hb hts hin5 hown hK hP 0 rfl rfl 6 (by decide) (hts (Cond.fieldLink RX5 39 "IndentRules" "pockets" "[LIndentRules$Pocket;") (List.mem_of_getElem? (i := 1) rfl)) (fun _ h9 => h9) rfl dX5_ofPocket_22 ?_
        refine lv_iload_n hx hb dX5_ofPocket_25 rfl (lv_at hl 1 rfl) ?_
        refine k_aald (D := G) (tys := TYS E) (j := 1) (f := (pkA kq)) (n := 3) hx hb hK hP 2 3 rfl rfl (by decide) (by decide) dX5_ofPocket_26 ?_
        refine W.eq (g2 := F0 m 27 ls [.ref (kq 1 0)]) rfl ?_
        refine lv_astore (lv' := [(4, .ref (kq 1 0)), (0, .ref (ia 0)), (1, .int (nI 1)), (2, .int a2), (3, .int (nI u))]) hx hb dX5_ofPocket_27 hl (by decide) rfl (fun ls hl => ?_)
        refine lv_aload hx hb dX5_ofPocket_29 (lv_at hl 0 rfl) ?_
        refine va_get (D := G) (ci := 3) (v := .int (nI kz1)) (C := RX3) (T := TX3) (N := 5) hx hb hts hin3 hown hK hP 27 rfl rfl 1 (by decide) (hts (Cond.fieldLink RX5 177 "IndentRules$Pocket" "size" "I") (List.mem_of_getElem? (i := 2) rfl)) (fun _ h9 => h9) rfl dX5_ofPocket_31 ?_
        refine n_if_ne (a := kz1) (tgt := 40) hx hb (by omega) dX5_ofPocket_34 (by decide) (fun c34 => ?_) (fun c34 => ?_)
        · refine lv_aload hx hb dX5_ofPocket_40 (lv_at hl 0 rfl) ?_
          refine lv_iload_n hx hb dX5_ofPocket_42 rfl (lv_at hl 3 rfl) ?_
          refine rv_i (n := 1) (G := G) (E := E) (As := [.int a2]) (rest := []) (ci := 3) (q0 := 0) ⟨hx, hb, hml, hown, hts⟩ hK hZ hS (c_X3_hasCell l G E (kq 1) kn1 kz1 kl1 kp1 kk1 a2 (by omega)) gX5_ofPocket_X3_hasCell rfl rfl rfl (by decide +kernel) ⟨Nat.le_of_ble_eq_true rfl, Nat.le_of_ble_eq_true rfl⟩ (hP.sub (ws' := (pkW E (kq 1) kn1 kz1 kl1 kp1 kk1)) [27, 28, 29, 30] rfl) rfl rfl hl.1 rfl rfl (Nat.le_of_ble_eq_true rfl) dX5_ofPocket_43 ⟨Nat.zero_le _, Nat.zero_le _⟩ (fun r43 p43 => ?_)
          rcases p43 with ⟨⟨i, hi, rfl⟩, rfl⟩ | ⟨h43, rfl⟩
          · have hi2 : i < aC ab 1 := by omega
            refine n_if_ne (a := 1) (tgt := 52) hx hb (by decide) dX5_ofPocket_46 (by decide) (fun c46 => ?_) (fun c46 => absurd c46 (by decide))
            refine lv_aload hx hb dX5_ofPocket_52 (lv_at hl 0 rfl) ?_
            refine lv_iload_n hx hb dX5_ofPocket_54 rfl (lv_at hl 3 rfl) ?_
            refine lv_iload_n hx hb dX5_ofPocket_55 rfl (lv_at hl 4 rfl) ?_
            refine rv_i (n := 2) (G := G) (E := E) (As := [.int (nI i), .int (nI u)]) (rest := []) (ci := 3) (q0 := 0) ⟨hx, hb, hml, hown, hts⟩ hK hZ hS (c_X3_tell l G E (kq 1) kn1 kz1 kl1 kp1 kk1 i u (by omega) hu) gX5_ofPocket_X3_tell rfl rfl rfl (by decide +kernel) ⟨Nat.le_of_ble_eq_true rfl, Nat.le_of_ble_eq_true rfl⟩ (hP.sub (ws' := (pkW E (kq 1) kn1 kz1 kl1 kp1 kk1)) [27, 28, 29, 30] rfl) rfl rfl hl.1 rfl rfl (Nat.le_of_ble_eq_true rfl) dX5_ofPocket_56 ⟨Nat.zero_le _, Nat.zero_le _⟩ (fun r56 p56 => ?_)
            exact W.iret (v := r56) hx hb hr (fun tZ htZ hWZ => ⟨_, rfl, by rw [p56, fOfPocket_ok (by decide) hi2 ho1 hu]; exact ofPk hk1 (by omega), htZ⟩) (fun _ h => by cases h) dX5_ofPocket_59
          · refine n_if_ne (a := 0) (tgt := 52) hx hb (by decide) dX5_ofPocket_46 (by decide) (fun c46 => absurd c46 (by decide)) (fun c46 => ?_)
            refine lv_bipush (v := (-13)) hx hb dX5_ofPocket_49 (by decide) ?_
            exact W.iret (v := (-13)) hx hb hr (fun tZ htZ hWZ => ⟨_, rfl, by unfold fOfPocket; rw [if_pos (ixP_n (by decide) (by decide)), if_pos hz3, ix_n (by decide), if_neg (by omega), if_neg (fun q => h43 (by rw [hz1]; exact (ixP_iff (by omega)).mp q))], htZ⟩) (fun _ h => by cases h) dX5_ofPocket_51
        · refine lv_bipush (v := (-3)) hx hb dX5_ofPocket_37 (by decide) ?_
          exact W.iret (v := (-3)) hx hb hr (fun tZ htZ hWZ => ⟨_, rfl, by unfold fOfPocket; rw [if_pos (ixP_n (by decide) (by decide)), if_pos hz3, ix_n (by decide), if_pos (by omega)], htZ⟩) (fun _ h => by cases h) dX5_ofPocket_39
      · have hz3b : True := trivial
        refine lv_iload_n hx hb dX5_ofPocket_9 rfl (lv_at hl 3 rfl) ?_
        refine lv_if_lt (x := a3) (tgt := 18) hx hb dX5_ofPocket_10 (by decide) (fun c10 => ?_) (fun c10 => ?_)
        · refine lv_bipush (v := (-2)) hx hb dX5_ofPocket_18 (by decide) ?_
          exact W.iret (v := (-2)) hx hb hr (fun tZ htZ hWZ => ⟨_, rfl, by unfold fOfPocket; rw [if_pos (ixP_n (by decide) (by decide)), if_neg hz3], htZ⟩) (fun _ h => by cases h) dX5_ofPocket_20
        · refine lv_iload_n hx hb dX5_ofPocket_13 rfl (lv_at hl 3 rfl) ?_
          refine lv_iconst (v := (nI 2)) hx hb dX5_ofPocket_14 (by decide) ?_
          refine lv_icmp_le (x := a3) (y := (nI 2)) (tgt := 21) hx hb dX5_ofPocket_15 (by decide) (fun c15 => absurd ((w_rgx (n := 2) (by decide)).mp ⟨(by rw [nI_0]; exact Int32.not_lt.mp c10), c15⟩) hz3) (fun c15 => ?_)
          refine lv_bipush (v := (-2)) hx hb dX5_ofPocket_18 (by decide) ?_
          exact W.iret (v := (-2)) hx hb hr (fun tZ htZ hWZ => ⟨_, rfl, by unfold fOfPocket; rw [if_pos (ixP_n (by decide) (by decide)), if_neg hz3], htZ⟩) (fun _ h => by cases h) dX5_ofPocket_20
    · exact absurd ⟨1, by decide, rfl⟩ h1
  · have hpk1 : True := trivial
    refine lv_iload_n hx hb dX5_ofPocket_0 rfl (lv_at hl 1 rfl) ?_
    refine rs_i (n := 1) (G := G) (E := E) (As := [.int (nI 2)]) (rest := []) ⟨hx, hb, hml, hown, hts⟩ hK hZ hS (c_X5_isPocket l G E (nI 2)) gX5_ofPocket_X5_isPocket rfl rfl rfl (by decide +kernel) ⟨Nat.le_of_ble_eq_true rfl, Nat.le_of_ble_eq_true rfl⟩ (fun k q h => by simp at h) hl.1 rfl rfl (Nat.le_of_ble_eq_true rfl) dX5_ofPocket_1 ⟨Nat.zero_le _, Nat.zero_le _⟩ (fun r1 p1 => ?_)
    rcases p1 with ⟨h1, rfl⟩ | ⟨h1, rfl⟩
    · refine n_if_ne (a := 1) (tgt := 9) hx hb (by decide) dX5_ofPocket_4 (by decide) (fun c4 => ?_) (fun c4 => absurd c4 (by decide))
      by_cases hz3 : ixP a3 3
      · obtain ⟨u, hu, rfl⟩ := (ixP_iff (by omega)).mp hz3
        refine lv_iload_n hx hb dX5_ofPocket_9 rfl (lv_at hl 3 rfl) ?_
        refine n_if_lt (a := u) (tgt := 18) hx hb (by omega) dX5_ofPocket_10 (by decide) ?_
        refine lv_iload_n hx hb dX5_ofPocket_13 rfl (lv_at hl 3 rfl) ?_
        refine lv_iconst (v := (nI 2)) hx hb dX5_ofPocket_14 (by decide) ?_
        refine n_icmp_le (a := u) (b := 2) (tgt := 21) hx hb (by omega) (by decide) dX5_ofPocket_15 (by decide) (fun c15 => ?_) (fun c15 => absurd c15 (by omega))
        refine lv_aload_n hx hb dX5_ofPocket_21 rfl (lv_at hl 0 rfl) ?_
        refine va_get (D := G) (ci := 5) (v := .ref (ia 7)) (C := RX5) (T := TX5) (N := 7) hx hb hts hin5 hown hK hP 0 rfl rfl 6 (by decide) (hts (Cond.fieldLink RX5 39 "IndentRules" "pockets" "[LIndentRules$Pocket;") (List.mem_of_getElem? (i := 1) rfl)) (fun _ h9 => h9) rfl dX5_ofPocket_22 ?_
        refine lv_iload_n hx hb dX5_ofPocket_25 rfl (lv_at hl 1 rfl) ?_
        refine k_aald (D := G) (tys := TYS E) (j := 2) (f := (pkA kq)) (n := 3) hx hb hK hP 2 3 rfl rfl (by decide) (by decide) dX5_ofPocket_26 ?_
        refine W.eq (g2 := F0 m 27 ls [.ref (kq 2 0)]) rfl ?_
        refine lv_astore (lv' := [(4, .ref (kq 2 0)), (0, .ref (ia 0)), (1, .int (nI 2)), (2, .int a2), (3, .int (nI u))]) hx hb dX5_ofPocket_27 hl (by decide) rfl (fun ls hl => ?_)
        refine lv_aload hx hb dX5_ofPocket_29 (lv_at hl 0 rfl) ?_
        refine va_get (D := G) (ci := 3) (v := .int (nI kz2)) (C := RX3) (T := TX3) (N := 5) hx hb hts hin3 hown hK hP 31 rfl rfl 1 (by decide) (hts (Cond.fieldLink RX5 177 "IndentRules$Pocket" "size" "I") (List.mem_of_getElem? (i := 2) rfl)) (fun _ h9 => h9) rfl dX5_ofPocket_31 ?_
        refine n_if_ne (a := kz2) (tgt := 40) hx hb (by omega) dX5_ofPocket_34 (by decide) (fun c34 => ?_) (fun c34 => ?_)
        · refine lv_aload hx hb dX5_ofPocket_40 (lv_at hl 0 rfl) ?_
          refine lv_iload_n hx hb dX5_ofPocket_42 rfl (lv_at hl 3 rfl) ?_
          refine rv_i (n := 1) (G := G) (E := E) (As := [.int a2]) (rest := []) (ci := 3) (q0 := 0) ⟨hx, hb, hml, hown, hts⟩ hK hZ hS (c_X3_hasCell l G E (kq 2) kn2 kz2 kl2 kp2 kk2 a2 (by omega)) gX5_ofPocket_X3_hasCell rfl rfl rfl (by decide +kernel) ⟨Nat.le_of_ble_eq_true rfl, Nat.le_of_ble_eq_true rfl⟩ (hP.sub (ws' := (pkW E (kq 2) kn2 kz2 kl2 kp2 kk2)) [31, 32, 33, 34] rfl) rfl rfl hl.1 rfl rfl (Nat.le_of_ble_eq_true rfl) dX5_ofPocket_43 ⟨Nat.zero_le _, Nat.zero_le _⟩ (fun r43 p43 => ?_)
          rcases p43 with ⟨⟨i, hi, rfl⟩, rfl⟩ | ⟨h43, rfl⟩
          · have hi2 : i < aC ab 2 := by omega
            refine n_if_ne (a := 1) (tgt := 52) hx hb (by decide) dX5_ofPocket_46 (by decide) (fun c46 => ?_) (fun c46 => absurd c46 (by decide))
            refine lv_aload hx hb dX5_ofPocket_52 (lv_at hl 0 rfl) ?_
            refine lv_iload_n hx hb dX5_ofPocket_54 rfl (lv_at hl 3 rfl) ?_
            refine lv_iload_n hx hb dX5_ofPocket_55 rfl (lv_at hl 4 rfl) ?_
            refine rv_i (n := 2) (G := G) (E := E) (As := [.int (nI i), .int (nI u)]) (rest := []) (ci := 3) (q0 := 0) ⟨hx, hb, hml, hown, hts⟩ hK hZ hS (c_X3_tell l G E (kq 2) kn2 kz2 kl2 kp2 kk2 i u (by omega) hu) gX5_ofPocket_X3_tell rfl rfl rfl (by decide +kernel) ⟨Nat.le_of_ble_eq_true rfl, Nat.le_of_ble_eq_true rfl⟩ (hP.sub (ws' := (pkW E (kq 2) kn2 kz2 kl2 kp2 kk2)) [31, 32, 33, 34] rfl) rfl rfl hl.1 rfl rfl (Nat.le_of_ble_eq_true rfl) dX5_ofPocket_56 ⟨Nat.zero_le _, Nat.zero_le _⟩ (fun r56 p56 => ?_)
            exact W.iret (v := r56) hx hb hr (fun tZ htZ hWZ => ⟨_, rfl, by rw [p56, fOfPocket_ok (by decide) hi2 ho2 hu]; exact ofPk hk2 (by omega), htZ⟩) (fun _ h => by cases h) dX5_ofPocket_59
          · refine n_if_ne (a := 0) (tgt := 52) hx hb (by decide) dX5_ofPocket_46 (by decide) (fun c46 => absurd c46 (by decide)) (fun c46 => ?_)
            refine lv_bipush (v := (-13)) hx hb dX5_ofPocket_49 (by decide) ?_
            exact W.iret (v := (-13)) hx hb hr (fun tZ htZ hWZ => ⟨_, rfl, by unfold fOfPocket; rw [if_pos (ixP_n (by decide) (by decide)), if_pos hz3, ix_n (by decide), if_neg (by omega), if_neg (fun q => h43 (by rw [hz2]; exact (ixP_iff (by omega)).mp q))], htZ⟩) (fun _ h => by cases h) dX5_ofPocket_51
        · refine lv_bipush (v := (-3)) hx hb dX5_ofPocket_37 (by decide) ?_
          exact W.iret (v := (-3)) hx hb hr (fun tZ htZ hWZ => ⟨_, rfl, by unfold fOfPocket; rw [if_pos (ixP_n (by decide) (by decide)), if_pos hz3, ix_n (by decide), if_pos (by omega)], htZ⟩) (fun _ h => by cases h) dX5_ofPocket_39
      · have hz3b : True := trivial
        refine lv_iload_n hx hb dX5_ofPocket_9 rfl (lv_at hl 3 rfl) ?_
        refine lv_if_lt (x := a3) (tgt := 18) hx hb dX5_ofPocket_10 (by decide) (fun c10 => ?_) (fun c10 => ?_)
        · refine lv_bipush (v := (-2)) hx hb dX5_ofPocket_18 (by decide) ?_
          exact W.iret (v := (-2)) hx hb hr (fun tZ htZ hWZ => ⟨_, rfl, by unfold fOfPocket; rw [if_pos (ixP_n (by decide) (by decide)), if_neg hz3], htZ⟩) (fun _ h => by cases h) dX5_ofPocket_20
        · refine lv_iload_n hx hb dX5_ofPocket_13 rfl (lv_at hl 3 rfl) ?_
          refine lv_iconst (v := (nI 2)) hx hb dX5_ofPocket_14 (by decide) ?_
          refine lv_icmp_le (x := a3) (y := (nI 2)) (tgt := 21) hx hb dX5_ofPocket_15 (by decide) (fun c15 => absurd ((w_rgx (n := 2) (by decide)).mp ⟨(by rw [nI_0]; exact Int32.not_lt.mp c10), c15⟩) hz3) (fun c15 => ?_)
          refine lv_bipush (v := (-2)) hx hb dX5_ofPocket_18 (by decide) ?_
          exact W.iret (v := (-2)) hx hb hr (fun tZ htZ hWZ => ⟨_, rfl, by unfold fOfPocket; rw [if_pos (ixP_n (by decide) (by decide)), if_neg hz3], htZ⟩) (fun _ h => by cases h) dX5_ofPocket_20
    · exact absurd ⟨2, by decide, rfl⟩ h1
  · have hpk1 : True := trivial
    refine lv_iload_n hx hb dX5_ofPocket_0 rfl (lv_at hl 1 rfl) ?_
    refine rs_i (n := 1) (G := G) (E := E) (As := [.int a1]) (rest := []) ⟨hx, hb, hml, hown, hts⟩ hK hZ hS (c_X5_isPocket l G E a1) gX5_ofPocket_X5_isPocket rfl rfl rfl (by decide +kernel) ⟨Nat.le_of_ble_eq_true rfl, Nat.le_of_ble_eq_true rfl⟩ (fun k q h => by simp at h) hl.1 rfl rfl (Nat.le_of_ble_eq_true rfl) dX5_ofPocket_1 ⟨Nat.zero_le _, Nat.zero_le _⟩ (fun r1 p1 => ?_)
    rcases p1 with ⟨h1, rfl⟩ | ⟨h1, rfl⟩
    · exact absurd ((ixP_iff (by decide)).mpr h1) hx1
    · refine n_if_ne (a := 0) (tgt := 9) hx hb (by decide) dX5_ofPocket_4 (by decide) (fun c4 => absurd c4 (by decide)) (fun c4 => ?_)
      refine lv_iconst (v := (-1)) hx hb dX5_ofPocket_7 (by decide) ?_
      exact W.iret (v := (-1)) hx hb hr (fun tZ htZ hWZ => ⟨_, rfl, by unfold fOfPocket; rw [if_neg hx1], htZ⟩) (fun _ h => by cases h) dX5_ofPocket_8

set_option maxHeartbeats 4000000 in
set_option maxRecDepth 100000 in
theorem c_X5_allStrays (l : Launch) (G : va_G) (E : cEnv) (ia tx z y v : Nat → Nat) (kq : Nat → Nat → Nat) (gp : Int32) (gd : Nat → Int32) (n : Nat) (pi : Nat → Nat) (op hg la : Nat) (tops dpt lst stry srt lin tokA wah fol par_ opn : Nat → Int32) (sett clA setv clV : Nat → Int32) (kn0 kz0 kn1 kz1 kn2 kz2 : Nat) (kl0 kp0 kk0 kl1 kp1 kk1 kl2 kp2 kk2 : Nat → Int32) (oa ta : Nat → Nat) (tl ct ps : Nat → Nat) (sn cb : Nat → Int32) (tk : Nat → Nat → Int32) (ab : ABS) (hab : ClsOk ab n op pi tl ct ps sn tk tops dpt lst stry srt lin tokA wah fol par_ opn sett clA kn0 kz0 kn1 kz1 kn2 kz2 kl0 kp0 kk0 kl1 kp1 kk1 kl2 kp2 kk2) : Met l yX5_allStrays wsX5_allStrays ({ frames := 0, cells := 0, slots := 0, locals := 0 }) (va_Pc [.ref (ia 0)] (PR G E (((iaW E ia tx z y v kq gp gd) ++ (txW E tx n (slot oa pi)) ++ (neW E z op hg la tops dpt lst stry srt lin tokA wah fol par_ opn) ++ (lyW E y sett clA) ++ (lyW E v setv clV) ++ (pkW E (kq 0) kn0 kz0 kl0 kp0 kk0) ++ (pkW E (kq 1) kn1 kz1 kl1 kp1 kk1) ++ (pkW E (kq 2) kn2 kz2 kl2 kp2 kk2)) ++ poW E oa ta tl ct ps sn cb tk))) (vp_Si (fun r => r = nI (mnS (nF (aNest ab)) (aN ab)))) 0 0 (fun _ => False) := by
  refine Met.ofW (cc := cX5_allStrays) (maxL := 3) (ret := (some .int)) (by decide) rfl ?_
  intro p e s m args below meth c s₁ B hml hv
  obtain ⟨rfl, hP, hK, hZ⟩ := hv
  have hx := B.exec
  have hb := B.bytes
  have hr := B.returns
  have hts := atoms_spec (ws := wsX5_allStrays) B.pre
  have hown : s.vm.findClass RX5 = some m.cls := findClass_of_methodNamed B.named
  have hlocks := B.notSynchronized
  have hin2 : ∀ w ∈ u_ws RX2 TX2 14, w ∈ wsX5_allStrays := mem_pl [14, 15, 16, 17, 18, 19, 20, 21, 22, 23, 24, 25, 26, 27] (by rfl)
  have hin4 : ∀ w ∈ u_ws RX4 TX4 2, w ∈ wsX5_allStrays := mem_pl [12, 13] (by rfl)
  have hin5 : ∀ w ∈ u_ws RX5 TX5 7, w ∈ wsX5_allStrays := mem_pl [5, 6, 7, 8, 9, 10, 11] (by rfl)
  have hS : va_S (fun _ => False) s.heap s.heap [] := va_S.rf
  have hl := lv_entry ([.ref (ia 0)]) (n := 3) (Nat.le_of_ble_eq_true rfl)
  rw [lg_entry_eq]
  generalize (lg_sl ([.ref (ia 0)]) ++ List.replicate (3 - (lg_sl ([.ref (ia 0)])).length) Slot.unset).toArray = ls at hl ⊢
  have hl : lv_has ls 3 [(0, .ref (ia 0))] := hl
  obtain ⟨hN, hok, hop, hPL, hSN, hpp, hCN, hsg, hcl, hk0, hk1, hk2⟩ := id hab
  have hn : n ≤ 20 := by rw [hN]; exact hok.1
  have hrn : ∀ j, j < n → aR ab j < 1000000000 := fun j hj => (hok.2.1 j (by omega)).1
  have hpi : ∀ i, i < 20 → pi i < 20 := fun i hi => (hpp i hi).1
  have hwN := wfN_all (row := aR ab) (aN ab) (fun j hj => hrn j (by omega))
  have hob : nO (aNest ab) ≤ 180 := Nat.le_trans hwN.2.1 (by omega)
  have hCn : CN (nAll (aR ab) n) n tops dpt lst stry srt lin tokA wah fol par_ opn := by rw [hN] at hCN ⊢; exact hCN
  have hLN : LN (nF (aNest ab)) (nO (aNest ab)) srt lin wah fol := hCN.ln (by omega) (fun j hj => hrn j (by omega))
  refine lv_iconst (v := (nI 0)) hx hb dX5_allStrays_0 (by decide) ?_
  refine lv_istore_n (lv' := [(1, .int (nI 0)), (0, .ref (ia 0))]) hx hb dX5_allStrays_1 rfl hl (by decide) rfl (fun ls hl => ?_)
  refine lv_iconst (v := (nI 0)) hx hb dX5_allStrays_2 (by decide) ?_
  refine lv_istore_n (lv' := [(2, .int (nI 0)), (1, .int (nI 0)), (0, .ref (ia 0))]) hx hb dX5_allStrays_3 rfl hl (by decide) rfl (fun ls hl => ?_)
  have lp4 : ∀ (kk : Nat) (nn : Nat) (i : Nat), (i ≤ n) → (nn = mnS (nF (aNest ab)) i) → n - i < kk → ∀ ls : Array Slot, lv_has ls 3 [(2, .int (nI i)), (1, .int (nI nn)), (0, .ref (ia 0))] → W p l e (headSpec wsX5_allStrays ({ frames := 0, cells := 0, slots := 0, locals := 0 } : Room)).room s m ([.ref (ia 0)] : List Value).toArray below meth c s.heap [] 0 0 (MQ below (vp_Si (fun r => r = nI (mnS (nF (aNest ab)) (aN ab)))) ([.ref (ia 0)] : List Value).toArray s 0 0 (fun _ => False)) (F0 m 4 ls []) := by
    intro kk
    induction kk with
    | zero => intro nn i  hi hnn hkk; exact absurd hkk (Nat.not_lt_zero _)
    | succ kk ih4 =>
      intro nn i hi hnn hkk ls hl
      refine lv_iload_n hx hb dX5_allStrays_4 rfl (lv_at hl 0 rfl) ?_
      refine lv_aload_n hx hb dX5_allStrays_5 rfl (lv_at hl 2 rfl) ?_
      refine va_get (D := G) (ci := 5) (v := .ref (tx 0)) (C := RX5) (T := TX5) (N := 7) hx hb hts hin5 hown hK hP 0 rfl rfl 0 (by decide) (hts (Cond.fieldLink RX5 12 "IndentRules" "text" "LIndentRules$Text;") (List.mem_of_getElem? (i := 1) rfl)) (fun _ h9 => h9) rfl dX5_allStrays_6 ?_
      refine va_get (D := G) (ci := 4) (v := .int (nI n)) (C := RX4) (T := TX4) (N := 2) hx hb hts hin4 hown hK hP 3 rfl rfl 1 (by decide) (hts (Cond.fieldLink RX5 48 "IndentRules$Text" "size" "I") (List.mem_of_getElem? (i := 2) rfl)) (fun _ h9 => h9) rfl dX5_allStrays_9 ?_
      refine n_icmp_ge (a := i) (b := n) (tgt := 33) hx hb (by omega) (by omega) dX5_allStrays_12 (by decide) (fun c12 => ?_) (fun c12 => ?_)
      · refine lv_iload_n hx hb dX5_allStrays_33 rfl (lv_at hl 1 rfl) ?_
        exact W.iret (v := (nI nn)) hx hb hr (fun tZ htZ hWZ => ⟨_, rfl, by rw [hnn, show i = aN ab by omega], htZ⟩) (fun _ h => by cases h) dX5_allStrays_34
      · refine lv_iload_n hx hb dX5_allStrays_15 rfl (lv_at hl 1 rfl) ?_
        refine lv_aload_n hx hb dX5_allStrays_16 rfl (lv_at hl 2 rfl) ?_
        refine va_get (D := G) (ci := 5) (v := .ref (z 0)) (C := RX5) (T := TX5) (N := 7) hx hb hts hin5 hown hK hP 0 rfl rfl 1 (by decide) (hts (Cond.fieldLink RX5 19 "IndentRules" "nesting" "LIndentRules$Nesting;") (List.mem_of_getElem? (i := 3) rfl)) (fun _ h9 => h9) rfl dX5_allStrays_17 ?_
        refine va_get (D := G) (ci := 2) (v := .ref (z 4)) (C := RX2) (T := TX2) (N := 14) hx hb hts hin2 hown hK hP 5 rfl rfl 3 (by decide) (hts (Cond.fieldLink RX5 112 "IndentRules$Nesting" "strays" "[I") (List.mem_of_getElem? (i := 4) rfl)) (fun _ h9 => h9) rfl dX5_allStrays_20 ?_
        refine lv_iload_n hx hb dX5_allStrays_23 rfl (lv_at hl 0 rfl) ?_
        refine k_iald (D := G) (tys := TYS E) (j := i) (f := stry) (n := 20) hx hb hK hP 9 0 rfl rfl (by omega) (by decide) dX5_allStrays_24 ?_
        rw [(hCN.2.1 i (by omega)).2.2.2]
        refine k_iadd (a := nn) (b := (nF (aNest ab) 7 i)) hx hb dX5_allStrays_25 ?_
        refine lv_istore_n (lv' := [(1, .int (nI (nn + (nF (aNest ab) 7 i)))), (2, .int (nI i)), (0, .ref (ia 0))]) hx hb dX5_allStrays_26 rfl hl (by decide) rfl (fun ls hl => ?_)
        refine lv_iinc (v := (nI (i + 1))) (lv' := [(2, .int (nI (i + 1))), (1, .int (nI (nn + (nF (aNest ab) 7 i)))), (0, .ref (ia 0))]) hx hb dX5_allStrays_27 hl (k := 1) rfl (k_inc i) (by decide) rfl (fun ls hl => ?_)
        refine lv_goto (tgt := 4) hx hb dX5_allStrays_30 (by decide) ?_
        exact ih4 (nn + (nF (aNest ab) 7 i)) (i + 1) (by omega) (by rw [hnn]; rfl) (by omega) ls (lv_sub hl [0, 1, 2] rfl)
  exact lp4 (n - 0 + 1) 0 0 (Nat.zero_le _) rfl (Nat.lt_succ_self _) ls (lv_sub hl [0, 1, 2] rfl)

set_option maxHeartbeats 4000000 in
set_option maxRecDepth 100000 in
theorem c_X5_seenLines (l : Launch) (G : va_G) (E : cEnv) (ia tx z y v : Nat → Nat) (kq : Nat → Nat → Nat) (gp : Int32) (gd : Nat → Int32) (n : Nat) (pi : Nat → Nat) (op hg la : Nat) (tops dpt lst stry srt lin tokA wah fol par_ opn : Nat → Int32) (sett clA setv clV : Nat → Int32) (kn0 kz0 kn1 kz1 kn2 kz2 : Nat) (kl0 kp0 kk0 kl1 kp1 kk1 kl2 kp2 kk2 : Nat → Int32) (oa ta : Nat → Nat) (tl ct ps : Nat → Nat) (sn cb : Nat → Int32) (tk : Nat → Nat → Int32) (ab : ABS) (hab : ClsOk ab n op pi tl ct ps sn tk tops dpt lst stry srt lin tokA wah fol par_ opn sett clA kn0 kz0 kn1 kz1 kn2 kz2 kl0 kp0 kk0 kl1 kp1 kk1 kl2 kp2 kk2) : Met l yX5_seenLines wsX5_seenLines ({ frames := 0, cells := 0, slots := 0, locals := 0 }) (va_Pc [.ref (ia 0)] (PR G E (((iaW E ia tx z y v kq gp gd) ++ (txW E tx n (slot oa pi)) ++ (neW E z op hg la tops dpt lst stry srt lin tokA wah fol par_ opn) ++ (lyW E y sett clA) ++ (lyW E v setv clV) ++ (pkW E (kq 0) kn0 kz0 kl0 kp0 kk0) ++ (pkW E (kq 1) kn1 kz1 kl1 kp1 kk1) ++ (pkW E (kq 2) kn2 kz2 kl2 kp2 kk2)) ++ poW E oa ta tl ct ps sn cb tk))) (vp_Si (fun r => r = nI (mnSeen (aS ab) (aN ab)))) 0 0 (fun _ => False) := by
  refine Met.ofW (cc := cX5_seenLines) (maxL := 3) (ret := (some .int)) (by decide) rfl ?_
  intro p e s m args below meth c s₁ B hml hv
  obtain ⟨rfl, hP, hK, hZ⟩ := hv
  have hx := B.exec
  have hb := B.bytes
  have hr := B.returns
  have hts := atoms_spec (ws := wsX5_seenLines) B.pre
  have hown : s.vm.findClass RX5 = some m.cls := findClass_of_methodNamed B.named
  have hlocks := B.notSynchronized
  have hin1 : ∀ w ∈ u_ws RX1 TX1 6, w ∈ wsX5_seenLines := mem_pl [14, 15, 16, 17, 18, 19] (by rfl)
  have hin4 : ∀ w ∈ u_ws RX4 TX4 2, w ∈ wsX5_seenLines := mem_pl [12, 13] (by rfl)
  have hin5 : ∀ w ∈ u_ws RX5 TX5 7, w ∈ wsX5_seenLines := mem_pl [5, 6, 7, 8, 9, 10, 11] (by rfl)
  have hS : va_S (fun _ => False) s.heap s.heap [] := va_S.rf
  have hl := lv_entry ([.ref (ia 0)]) (n := 3) (Nat.le_of_ble_eq_true rfl)
  rw [lg_entry_eq]
  generalize (lg_sl ([.ref (ia 0)]) ++ List.replicate (3 - (lg_sl ([.ref (ia 0)])).length) Slot.unset).toArray = ls at hl ⊢
  have hl : lv_has ls 3 [(0, .ref (ia 0))] := hl
  obtain ⟨hN, hok, hop, hPL, hSN, hpp, hCN, hsg, hcl, hk0, hk1, hk2⟩ := id hab
  have hn : n ≤ 20 := by rw [hN]; exact hok.1
  have hrn : ∀ j, j < n → aR ab j < 1000000000 := fun j hj => (hok.2.1 j (by omega)).1
  have hpi : ∀ i, i < 20 → pi i < 20 := fun i hi => (hpp i hi).1
  have hwN := wfN_all (row := aR ab) (aN ab) (fun j hj => hrn j (by omega))
  have hob : nO (aNest ab) ≤ 180 := Nat.le_trans hwN.2.1 (by omega)
  have hCn : CN (nAll (aR ab) n) n tops dpt lst stry srt lin tokA wah fol par_ opn := by rw [hN] at hCN ⊢; exact hCN
  have hLN : LN (nF (aNest ab)) (nO (aNest ab)) srt lin wah fol := hCN.ln (by omega) (fun j hj => hrn j (by omega))
  refine lv_iconst (v := (nI 0)) hx hb dX5_seenLines_0 (by decide) ?_
  refine lv_istore_n (lv' := [(1, .int (nI 0)), (0, .ref (ia 0))]) hx hb dX5_seenLines_1 rfl hl (by decide) rfl (fun ls hl => ?_)
  refine lv_iconst (v := (nI 0)) hx hb dX5_seenLines_2 (by decide) ?_
  refine lv_istore_n (lv' := [(2, .int (nI 0)), (1, .int (nI 0)), (0, .ref (ia 0))]) hx hb dX5_seenLines_3 rfl hl (by decide) rfl (fun ls hl => ?_)
  have lp4 : ∀ (kk : Nat) (nn : Nat) (i : Nat), (i ≤ n) → (nn = mnSeen (aS ab) i) → n - i < kk → ∀ ls : Array Slot, lv_has ls 3 [(2, .int (nI i)), (1, .int (nI nn)), (0, .ref (ia 0))] → W p l e (headSpec wsX5_seenLines ({ frames := 0, cells := 0, slots := 0, locals := 0 } : Room)).room s m ([.ref (ia 0)] : List Value).toArray below meth c s.heap [] 0 0 (MQ below (vp_Si (fun r => r = nI (mnSeen (aS ab) (aN ab)))) ([.ref (ia 0)] : List Value).toArray s 0 0 (fun _ => False)) (F0 m 4 ls []) := by
    intro kk
    induction kk with
    | zero => intro nn i  hi hnn hkk; exact absurd hkk (Nat.not_lt_zero _)
    | succ kk ih4 =>
      intro nn i hi hnn hkk ls hl
      refine lv_iload_n hx hb dX5_seenLines_4 rfl (lv_at hl 0 rfl) ?_
      refine lv_aload_n hx hb dX5_seenLines_5 rfl (lv_at hl 2 rfl) ?_
      refine va_get (D := G) (ci := 5) (v := .ref (tx 0)) (C := RX5) (T := TX5) (N := 7) hx hb hts hin5 hown hK hP 0 rfl rfl 0 (by decide) (hts (Cond.fieldLink RX5 12 "IndentRules" "text" "LIndentRules$Text;") (List.mem_of_getElem? (i := 1) rfl)) (fun _ h9 => h9) rfl dX5_seenLines_6 ?_
      refine va_get (D := G) (ci := 4) (v := .int (nI n)) (C := RX4) (T := TX4) (N := 2) hx hb hts hin4 hown hK hP 3 rfl rfl 1 (by decide) (hts (Cond.fieldLink RX5 48 "IndentRules$Text" "size" "I") (List.mem_of_getElem? (i := 2) rfl)) (fun _ h9 => h9) rfl dX5_seenLines_9 ?_
      refine n_icmp_ge (a := i) (b := n) (tgt := 41) hx hb (by omega) (by omega) dX5_seenLines_12 (by decide) (fun c12 => ?_) (fun c12 => ?_)
      · refine lv_iload_n hx hb dX5_seenLines_41 rfl (lv_at hl 1 rfl) ?_
        exact W.iret (v := (nI nn)) hx hb hr (fun tZ htZ hWZ => ⟨_, rfl, by rw [hnn, show i = aN ab by omega], htZ⟩) (fun _ h => by cases h) dX5_seenLines_42
      · refine lv_aload_n hx hb dX5_seenLines_15 rfl (lv_at hl 2 rfl) ?_
        refine va_get (D := G) (ci := 5) (v := .ref (tx 0)) (C := RX5) (T := TX5) (N := 7) hx hb hts hin5 hown hK hP 0 rfl rfl 0 (by decide) (hts (Cond.fieldLink RX5 12 "IndentRules" "text" "LIndentRules$Text;") (List.mem_of_getElem? (i := 1) rfl)) (fun _ h9 => h9) rfl dX5_seenLines_16 ?_
        refine va_get (D := G) (ci := 4) (v := .ref (tx 1)) (C := RX4) (T := TX4) (N := 2) hx hb hts hin4 hown hK hP 3 rfl rfl 0 (by decide) (hts (Cond.fieldLink RX5 73 "IndentRules$Text" "lines" "[LIndentRules$Line;") (List.mem_of_getElem? (i := 3) rfl)) (fun _ h9 => h9) rfl dX5_seenLines_19 ?_
        refine lv_iload_n hx hb dX5_seenLines_22 rfl (lv_at hl 0 rfl) ?_
        refine k_aald (D := G) (tys := TYS E) (j := i) (f := (slot oa pi)) (n := 20) hx hb hK hP 4 2 rfl rfl (by omega) (by decide) dX5_seenLines_23 ?_
        refine W.eq (g2 := F0 m 24 ls [.ref (oa (pi i))]) rfl ?_
        refine va_get (D := G) (ci := 1) (v := .int (sn (pi i))) (C := RX1) (T := TX1) (N := 6) hx hb hts hin1 hown hK hP (35 + (pi i)) (po_lnX rfl (hpi i (by omega))) rfl 4 (by decide) (hts (Cond.fieldLink RX5 115 "IndentRules$Line" "seen" "I") (List.mem_of_getElem? (i := 4) rfl)) (fun _ h9 => h9) rfl dX5_seenLines_24 ?_
        refine lv_bipush (v := (-9)) hx hb dX5_seenLines_27 (by decide) ?_
        refine lv_icmp_eq (x := (sn (pi i))) (y := (-9)) (tgt := 35) hx hb dX5_seenLines_29 (by decide) (fun c29 => ?_) (fun c29 => ?_)
        · refine lv_iinc (v := (nI (i + 1))) (lv' := [(2, .int (nI (i + 1))), (1, .int (nI nn)), (0, .ref (ia 0))]) hx hb dX5_seenLines_35 hl (k := 0) rfl (k_inc i) (by decide) rfl (fun ls hl => ?_)
          refine lv_goto (tgt := 4) hx hb dX5_seenLines_38 (by decide) ?_
          exact ih4 nn (i + 1) (by omega) (by rw [hnn]; show _ = mnSeen (aS ab) i + _; rw [if_pos (by rw [← hSN i (by omega)]; exact c29), Nat.add_zero]) (by omega) ls (lv_sub hl [0, 1, 2] rfl)
        · refine lv_iinc (v := (nI (nn + 1))) (lv' := [(1, .int (nI (nn + 1))), (2, .int (nI i)), (0, .ref (ia 0))]) hx hb dX5_seenLines_32 hl (k := 1) rfl (k_inc nn) (by decide) rfl (fun ls hl => ?_)
          refine lv_iinc (v := (nI (i + 1))) (lv' := [(2, .int (nI (i + 1))), (1, .int (nI (nn + 1))), (0, .ref (ia 0))]) hx hb dX5_seenLines_35 hl (k := 1) rfl (k_inc i) (by decide) rfl (fun ls hl => ?_)
          refine lv_goto (tgt := 4) hx hb dX5_seenLines_38 (by decide) ?_
          exact ih4 (nn + 1) (i + 1) (by omega) (by rw [hnn]; show _ = mnSeen (aS ab) i + _; rw [if_neg (fun q => c29 (by rw [hSN i (by omega)]; exact q))]) (by omega) ls (lv_sub hl [0, 1, 2] rfl)
  exact lp4 (n - 0 + 1) 0 0 (Nat.zero_le _) rfl (Nat.lt_succ_self _) ls (lv_sub hl [0, 1, 2] rfl)

set_option maxHeartbeats 4000000 in
set_option maxRecDepth 100000 in
theorem c_X5_allTokens (l : Launch) (G : va_G) (E : cEnv) (ia tx z y v : Nat → Nat) (kq : Nat → Nat → Nat) (gp : Int32) (gd : Nat → Int32) (n : Nat) (pi : Nat → Nat) (op hg la : Nat) (tops dpt lst stry srt lin tokA wah fol par_ opn : Nat → Int32) (sett clA setv clV : Nat → Int32) (kn0 kz0 kn1 kz1 kn2 kz2 : Nat) (kl0 kp0 kk0 kl1 kp1 kk1 kl2 kp2 kk2 : Nat → Int32) (oa ta : Nat → Nat) (tl ct ps : Nat → Nat) (sn cb : Nat → Int32) (tk : Nat → Nat → Int32) (ab : ABS) (hab : ClsOk ab n op pi tl ct ps sn tk tops dpt lst stry srt lin tokA wah fol par_ opn sett clA kn0 kz0 kn1 kz1 kn2 kz2 kl0 kp0 kk0 kl1 kp1 kk1 kl2 kp2 kk2) : Met l yX5_allTokens wsX5_allTokens ({ frames := 0, cells := 0, slots := 0, locals := 0 }) (va_Pc [.ref (ia 0)] (PR G E (((iaW E ia tx z y v kq gp gd) ++ (txW E tx n (slot oa pi)) ++ (neW E z op hg la tops dpt lst stry srt lin tokA wah fol par_ opn) ++ (lyW E y sett clA) ++ (lyW E v setv clV) ++ (pkW E (kq 0) kn0 kz0 kl0 kp0 kk0) ++ (pkW E (kq 1) kn1 kz1 kl1 kp1 kk1) ++ (pkW E (kq 2) kn2 kz2 kl2 kp2 kk2)) ++ poW E oa ta tl ct ps sn cb tk))) (vp_Si (fun r => r = nI (mnT (aR ab) (aN ab)))) 0 0 (fun _ => False) := by
  refine Met.ofW (cc := cX5_allTokens) (maxL := 3) (ret := (some .int)) (by decide) rfl ?_
  intro p e s m args below meth c s₁ B hml hv
  obtain ⟨rfl, hP, hK, hZ⟩ := hv
  have hx := B.exec
  have hb := B.bytes
  have hr := B.returns
  have hts := atoms_spec (ws := wsX5_allTokens) B.pre
  have hown : s.vm.findClass RX5 = some m.cls := findClass_of_methodNamed B.named
  have hlocks := B.notSynchronized
  have hin1 : ∀ w ∈ u_ws RX1 TX1 6, w ∈ wsX5_allTokens := mem_pl [14, 15, 16, 17, 18, 19] (by rfl)
  have hin4 : ∀ w ∈ u_ws RX4 TX4 2, w ∈ wsX5_allTokens := mem_pl [12, 13] (by rfl)
  have hin5 : ∀ w ∈ u_ws RX5 TX5 7, w ∈ wsX5_allTokens := mem_pl [5, 6, 7, 8, 9, 10, 11] (by rfl)
  have hS : va_S (fun _ => False) s.heap s.heap [] := va_S.rf
  have hl := lv_entry ([.ref (ia 0)]) (n := 3) (Nat.le_of_ble_eq_true rfl)
  rw [lg_entry_eq]
  generalize (lg_sl ([.ref (ia 0)]) ++ List.replicate (3 - (lg_sl ([.ref (ia 0)])).length) Slot.unset).toArray = ls at hl ⊢
  have hl : lv_has ls 3 [(0, .ref (ia 0))] := hl
  obtain ⟨hN, hok, hop, hPL, hSN, hpp, hCN, hsg, hcl, hk0, hk1, hk2⟩ := id hab
  have hn : n ≤ 20 := by rw [hN]; exact hok.1
  have hrn : ∀ j, j < n → aR ab j < 1000000000 := fun j hj => (hok.2.1 j (by omega)).1
  have hpi : ∀ i, i < 20 → pi i < 20 := fun i hi => (hpp i hi).1
  have hwN := wfN_all (row := aR ab) (aN ab) (fun j hj => hrn j (by omega))
  have hob : nO (aNest ab) ≤ 180 := Nat.le_trans hwN.2.1 (by omega)
  have hCn : CN (nAll (aR ab) n) n tops dpt lst stry srt lin tokA wah fol par_ opn := by rw [hN] at hCN ⊢; exact hCN
  have hLN : LN (nF (aNest ab)) (nO (aNest ab)) srt lin wah fol := hCN.ln (by omega) (fun j hj => hrn j (by omega))
  refine lv_iconst (v := (nI 0)) hx hb dX5_allTokens_0 (by decide) ?_
  refine lv_istore_n (lv' := [(1, .int (nI 0)), (0, .ref (ia 0))]) hx hb dX5_allTokens_1 rfl hl (by decide) rfl (fun ls hl => ?_)
  refine lv_iconst (v := (nI 0)) hx hb dX5_allTokens_2 (by decide) ?_
  refine lv_istore_n (lv' := [(2, .int (nI 0)), (1, .int (nI 0)), (0, .ref (ia 0))]) hx hb dX5_allTokens_3 rfl hl (by decide) rfl (fun ls hl => ?_)
  have lp4 : ∀ (kk : Nat) (nn : Nat) (i : Nat), (i ≤ n) → (nn = mnT (aR ab) i) → n - i < kk → ∀ ls : Array Slot, lv_has ls 3 [(2, .int (nI i)), (1, .int (nI nn)), (0, .ref (ia 0))] → W p l e (headSpec wsX5_allTokens ({ frames := 0, cells := 0, slots := 0, locals := 0 } : Room)).room s m ([.ref (ia 0)] : List Value).toArray below meth c s.heap [] 0 0 (MQ below (vp_Si (fun r => r = nI (mnT (aR ab) (aN ab)))) ([.ref (ia 0)] : List Value).toArray s 0 0 (fun _ => False)) (F0 m 4 ls []) := by
    intro kk
    induction kk with
    | zero => intro nn i  hi hnn hkk; exact absurd hkk (Nat.not_lt_zero _)
    | succ kk ih4 =>
      intro nn i hi hnn hkk ls hl
      refine lv_iload_n hx hb dX5_allTokens_4 rfl (lv_at hl 0 rfl) ?_
      refine lv_aload_n hx hb dX5_allTokens_5 rfl (lv_at hl 2 rfl) ?_
      refine va_get (D := G) (ci := 5) (v := .ref (tx 0)) (C := RX5) (T := TX5) (N := 7) hx hb hts hin5 hown hK hP 0 rfl rfl 0 (by decide) (hts (Cond.fieldLink RX5 12 "IndentRules" "text" "LIndentRules$Text;") (List.mem_of_getElem? (i := 1) rfl)) (fun _ h9 => h9) rfl dX5_allTokens_6 ?_
      refine va_get (D := G) (ci := 4) (v := .int (nI n)) (C := RX4) (T := TX4) (N := 2) hx hb hts hin4 hown hK hP 3 rfl rfl 1 (by decide) (hts (Cond.fieldLink RX5 48 "IndentRules$Text" "size" "I") (List.mem_of_getElem? (i := 2) rfl)) (fun _ h9 => h9) rfl dX5_allTokens_9 ?_
      refine n_icmp_ge (a := i) (b := n) (tgt := 36) hx hb (by omega) (by omega) dX5_allTokens_12 (by decide) (fun c12 => ?_) (fun c12 => ?_)
      · refine lv_iload_n hx hb dX5_allTokens_36 rfl (lv_at hl 1 rfl) ?_
        exact W.iret (v := (nI nn)) hx hb hr (fun tZ htZ hWZ => ⟨_, rfl, by rw [hnn, show i = aN ab by omega], htZ⟩) (fun _ h => by cases h) dX5_allTokens_37
      · refine lv_iload_n hx hb dX5_allTokens_15 rfl (lv_at hl 1 rfl) ?_
        refine lv_aload_n hx hb dX5_allTokens_16 rfl (lv_at hl 2 rfl) ?_
        refine va_get (D := G) (ci := 5) (v := .ref (tx 0)) (C := RX5) (T := TX5) (N := 7) hx hb hts hin5 hown hK hP 0 rfl rfl 0 (by decide) (hts (Cond.fieldLink RX5 12 "IndentRules" "text" "LIndentRules$Text;") (List.mem_of_getElem? (i := 1) rfl)) (fun _ h9 => h9) rfl dX5_allTokens_17 ?_
        refine va_get (D := G) (ci := 4) (v := .ref (tx 1)) (C := RX4) (T := TX4) (N := 2) hx hb hts hin4 hown hK hP 3 rfl rfl 0 (by decide) (hts (Cond.fieldLink RX5 73 "IndentRules$Text" "lines" "[LIndentRules$Line;") (List.mem_of_getElem? (i := 3) rfl)) (fun _ h9 => h9) rfl dX5_allTokens_20 ?_
        refine lv_iload_n hx hb dX5_allTokens_23 rfl (lv_at hl 0 rfl) ?_
        refine k_aald (D := G) (tys := TYS E) (j := i) (f := (slot oa pi)) (n := 20) hx hb hK hP 4 2 rfl rfl (by omega) (by decide) dX5_allTokens_24 ?_
        refine W.eq (g2 := F0 m 25 ls [.ref (oa (pi i)), .int (nI nn)]) rfl ?_
        refine va_get (D := G) (ci := 1) (v := .int (nI (ct (pi i)))) (C := RX1) (T := TX1) (N := 6) hx hb hts hin1 hown hK hP (35 + (pi i)) (po_lnX rfl (hpi i (by omega))) rfl 2 (by decide) (hts (Cond.fieldLink RX5 103 "IndentRules$Line" "count" "I") (List.mem_of_getElem? (i := 4) rfl)) (fun _ h9 => h9) rfl dX5_allTokens_25 ?_
        refine k_iadd (a := nn) (b := (ct (pi i))) hx hb dX5_allTokens_28 ?_
        refine lv_istore_n (lv' := [(1, .int (nI (nn + (ct (pi i))))), (2, .int (nI i)), (0, .ref (ia 0))]) hx hb dX5_allTokens_29 rfl hl (by decide) rfl (fun ls hl => ?_)
        refine lv_iinc (v := (nI (i + 1))) (lv' := [(2, .int (nI (i + 1))), (1, .int (nI (nn + (ct (pi i))))), (0, .ref (ia 0))]) hx hb dX5_allTokens_30 hl (k := 1) rfl (k_inc i) (by decide) rfl (fun ls hl => ?_)
        refine lv_goto (tgt := 4) hx hb dX5_allTokens_33 (by decide) ?_
        exact ih4 (nn + (ct (pi i))) (i + 1) (by omega) (by rw [hnn, (hPL i (by omega)).2.2.1]; rfl) (by omega) ls (lv_sub hl [0, 1, 2] rfl)
  exact lp4 (n - 0 + 1) 0 0 (Nat.zero_le _) rfl (Nat.lt_succ_self _) ls (lv_sub hl [0, 1, 2] rfl)

set_option maxHeartbeats 4000000 in
set_option maxRecDepth 100000 in
theorem c_X5_many (l : Launch) (G : va_G) (E : cEnv) (ia tx z y v : Nat → Nat) (kq : Nat → Nat → Nat) (gp : Int32) (gd : Nat → Int32) (n : Nat) (pi : Nat → Nat) (op hg la : Nat) (tops dpt lst stry srt lin tokA wah fol par_ opn : Nat → Int32) (sett clA setv clV : Nat → Int32) (kn0 kz0 kn1 kz1 kn2 kz2 : Nat) (kl0 kp0 kk0 kl1 kp1 kk1 kl2 kp2 kk2 : Nat → Int32) (oa ta : Nat → Nat) (tl ct ps : Nat → Nat) (sn cb : Nat → Int32) (tk : Nat → Nat → Int32) (a2 : Int32) (ab : ABS) (hab : ClsOk ab n op pi tl ct ps sn tk tops dpt lst stry srt lin tokA wah fol par_ opn sett clA kn0 kz0 kn1 kz1 kn2 kz2 kl0 kp0 kk0 kl1 kp1 kk1 kl2 kp2 kk2) : Met l yX5_many wsX5_many ({ frames := 1, cells := 0, slots := 0, locals := 22 }) (va_Pc [.ref (ia 0), .int a2] (PR G E (((iaW E ia tx z y v kq gp gd) ++ (txW E tx n (slot oa pi)) ++ (neW E z op hg la tops dpt lst stry srt lin tokA wah fol par_ opn) ++ (lyW E y sett clA) ++ (lyW E v setv clV) ++ (pkW E (kq 0) kn0 kz0 kl0 kp0 kk0) ++ (pkW E (kq 1) kn1 kz1 kl1 kp1 kk1) ++ (pkW E (kq 2) kn2 kz2 kl2 kp2 kk2)) ++ poW E oa ta tl ct ps sn cb tk))) (vp_Si (fun r => r = fMany ab a2)) 0 0 (fun _ => False) := by
  refine Met.ofW (cc := cX5_many) (maxL := 2) (ret := (some .int)) (by decide) rfl ?_
  intro p e s m args below meth c s₁ B hml hv
  obtain ⟨rfl, hP, hK, hZ⟩ := hv
  have hx := B.exec
  have hb := B.bytes
  have hr := B.returns
  have hts := atoms_spec (ws := wsX5_many) B.pre
  have hown : s.vm.findClass RX5 = some m.cls := findClass_of_methodNamed B.named
  have hlocks := B.notSynchronized
  have hin2 : ∀ w ∈ u_ws RX2 TX2 14, w ∈ wsX5_many := mem_pl [38, 39, 40, 41, 42, 43, 44, 45, 46, 47, 48, 49, 50, 51] (by rfl)
  have hin4 : ∀ w ∈ u_ws RX4 TX4 2, w ∈ wsX5_many := mem_pl [36, 37] (by rfl)
  have hin5 : ∀ w ∈ u_ws RX5 TX5 7, w ∈ wsX5_many := mem_pl [29, 30, 31, 32, 33, 34, 35] (by rfl)
  have hS : va_S (fun _ => False) s.heap s.heap [] := va_S.rf
  have hl := lv_entry ([.ref (ia 0), .int a2]) (n := 2) (Nat.le_of_ble_eq_true rfl)
  rw [lg_entry_eq]
  generalize (lg_sl ([.ref (ia 0), .int a2]) ++ List.replicate (2 - (lg_sl ([.ref (ia 0), .int a2])).length) Slot.unset).toArray = ls at hl ⊢
  have hl : lv_has ls 2 [(0, .ref (ia 0)), (1, .int a2)] := hl
  obtain ⟨hN, hok, hop, hPL, hSN, hpp, hCN, hsg, hcl, hk0, hk1, hk2⟩ := id hab
  have hn : n ≤ 20 := by rw [hN]; exact hok.1
  have hrn : ∀ j, j < n → aR ab j < 1000000000 := fun j hj => (hok.2.1 j (by omega)).1
  have hpi : ∀ i, i < 20 → pi i < 20 := fun i hi => (hpp i hi).1
  have hwN := wfN_all (row := aR ab) (aN ab) (fun j hj => hrn j (by omega))
  have hob : nO (aNest ab) ≤ 180 := Nat.le_trans hwN.2.1 (by omega)
  have hCn : CN (nAll (aR ab) n) n tops dpt lst stry srt lin tokA wah fol par_ opn := by rw [hN] at hCN ⊢; exact hCN
  have hLN : LN (nF (aNest ab)) (nO (aNest ab)) srt lin wah fol := hCN.ln (by omega) (fun j hj => hrn j (by omega))
  refine lv_iload_n hx hb dX5_many_0 rfl (lv_at hl 1 rfl) ?_
  by_cases h1_0 : a2 = nI 0
  · refine lv_tableIn (off := 39) (tgt := 40) hx hb dX5_many_1 (by rw [h1_0]; decide) (by rw [h1_0]; decide) (by rw [h1_0]; decide) (by decide) ?_
    refine lv_aload_n hx hb dX5_many_40 rfl (lv_at hl 0 rfl) ?_
    refine va_get (D := G) (ci := 5) (v := .ref (tx 0)) (C := RX5) (T := TX5) (N := 7) hx hb hts hin5 hown hK hP 0 rfl rfl 0 (by decide) (hts (Cond.fieldLink RX5 12 "IndentRules" "text" "LIndentRules$Text;") (List.mem_of_getElem? (i := 1) rfl)) (fun _ h9 => h9) rfl dX5_many_41 ?_
    refine va_get (D := G) (ci := 4) (v := .int (nI n)) (C := RX4) (T := TX4) (N := 2) hx hb hts hin4 hown hK hP 3 rfl rfl 1 (by decide) (hts (Cond.fieldLink RX5 48 "IndentRules$Text" "size" "I") (List.mem_of_getElem? (i := 2) rfl)) (fun _ h9 => h9) rfl dX5_many_44 ?_
    exact W.iret (v := (nI n)) hx hb hr (fun tZ htZ hWZ => ⟨_, rfl, by unfold fMany; rw [if_pos h1_0, hN], htZ⟩) (fun _ h => by cases h) dX5_many_47
  by_cases h1_1 : a2 = nI 1
  · refine lv_tableIn (off := 47) (tgt := 48) hx hb dX5_many_1 (by rw [h1_1]; decide) (by rw [h1_1]; decide) (by rw [h1_1]; decide) (by decide) ?_
    refine lv_aload_n hx hb dX5_many_48 rfl (lv_at hl 0 rfl) ?_
    refine va_get (D := G) (ci := 5) (v := .ref (z 0)) (C := RX5) (T := TX5) (N := 7) hx hb hts hin5 hown hK hP 0 rfl rfl 1 (by decide) (hts (Cond.fieldLink RX5 19 "IndentRules" "nesting" "LIndentRules$Nesting;") (List.mem_of_getElem? (i := 3) rfl)) (fun _ h9 => h9) rfl dX5_many_49 ?_
    refine va_get (D := G) (ci := 2) (v := .int (nI op)) (C := RX2) (T := TX2) (N := 14) hx hb hts hin2 hown hK hP 5 rfl rfl 4 (by decide) (hts (Cond.fieldLink RX5 195 "IndentRules$Nesting" "openers" "I") (List.mem_of_getElem? (i := 4) rfl)) (fun _ h9 => h9) rfl dX5_many_52 ?_
    exact W.iret (v := (nI op)) hx hb hr (fun tZ htZ hWZ => ⟨_, rfl, by unfold fMany; rw [if_neg h1_0, if_pos h1_1, hop], htZ⟩) (fun _ h => by cases h) dX5_many_55
  by_cases h1_2 : a2 = nI 2
  · refine lv_tableIn (off := 55) (tgt := 56) hx hb dX5_many_1 (by rw [h1_2]; decide) (by rw [h1_2]; decide) (by rw [h1_2]; decide) (by decide) ?_
    refine lv_aload_n hx hb dX5_many_56 rfl (lv_at hl 0 rfl) ?_
    refine va_get (D := G) (ci := 5) (v := .ref (z 0)) (C := RX5) (T := TX5) (N := 7) hx hb hts hin5 hown hK hP 0 rfl rfl 1 (by decide) (hts (Cond.fieldLink RX5 19 "IndentRules" "nesting" "LIndentRules$Nesting;") (List.mem_of_getElem? (i := 3) rfl)) (fun _ h9 => h9) rfl dX5_many_57 ?_
    refine rv_i (n := 0) (G := G) (E := E) (As := []) (rest := []) (ci := 2) (q0 := 0) ⟨hx, hb, hml, hown, hts⟩ hK hZ hS (c_X2_withoutPartner l G E z op hg la tops dpt lst stry srt lin tokA wah fol par_ opn (nF (aNest ab)) (by rw [hop]; exact hob) (fun k hk => (hCN.1 k (by rw [← hop]; exact hk)).2.2.2.2.2)) gX5_many_X2_withoutPartner rfl rfl rfl (by decide +kernel) ⟨Nat.le_of_ble_eq_true rfl, Nat.le_of_ble_eq_true rfl⟩ (hP.sub (ws' := (neW E z op hg la tops dpt lst stry srt lin tokA wah fol par_ opn)) [5, 6, 7, 8, 9, 10, 11, 12, 13, 14, 15, 16] rfl) rfl rfl hl.1 rfl rfl (Nat.le_of_ble_eq_true rfl) dX5_many_60 ⟨Nat.zero_le _, Nat.zero_le _⟩ (fun r60 p60 => ?_)
    exact W.iret (v := r60) hx hb hr (fun tZ htZ hWZ => ⟨_, rfl, by unfold fMany; rw [if_neg h1_0, if_neg h1_1, if_pos h1_2, p60, hop], htZ⟩) (fun _ h => by cases h) dX5_many_63
  by_cases h1_3 : a2 = nI 3
  · refine lv_tableIn (off := 63) (tgt := 64) hx hb dX5_many_1 (by rw [h1_3]; decide) (by rw [h1_3]; decide) (by rw [h1_3]; decide) (by decide) ?_
    refine lv_aload_n hx hb dX5_many_64 rfl (lv_at hl 0 rfl) ?_
    refine rv_i (n := 0) (G := G) (E := E) (As := []) (rest := []) (ci := 5) (q0 := 0) ⟨hx, hb, hml, hown, hts⟩ hK hZ hS (c_X5_allStrays l G E ia tx z y v kq gp gd n pi op hg la tops dpt lst stry srt lin tokA wah fol par_ opn sett clA setv clV kn0 kz0 kn1 kz1 kn2 kz2 kl0 kp0 kk0 kl1 kp1 kk1 kl2 kp2 kk2 oa ta tl ct ps sn cb tk ab hab) gX5_many_X5_allStrays rfl rfl rfl (by decide +kernel) ⟨Nat.le_of_ble_eq_true rfl, Nat.le_of_ble_eq_true rfl⟩ hP rfl rfl hl.1 rfl rfl (Nat.le_of_ble_eq_true rfl) dX5_many_65 ⟨Nat.zero_le _, Nat.zero_le _⟩ (fun r65 p65 => ?_)
    subst p65
    exact W.iret (v := (nI (mnS (nF (aNest ab)) (aN ab)))) hx hb hr (fun tZ htZ hWZ => ⟨_, rfl, by unfold fMany; rw [if_neg h1_0, if_neg h1_1, if_neg h1_2, if_pos h1_3], htZ⟩) (fun _ h => by cases h) dX5_many_68
  by_cases h1_4 : a2 = nI 4
  · refine lv_tableIn (off := 68) (tgt := 69) hx hb dX5_many_1 (by rw [h1_4]; decide) (by rw [h1_4]; decide) (by rw [h1_4]; decide) (by decide) ?_
    refine lv_aload_n hx hb dX5_many_69 rfl (lv_at hl 0 rfl) ?_
    refine rv_i (n := 0) (G := G) (E := E) (As := []) (rest := []) (ci := 5) (q0 := 0) ⟨hx, hb, hml, hown, hts⟩ hK hZ hS (c_X5_seenLines l G E ia tx z y v kq gp gd n pi op hg la tops dpt lst stry srt lin tokA wah fol par_ opn sett clA setv clV kn0 kz0 kn1 kz1 kn2 kz2 kl0 kp0 kk0 kl1 kp1 kk1 kl2 kp2 kk2 oa ta tl ct ps sn cb tk ab hab) gX5_many_X5_seenLines rfl rfl rfl (by decide +kernel) ⟨Nat.le_of_ble_eq_true rfl, Nat.le_of_ble_eq_true rfl⟩ hP rfl rfl hl.1 rfl rfl (Nat.le_of_ble_eq_true rfl) dX5_many_70 ⟨Nat.zero_le _, Nat.zero_le _⟩ (fun r70 p70 => ?_)
    subst p70
    exact W.iret (v := (nI (mnSeen (aS ab) (aN ab)))) hx hb hr (fun tZ htZ hWZ => ⟨_, rfl, by unfold fMany; rw [if_neg h1_0, if_neg h1_1, if_neg h1_2, if_neg h1_3, if_pos h1_4], htZ⟩) (fun _ h => by cases h) dX5_many_73
  by_cases h1_5 : a2 = nI 5
  · refine lv_tableIn (off := 73) (tgt := 74) hx hb dX5_many_1 (by rw [h1_5]; decide) (by rw [h1_5]; decide) (by rw [h1_5]; decide) (by decide) ?_
    refine lv_aload_n hx hb dX5_many_74 rfl (lv_at hl 0 rfl) ?_
    refine rv_i (n := 0) (G := G) (E := E) (As := []) (rest := []) (ci := 5) (q0 := 0) ⟨hx, hb, hml, hown, hts⟩ hK hZ hS (c_X5_allTokens l G E ia tx z y v kq gp gd n pi op hg la tops dpt lst stry srt lin tokA wah fol par_ opn sett clA setv clV kn0 kz0 kn1 kz1 kn2 kz2 kl0 kp0 kk0 kl1 kp1 kk1 kl2 kp2 kk2 oa ta tl ct ps sn cb tk ab hab) gX5_many_X5_allTokens rfl rfl rfl (by decide +kernel) ⟨Nat.le_of_ble_eq_true rfl, Nat.le_of_ble_eq_true rfl⟩ hP rfl rfl hl.1 rfl rfl (Nat.le_of_ble_eq_true rfl) dX5_many_75 ⟨Nat.zero_le _, Nat.zero_le _⟩ (fun r75 p75 => ?_)
    subst p75
    exact W.iret (v := (nI (mnT (aR ab) (aN ab)))) hx hb hr (fun tZ htZ hWZ => ⟨_, rfl, by unfold fMany; rw [if_neg h1_0, if_neg h1_1, if_neg h1_2, if_neg h1_3, if_neg h1_4, if_pos h1_5], htZ⟩) (fun _ h => by cases h) dX5_many_78
  refine lv_tableOut (tgt := 79) hx hb dX5_many_1 (k_out a2 5 (by decide) (by intro j hj; rcases (show j = 0 ∨ j = 1 ∨ j = 2 ∨ j = 3 ∨ j = 4 ∨ j = 5 by omega) with rfl | rfl | rfl | rfl | rfl | rfl <;> assumption)) (by decide) ?_
  refine lv_bipush (v := (-2)) hx hb dX5_many_79 (by decide) ?_
  exact W.iret (v := (-2)) hx hb hr (fun tZ htZ hWZ => ⟨_, rfl, by unfold fMany; rw [if_neg h1_0, if_neg h1_1, if_neg h1_2, if_neg h1_3, if_neg h1_4, if_neg h1_5], htZ⟩) (fun _ h => by cases h) dX5_many_81
