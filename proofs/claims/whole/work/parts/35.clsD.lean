abbrev iaW (E : cEnv) (ia tx z y v : Nat → Nat) (kq : Nat → Nat → Nat) (gp : Int32) (gd : Nat → Int32) : va_W := [(ia 0, .inr (5, [.ref (tx 0), .ref (z 0), .ref (y 0), .ref (v 0), .ref (ia 5), .int gp, .ref (ia 7)])),
  (ia 5, .inl (E.1, 4, .inl gd)),
  (ia 7, .inl (E.2.2.2, 3, .inr (.inr (.inr (.inr (fun k => some ((pkA kq) k)))))))]
theorem okS_le (k : Nat) (x : Int32) : okS k x ↔ (nI (leN k) ≤ x ∧ x ≤ nI (moN k)) := by
  unfold okS leN moN
  by_cases q : k < 2
  · rw [if_pos q, if_pos q, if_pos q]
  · rw [if_neg q, if_neg q, if_neg q]
theorem le_mo (k : Nat) : leN k < 2 ^ 31 ∧ moN k < 2 ^ 31 := by
  unfold leN moN
  by_cases q : k < 2
  · rw [if_pos q, if_pos q]; decide
  · rw [if_neg q, if_neg q]; decide
theorem fb_exp (h : Nat) : nI h - nI 12 + nI 127 = nI (115 + h) := by
  rw [show nI (115 + h) = nI h + nI 115 by rw [nI_add, Nat.add_comm], show nI 127 = nI 12 + nI 115 from rfl, Int32.sub_eq_add_neg, Int32.add_assoc, ← Int32.add_assoc (-nI 12), Int32.add_comm (-nI 12), ← Int32.sub_eq_add_neg, Int32.sub_self, Int32.zero_add]
theorem fb_one {h : Nat} (hh : h ≤ 16) : nI 1 <<< (nI h &&& 31) = nI (2 ^ h) := by
  rw [n_shl (by omega) (by rw [Nat.one_mul]; exact Nat.lt_of_le_of_lt (Nat.pow_le_pow_right (by decide) hh) (by decide)), Nat.one_mul]
theorem fb_bits {q h : Nat} (hh : h ≤ 16) (h1 : 2 ^ h ≤ q) (h2 : q < 2 ^ (h + 1)) : (nI (115 + h) <<< (nI 23 &&& 31)) ||| (nI (q - 2 ^ h) <<< (nI (23 - h) &&& 31)) = nI (bitN q) := by
  obtain ⟨b1, b2⟩ := log_le hh h1 h2
  have hq : ¬ q = 0 := by have := Nat.pow_pos (n := h) (show 0 < 2 by decide); omega
  have e2 : 2 ^ h * 2 ^ (23 - h) = 2 ^ 23 := by rw [← Nat.pow_add]; congr 1; omega
  have e : (q - 2 ^ h) * 2 ^ (23 - h) = q * 2 ^ (23 - h) - 2 ^ 23 := by rw [Nat.sub_mul, e2]
  rw [n_shl (by decide) (by omega), n_shl (by omega) (by omega), e, n_or _ (by omega)]
  unfold bitN
  rw [if_neg hq, log_of h1 h2]
theorem upd_pi {pi : Nat → Nat} {f g h : Nat → Int32} {i n : Nat} {v : Int32} (e : g = upd f (pi i) v) (hp : permP pi) (hn : n ≤ 20) (hi : i < n) (hf : ∀ j, j < i → f (pi j) = h j) (hv : v = h i := by rfl) : ∀ j, j < i + 1 → g (pi j) = h j := by
  intro j hj
  rw [e]
  by_cases q : j = i
  · rw [q, upd_s]; exact hv
  · rw [upd_n (fun z => q ((hp j (by omega)).2 i (by omega) z))]; exact hf j (by omega)
theorem anyS_of {A : ABS} {i : Nat} (h : cnt A i) : ∀ {n : Nat}, i < n → anyS A n = true
  | 0, hi => absurd hi (Nat.not_lt_zero _)
  | n + 1, hi => by
    show (anyS A n || decide (cnt A n)) = true
    by_cases q : i = n
    · subst q; simp [h]
    · rw [anyS_of h (by omega)]; rfl
theorem pt_min {d : Nat} (h : d < 2 ^ 31) : (if nI 12 < nI d then nI 12 else nI d) = nI (min d 12) := by
  by_cases q : 12 < d
  · rw [if_pos ((nI_ltI (by decide) h).mpr q), Nat.min_eq_right (by omega)]
  · rw [if_neg (fun z => q ((nI_ltI (by decide) h).mp z)), Nat.min_eq_left (by omega)]
theorem pt_shr (d : Nat) : nI 4096 >>> (nI (min d 12) &&& 31) = nI (2 ^ (12 - min d 12)) := by
  rw [n_shr (by decide) (by omega)]
  congr 1
  rw [show 4096 = 2 ^ 12 from rfl, Nat.pow_div (by omega) (by decide)]
theorem gv_s (b : Nat) : gv (b + 1) = nI b := rfl
theorem gs_at {A : ABS} {n s1 s2 s3 s4 : Nat} {sv : Nat → Int32} (hN : n = aN A) (h1 : 1 ≤ s1 ∧ s1 ≤ 8) (h2 : 1 ≤ s2 ∧ s2 ≤ 8) (h3 : s3 ≤ 1) (h4 : s4 ≤ 1) (hs : ∀ k, k < 4 → sv k = st4 (nI s1) (nI s2) (nI s3) (nI s4) k) :
    scr A (cols (st4 (nI s1) (nI s2) (nI s3) (nI s4)) (aR A) n) (aN A) = gsc A ((s1 - 1) * 32 + (s2 - 1) * 4 + s3 * 2 + s4) ∧ ∀ k, k < 4 → sv k = stx ((s1 - 1) * 32 + (s2 - 1) * 4 + s3 * 2 + s4) k := by
  have e1 : 1 + ((s1 - 1) * 32 + (s2 - 1) * 4 + s3 * 2 + s4) / 32 = s1 := by omega
  have e2 : 1 + ((s1 - 1) * 32 + (s2 - 1) * 4 + s3 * 2 + s4) / 4 % 8 = s2 := by omega
  have e3 : ((s1 - 1) * 32 + (s2 - 1) * 4 + s3 * 2 + s4) / 2 % 2 = s3 := by omega
  have e4 : ((s1 - 1) * 32 + (s2 - 1) * 4 + s3 * 2 + s4) % 2 = s4 := by omega
  constructor
  · unfold gsc scoreBy
    rw [e1, e2, e3, e4, hN]
  · intro k hk
    unfold stx
    rw [e1, e2, e3, e4]
    exact hs k hk
theorem gb_step {A : ABS} {x : Nat} {sc : Nat} {gp gp2 : Int32} {gd gd2 sv : Nat → Int32} (hs : sc = gsc A x ∧ ∀ k, k < 4 → sv k = stx x k) (hg : gp = gv (gbest A x).1 ∧ (0 < x → ∀ k, k < 4 → gd k = stx (gbest A x).2 k)) (hp : ((gbest A x).1 < sc + 1 → gp2 = gv (sc + 1) ∧ ∀ k, k < 4 → gd2 k = sv k) ∧ (¬ (gbest A x).1 < sc + 1 → gp2 = gp ∧ gd2 = gd)) :
    gp2 = gv (gbest A (x + 1)).1 ∧ (0 < x + 1 → ∀ k, k < 4 → gd2 k = stx (gbest A (x + 1)).2 k) := by
  obtain ⟨rfl, hsv⟩ := hs
  rw [gb_s]
  by_cases q : (gbest A x).1 < gsc A x + 1
  · rw [if_pos q]
    exact ⟨(hp.1 q).1, fun _ k hk => by rw [(hp.1 q).2 k hk]; exact hsv k hk⟩
  · rw [if_neg q]
    obtain ⟨h1, h2⟩ := hp.2 q
    rw [h1, h2]
    exact ⟨hg.1, fun _ => hg.2 (Nat.pos_of_ne_zero (fun z => by rw [z] at q; exact q (Nat.succ_pos _)))⟩
set_option maxHeartbeats 4000000 in
set_option maxRecDepth 100000 in
theorem c_X5_isLine (l : Launch) (G : va_G) (E : cEnv) (ia tx z y v : Nat → Nat) (kq : Nat → Nat → Nat) (gp : Int32) (gd : Nat → Int32) (n : Nat) (pi : Nat → Nat) (op hg la : Nat) (tops dpt lst stry srt lin tokA wah fol par_ opn : Nat → Int32) (sett clA setv clV : Nat → Int32) (kn0 kz0 kn1 kz1 kn2 kz2 : Nat) (kl0 kp0 kk0 kl1 kp1 kk1 kl2 kp2 kk2 : Nat → Int32) (oa ta : Nat → Nat) (tl ct ps : Nat → Nat) (sn cb : Nat → Int32) (tk : Nat → Nat → Int32) (x : Int32) (hn : n ≤ 20) : Met l yX5_isLine wsX5_isLine ({ frames := 0, cells := 0, slots := 0, locals := 0 }) (va_Pc [.ref (ia 0), .int x] (PR G E (((iaW E ia tx z y v kq gp gd) ++ (txW E tx n (slot oa pi)) ++ (neW E z op hg la tops dpt lst stry srt lin tokA wah fol par_ opn) ++ (lyW E y sett clA) ++ (lyW E v setv clV) ++ (pkW E (kq 0) kn0 kz0 kl0 kp0 kk0) ++ (pkW E (kq 1) kn1 kz1 kl1 kp1 kk1) ++ (pkW E (kq 2) kn2 kz2 kl2 kp2 kk2)) ++ poW E oa ta tl ct ps sn cb tk))) (vp_Si (fun r => (∃ j : Nat, j < n ∧ x = nI j) ∧ r = nI 1 ∨ ¬ (∃ j : Nat, j < n ∧ x = nI j) ∧ r = nI 0)) 0 0 (fun _ => False) := by
  refine Met.ofW (cc := cX5_isLine) (maxL := 2) (ret := (some .boolean)) (by decide) rfl ?_
  intro p e s m args below meth c s₁ B hml hv
  obtain ⟨rfl, hP, hK, hZ⟩ := hv
  have hx := B.exec
  have hb := B.bytes
  have hr := B.returns
  have hts := atoms_spec (ws := wsX5_isLine) B.pre
  have hown : s.vm.findClass RX5 = some m.cls := findClass_of_methodNamed B.named
  have hlocks := B.notSynchronized
  have hin4 : ∀ w ∈ u_ws RX4 TX4 2, w ∈ wsX5_isLine := mem_pl [10, 11] (by rfl)
  have hin5 : ∀ w ∈ u_ws RX5 TX5 7, w ∈ wsX5_isLine := mem_pl [3, 4, 5, 6, 7, 8, 9] (by rfl)
  have hS : va_S (fun _ => False) s.heap s.heap [] := va_S.rf
  have hl := lv_entry ([.ref (ia 0), .int x]) (n := 2) (Nat.le_of_ble_eq_true rfl)
  rw [lg_entry_eq]
  generalize (lg_sl ([.ref (ia 0), .int x]) ++ List.replicate (2 - (lg_sl ([.ref (ia 0), .int x])).length) Slot.unset).toArray = ls at hl ⊢
  have hl : lv_has ls 2 [(0, .ref (ia 0)), (1, .int x)] := hl
  refine lv_iload_n hx hb dX5_isLine_0 rfl (lv_at hl 1 rfl) ?_
  refine lv_if_lt (x := x) (tgt := 19) hx hb dX5_isLine_1 (by decide) (fun c1 => ?_) (fun c1 => ?_)
  · refine lv_iconst (v := (nI 0)) hx hb dX5_isLine_19 (by decide) ?_
    exact W.zret (v := (nI 0)) hx hb hr (by first | rfl | decide | assumption) (fun tZ htZ hWZ => ⟨_, rfl, Or.inr ⟨fun q => ((w_ix2 (by omega)).mpr q).1 c1, rfl⟩, htZ⟩) (fun _ h => by cases h) dX5_isLine_20
  · refine lv_iload_n hx hb dX5_isLine_4 rfl (lv_at hl 1 rfl) ?_
    refine lv_aload_n hx hb dX5_isLine_5 rfl (lv_at hl 0 rfl) ?_
    refine va_get (D := G) (ci := 5) (v := .ref (tx 0)) (C := RX5) (T := TX5) (N := 7) hx hb hts hin5 hown hK hP 0 rfl rfl 0 (by decide) (hts (Cond.fieldLink RX5 12 "IndentRules" "text" "LIndentRules$Text;") (List.mem_of_getElem? (i := 1) rfl)) (fun _ h9 => h9) rfl dX5_isLine_6 ?_
    refine va_get (D := G) (ci := 4) (v := .int (nI n)) (C := RX4) (T := TX4) (N := 2) hx hb hts hin4 hown hK hP 3 rfl rfl 1 (by decide) (hts (Cond.fieldLink RX5 48 "IndentRules$Text" "size" "I") (List.mem_of_getElem? (i := 2) rfl)) (fun _ h9 => h9) rfl dX5_isLine_9 ?_
    refine lv_icmp_ge (x := x) (y := (nI n)) (tgt := 19) hx hb dX5_isLine_12 (by decide) (fun c12 => ?_) (fun c12 => ?_)
    · refine lv_iconst (v := (nI 0)) hx hb dX5_isLine_19 (by decide) ?_
      exact W.zret (v := (nI 0)) hx hb hr (by first | rfl | decide | assumption) (fun tZ htZ hWZ => ⟨_, rfl, Or.inr ⟨fun q => ((w_ix2 (by omega)).mpr q).2 c12, rfl⟩, htZ⟩) (fun _ h => by cases h) dX5_isLine_20
    · refine lv_iconst (v := (nI 1)) hx hb dX5_isLine_15 (by decide) ?_
      refine lv_goto (tgt := 20) hx hb dX5_isLine_16 (by decide) ?_
      exact W.zret (v := (nI 1)) hx hb hr (by first | rfl | decide | assumption) (fun tZ htZ hWZ => ⟨_, rfl, Or.inl ⟨(w_ix2 (by omega)).mp ⟨c1, c12⟩, rfl⟩, htZ⟩) (fun _ h => by cases h) dX5_isLine_20

set_option maxHeartbeats 4000000 in
set_option maxRecDepth 100000 in
theorem c_X5_isOpener (l : Launch) (G : va_G) (E : cEnv) (ia tx z y v : Nat → Nat) (kq : Nat → Nat → Nat) (gp : Int32) (gd : Nat → Int32) (n : Nat) (pi : Nat → Nat) (op hg la : Nat) (tops dpt lst stry srt lin tokA wah fol par_ opn : Nat → Int32) (sett clA setv clV : Nat → Int32) (kn0 kz0 kn1 kz1 kn2 kz2 : Nat) (kl0 kp0 kk0 kl1 kp1 kk1 kl2 kp2 kk2 : Nat → Int32) (oa ta : Nat → Nat) (tl ct ps : Nat → Nat) (sn cb : Nat → Int32) (tk : Nat → Nat → Int32) (x : Int32) (hop : op ≤ 180) : Met l yX5_isOpener wsX5_isOpener ({ frames := 0, cells := 0, slots := 0, locals := 0 }) (va_Pc [.ref (ia 0), .int x] (PR G E (((iaW E ia tx z y v kq gp gd) ++ (txW E tx n (slot oa pi)) ++ (neW E z op hg la tops dpt lst stry srt lin tokA wah fol par_ opn) ++ (lyW E y sett clA) ++ (lyW E v setv clV) ++ (pkW E (kq 0) kn0 kz0 kl0 kp0 kk0) ++ (pkW E (kq 1) kn1 kz1 kl1 kp1 kk1) ++ (pkW E (kq 2) kn2 kz2 kl2 kp2 kk2)) ++ poW E oa ta tl ct ps sn cb tk))) (vp_Si (fun r => (∃ j : Nat, j < op ∧ x = nI j) ∧ r = nI 1 ∨ ¬ (∃ j : Nat, j < op ∧ x = nI j) ∧ r = nI 0)) 0 0 (fun _ => False) := by
  refine Met.ofW (cc := cX5_isOpener) (maxL := 2) (ret := (some .boolean)) (by decide) rfl ?_
  intro p e s m args below meth c s₁ B hml hv
  obtain ⟨rfl, hP, hK, hZ⟩ := hv
  have hx := B.exec
  have hb := B.bytes
  have hr := B.returns
  have hts := atoms_spec (ws := wsX5_isOpener) B.pre
  have hown : s.vm.findClass RX5 = some m.cls := findClass_of_methodNamed B.named
  have hlocks := B.notSynchronized
  have hin2 : ∀ w ∈ u_ws RX2 TX2 14, w ∈ wsX5_isOpener := mem_pl [10, 11, 12, 13, 14, 15, 16, 17, 18, 19, 20, 21, 22, 23] (by rfl)
  have hin5 : ∀ w ∈ u_ws RX5 TX5 7, w ∈ wsX5_isOpener := mem_pl [3, 4, 5, 6, 7, 8, 9] (by rfl)
  have hS : va_S (fun _ => False) s.heap s.heap [] := va_S.rf
  have hl := lv_entry ([.ref (ia 0), .int x]) (n := 2) (Nat.le_of_ble_eq_true rfl)
  rw [lg_entry_eq]
  generalize (lg_sl ([.ref (ia 0), .int x]) ++ List.replicate (2 - (lg_sl ([.ref (ia 0), .int x])).length) Slot.unset).toArray = ls at hl ⊢
  have hl : lv_has ls 2 [(0, .ref (ia 0)), (1, .int x)] := hl
  refine lv_iload_n hx hb dX5_isOpener_0 rfl (lv_at hl 1 rfl) ?_
  refine lv_if_lt (x := x) (tgt := 19) hx hb dX5_isOpener_1 (by decide) (fun c1 => ?_) (fun c1 => ?_)
  · refine lv_iconst (v := (nI 0)) hx hb dX5_isOpener_19 (by decide) ?_
    exact W.zret (v := (nI 0)) hx hb hr (by first | rfl | decide | assumption) (fun tZ htZ hWZ => ⟨_, rfl, Or.inr ⟨fun q => ((w_ix2 (by omega)).mpr q).1 c1, rfl⟩, htZ⟩) (fun _ h => by cases h) dX5_isOpener_20
  · refine lv_iload_n hx hb dX5_isOpener_4 rfl (lv_at hl 1 rfl) ?_
    refine lv_aload_n hx hb dX5_isOpener_5 rfl (lv_at hl 0 rfl) ?_
    refine va_get (D := G) (ci := 5) (v := .ref (z 0)) (C := RX5) (T := TX5) (N := 7) hx hb hts hin5 hown hK hP 0 rfl rfl 1 (by decide) (hts (Cond.fieldLink RX5 19 "IndentRules" "nesting" "LIndentRules$Nesting;") (List.mem_of_getElem? (i := 1) rfl)) (fun _ h9 => h9) rfl dX5_isOpener_6 ?_
    refine va_get (D := G) (ci := 2) (v := .int (nI op)) (C := RX2) (T := TX2) (N := 14) hx hb hts hin2 hown hK hP 5 rfl rfl 4 (by decide) (hts (Cond.fieldLink RX5 195 "IndentRules$Nesting" "openers" "I") (List.mem_of_getElem? (i := 2) rfl)) (fun _ h9 => h9) rfl dX5_isOpener_9 ?_
    refine lv_icmp_ge (x := x) (y := (nI op)) (tgt := 19) hx hb dX5_isOpener_12 (by decide) (fun c12 => ?_) (fun c12 => ?_)
    · refine lv_iconst (v := (nI 0)) hx hb dX5_isOpener_19 (by decide) ?_
      exact W.zret (v := (nI 0)) hx hb hr (by first | rfl | decide | assumption) (fun tZ htZ hWZ => ⟨_, rfl, Or.inr ⟨fun q => ((w_ix2 (by omega)).mpr q).2 c12, rfl⟩, htZ⟩) (fun _ h => by cases h) dX5_isOpener_20
    · refine lv_iconst (v := (nI 1)) hx hb dX5_isOpener_15 (by decide) ?_
      refine lv_goto (tgt := 20) hx hb dX5_isOpener_16 (by decide) ?_
      exact W.zret (v := (nI 1)) hx hb hr (by first | rfl | decide | assumption) (fun tZ htZ hWZ => ⟨_, rfl, Or.inl ⟨(w_ix2 (by omega)).mp ⟨c1, c12⟩, rfl⟩, htZ⟩) (fun _ h => by cases h) dX5_isOpener_20

set_option maxHeartbeats 4000000 in
set_option maxRecDepth 100000 in
theorem c_X5_isPocket (l : Launch) (G : va_G) (E : cEnv) (x : Int32) : Met l yX5_isPocket wsX5_isPocket ({ frames := 0, cells := 0, slots := 0, locals := 0 }) (va_Pc [.int x] (PR G E ([]))) (vp_Si (fun r => (∃ j : Nat, j < 3 ∧ x = nI j) ∧ r = nI 1 ∨ ¬ (∃ j : Nat, j < 3 ∧ x = nI j) ∧ r = nI 0)) 0 0 (fun _ => False) := by
  refine Met.ofW (cc := cX5_isPocket) (maxL := 1) (ret := (some .boolean)) (by decide) rfl ?_
  intro p e s m args below meth c s₁ B hml hv
  obtain ⟨rfl, hP, hK, hZ⟩ := hv
  have hx := B.exec
  have hb := B.bytes
  have hr := B.returns
  have hts := atoms_spec (ws := wsX5_isPocket) B.pre
  have hown : s.vm.findClass RX5 = some m.cls := findClass_of_methodNamed B.named
  have hlocks := B.notSynchronized
  have hS : va_S (fun _ => False) s.heap s.heap [] := va_S.rf
  have hl := lv_entry ([.int x]) (n := 1) (Nat.le_of_ble_eq_true rfl)
  rw [lg_entry_eq]
  generalize (lg_sl ([.int x]) ++ List.replicate (1 - (lg_sl ([.int x])).length) Slot.unset).toArray = ls at hl ⊢
  have hl : lv_has ls 1 [(0, .int x)] := hl
  refine lv_iload_n hx hb dX5_isPocket_0 rfl (lv_at hl 0 rfl) ?_
  refine lv_if_lt (x := x) (tgt := 13) hx hb dX5_isPocket_1 (by decide) (fun c1 => ?_) (fun c1 => ?_)
  · refine lv_iconst (v := (nI 0)) hx hb dX5_isPocket_13 (by decide) ?_
    exact W.zret (v := (nI 0)) hx hb hr (by first | rfl | decide | assumption) (fun tZ htZ hWZ => ⟨_, rfl, Or.inr ⟨fun q => ((w_ix2 (by omega)).mpr q).1 c1, rfl⟩, htZ⟩) (fun _ h => by cases h) dX5_isPocket_14
  · refine lv_iload_n hx hb dX5_isPocket_4 rfl (lv_at hl 0 rfl) ?_
    refine lv_iconst (v := (nI 3)) hx hb dX5_isPocket_5 (by decide) ?_
    refine lv_icmp_ge (x := x) (y := (nI 3)) (tgt := 13) hx hb dX5_isPocket_6 (by decide) (fun c6 => ?_) (fun c6 => ?_)
    · refine lv_iconst (v := (nI 0)) hx hb dX5_isPocket_13 (by decide) ?_
      exact W.zret (v := (nI 0)) hx hb hr (by first | rfl | decide | assumption) (fun tZ htZ hWZ => ⟨_, rfl, Or.inr ⟨fun q => ((w_ix2 (by omega)).mpr q).2 c6, rfl⟩, htZ⟩) (fun _ h => by cases h) dX5_isPocket_14
    · refine lv_iconst (v := (nI 1)) hx hb dX5_isPocket_9 (by decide) ?_
      refine lv_goto (tgt := 14) hx hb dX5_isPocket_10 (by decide) ?_
      exact W.zret (v := (nI 1)) hx hb hr (by first | rfl | decide | assumption) (fun tZ htZ hWZ => ⟨_, rfl, Or.inl ⟨(w_ix2 (by omega)).mp ⟨c1, c6⟩, rfl⟩, htZ⟩) (fun _ h => by cases h) dX5_isPocket_14

set_option maxHeartbeats 4000000 in
set_option maxRecDepth 100000 in
theorem c_X5_areTokens (l : Launch) (G : va_G) (E : cEnv) (x : Int32) : Met l yX5_areTokens wsX5_areTokens ({ frames := 0, cells := 0, slots := 0, locals := 0 }) (va_Pc [.int x] (PR G E ([]))) (vp_Si (fun r => okT x ∧ r = nI 1 ∨ ¬ okT x ∧ r = nI 0)) 0 0 (fun _ => False) := by
  refine Met.ofW (cc := cX5_areTokens) (maxL := 3) (ret := (some .boolean)) (by decide) rfl ?_
  intro p e s m args below meth c s₁ B hml hv
  obtain ⟨rfl, hP, hK, hZ⟩ := hv
  have hx := B.exec
  have hb := B.bytes
  have hr := B.returns
  have hts := atoms_spec (ws := wsX5_areTokens) B.pre
  have hown : s.vm.findClass RX5 = some m.cls := findClass_of_methodNamed B.named
  have hlocks := B.notSynchronized
  have hS : va_S (fun _ => False) s.heap s.heap [] := va_S.rf
  have hl := lv_entry ([.int x]) (n := 3) (Nat.le_of_ble_eq_true rfl)
  rw [lg_entry_eq]
  generalize (lg_sl ([.int x]) ++ List.replicate (3 - (lg_sl ([.int x])).length) Slot.unset).toArray = ls at hl ⊢
  have hl : lv_has ls 3 [(0, .int x)] := hl
  by_cases hr0 : ixP x 1000000000
  · obtain ⟨t, ht, rfl⟩ := (ixP_iff (by decide)).mp hr0
    refine lv_iload_n hx hb dX5_areTokens_0 rfl (lv_at hl 0 rfl) ?_
    refine n_if_lt (a := t) (tgt := 10) hx hb (by omega) dX5_areTokens_1 (by decide) ?_
    refine lv_iload_n hx hb dX5_areTokens_4 rfl (lv_at hl 0 rfl) ?_
    refine lv_ldc (v := (nI 999999999)) hx hb hown (hts (Cond.constant RX5 210 (nI 999999999)) (List.mem_of_getElem? (i := 1) rfl)) dX5_areTokens_5 ?_
    refine n_icmp_le (a := t) (b := 999999999) (tgt := 12) hx hb (by omega) (by decide) dX5_areTokens_7 (by decide) (fun c7 => ?_) (fun c7 => absurd c7 (by omega))
    refine lv_iload_n hx hb dX5_areTokens_12 rfl (lv_at hl 0 rfl) ?_
    refine lv_istore_n (lv' := [(1, .int (nI t)), (0, .int (nI t))]) hx hb dX5_areTokens_13 rfl hl (by decide) rfl (fun ls hl => ?_)
    refine lv_iconst (v := (nI 0)) hx hb dX5_areTokens_14 (by decide) ?_
    refine lv_istore_n (lv' := [(2, .int (nI 0)), (1, .int (nI t)), (0, .int (nI t))]) hx hb dX5_areTokens_15 rfl hl (by decide) rfl (fun ls hl => ?_)
    have lp16 : ∀ (kk : Nat) (lf : Nat) (dg : Nat), (nzb lf = nzb t) → (lf < 1000000000) → (dg + len lf = len t ∧ dg ≤ 9) → lf < kk → ∀ ls : Array Slot, lv_has ls 3 [(2, .int (nI dg)), (1, .int (nI lf)), (0, .int (nI t))] → W p l e (headSpec wsX5_areTokens ({ frames := 0, cells := 0, slots := 0, locals := 0 } : Room)).room s m ([.int (nI t)] : List Value).toArray below meth c s.heap [] 0 0 (MQ below (vp_Si (fun r => okT (nI t) ∧ r = nI 1 ∨ ¬ okT (nI t) ∧ r = nI 0)) ([.int (nI t)] : List Value).toArray s 0 0 (fun _ => False)) (F0 m 16 ls []) := by
      intro kk
      induction kk with
      | zero => intro lf dg  hz hf hd hkk; exact absurd hkk (Nat.not_lt_zero _)
      | succ kk ih16 =>
        intro lf dg hz hf hd hkk ls hl
        refine lv_iload_n hx hb dX5_areTokens_16 rfl (lv_at hl 0 rfl) ?_
        refine lv_bipush (v := (nI 9)) hx hb dX5_areTokens_17 (by decide) ?_
        refine n_icmp_ge (a := dg) (b := 9) (tgt := 46) hx hb (by omega) (by decide) dX5_areTokens_19 (by decide) (fun c19 => ?_) (fun c19 => ?_)
        · refine lv_iconst (v := (nI 1)) hx hb dX5_areTokens_46 (by decide) ?_
          exact W.zret (v := (nI 1)) hx hb hr (by first | rfl | decide | assumption) (fun tZ htZ hWZ => ⟨_, rfl, Or.inl ⟨⟨t, ht, by rw [← hz, len_z.mp (show len lf = 0 by have := (len_lt 9 t).mp ht; omega)]; exact nzb_0, rfl⟩, rfl⟩, htZ⟩) (fun _ h => by cases h) dX5_areTokens_47
        · refine lv_iload_n hx hb dX5_areTokens_22 rfl (lv_at hl 1 rfl) ?_
          refine n_if_le (a := lf) (tgt := 46) hx hb (by omega) dX5_areTokens_23 (by decide) (fun c23 => ?_) (fun c23 => ?_)
          · refine lv_iconst (v := (nI 1)) hx hb dX5_areTokens_46 (by decide) ?_
            exact W.zret (v := (nI 1)) hx hb hr (by first | rfl | decide | assumption) (fun tZ htZ hWZ => ⟨_, rfl, Or.inl ⟨⟨t, ht, by rw [← hz, c23]; exact nzb_0, rfl⟩, rfl⟩, htZ⟩) (fun _ h => by cases h) dX5_areTokens_47
          · refine lv_iload_n hx hb dX5_areTokens_26 rfl (lv_at hl 1 rfl) ?_
            refine lv_bipush (v := (nI 10)) hx hb dX5_areTokens_27 (by decide) ?_
            refine k_irem (a := lf) (b := 10) hx hb (by omega) (by decide) (by decide) dX5_areTokens_29 ?_
            refine n_if_ne (a := (lf % 10)) (tgt := 35) hx hb (by omega) dX5_areTokens_30 (by decide) (fun c30 => ?_) (fun c30 => ?_)
            · refine lv_iload_n hx hb dX5_areTokens_35 rfl (lv_at hl 1 rfl) ?_
              refine lv_bipush (v := (nI 10)) hx hb dX5_areTokens_36 (by decide) ?_
              refine k_idiv (a := lf) (b := 10) hx hb (by omega) (by decide) (by decide) dX5_areTokens_38 ?_
              refine lv_istore_n (lv' := [(1, .int (nI (lf / 10))), (2, .int (nI dg)), (0, .int (nI t))]) hx hb dX5_areTokens_39 rfl hl (by decide) rfl (fun ls hl => ?_)
              refine lv_iinc (v := (nI (dg + 1))) (lv' := [(2, .int (nI (dg + 1))), (1, .int (nI (lf / 10))), (0, .int (nI t))]) hx hb dX5_areTokens_40 hl (k := 1) rfl (k_inc dg) (by decide) rfl (fun ls hl => ?_)
              refine lv_goto (tgt := 16) hx hb dX5_areTokens_43 (by decide) ?_
              exact ih16 (lf / 10) (dg + 1) (by rw [← hz, nzb_s c23, show (lf % 10 != 0) = true from bne_iff_ne.mpr (by omega)]; rfl) (by omega) ⟨by rw [len_s c23] at hd; omega, by omega⟩ (by omega) ls (lv_sub hl [0, 1, 2] rfl)
            · refine lv_iconst (v := (nI 0)) hx hb dX5_areTokens_33 (by decide) ?_
              exact W.zret (v := (nI 0)) hx hb hr (by first | rfl | decide | assumption) (fun tZ htZ hWZ => ⟨_, rfl, Or.inr ⟨fun ⟨t2, h1, h2, h3⟩ => by have q := (nI_eq (by omega) (by omega)).mp h3; subst q; rw [← hz, nzb_s c23, c30] at h2; simp at h2, rfl⟩, htZ⟩) (fun _ h => by cases h) dX5_areTokens_34
    exact lp16 (t + 1) t 0 rfl ht ⟨by simp, by decide⟩ (Nat.lt_succ_self _) ls (lv_sub hl [0, 1, 2] rfl)
  · have hno : ¬ okT x := fun ⟨t, h1, _, h3⟩ => hr0 ((ixP_iff (by decide)).mpr ⟨t, h1, h3⟩)
    refine lv_iload_n hx hb dX5_areTokens_0 rfl (lv_at hl 0 rfl) ?_
    refine lv_if_lt (x := x) (tgt := 10) hx hb dX5_areTokens_1 (by decide) (fun c1 => ?_) (fun c1 => ?_)
    · refine lv_iconst (v := (nI 0)) hx hb dX5_areTokens_10 (by decide) ?_
      exact W.zret (v := (nI 0)) hx hb hr (by first | rfl | decide | assumption) (fun tZ htZ hWZ => ⟨_, rfl, Or.inr ⟨hno, rfl⟩, htZ⟩) (fun _ h => by cases h) dX5_areTokens_11
    · refine lv_iload_n hx hb dX5_areTokens_4 rfl (lv_at hl 0 rfl) ?_
      refine lv_ldc (v := (nI 999999999)) hx hb hown (hts (Cond.constant RX5 210 (nI 999999999)) (List.mem_of_getElem? (i := 1) rfl)) dX5_areTokens_5 ?_
      refine lv_icmp_le (x := x) (y := (nI 999999999)) (tgt := 12) hx hb dX5_areTokens_7 (by decide) (fun c7 => absurd ((w_rgx (n := 999999999) (by decide)).mp ⟨by rw [nI_0]; exact Int32.not_lt.mp c1, c7⟩) hr0) (fun c7 => ?_)
      refine lv_iconst (v := (nI 0)) hx hb dX5_areTokens_10 (by decide) ?_
      exact W.zret (v := (nI 0)) hx hb hr (by first | rfl | decide | assumption) (fun tZ htZ hWZ => ⟨_, rfl, Or.inr ⟨hno, rfl⟩, htZ⟩) (fun _ h => by cases h) dX5_areTokens_11

set_option maxHeartbeats 4000000 in
set_option maxRecDepth 100000 in
theorem c_X5_isSetting (l : Launch) (G : va_G) (E : cEnv) (k : Nat) (x : Int32) (hk : k < 4) : Met l yX5_isSetting wsX5_isSetting ({ frames := 0, cells := 0, slots := 0, locals := 0 }) (va_Pc [.int (nI k), .int x] (PR G E ([]))) (vp_Si (fun r => okS k x ∧ r = nI 1 ∨ ¬ okS k x ∧ r = nI 0)) 0 0 (fun _ => False) := by
  refine Met.ofW (cc := cX5_isSetting) (maxL := 2) (ret := (some .boolean)) (by decide) rfl ?_
  intro p e s m args below meth c s₁ B hml hv
  obtain ⟨rfl, hP, hK, hZ⟩ := hv
  have hx := B.exec
  have hb := B.bytes
  have hr := B.returns
  have hts := atoms_spec (ws := wsX5_isSetting) B.pre
  have hown : s.vm.findClass RX5 = some m.cls := findClass_of_methodNamed B.named
  have hlocks := B.notSynchronized
  have hS : va_S (fun _ => False) s.heap s.heap [] := va_S.rf
  have hl := lv_entry ([.int (nI k), .int x]) (n := 2) (Nat.le_of_ble_eq_true rfl)
  rw [lg_entry_eq]
  generalize (lg_sl ([.int (nI k), .int x]) ++ List.replicate (2 - (lg_sl ([.int (nI k), .int x])).length) Slot.unset).toArray = ls at hl ⊢
  have hl : lv_has ls 2 [(0, .int (nI k)), (1, .int x)] := hl
  obtain ⟨⟨tS_W, hZW, hTW⟩, ⟨tS_L, hZL, hTL⟩, ⟨tS_M, hZM, hTM⟩, hNW⟩ := id hZ
  have hok2 : okS k x ↔ (nI (leN k) ≤ x ∧ x ≤ nI (moN k)) := okS_le k x
  have hb1 : leN k < 2 ^ 31 ∧ moN k < 2 ^ 31 := le_mo k
  refine lv_iload_n hx hb dX5_isSetting_0 rfl (lv_at hl 1 rfl) ?_
  refine va_gets hx hb hZL hS hown (hts (Cond.fieldLink RX5 211 "IndentRules" "LEAST" "[I") (List.mem_of_getElem? (i := 1) rfl)) (fun _ h9 => h9) dX5_isSetting_1 ?_
  refine lv_iload_n hx hb dX5_isSetting_4 rfl (lv_at hl 0 rfl) ?_
  refine k_ti (j := k) hx hb hTL hS (by omega) (by decide) dX5_isSetting_5 ?_
  refine lv_icmp_lt (x := x) (y := (nI (leN k))) (tgt := 22) hx hb dX5_isSetting_6 (by decide) (fun c6 => ?_) (fun c6 => ?_)
  · refine lv_iconst (v := (nI 0)) hx hb dX5_isSetting_22 (by decide) ?_
    exact W.zret (v := (nI 0)) hx hb hr (by first | rfl | decide | assumption) (fun tZ htZ hWZ => ⟨_, rfl, Or.inr ⟨fun q => absurd c6 (Int32.not_lt.mpr (hok2.mp q).1), rfl⟩, htZ⟩) (fun _ h => by cases h) dX5_isSetting_23
  · refine lv_iload_n hx hb dX5_isSetting_9 rfl (lv_at hl 1 rfl) ?_
    refine va_gets hx hb hZM hS hown (hts (Cond.fieldLink RX5 214 "IndentRules" "MOST" "[I") (List.mem_of_getElem? (i := 2) rfl)) (fun _ h9 => h9) dX5_isSetting_10 ?_
    refine lv_iload_n hx hb dX5_isSetting_13 rfl (lv_at hl 0 rfl) ?_
    refine k_ti (j := k) hx hb hTM hS (by omega) (by decide) dX5_isSetting_14 ?_
    refine lv_icmp_gt (x := x) (y := (nI (moN k))) (tgt := 22) hx hb dX5_isSetting_15 (by decide) (fun c15 => ?_) (fun c15 => ?_)
    · refine lv_iconst (v := (nI 0)) hx hb dX5_isSetting_22 (by decide) ?_
      exact W.zret (v := (nI 0)) hx hb hr (by first | rfl | decide | assumption) (fun tZ htZ hWZ => ⟨_, rfl, Or.inr ⟨fun q => absurd c15 (Int32.not_lt.mpr (hok2.mp q).2), rfl⟩, htZ⟩) (fun _ h => by cases h) dX5_isSetting_23
    · refine lv_iconst (v := (nI 1)) hx hb dX5_isSetting_18 (by decide) ?_
      refine lv_goto (tgt := 23) hx hb dX5_isSetting_19 (by decide) ?_
      exact W.zret (v := (nI 1)) hx hb hr (by first | rfl | decide | assumption) (fun tZ htZ hWZ => ⟨_, rfl, Or.inl ⟨hok2.mpr ⟨Int32.not_lt.mp c6, Int32.not_lt.mp c15⟩, rfl⟩, htZ⟩) (fun _ h => by cases h) dX5_isSetting_23

set_option maxHeartbeats 4000000 in
set_option maxRecDepth 100000 in
theorem c_X5_isStyle (l : Launch) (G : va_G) (E : cEnv) (x0 x1 x2 x3 : Int32) : Met l yX5_isStyle wsX5_isStyle ({ frames := 1, cells := 0, slots := 0, locals := 21 }) (va_Pc [.int x0, .int x1, .int x2, .int x3] (PR G E ([]))) (vp_Si (fun r => okSt x0 x1 x2 x3 ∧ r = nI 1 ∨ ¬ okSt x0 x1 x2 x3 ∧ r = nI 0)) 0 0 (fun _ => False) := by
  refine Met.ofW (cc := cX5_isStyle) (maxL := 4) (ret := (some .boolean)) (by decide) rfl ?_
  intro p e s m args below meth c s₁ B hml hv
  obtain ⟨rfl, hP, hK, hZ⟩ := hv
  have hx := B.exec
  have hb := B.bytes
  have hr := B.returns
  have hts := atoms_spec (ws := wsX5_isStyle) B.pre
  have hown : s.vm.findClass RX5 = some m.cls := findClass_of_methodNamed B.named
  have hlocks := B.notSynchronized
  have hS : va_S (fun _ => False) s.heap s.heap [] := va_S.rf
  have hl := lv_entry ([.int x0, .int x1, .int x2, .int x3]) (n := 4) (Nat.le_of_ble_eq_true rfl)
  rw [lg_entry_eq]
  generalize (lg_sl ([.int x0, .int x1, .int x2, .int x3]) ++ List.replicate (4 - (lg_sl ([.int x0, .int x1, .int x2, .int x3])).length) Slot.unset).toArray = ls at hl ⊢
  have hl : lv_has ls 4 [(0, .int x0), (1, .int x1), (2, .int x2), (3, .int x3)] := hl
  refine lv_iconst (v := (nI 0)) hx hb dX5_isStyle_0 (by decide) ?_
  refine lv_iload_n hx hb dX5_isStyle_1 rfl (lv_at hl 0 rfl) ?_
  refine rs_i (n := 2) (G := G) (E := E) (As := [.int (nI 0), .int x0]) (rest := []) ⟨hx, hb, hml, hown, hts⟩ hK hZ hS (c_X5_isSetting l G E 0 x0 (by first | assumption | omega)) gX5_isStyle_X5_isSetting rfl rfl rfl (by decide +kernel) ⟨Nat.le_of_ble_eq_true rfl, Nat.le_of_ble_eq_true rfl⟩ hP hl.1 rfl rfl (Nat.le_of_ble_eq_true rfl) dX5_isStyle_2 ⟨Nat.zero_le _, Nat.zero_le _⟩ (fun r2 p2 => ?_)
  rcases p2 with ⟨h2, rfl⟩ | ⟨h2, rfl⟩
  · refine n_if_eq (a := 1) (tgt := 36) hx hb (by decide) dX5_isStyle_5 (by decide) (fun c5 => absurd c5 (by decide)) (fun c5 => ?_)
    refine lv_iconst (v := (nI 1)) hx hb dX5_isStyle_8 (by decide) ?_
    refine lv_iload_n hx hb dX5_isStyle_9 rfl (lv_at hl 1 rfl) ?_
    refine rs_i (n := 2) (G := G) (E := E) (As := [.int (nI 1), .int x1]) (rest := []) ⟨hx, hb, hml, hown, hts⟩ hK hZ hS (c_X5_isSetting l G E 1 x1 (by first | assumption | omega)) gX5_isStyle_X5_isSetting rfl rfl rfl (by decide +kernel) ⟨Nat.le_of_ble_eq_true rfl, Nat.le_of_ble_eq_true rfl⟩ hP hl.1 rfl rfl (Nat.le_of_ble_eq_true rfl) dX5_isStyle_10 ⟨Nat.zero_le _, Nat.zero_le _⟩ (fun r10 p10 => ?_)
    rcases p10 with ⟨h10, rfl⟩ | ⟨h10, rfl⟩
    · refine n_if_eq (a := 1) (tgt := 36) hx hb (by decide) dX5_isStyle_13 (by decide) (fun c13 => absurd c13 (by decide)) (fun c13 => ?_)
      refine lv_iconst (v := (nI 2)) hx hb dX5_isStyle_16 (by decide) ?_
      refine lv_iload_n hx hb dX5_isStyle_17 rfl (lv_at hl 2 rfl) ?_
      refine rs_i (n := 2) (G := G) (E := E) (As := [.int (nI 2), .int x2]) (rest := []) ⟨hx, hb, hml, hown, hts⟩ hK hZ hS (c_X5_isSetting l G E 2 x2 (by first | assumption | omega)) gX5_isStyle_X5_isSetting rfl rfl rfl (by decide +kernel) ⟨Nat.le_of_ble_eq_true rfl, Nat.le_of_ble_eq_true rfl⟩ hP hl.1 rfl rfl (Nat.le_of_ble_eq_true rfl) dX5_isStyle_18 ⟨Nat.zero_le _, Nat.zero_le _⟩ (fun r18 p18 => ?_)
      rcases p18 with ⟨h18, rfl⟩ | ⟨h18, rfl⟩
      · refine n_if_eq (a := 1) (tgt := 36) hx hb (by decide) dX5_isStyle_21 (by decide) (fun c21 => absurd c21 (by decide)) (fun c21 => ?_)
        refine lv_iconst (v := (nI 3)) hx hb dX5_isStyle_24 (by decide) ?_
        refine lv_iload_n hx hb dX5_isStyle_25 rfl (lv_at hl 3 rfl) ?_
        refine rs_i (n := 2) (G := G) (E := E) (As := [.int (nI 3), .int x3]) (rest := []) ⟨hx, hb, hml, hown, hts⟩ hK hZ hS (c_X5_isSetting l G E 3 x3 (by first | assumption | omega)) gX5_isStyle_X5_isSetting rfl rfl rfl (by decide +kernel) ⟨Nat.le_of_ble_eq_true rfl, Nat.le_of_ble_eq_true rfl⟩ hP hl.1 rfl rfl (Nat.le_of_ble_eq_true rfl) dX5_isStyle_26 ⟨Nat.zero_le _, Nat.zero_le _⟩ (fun r26 p26 => ?_)
        rcases p26 with ⟨h26, rfl⟩ | ⟨h26, rfl⟩
        · refine n_if_eq (a := 1) (tgt := 36) hx hb (by decide) dX5_isStyle_29 (by decide) (fun c29 => absurd c29 (by decide)) (fun c29 => ?_)
          refine lv_iconst (v := (nI 1)) hx hb dX5_isStyle_32 (by decide) ?_
          refine lv_goto (tgt := 37) hx hb dX5_isStyle_33 (by decide) ?_
          exact W.zret (v := (nI 1)) hx hb hr (by first | rfl | decide | assumption) (fun tZ htZ hWZ => ⟨_, rfl, Or.inl ⟨⟨h2, h10, h18, h26⟩, rfl⟩, htZ⟩) (fun _ h => by cases h) dX5_isStyle_37
        · refine n_if_eq (a := 0) (tgt := 36) hx hb (by decide) dX5_isStyle_29 (by decide) (fun c29 => ?_) (fun c29 => absurd c29 (by decide))
          refine lv_iconst (v := (nI 0)) hx hb dX5_isStyle_36 (by decide) ?_
          exact W.zret (v := (nI 0)) hx hb hr (by first | rfl | decide | assumption) (fun tZ htZ hWZ => ⟨_, rfl, Or.inr ⟨fun q => h26 q.2.2.2, rfl⟩, htZ⟩) (fun _ h => by cases h) dX5_isStyle_37
      · refine n_if_eq (a := 0) (tgt := 36) hx hb (by decide) dX5_isStyle_21 (by decide) (fun c21 => ?_) (fun c21 => absurd c21 (by decide))
        refine lv_iconst (v := (nI 0)) hx hb dX5_isStyle_36 (by decide) ?_
        exact W.zret (v := (nI 0)) hx hb hr (by first | rfl | decide | assumption) (fun tZ htZ hWZ => ⟨_, rfl, Or.inr ⟨fun q => h18 q.2.2.1, rfl⟩, htZ⟩) (fun _ h => by cases h) dX5_isStyle_37
    · refine n_if_eq (a := 0) (tgt := 36) hx hb (by decide) dX5_isStyle_13 (by decide) (fun c13 => ?_) (fun c13 => absurd c13 (by decide))
      refine lv_iconst (v := (nI 0)) hx hb dX5_isStyle_36 (by decide) ?_
      exact W.zret (v := (nI 0)) hx hb hr (by first | rfl | decide | assumption) (fun tZ htZ hWZ => ⟨_, rfl, Or.inr ⟨fun q => h10 q.2.1, rfl⟩, htZ⟩) (fun _ h => by cases h) dX5_isStyle_37
  · refine n_if_eq (a := 0) (tgt := 36) hx hb (by decide) dX5_isStyle_5 (by decide) (fun c5 => ?_) (fun c5 => absurd c5 (by decide))
    refine lv_iconst (v := (nI 0)) hx hb dX5_isStyle_36 (by decide) ?_
    exact W.zret (v := (nI 0)) hx hb hr (by first | rfl | decide | assumption) (fun tZ htZ hWZ => ⟨_, rfl, Or.inr ⟨fun q => h2 q.1, rfl⟩, htZ⟩) (fun _ h => by cases h) dX5_isStyle_37

set_option maxHeartbeats 4000000 in
set_option maxRecDepth 100000 in
theorem c_X5_floatBits (l : Launch) (G : va_G) (E : cEnv) (q : Nat) (hq : q ≤ 81920) : Met l yX5_floatBits wsX5_floatBits ({ frames := 0, cells := 0, slots := 0, locals := 0 }) (va_Pc [.int (nI q)] (PR G E ([]))) (vp_Si (fun r => r = nI (bitN q))) 0 0 (fun _ => False) := by
  refine Met.ofW (cc := cX5_floatBits) (maxL := 4) (ret := (some .int)) (by decide) rfl ?_
  intro p e s m args below meth c s₁ B hml hv
  obtain ⟨rfl, hP, hK, hZ⟩ := hv
  have hx := B.exec
  have hb := B.bytes
  have hr := B.returns
  have hts := atoms_spec (ws := wsX5_floatBits) B.pre
  have hown : s.vm.findClass RX5 = some m.cls := findClass_of_methodNamed B.named
  have hlocks := B.notSynchronized
  have hS : va_S (fun _ => False) s.heap s.heap [] := va_S.rf
  have hl := lv_entry ([.int (nI q)]) (n := 4) (Nat.le_of_ble_eq_true rfl)
  rw [lg_entry_eq]
  generalize (lg_sl ([.int (nI q)]) ++ List.replicate (4 - (lg_sl ([.int (nI q)])).length) Slot.unset).toArray = ls at hl ⊢
  have hl : lv_has ls 4 [(0, .int (nI q))] := hl
  refine lv_iload_n hx hb dX5_floatBits_0 rfl (lv_at hl 0 rfl) ?_
  refine n_if_gt (a := q) (tgt := 6) hx hb (by omega) dX5_floatBits_1 (by decide) (fun c1 => ?_) (fun c1 => ?_)
  · refine lv_iconst (v := (nI 0)) hx hb dX5_floatBits_6 (by decide) ?_
    refine lv_istore_n (lv' := [(1, .int (nI 0)), (0, .int (nI q))]) hx hb dX5_floatBits_7 rfl hl (by decide) rfl (fun ls hl => ?_)
    refine lv_iconst (v := (nI 1)) hx hb dX5_floatBits_8 (by decide) ?_
    refine lv_istore_n (lv' := [(2, .int (nI 1)), (1, .int (nI 0)), (0, .int (nI q))]) hx hb dX5_floatBits_9 rfl hl (by decide) rfl (fun ls hl => ?_)
    have lp10 : ∀ (kk : Nat) (h : Nat) (b : Nat), (1 ≤ b ∧ b ≤ 24) → (h < b ∧ 2 ^ h ≤ q ∧ q < 2 ^ 17 ∧ ∀ i, h < i → i < b → q < 2 ^ i) → 24 - b < kk → ∀ ls : Array Slot, lv_has ls 4 [(2, .int (nI b)), (1, .int (nI h)), (0, .int (nI q))] → W p l e (headSpec wsX5_floatBits ({ frames := 0, cells := 0, slots := 0, locals := 0 } : Room)).room s m ([.int (nI q)] : List Value).toArray below meth c s.heap [] 0 0 (MQ below (vp_Si (fun r => r = nI (bitN q))) ([.int (nI q)] : List Value).toArray s 0 0 (fun _ => False)) (F0 m 10 ls []) := by
      intro kk
      induction kk with
      | zero => intro h b  hb1 hh hkk; exact absurd hkk (Nat.not_lt_zero _)
      | succ kk ih10 =>
        intro h b hb1 hh hkk ls hl
        refine lv_iload_n hx hb dX5_floatBits_10 rfl (lv_at hl 0 rfl) ?_
        refine lv_bipush (v := (nI 23)) hx hb dX5_floatBits_11 (by decide) ?_
        refine n_icmp_gt (a := b) (b := 23) (tgt := 30) hx hb (by omega) (by decide) dX5_floatBits_13 (by decide) (fun c13 => ?_) (fun c13 => ?_)
        · have h17 : h ≤ 16 := Nat.le_of_not_lt (fun z => by have : 2 ^ 17 ≤ 2 ^ h := Nat.pow_le_pow_right (by decide) z; omega)
          have hup : q < 2 ^ (h + 1) := hh.2.2.2 (h + 1) (by omega) (by omega)
          refine lv_iload_n hx hb dX5_floatBits_30 rfl (lv_at hl 1 rfl) ?_
          refine lv_bipush (v := (nI 12)) hx hb dX5_floatBits_31 (by decide) ?_
          refine lv_isub hx hb dX5_floatBits_33 ?_
          refine lv_bipush (v := (nI 127)) hx hb dX5_floatBits_34 (by decide) ?_
          refine lv_iadd hx hb dX5_floatBits_36 ?_
          rw [show ((nI h) - (nI 12)) + (nI 127) = (nI (115 + h)) from fb_exp h]
          refine lv_istore_n (lv' := [(2, .int (nI (115 + h))), (1, .int (nI h)), (0, .int (nI q))]) hx hb dX5_floatBits_37 rfl hl (by decide) rfl (fun ls hl => ?_)
          refine lv_iload_n hx hb dX5_floatBits_38 rfl (lv_at hl 2 rfl) ?_
          refine lv_iconst (v := (nI 1)) hx hb dX5_floatBits_39 (by decide) ?_
          refine lv_iload_n hx hb dX5_floatBits_40 rfl (lv_at hl 1 rfl) ?_
          refine lv_ishl hx hb dX5_floatBits_41 ?_
          rw [show (nI 1) <<< ((nI h) &&& 31) = (nI (2 ^ h)) from fb_one h17]
          refine k_isub (a := q) (b := (2 ^ h)) hx hb hh.2.1 dX5_floatBits_42 ?_
          refine lv_bipush (v := (nI 23)) hx hb dX5_floatBits_43 (by decide) ?_
          refine lv_iload_n hx hb dX5_floatBits_45 rfl (lv_at hl 1 rfl) ?_
          refine k_isub (a := 23) (b := h) hx hb (by omega) dX5_floatBits_46 ?_
          refine lv_ishl hx hb dX5_floatBits_47 ?_
          refine lv_topi (fun z1 ez1 => ?_)
          refine lv_istore_n (lv' := [(3, .int z1), (2, .int (nI (115 + h))), (1, .int (nI h)), (0, .int (nI q))]) hx hb dX5_floatBits_48 rfl hl (by decide) rfl (fun ls hl => ?_)
          refine lv_iload_n hx hb dX5_floatBits_49 rfl (lv_at hl 1 rfl) ?_
          refine lv_bipush (v := (nI 23)) hx hb dX5_floatBits_50 (by decide) ?_
          refine lv_ishl hx hb dX5_floatBits_52 ?_
          refine lv_topi (fun z2 ez2 => ?_)
          refine lv_iload_n hx hb dX5_floatBits_53 rfl (lv_at hl 0 rfl) ?_
          refine lv_ior hx hb dX5_floatBits_54 ?_
          refine lv_topi (fun z3 ez3 => ?_)
          exact W.iret (v := z3) hx hb hr (fun tZ htZ hWZ => ⟨_, rfl, by rw [ez3, ez2, ez1]; exact fb_bits h17 hh.2.1 hup, htZ⟩) (fun _ h => by cases h) dX5_floatBits_55
        · refine lv_iload_n hx hb dX5_floatBits_16 rfl (lv_at hl 2 rfl) ?_
          refine lv_iload_n hx hb dX5_floatBits_17 rfl (lv_at hl 0 rfl) ?_
          refine lv_ishr hx hb dX5_floatBits_18 ?_
          rw [show (nI q) >>> ((nI b) &&& 31) = (nI (q / 2 ^ b)) from n_shr (by omega) (by omega)]
          refine n_if_eq (a := (q / 2 ^ b)) (tgt := 24) hx hb (Nat.lt_of_le_of_lt (Nat.div_le_self _ _) (by omega)) dX5_floatBits_19 (by decide) (fun c19 => ?_) (fun c19 => ?_)
          · refine lv_iinc (v := (nI (b + 1))) (lv' := [(2, .int (nI (b + 1))), (1, .int (nI h)), (0, .int (nI q))]) hx hb dX5_floatBits_24 hl (k := 0) rfl (k_inc b) (by decide) rfl (fun ls hl => ?_)
            refine lv_goto (tgt := 10) hx hb dX5_floatBits_27 (by decide) ?_
            exact ih10 h (b + 1) ⟨by omega, by omega⟩ ⟨by omega, hh.2.1, hh.2.2.1, fun i h1 h2 => (Nat.lt_succ_iff_lt_or_eq.mp h2).elim (fun z => hh.2.2.2 i h1 z) (fun z => by rw [z]; exact div_z.mp c19)⟩ (by omega) ls (lv_sub hl [0, 1, 2] rfl)
          · refine lv_iload_n hx hb dX5_floatBits_22 rfl (lv_at hl 0 rfl) ?_
            refine lv_istore_n (lv' := [(1, .int (nI b)), (2, .int (nI b)), (0, .int (nI q))]) hx hb dX5_floatBits_23 rfl hl (by decide) rfl (fun ls hl => ?_)
            refine lv_iinc (v := (nI (b + 1))) (lv' := [(2, .int (nI (b + 1))), (1, .int (nI b)), (0, .int (nI q))]) hx hb dX5_floatBits_24 hl (k := 1) rfl (k_inc b) (by decide) rfl (fun ls hl => ?_)
            refine lv_goto (tgt := 10) hx hb dX5_floatBits_27 (by decide) ?_
            exact ih10 b (b + 1) ⟨by omega, by omega⟩ ⟨by omega, Nat.le_of_not_lt (fun z => by rw [div_z.mpr z] at c19; omega), hh.2.2.1, fun i h1 h2 => by omega⟩ (by omega) ls (lv_sub hl [0, 1, 2] rfl)
    exact lp10 (24 - 1 + 1) 0 1 ⟨by decide, by decide⟩ ⟨by decide, by omega, by omega, fun i h1 h2 => by omega⟩ (Nat.lt_succ_self _) ls (lv_sub hl [0, 1, 2] rfl)
  · refine lv_iconst (v := (nI 0)) hx hb dX5_floatBits_4 (by decide) ?_
    exact W.iret (v := (nI 0)) hx hb hr (fun tZ htZ hWZ => ⟨_, rfl, by rw [c1]; rfl, htZ⟩) (fun _ h => by cases h) dX5_floatBits_5

set_option maxHeartbeats 4000000 in
set_option maxRecDepth 100000 in
theorem c_X5_isAsSeen (l : Launch) (G : va_G) (E : cEnv) (ia tx z y v : Nat → Nat) (gp : Int32) (n : Nat) (pi : Nat → Nat) (uy : Nat → Nat) (setu clU : Nat → Int32) (oa ta : Nat → Nat) (tl ct ps : Nat → Nat) (sn cb : Nat → Int32) (tk : Nat → Nat → Int32) (j : Nat) (rn : Nat → Nat) (sA : Nat → Int32) (hj : j < n) (hn : n ≤ 20) (hrn : ∀ j, j < n → rn j < 1000000000) (hPL : PL n rn pi tl ct ps tk) (hSN : SN n pi sn sA) : Met l yX5_isAsSeen wsX5_isAsSeen ({ frames := 1, cells := 0, slots := 0, locals := 20 }) (va_Pc [.ref (ia 0), .ref (uy 0), .int (nI j)] (PR G E ([(ia 0, .inr (5, [.ref (tx 0), .ref (z 0), .ref (y 0), .ref (v 0), .ref (ia 5), .int gp, .ref (ia 7)])), (tx 0, .inr (4, [.ref (tx 1), .int (nI n)])), (tx 1, .inl (E.2.2.1, 20, .inr (.inr (.inr (.inr (fun k => some ((slot oa pi) k))))))), (uy 0, .inr (0, [.ref (uy 1), .ref (uy 2)])), (uy 1, .inl (E.1, 4, .inl setu)), (uy 2, .inl (E.1, 20, .inl clU))] ++ poW E oa ta tl ct ps sn cb tk))) (vp_Si (fun r => ((¬ sA j = -9 ∧ ¬ rn j = 0) ∧ clU j = sA j) ∧ r = nI 1 ∨ ¬ ((¬ sA j = -9 ∧ ¬ rn j = 0) ∧ clU j = sA j) ∧ r = nI 0)) 0 0 (fun _ => False) := by
  refine Met.ofW (cc := cX5_isAsSeen) (maxL := 4) (ret := (some .boolean)) (by decide) rfl ?_
  intro p e s m args below meth c s₁ B hml hv
  obtain ⟨rfl, hP, hK, hZ⟩ := hv
  have hx := B.exec
  have hb := B.bytes
  have hr := B.returns
  have hts := atoms_spec (ws := wsX5_isAsSeen) B.pre
  have hown : s.vm.findClass RX5 = some m.cls := findClass_of_methodNamed B.named
  have hlocks := B.notSynchronized
  have hin0 : ∀ w ∈ u_ws RX0 TX0 2, w ∈ wsX5_isAsSeen := mem_pl [27, 28] (by rfl)
  have hin1 : ∀ w ∈ u_ws RX1 TX1 6, w ∈ wsX5_isAsSeen := mem_pl [21, 22, 23, 24, 25, 26] (by rfl)
  have hin4 : ∀ w ∈ u_ws RX4 TX4 2, w ∈ wsX5_isAsSeen := mem_pl [19, 20] (by rfl)
  have hin5 : ∀ w ∈ u_ws RX5 TX5 7, w ∈ wsX5_isAsSeen := mem_pl [12, 13, 14, 15, 16, 17, 18] (by rfl)
  have hS : va_S (fun _ => False) s.heap s.heap [] := va_S.rf
  have hl := lv_entry ([.ref (ia 0), .ref (uy 0), .int (nI j)]) (n := 4) (Nat.le_of_ble_eq_true rfl)
  rw [lg_entry_eq]
  generalize (lg_sl ([.ref (ia 0), .ref (uy 0), .int (nI j)]) ++ List.replicate (4 - (lg_sl ([.ref (ia 0), .ref (uy 0), .int (nI j)])).length) Slot.unset).toArray = ls at hl ⊢
  have hl : lv_has ls 4 [(0, .ref (ia 0)), (1, .ref (uy 0)), (2, .int (nI j))] := hl
  obtain ⟨hp1, hp2, hp3, hp4, hp5⟩ := hPL j hj
  have hl9 := (len_lt 9 (rn j)).mp (hrn j hj)
  refine lv_aload_n hx hb dX5_isAsSeen_0 rfl (lv_at hl 0 rfl) ?_
  refine va_get (D := G) (ci := 5) (v := .ref (tx 0)) (C := RX5) (T := TX5) (N := 7) hx hb hts hin5 hown hK hP 0 rfl rfl 0 (by decide) (hts (Cond.fieldLink RX5 12 "IndentRules" "text" "LIndentRules$Text;") (List.mem_of_getElem? (i := 1) rfl)) (fun _ h9 => h9) rfl dX5_isAsSeen_1 ?_
  refine va_get (D := G) (ci := 4) (v := .ref (tx 1)) (C := RX4) (T := TX4) (N := 2) hx hb hts hin4 hown hK hP 1 rfl rfl 0 (by decide) (hts (Cond.fieldLink RX5 73 "IndentRules$Text" "lines" "[LIndentRules$Line;") (List.mem_of_getElem? (i := 2) rfl)) (fun _ h9 => h9) rfl dX5_isAsSeen_4 ?_
  refine lv_iload_n hx hb dX5_isAsSeen_7 rfl (lv_at hl 2 rfl) ?_
  refine k_aald (D := G) (tys := TYS E) (j := j) (f := (slot oa pi)) (n := 20) hx hb hK hP 2 2 rfl rfl (by omega) (by decide) dX5_isAsSeen_8 ?_
  refine W.eq (g2 := F0 m 9 ls [.ref (oa (pi j))]) rfl ?_
  refine lv_astore_n (lv' := [(3, .ref (oa (pi j))), (0, .ref (ia 0)), (1, .ref (uy 0)), (2, .int (nI j))]) hx hb dX5_isAsSeen_9 rfl hl (by decide) rfl (fun ls hl => ?_)
  refine lv_aload_n hx hb dX5_isAsSeen_10 rfl (lv_at hl 0 rfl) ?_
  refine rv_i (n := 0) (G := G) (E := E) (As := []) (rest := []) (ci := 1) (q0 := 0) ⟨hx, hb, hml, hown, hts⟩ hK hZ hS (c_X1_counts l G E (oa (pi j)) (ta (pi j)) (tl (pi j)) (ct (pi j)) (ps (pi j)) (sn (pi j)) (cb (pi j)) (tk (pi j)) (by omega)) gX5_isAsSeen_X1_counts rfl rfl rfl (by decide +kernel) ⟨Nat.le_of_ble_eq_true rfl, Nat.le_of_ble_eq_true rfl⟩ (po_P2 hP hp1) rfl rfl hl.1 rfl rfl (Nat.le_of_ble_eq_true rfl) dX5_isAsSeen_11 ⟨Nat.zero_le _, Nat.zero_le _⟩ (fun r11 p11 => ?_)
  rcases p11 with ⟨h11, rfl⟩ | ⟨h11, rfl⟩
  · have hcn : ¬ sA j = -9 ∧ ¬ rn j = 0 := by rw [hSN j hj, hp3] at h11; exact cnt_iff.mp h11
    refine n_if_eq (a := 1) (tgt := 34) hx hb (by decide) dX5_isAsSeen_14 (by decide) (fun c14 => absurd c14 (by decide)) (fun c14 => ?_)
    refine lv_aload_n hx hb dX5_isAsSeen_17 rfl (lv_at hl 0 rfl) ?_
    refine va_get (D := G) (ci := 1) (v := .int (sn (pi j))) (C := RX1) (T := TX1) (N := 6) hx hb hts hin1 hown hK hP (6 + (pi j)) (po_lnX rfl hp1) rfl 4 (by decide) (hts (Cond.fieldLink RX5 115 "IndentRules$Line" "seen" "I") (List.mem_of_getElem? (i := 3) rfl)) (fun _ h9 => h9) rfl dX5_isAsSeen_18 ?_
    refine lv_aload_n hx hb dX5_isAsSeen_21 rfl (lv_at hl 2 rfl) ?_
    refine va_get (D := G) (ci := 0) (v := .ref (uy 2)) (C := RX0) (T := TX0) (N := 2) hx hb hts hin0 hown hK hP 3 rfl rfl 1 (by decide) (hts (Cond.fieldLink RX5 100 "IndentRules$Layout" "columns" "[I") (List.mem_of_getElem? (i := 4) rfl)) (fun _ h9 => h9) rfl dX5_isAsSeen_22 ?_
    refine lv_iload_n hx hb dX5_isAsSeen_25 rfl (lv_at hl 3 rfl) ?_
    refine k_iald (D := G) (tys := TYS E) (j := j) (f := clU) (n := 20) hx hb hK hP 5 0 rfl rfl (by omega) (by decide) dX5_isAsSeen_26 ?_
    refine lv_icmp_ne (x := (sn (pi j))) (y := (clU j)) (tgt := 34) hx hb dX5_isAsSeen_27 (by decide) (fun c27 => ?_) (fun c27 => ?_)
    · refine lv_iconst (v := (nI 0)) hx hb dX5_isAsSeen_34 (by decide) ?_
      exact W.zret (v := (nI 0)) hx hb hr (by first | rfl | decide | assumption) (fun tZ htZ hWZ => ⟨_, rfl, Or.inr ⟨fun q => c27 (by rw [q.2]; exact hSN j hj), rfl⟩, htZ⟩) (fun _ h => by cases h) dX5_isAsSeen_35
    · refine lv_iconst (v := (nI 1)) hx hb dX5_isAsSeen_30 (by decide) ?_
      refine lv_goto (tgt := 35) hx hb dX5_isAsSeen_31 (by decide) ?_
      exact W.zret (v := (nI 1)) hx hb hr (by first | rfl | decide | assumption) (fun tZ htZ hWZ => ⟨_, rfl, Or.inl ⟨⟨hcn, by rw [← c27]; exact hSN j hj⟩, rfl⟩, htZ⟩) (fun _ h => by cases h) dX5_isAsSeen_35
  · have hcn : ¬ (¬ sA j = -9 ∧ ¬ rn j = 0) := by rw [hSN j hj, hp3] at h11; exact fun z => h11 (cnt_iff.mpr z)
    refine n_if_eq (a := 0) (tgt := 34) hx hb (by decide) dX5_isAsSeen_14 (by decide) (fun c14 => ?_) (fun c14 => absurd c14 (by decide))
    refine lv_iconst (v := (nI 0)) hx hb dX5_isAsSeen_34 (by decide) ?_
    exact W.zret (v := (nI 0)) hx hb hr (by first | rfl | decide | assumption) (fun tZ htZ hWZ => ⟨_, rfl, Or.inr ⟨fun q => hcn q.1, rfl⟩, htZ⟩) (fun _ h => by cases h) dX5_isAsSeen_35

set_option maxHeartbeats 4000000 in
set_option maxRecDepth 100000 in
theorem c_X5_rememberColumns (l : Launch) (G : va_G) (E : cEnv) (ia tx z y v : Nat → Nat) (kq : Nat → Nat → Nat) (gp : Int32) (gd : Nat → Int32) (n : Nat) (pi : Nat → Nat) (op hg la : Nat) (tops dpt lst stry srt lin tokA wah fol par_ opn : Nat → Int32) (sett clA setv clV : Nat → Int32) (kn0 kz0 kn1 kz1 kn2 kz2 : Nat) (kl0 kp0 kk0 kl1 kp1 kk1 kl2 kp2 kk2 : Nat → Int32) (oa ta : Nat → Nat) (tl ct ps : Nat → Nat) (sn cb : Nat → Int32) (tk : Nat → Nat → Int32) (hn : n ≤ 20) (hpp : permP pi) (sz : Nat) : Met l yX5_rememberColumns wsX5_rememberColumns ({ frames := 0, cells := 0, slots := 0, locals := 0 }) (va_Pc [.ref (ia 0)] (PW G E (((iaW E ia tx z y v kq gp gd) ++ (txW E tx n (slot oa pi)) ++ (neW E z op hg la tops dpt lst stry srt lin tokA wah fol par_ opn) ++ (lyW E y sett clA) ++ (lyW E v setv clV) ++ (pkW E (kq 0) kn0 kz0 kl0 kp0 kk0) ++ (pkW E (kq 1) kn1 kz1 kl1 kp1 kk1) ++ (pkW E (kq 2) kn2 kz2 kl2 kp2 kk2)) ++ poW E oa ta tl ct ps sn cb tk) sz)) (va_Qv (fun (cb' : Nat → Int32) => ∀ j, j < n → cb' (pi j) = clA j) (fun (cb' : Nat → Int32) tQ => va_P G vwCl (((iaW E ia tx z y v kq gp gd) ++ (txW E tx n (slot oa pi)) ++ (neW E z op hg la tops dpt lst stry srt lin tokA wah fol par_ opn) ++ (lyW E y sett clA) ++ (lyW E v setv clV) ++ (pkW E (kq 0) kn0 kz0 kl0 kp0 kk0) ++ (pkW E (kq 1) kn1 kz1 kl1 kp1 kk1) ++ (pkW E (kq 2) kn2 kz2 kl2 kp2 kk2)) ++ poW E oa ta tl ct ps sn cb' tk) tQ.heap) (va_A (((iaW E ia tx z y v kq gp gd) ++ (txW E tx n (slot oa pi)) ++ (neW E z op hg la tops dpt lst stry srt lin tokA wah fol par_ opn) ++ (lyW E y sett clA) ++ (lyW E v setv clV) ++ (pkW E (kq 0) kn0 kz0 kl0 kp0 kk0) ++ (pkW E (kq 1) kn1 kz1 kl1 kp1 kk1) ++ (pkW E (kq 2) kn2 kz2 kl2 kp2 kk2)) ++ poW E oa ta tl ct ps sn cb tk) sz)) 0 0 (va_A (((iaW E ia tx z y v kq gp gd) ++ (txW E tx n (slot oa pi)) ++ (neW E z op hg la tops dpt lst stry srt lin tokA wah fol par_ opn) ++ (lyW E y sett clA) ++ (lyW E v setv clV) ++ (pkW E (kq 0) kn0 kz0 kl0 kp0 kk0) ++ (pkW E (kq 1) kn1 kz1 kl1 kp1 kk1) ++ (pkW E (kq 2) kn2 kz2 kl2 kp2 kk2)) ++ poW E oa ta tl ct ps sn cb tk) sz) := by
  refine Met.ofW (cc := cX5_rememberColumns) (maxL := 2) (ret := none) (by decide) rfl ?_
  intro p e s m args below meth c s₁ B hml hv
  obtain ⟨rfl, hsz, hP, hK, hD0, hZ⟩ := hv
  have hx := B.exec
  have hb := B.bytes
  have hr := B.returns
  have hts := atoms_spec (ws := wsX5_rememberColumns) B.pre
  have hown : s.vm.findClass RX5 = some m.cls := findClass_of_methodNamed B.named
  have hlocks := B.notSynchronized
  have hin0 : ∀ w ∈ u_ws RX0 TX0 2, w ∈ wsX5_rememberColumns := mem_pl [16, 17] (by rfl)
  have hin1 : ∀ w ∈ u_ws RX1 TX1 6, w ∈ wsX5_rememberColumns := mem_pl [18, 19, 20, 21, 22, 23] (by rfl)
  have hin4 : ∀ w ∈ u_ws RX4 TX4 2, w ∈ wsX5_rememberColumns := mem_pl [14, 15] (by rfl)
  have hin5 : ∀ w ∈ u_ws RX5 TX5 7, w ∈ wsX5_rememberColumns := mem_pl [7, 8, 9, 10, 11, 12, 13] (by rfl)
  subst hsz
  have hD := hD0.self (sz := s.heap.size)
  generalize hAe : va_A (((iaW E ia tx z y v kq gp gd) ++ (txW E tx n (slot oa pi)) ++ (neW E z op hg la tops dpt lst stry srt lin tokA wah fol par_ opn) ++ (lyW E y sett clA) ++ (lyW E v setv clV) ++ (pkW E (kq 0) kn0 kz0 kl0 kp0 kk0) ++ (pkW E (kq 1) kn1 kz1 kl1 kp1 kk1) ++ (pkW E (kq 2) kn2 kz2 kl2 kp2 kk2)) ++ poW E oa ta tl ct ps sn cb tk) s.heap.size = A at hD hZ ⊢
  have hA : ∀ q : Nat, s.heap.size ≤ q → A q := fun q h => by rw [← hAe]; exact Or.inr h
  have hS : va_S A s.heap s.heap [] := va_S.rf
  have hl := lv_entry ([.ref (ia 0)]) (n := 2) (Nat.le_of_ble_eq_true rfl)
  rw [lg_entry_eq]
  generalize (lg_sl ([.ref (ia 0)]) ++ List.replicate (2 - (lg_sl ([.ref (ia 0)])).length) Slot.unset).toArray = ls at hl ⊢
  have hl : lv_has ls 2 [(0, .ref (ia 0))] := hl
  have hpi : ∀ i, i < 20 → pi i < 20 := fun i hi => (hpp i hi).1
  refine lv_iconst (v := (nI 0)) hx hb dX5_rememberColumns_0 (by decide) ?_
  refine lv_istore_n (lv' := [(1, .int (nI 0)), (0, .ref (ia 0))]) hx hb dX5_rememberColumns_1 rfl hl (by decide) rfl (fun ls hl => ?_)
  have lp2 : ∀ (kk : Nat) (i : Nat) (cbX : Nat → Int32) (H : Heap) (locs : List Loc), (i ≤ n) → (∀ j, j < i → cbX (pi j) = clA j) → n - i < kk → va_P G vwCl (((iaW E ia tx z y v kq gp gd) ++ (txW E tx n (slot oa pi)) ++ (neW E z op hg la tops dpt lst stry srt lin tokA wah fol par_ opn) ++ (lyW E y sett clA) ++ (lyW E v setv clV) ++ (pkW E (kq 0) kn0 kz0 kl0 kp0 kk0) ++ (pkW E (kq 1) kn1 kz1 kl1 kp1 kk1) ++ (pkW E (kq 2) kn2 kz2 kl2 kp2 kk2)) ++ poW E oa ta tl ct ps sn cbX tk) H → va_D A (((iaW E ia tx z y v kq gp gd) ++ (txW E tx n (slot oa pi)) ++ (neW E z op hg la tops dpt lst stry srt lin tokA wah fol par_ opn) ++ (lyW E y sett clA) ++ (lyW E v setv clV) ++ (pkW E (kq 0) kn0 kz0 kl0 kp0 kk0) ++ (pkW E (kq 1) kn1 kz1 kl1 kp1 kk1) ++ (pkW E (kq 2) kn2 kz2 kl2 kp2 kk2)) ++ poW E oa ta tl ct ps sn cbX tk) → va_S A s.heap H locs → ∀ ls : Array Slot, lv_has ls 2 [(1, .int (nI i)), (0, .ref (ia 0))] → W p l e (headSpec wsX5_rememberColumns ({ frames := 0, cells := 0, slots := 0, locals := 0 } : Room)).room s m ([.ref (ia 0)] : List Value).toArray below meth c H locs 0 0 (MQ below (va_Qv (fun (cb' : Nat → Int32) => ∀ j, j < n → cb' (pi j) = clA j) (fun (cb' : Nat → Int32) tQ => va_P G vwCl (((iaW E ia tx z y v kq gp gd) ++ (txW E tx n (slot oa pi)) ++ (neW E z op hg la tops dpt lst stry srt lin tokA wah fol par_ opn) ++ (lyW E y sett clA) ++ (lyW E v setv clV) ++ (pkW E (kq 0) kn0 kz0 kl0 kp0 kk0) ++ (pkW E (kq 1) kn1 kz1 kl1 kp1 kk1) ++ (pkW E (kq 2) kn2 kz2 kl2 kp2 kk2)) ++ poW E oa ta tl ct ps sn cb' tk) tQ.heap) A) ([.ref (ia 0)] : List Value).toArray s 0 0 A) (F0 m 2 ls []) := by
    intro kk
    induction kk with
    | zero => intro i cbX H locs hi hc hkk; exact absurd hkk (Nat.not_lt_zero _)
    | succ kk ih2 =>
      intro i cbX H locs hi hc hkk hP hD hS ls hl
      refine lv_iload_n hx hb dX5_rememberColumns_2 rfl (lv_at hl 0 rfl) ?_
      refine lv_aload_n hx hb dX5_rememberColumns_3 rfl (lv_at hl 1 rfl) ?_
      refine va_get (D := G) (ci := 5) (v := .ref (tx 0)) (C := RX5) (T := TX5) (N := 7) hx hb hts hin5 hown hK hP 0 rfl rfl 0 (by decide) (hts (Cond.fieldLink RX5 12 "IndentRules" "text" "LIndentRules$Text;") (List.mem_of_getElem? (i := 1) rfl)) (fun _ h9 => h9) rfl dX5_rememberColumns_4 ?_
      refine va_get (D := G) (ci := 4) (v := .int (nI n)) (C := RX4) (T := TX4) (N := 2) hx hb hts hin4 hown hK hP 3 rfl rfl 1 (by decide) (hts (Cond.fieldLink RX5 48 "IndentRules$Text" "size" "I") (List.mem_of_getElem? (i := 2) rfl)) (fun _ h9 => h9) rfl dX5_rememberColumns_7 ?_
      refine n_icmp_ge (a := i) (b := n) (tgt := 40) hx hb (by omega) (by omega) dX5_rememberColumns_10 (by decide) (fun c10 => ?_) (fun c10 => ?_)
      · exact W.vret hx hb hr (fun tZ htZ hWZ => ⟨⟨cbX, rfl, fun j hj => hc j (by omega), by show va_P G vwCl _ tZ.heap; rw [htZ]; exact hP⟩, hS.F htZ⟩) hS.2.2 dX5_rememberColumns_40
      · refine lv_aload_n hx hb dX5_rememberColumns_13 rfl (lv_at hl 1 rfl) ?_
        refine va_get (D := G) (ci := 5) (v := .ref (tx 0)) (C := RX5) (T := TX5) (N := 7) hx hb hts hin5 hown hK hP 0 rfl rfl 0 (by decide) (hts (Cond.fieldLink RX5 12 "IndentRules" "text" "LIndentRules$Text;") (List.mem_of_getElem? (i := 1) rfl)) (fun _ h9 => h9) rfl dX5_rememberColumns_14 ?_
        refine va_get (D := G) (ci := 4) (v := .ref (tx 1)) (C := RX4) (T := TX4) (N := 2) hx hb hts hin4 hown hK hP 3 rfl rfl 0 (by decide) (hts (Cond.fieldLink RX5 73 "IndentRules$Text" "lines" "[LIndentRules$Line;") (List.mem_of_getElem? (i := 3) rfl)) (fun _ h9 => h9) rfl dX5_rememberColumns_17 ?_
        refine lv_iload_n hx hb dX5_rememberColumns_20 rfl (lv_at hl 0 rfl) ?_
        refine k_aald (D := G) (tys := TYS E) (j := i) (f := (slot oa pi)) (n := 20) hx hb hK hP 4 2 rfl rfl (by omega) (by decide) dX5_rememberColumns_21 ?_
        refine W.eq (g2 := F0 m 22 ls [.ref (oa (pi i))]) rfl ?_
        refine lv_aload_n hx hb dX5_rememberColumns_22 rfl (lv_at hl 1 rfl) ?_
        refine va_get (D := G) (ci := 5) (v := .ref (y 0)) (C := RX5) (T := TX5) (N := 7) hx hb hts hin5 hown hK hP 0 rfl rfl 2 (by decide) (hts (Cond.fieldLink RX5 26 "IndentRules" "now" "LIndentRules$Layout;") (List.mem_of_getElem? (i := 4) rfl)) (fun _ h9 => h9) rfl dX5_rememberColumns_23 ?_
        refine va_get (D := G) (ci := 0) (v := .ref (y 2)) (C := RX0) (T := TX0) (N := 2) hx hb hts hin0 hown hK hP 17 rfl rfl 1 (by decide) (hts (Cond.fieldLink RX5 100 "IndentRules$Layout" "columns" "[I") (List.mem_of_getElem? (i := 5) rfl)) (fun _ h9 => h9) rfl dX5_rememberColumns_26 ?_
        refine lv_iload_n hx hb dX5_rememberColumns_29 rfl (lv_at hl 0 rfl) ?_
        refine k_iald (D := G) (tys := TYS E) (j := i) (f := clA) (n := 20) hx hb hK hP 19 0 rfl rfl (by omega) (by decide) dX5_rememberColumns_30 ?_
        refine va_put (D := G) (ci := 1) (v := .int (clA i)) (ty := .int) (C := RX1) (T := TX1) (N := 6) hx hb hts hin1 tyX1 tyX1_ok nmX1 hown hK hP hD hS (35 + (pi i)) (po_lnX rfl (hpi _ (by omega))) rfl 5 (by decide) (hts (Cond.fieldLink RX5 220 "IndentRules$Line" "columnBefore" "I") (List.mem_of_getElem? (i := 6) rfl)) (fun _ h9 => h9) rfl (by decide +kernel) rfl rfl (Nat.le_of_ble_eq_true rfl) dX5_rememberColumns_31 (fun H locs hP hD hS => ?_)
        have hP := Eq.mp (congrArg (fun w => va_P G vwCl w H) (po_cb (X := (iaW E ia tx z y v kq gp gd) ++ (txW E tx n (slot oa pi)) ++ (neW E z op hg la tops dpt lst stry srt lin tokA wah fol par_ opn) ++ (lyW E y sett clA) ++ (lyW E v setv clV) ++ (pkW E (kq 0) kn0 kz0 kl0 kp0 kk0) ++ (pkW E (kq 1) kn1 kz1 kl1 kp1 kk1) ++ (pkW E (kq 2) kn2 kz2 kl2 kp2 kk2)) (n := 35) (i := (pi i)) (v := (clA i)) rfl (hpi _ (by omega)))) hP
        have hD := Eq.mp (congrArg (fun w => va_D A w) (po_cb (X := (iaW E ia tx z y v kq gp gd) ++ (txW E tx n (slot oa pi)) ++ (neW E z op hg la tops dpt lst stry srt lin tokA wah fol par_ opn) ++ (lyW E y sett clA) ++ (lyW E v setv clV) ++ (pkW E (kq 0) kn0 kz0 kl0 kp0 kk0) ++ (pkW E (kq 1) kn1 kz1 kl1 kp1 kk1) ++ (pkW E (kq 2) kn2 kz2 kl2 kp2 kk2)) (n := 35) (i := (pi i)) (v := (clA i)) rfl (hpi _ (by omega)))) hD
        obtain ⟨cb31, ecb31⟩ : ∃ z : Nat → Int32, z = upd cbX (pi i) (clA i) := ⟨_, rfl⟩
        rw [← ecb31] at hP hD
        have hP : va_P G vwCl (((iaW E ia tx z y v kq gp gd) ++ (txW E tx n (slot oa pi)) ++ (neW E z op hg la tops dpt lst stry srt lin tokA wah fol par_ opn) ++ (lyW E y sett clA) ++ (lyW E v setv clV) ++ (pkW E (kq 0) kn0 kz0 kl0 kp0 kk0) ++ (pkW E (kq 1) kn1 kz1 kl1 kp1 kk1) ++ (pkW E (kq 2) kn2 kz2 kl2 kp2 kk2)) ++ poW E oa ta tl ct ps sn cb31 tk) H := hP
        have hD : va_D A (((iaW E ia tx z y v kq gp gd) ++ (txW E tx n (slot oa pi)) ++ (neW E z op hg la tops dpt lst stry srt lin tokA wah fol par_ opn) ++ (lyW E y sett clA) ++ (lyW E v setv clV) ++ (pkW E (kq 0) kn0 kz0 kl0 kp0 kk0) ++ (pkW E (kq 1) kn1 kz1 kl1 kp1 kk1) ++ (pkW E (kq 2) kn2 kz2 kl2 kp2 kk2)) ++ poW E oa ta tl ct ps sn cb31 tk) := hD
        refine lv_iinc (v := (nI (i + 1))) (lv' := [(1, .int (nI (i + 1))), (0, .ref (ia 0))]) hx hb dX5_rememberColumns_34 hl (k := 0) rfl (k_inc i) (by decide) rfl (fun ls hl => ?_)
        refine lv_goto (tgt := 2) hx hb dX5_rememberColumns_37 (by decide) ?_
        exact ih2 (i + 1) cb31 _ _ (by omega) (upd_pi ecb31 hpp hn c10 hc) (by omega) hP hD hS ls (lv_sub hl [0, 1] rfl)
  exact lp2 (n - 0 + 1) 0 cb _ _ (Nat.zero_le _) (fun j hj => absurd hj (Nat.not_lt_zero _)) (Nat.lt_succ_self _) hP hD hS ls (lv_sub hl [0, 1] rfl)

set_option maxHeartbeats 4000000 in
set_option maxRecDepth 100000 in
theorem c_X5_movedBut (l : Launch) (G : va_G) (E : cEnv) (ia tx z y v : Nat → Nat) (kq : Nat → Nat → Nat) (gp : Int32) (gd : Nat → Int32) (n : Nat) (pi : Nat → Nat) (op hg la : Nat) (tops dpt lst stry srt lin tokA wah fol par_ opn : Nat → Int32) (sett clA setv clV : Nat → Int32) (kn0 kz0 kn1 kz1 kn2 kz2 : Nat) (kl0 kp0 kk0 kl1 kp1 kk1 kl2 kp2 kk2 : Nat → Int32) (oa ta : Nat → Nat) (tl ct ps : Nat → Nat) (sn cb : Nat → Int32) (tk : Nat → Nat → Int32) (x : Int32) (hn : n ≤ 20) (hpp : permP pi) : Met l yX5_movedBut wsX5_movedBut ({ frames := 0, cells := 0, slots := 0, locals := 0 }) (va_Pc [.ref (ia 0), .int x] (PR G E (((iaW E ia tx z y v kq gp gd) ++ (txW E tx n (slot oa pi)) ++ (neW E z op hg la tops dpt lst stry srt lin tokA wah fol par_ opn) ++ (lyW E y sett clA) ++ (lyW E v setv clV) ++ (pkW E (kq 0) kn0 kz0 kl0 kp0 kk0) ++ (pkW E (kq 1) kn1 kz1 kl1 kp1 kk1) ++ (pkW E (kq 2) kn2 kz2 kl2 kp2 kk2)) ++ poW E oa ta tl ct ps sn cb tk))) (vp_Si (fun r => r = nI (mvc x clA (fun j => cb (pi j)) n))) 0 0 (fun _ => False) := by
  refine Met.ofW (cc := cX5_movedBut) (maxL := 4) (ret := (some .int)) (by decide) rfl ?_
  intro p e s m args below meth c s₁ B hml hv
  obtain ⟨rfl, hP, hK, hZ⟩ := hv
  have hx := B.exec
  have hb := B.bytes
  have hr := B.returns
  have hts := atoms_spec (ws := wsX5_movedBut) B.pre
  have hown : s.vm.findClass RX5 = some m.cls := findClass_of_methodNamed B.named
  have hlocks := B.notSynchronized
  have hin0 : ∀ w ∈ u_ws RX0 TX0 2, w ∈ wsX5_movedBut := mem_pl [22, 23] (by rfl)
  have hin1 : ∀ w ∈ u_ws RX1 TX1 6, w ∈ wsX5_movedBut := mem_pl [16, 17, 18, 19, 20, 21] (by rfl)
  have hin4 : ∀ w ∈ u_ws RX4 TX4 2, w ∈ wsX5_movedBut := mem_pl [14, 15] (by rfl)
  have hin5 : ∀ w ∈ u_ws RX5 TX5 7, w ∈ wsX5_movedBut := mem_pl [7, 8, 9, 10, 11, 12, 13] (by rfl)
  have hS : va_S (fun _ => False) s.heap s.heap [] := va_S.rf
  have hl := lv_entry ([.ref (ia 0), .int x]) (n := 4) (Nat.le_of_ble_eq_true rfl)
  rw [lg_entry_eq]
  generalize (lg_sl ([.ref (ia 0), .int x]) ++ List.replicate (4 - (lg_sl ([.ref (ia 0), .int x])).length) Slot.unset).toArray = ls at hl ⊢
  have hl : lv_has ls 4 [(0, .ref (ia 0)), (1, .int x)] := hl
  have hpi : ∀ i, i < 20 → pi i < 20 := fun i hi => (hpp i hi).1
  refine lv_iconst (v := (nI 0)) hx hb dX5_movedBut_0 (by decide) ?_
  refine lv_istore_n (lv' := [(2, .int (nI 0)), (0, .ref (ia 0)), (1, .int x)]) hx hb dX5_movedBut_1 rfl hl (by decide) rfl (fun ls hl => ?_)
  refine lv_iconst (v := (nI 0)) hx hb dX5_movedBut_2 (by decide) ?_
  refine lv_istore_n (lv' := [(3, .int (nI 0)), (2, .int (nI 0)), (0, .ref (ia 0)), (1, .int x)]) hx hb dX5_movedBut_3 rfl hl (by decide) rfl (fun ls hl => ?_)
  have lp4 : ∀ (kk : Nat) (nn : Nat) (i : Nat), (i ≤ n) → (nn = mvc x clA (fun j => cb (pi j)) i) → n - i < kk → ∀ ls : Array Slot, lv_has ls 4 [(3, .int (nI i)), (2, .int (nI nn)), (0, .ref (ia 0)), (1, .int x)] → W p l e (headSpec wsX5_movedBut ({ frames := 0, cells := 0, slots := 0, locals := 0 } : Room)).room s m ([.ref (ia 0), .int x] : List Value).toArray below meth c s.heap [] 0 0 (MQ below (vp_Si (fun r => r = nI (mvc x clA (fun j => cb (pi j)) n))) ([.ref (ia 0), .int x] : List Value).toArray s 0 0 (fun _ => False)) (F0 m 4 ls []) := by
    intro kk
    induction kk with
    | zero => intro nn i  hi hnn hkk; exact absurd hkk (Nat.not_lt_zero _)
    | succ kk ih4 =>
      intro nn i hi hnn hkk ls hl
      refine lv_iload_n hx hb dX5_movedBut_4 rfl (lv_at hl 0 rfl) ?_
      refine lv_aload_n hx hb dX5_movedBut_5 rfl (lv_at hl 2 rfl) ?_
      refine va_get (D := G) (ci := 5) (v := .ref (tx 0)) (C := RX5) (T := TX5) (N := 7) hx hb hts hin5 hown hK hP 0 rfl rfl 0 (by decide) (hts (Cond.fieldLink RX5 12 "IndentRules" "text" "LIndentRules$Text;") (List.mem_of_getElem? (i := 1) rfl)) (fun _ h9 => h9) rfl dX5_movedBut_6 ?_
      refine va_get (D := G) (ci := 4) (v := .int (nI n)) (C := RX4) (T := TX4) (N := 2) hx hb hts hin4 hown hK hP 3 rfl rfl 1 (by decide) (hts (Cond.fieldLink RX5 48 "IndentRules$Text" "size" "I") (List.mem_of_getElem? (i := 2) rfl)) (fun _ h9 => h9) rfl dX5_movedBut_9 ?_
      refine n_icmp_ge (a := i) (b := n) (tgt := 53) hx hb (by omega) (by omega) dX5_movedBut_12 (by decide) (fun c12 => ?_) (fun c12 => ?_)
      · refine lv_iload_n hx hb dX5_movedBut_53 rfl (lv_at hl 1 rfl) ?_
        exact W.iret (v := (nI nn)) hx hb hr (fun tZ htZ hWZ => ⟨_, rfl, by rw [hnn, show i = n by omega], htZ⟩) (fun _ h => by cases h) dX5_movedBut_54
      · refine lv_iload_n hx hb dX5_movedBut_15 rfl (lv_at hl 0 rfl) ?_
        refine lv_iload_n hx hb dX5_movedBut_16 rfl (lv_at hl 3 rfl) ?_
        refine lv_icmp_eq (x := (nI i)) (y := x) (tgt := 47) hx hb dX5_movedBut_17 (by decide) (fun c17 => ?_) (fun c17 => ?_)
        · refine lv_iinc (v := (nI (i + 1))) (lv' := [(3, .int (nI (i + 1))), (2, .int (nI nn)), (0, .ref (ia 0)), (1, .int x)]) hx hb dX5_movedBut_47 hl (k := 0) rfl (k_inc i) (by decide) rfl (fun ls hl => ?_)
          refine lv_goto (tgt := 4) hx hb dX5_movedBut_50 (by decide) ?_
          exact ih4 nn (i + 1) (by omega) (by rw [hnn]; show _ = mvc x clA (fun j => cb (pi j)) i + _; rw [if_neg (fun q => q.1 c17), Nat.add_zero]) (by omega) ls (lv_sub hl [0, 1, 2, 3] rfl)
        · refine lv_aload_n hx hb dX5_movedBut_20 rfl (lv_at hl 2 rfl) ?_
          refine va_get (D := G) (ci := 5) (v := .ref (tx 0)) (C := RX5) (T := TX5) (N := 7) hx hb hts hin5 hown hK hP 0 rfl rfl 0 (by decide) (hts (Cond.fieldLink RX5 12 "IndentRules" "text" "LIndentRules$Text;") (List.mem_of_getElem? (i := 1) rfl)) (fun _ h9 => h9) rfl dX5_movedBut_21 ?_
          refine va_get (D := G) (ci := 4) (v := .ref (tx 1)) (C := RX4) (T := TX4) (N := 2) hx hb hts hin4 hown hK hP 3 rfl rfl 0 (by decide) (hts (Cond.fieldLink RX5 73 "IndentRules$Text" "lines" "[LIndentRules$Line;") (List.mem_of_getElem? (i := 3) rfl)) (fun _ h9 => h9) rfl dX5_movedBut_24 ?_
          refine lv_iload_n hx hb dX5_movedBut_27 rfl (lv_at hl 0 rfl) ?_
          refine k_aald (D := G) (tys := TYS E) (j := i) (f := (slot oa pi)) (n := 20) hx hb hK hP 4 2 rfl rfl (by omega) (by decide) dX5_movedBut_28 ?_
          refine W.eq (g2 := F0 m 29 ls [.ref (oa (pi i))]) rfl ?_
          refine va_get (D := G) (ci := 1) (v := .int (cb (pi i))) (C := RX1) (T := TX1) (N := 6) hx hb hts hin1 hown hK hP (35 + (pi i)) (po_lnX rfl (hpi _ (by omega))) rfl 5 (by decide) (hts (Cond.fieldLink RX5 220 "IndentRules$Line" "columnBefore" "I") (List.mem_of_getElem? (i := 4) rfl)) (fun _ h9 => h9) rfl dX5_movedBut_29 ?_
          refine lv_aload_n hx hb dX5_movedBut_32 rfl (lv_at hl 2 rfl) ?_
          refine va_get (D := G) (ci := 5) (v := .ref (y 0)) (C := RX5) (T := TX5) (N := 7) hx hb hts hin5 hown hK hP 0 rfl rfl 2 (by decide) (hts (Cond.fieldLink RX5 26 "IndentRules" "now" "LIndentRules$Layout;") (List.mem_of_getElem? (i := 5) rfl)) (fun _ h9 => h9) rfl dX5_movedBut_33 ?_
          refine va_get (D := G) (ci := 0) (v := .ref (y 2)) (C := RX0) (T := TX0) (N := 2) hx hb hts hin0 hown hK hP 17 rfl rfl 1 (by decide) (hts (Cond.fieldLink RX5 100 "IndentRules$Layout" "columns" "[I") (List.mem_of_getElem? (i := 6) rfl)) (fun _ h9 => h9) rfl dX5_movedBut_36 ?_
          refine lv_iload_n hx hb dX5_movedBut_39 rfl (lv_at hl 0 rfl) ?_
          refine k_iald (D := G) (tys := TYS E) (j := i) (f := clA) (n := 20) hx hb hK hP 19 0 rfl rfl (by omega) (by decide) dX5_movedBut_40 ?_
          refine lv_icmp_eq (x := (cb (pi i))) (y := (clA i)) (tgt := 47) hx hb dX5_movedBut_41 (by decide) (fun c41 => ?_) (fun c41 => ?_)
          · refine lv_iinc (v := (nI (i + 1))) (lv' := [(3, .int (nI (i + 1))), (2, .int (nI nn)), (0, .ref (ia 0)), (1, .int x)]) hx hb dX5_movedBut_47 hl (k := 0) rfl (k_inc i) (by decide) rfl (fun ls hl => ?_)
            refine lv_goto (tgt := 4) hx hb dX5_movedBut_50 (by decide) ?_
            exact ih4 nn (i + 1) (by omega) (by rw [hnn]; show _ = mvc x clA (fun j => cb (pi j)) i + _; rw [if_neg (fun q => q.2 c41.symm), Nat.add_zero]) (by omega) ls (lv_sub hl [0, 1, 2, 3] rfl)
          · refine lv_iinc (v := (nI (nn + 1))) (lv' := [(2, .int (nI (nn + 1))), (3, .int (nI i)), (0, .ref (ia 0)), (1, .int x)]) hx hb dX5_movedBut_44 hl (k := 1) rfl (k_inc nn) (by decide) rfl (fun ls hl => ?_)
            refine lv_iinc (v := (nI (i + 1))) (lv' := [(3, .int (nI (i + 1))), (2, .int (nI (nn + 1))), (0, .ref (ia 0)), (1, .int x)]) hx hb dX5_movedBut_47 hl (k := 1) rfl (k_inc i) (by decide) rfl (fun ls hl => ?_)
            refine lv_goto (tgt := 4) hx hb dX5_movedBut_50 (by decide) ?_
            exact ih4 (nn + 1) (i + 1) (by omega) (by rw [hnn]; show _ = mvc x clA (fun j => cb (pi j)) i + _; rw [if_pos ⟨c17, fun q => c41 q.symm⟩]) (by omega) ls (lv_sub hl [0, 1, 2, 3] rfl)
  exact lp4 (n - 0 + 1) 0 0 (Nat.zero_le _) rfl (Nat.lt_succ_self _) ls (lv_sub hl [0, 1, 2, 3] rfl)

set_option maxHeartbeats 4000000 in
set_option maxRecDepth 100000 in
theorem c_X5_readLines (l : Launch) (G : va_G) (E : cEnv) (ia tx z y v : Nat → Nat) (kq : Nat → Nat → Nat) (gp : Int32) (gd : Nat → Int32) (n : Nat) (pi : Nat → Nat) (op hg la : Nat) (tops dpt lst stry srt lin tokA wah fol par_ opn : Nat → Int32) (sett clA setv clV : Nat → Int32) (kn0 kz0 kn1 kz1 kn2 kz2 : Nat) (kl0 kp0 kk0 kl1 kp1 kk1 kl2 kp2 kk2 : Nat → Int32) (oa ta : Nat → Nat) (tl ct ps : Nat → Nat) (sn cb : Nat → Int32) (tk : Nat → Nat → Int32) (rn : Nat → Nat) (hn : n ≤ 20) (hrn : ∀ j, j < n → rn j < 1000000000) (hPL : PL n rn pi tl ct ps tk) (sz : Nat) : Met l yX5_readLines wsX5_readLines ({ frames := 4, cells := 0, slots := 0, locals := 96 }) (va_Pc [.ref (ia 0)] (PW G E (((iaW E ia tx z y v kq gp gd) ++ (txW E tx n (slot oa pi)) ++ (neW E z op hg la tops dpt lst stry srt lin tokA wah fol par_ opn) ++ (lyW E y sett clA) ++ (lyW E v setv clV) ++ (pkW E (kq 0) kn0 kz0 kl0 kp0 kk0) ++ (pkW E (kq 1) kn1 kz1 kl1 kp1 kk1) ++ (pkW E (kq 2) kn2 kz2 kl2 kp2 kk2)) ++ poW E oa ta tl ct ps sn cb tk) sz)) (va_Qv (fun (u : (Nat → Int32) × (Nat → Int32) × (Nat → Int32) × (Nat → Int32) × (Nat → Int32) × (Nat → Int32) × (Nat → Int32) × (Nat → Int32) × (Nat → Int32) × (Nat → Int32) × (Nat → Int32) × (Nat → Int32)) => (CN (nAll rn n) (n) u.1 u.2.1 u.2.2.1 u.2.2.2.1 u.2.2.2.2.1 u.2.2.2.2.2.1 u.2.2.2.2.2.2.1 u.2.2.2.2.2.2.2.1 u.2.2.2.2.2.2.2.2.1 u.2.2.2.2.2.2.2.2.2.1 u.2.2.2.2.2.2.2.2.2.2.1) ∧ ∀ j, j < n → u.2.2.2.2.2.2.2.2.2.2.2 j = cols sett rn n j) (fun (u : (Nat → Int32) × (Nat → Int32) × (Nat → Int32) × (Nat → Int32) × (Nat → Int32) × (Nat → Int32) × (Nat → Int32) × (Nat → Int32) × (Nat → Int32) × (Nat → Int32) × (Nat → Int32) × (Nat → Int32)) tQ => va_P G vwCl (((iaW E ia tx z y v kq gp gd) ++ (txW E tx n (slot oa pi)) ++ (neW E z (nO (nAll rn n)) (nD (nAll rn n)) (nL (nAll rn n)) u.1 u.2.1 u.2.2.1 u.2.2.2.1 u.2.2.2.2.1 u.2.2.2.2.2.1 u.2.2.2.2.2.2.1 u.2.2.2.2.2.2.2.1 u.2.2.2.2.2.2.2.2.1 u.2.2.2.2.2.2.2.2.2.1 u.2.2.2.2.2.2.2.2.2.2.1) ++ (lyW E y sett u.2.2.2.2.2.2.2.2.2.2.2) ++ (lyW E v setv clV) ++ (pkW E (kq 0) kn0 kz0 kl0 kp0 kk0) ++ (pkW E (kq 1) kn1 kz1 kl1 kp1 kk1) ++ (pkW E (kq 2) kn2 kz2 kl2 kp2 kk2)) ++ poW E oa ta tl ct ps sn cb tk) tQ.heap) (va_A (((iaW E ia tx z y v kq gp gd) ++ (txW E tx n (slot oa pi)) ++ (neW E z op hg la tops dpt lst stry srt lin tokA wah fol par_ opn) ++ (lyW E y sett clA) ++ (lyW E v setv clV) ++ (pkW E (kq 0) kn0 kz0 kl0 kp0 kk0) ++ (pkW E (kq 1) kn1 kz1 kl1 kp1 kk1) ++ (pkW E (kq 2) kn2 kz2 kl2 kp2 kk2)) ++ poW E oa ta tl ct ps sn cb tk) sz)) 0 0 (va_A (((iaW E ia tx z y v kq gp gd) ++ (txW E tx n (slot oa pi)) ++ (neW E z op hg la tops dpt lst stry srt lin tokA wah fol par_ opn) ++ (lyW E y sett clA) ++ (lyW E v setv clV) ++ (pkW E (kq 0) kn0 kz0 kl0 kp0 kk0) ++ (pkW E (kq 1) kn1 kz1 kl1 kp1 kk1) ++ (pkW E (kq 2) kn2 kz2 kl2 kp2 kk2)) ++ poW E oa ta tl ct ps sn cb tk) sz) := by
  refine Met.ofW (cc := cX5_readLines) (maxL := 1) (ret := none) (by decide) rfl ?_
  intro p e s m args below meth c s₁ B hml hv
  obtain ⟨rfl, hsz, hP, hK, hD0, hZ⟩ := hv
  have hx := B.exec
  have hb := B.bytes
  have hr := B.returns
  have hts := atoms_spec (ws := wsX5_readLines) B.pre
  have hown : s.vm.findClass RX5 = some m.cls := findClass_of_methodNamed B.named
  have hlocks := B.notSynchronized
  have hin5 : ∀ w ∈ u_ws RX5 TX5 7, w ∈ wsX5_readLines := mem_pl [92, 93, 94, 95, 96, 97, 98] (by rfl)
  subst hsz
  have hD := hD0.self (sz := s.heap.size)
  generalize hAe : va_A (((iaW E ia tx z y v kq gp gd) ++ (txW E tx n (slot oa pi)) ++ (neW E z op hg la tops dpt lst stry srt lin tokA wah fol par_ opn) ++ (lyW E y sett clA) ++ (lyW E v setv clV) ++ (pkW E (kq 0) kn0 kz0 kl0 kp0 kk0) ++ (pkW E (kq 1) kn1 kz1 kl1 kp1 kk1) ++ (pkW E (kq 2) kn2 kz2 kl2 kp2 kk2)) ++ poW E oa ta tl ct ps sn cb tk) s.heap.size = A at hD hZ ⊢
  have hA : ∀ q : Nat, s.heap.size ≤ q → A q := fun q h => by rw [← hAe]; exact Or.inr h
  have hS : va_S A s.heap s.heap [] := va_S.rf
  have hl := lv_entry ([.ref (ia 0)]) (n := 1) (Nat.le_of_ble_eq_true rfl)
  rw [lg_entry_eq]
  generalize (lg_sl ([.ref (ia 0)]) ++ List.replicate (1 - (lg_sl ([.ref (ia 0)])).length) Slot.unset).toArray = ls at hl ⊢
  have hl : lv_has ls 1 [(0, .ref (ia 0))] := hl
  refine lv_aload_n hx hb dX5_readLines_0 rfl (lv_at hl 0 rfl) ?_
  refine va_get (D := G) (ci := 5) (v := .ref (z 0)) (C := RX5) (T := TX5) (N := 7) hx hb hts hin5 hown hK hP 0 rfl rfl 1 (by decide) (hts (Cond.fieldLink RX5 19 "IndentRules" "nesting" "LIndentRules$Nesting;") (List.mem_of_getElem? (i := 1) rfl)) (fun _ h9 => h9) rfl dX5_readLines_1 ?_
  refine lv_aload_n hx hb dX5_readLines_4 rfl (lv_at hl 0 rfl) ?_
  refine va_get (D := G) (ci := 5) (v := .ref (tx 0)) (C := RX5) (T := TX5) (N := 7) hx hb hts hin5 hown hK hP 0 rfl rfl 0 (by decide) (hts (Cond.fieldLink RX5 12 "IndentRules" "text" "LIndentRules$Text;") (List.mem_of_getElem? (i := 2) rfl)) (fun _ h9 => h9) rfl dX5_readLines_5 ?_
  refine we_v (n := 1) (G := G) (E := E) (As := [.ref (tx 0)]) (rest := []) (ci := 2) (q0 := 5) (X := (iaW E ia tx z y v kq gp gd) ++ (txW E tx n (slot oa pi)) ++ (neW E z op hg la tops dpt lst stry srt lin tokA wah fol par_ opn) ++ (lyW E y sett clA) ++ (lyW E v setv clV) ++ (pkW E (kq 0) kn0 kz0 kl0 kp0 kk0) ++ (pkW E (kq 1) kn1 kz1 kl1 kp1 kk1) ++ (pkW E (kq 2) kn2 kz2 kl2 kp2 kk2)) (pl := poW E oa ta tl ct ps sn cb tk) (cx := (neW E z op hg la tops dpt lst stry srt lin tokA wah fol par_ opn) ++ (txW E tx n (slot oa pi))) (ex := poW E oa ta tl ct ps sn cb tk) (wn := fun (u : (Nat → Int32) × (Nat → Int32) × (Nat → Int32) × (Nat → Int32) × (Nat → Int32) × (Nat → Int32) × (Nat → Int32) × (Nat → Int32) × (Nat → Int32) × (Nat → Int32) × (Nat → Int32)) => (neW E z (nO (nAll rn n)) (nD (nAll rn n)) (nL (nAll rn n)) u.1 u.2.1 u.2.2.1 u.2.2.2.1 u.2.2.2.2.1 u.2.2.2.2.2.1 u.2.2.2.2.2.2.1 u.2.2.2.2.2.2.2.1 u.2.2.2.2.2.2.2.2.1 u.2.2.2.2.2.2.2.2.2.1 u.2.2.2.2.2.2.2.2.2.2) ++ (txW E tx n (slot oa pi))) ⟨hx, hb, hml, hown, hts⟩ hK hZ hS hA (fun sz => c_X2_read l G E z op hg la tops dpt lst stry srt lin tokA wah fol par_ opn tx n pi oa ta tl ct ps sn cb tk rn (by first | assumption | omega) (by first | assumption | omega) (by first | assumption | omega) sz) gX5_readLines_X2_read rfl rfl rfl (by decide +kernel) ⟨Nat.le_of_ble_eq_true rfl, Nat.le_of_ble_eq_true rfl⟩ hP hD [5, 6, 7, 8, 9, 10, 11, 12, 13, 14, 15, 16, 3, 4] rfl (by decide) (fun k => k) (fun _ _ h => h) (fun _ _ _ _ h => h) (fun _ => rfl) rfl rfl hl.1 rfl rfl (Nat.le_of_ble_eq_true rfl) dX5_readLines_8 ⟨Nat.zero_le _, Nat.zero_le _⟩ (fun u8 H locs p8 hP hD hS => ?_)
  obtain ⟨tops'_8, dpt'_8, lst'_8, stry'_8, srt'_8, lin'_8, tokA'_8, wah'_8, fol'_8, par_'_8, opn'_8⟩ := u8
  try dsimp only at p8 hP hD
  have hP : va_P G vwCl (((iaW E ia tx z y v kq gp gd) ++ (txW E tx n (slot oa pi)) ++ (neW E z (nO (nAll rn n)) (nD (nAll rn n)) (nL (nAll rn n)) tops'_8 dpt'_8 lst'_8 stry'_8 srt'_8 lin'_8 tokA'_8 wah'_8 fol'_8 par_'_8 opn'_8) ++ (lyW E y sett clA) ++ (lyW E v setv clV) ++ (pkW E (kq 0) kn0 kz0 kl0 kp0 kk0) ++ (pkW E (kq 1) kn1 kz1 kl1 kp1 kk1) ++ (pkW E (kq 2) kn2 kz2 kl2 kp2 kk2)) ++ poW E oa ta tl ct ps sn cb tk) H := hP
  have hD : va_D A (((iaW E ia tx z y v kq gp gd) ++ (txW E tx n (slot oa pi)) ++ (neW E z (nO (nAll rn n)) (nD (nAll rn n)) (nL (nAll rn n)) tops'_8 dpt'_8 lst'_8 stry'_8 srt'_8 lin'_8 tokA'_8 wah'_8 fol'_8 par_'_8 opn'_8) ++ (lyW E y sett clA) ++ (lyW E v setv clV) ++ (pkW E (kq 0) kn0 kz0 kl0 kp0 kk0) ++ (pkW E (kq 1) kn1 kz1 kl1 kp1 kk1) ++ (pkW E (kq 2) kn2 kz2 kl2 kp2 kk2)) ++ poW E oa ta tl ct ps sn cb tk) := hD
  refine lv_aload_n hx hb dX5_readLines_11 rfl (lv_at hl 0 rfl) ?_
  refine va_get (D := G) (ci := 5) (v := .ref (y 0)) (C := RX5) (T := TX5) (N := 7) hx hb hts hin5 hown hK hP 0 rfl rfl 2 (by decide) (hts (Cond.fieldLink RX5 26 "IndentRules" "now" "LIndentRules$Layout;") (List.mem_of_getElem? (i := 3) rfl)) (fun _ h9 => h9) rfl dX5_readLines_12 ?_
  refine lv_aload_n hx hb dX5_readLines_15 rfl (lv_at hl 0 rfl) ?_
  refine va_get (D := G) (ci := 5) (v := .ref (tx 0)) (C := RX5) (T := TX5) (N := 7) hx hb hts hin5 hown hK hP 0 rfl rfl 0 (by decide) (hts (Cond.fieldLink RX5 12 "IndentRules" "text" "LIndentRules$Text;") (List.mem_of_getElem? (i := 2) rfl)) (fun _ h9 => h9) rfl dX5_readLines_16 ?_
  refine lv_aload_n hx hb dX5_readLines_19 rfl (lv_at hl 0 rfl) ?_
  refine va_get (D := G) (ci := 5) (v := .ref (z 0)) (C := RX5) (T := TX5) (N := 7) hx hb hts hin5 hown hK hP 0 rfl rfl 1 (by decide) (hts (Cond.fieldLink RX5 19 "IndentRules" "nesting" "LIndentRules$Nesting;") (List.mem_of_getElem? (i := 1) rfl)) (fun _ h9 => h9) rfl dX5_readLines_20 ?_
  refine we_v (n := 2) (G := G) (E := E) (As := [.ref (tx 0), .ref (z 0)]) (rest := []) (ci := 0) (q0 := 17) (X := (iaW E ia tx z y v kq gp gd) ++ (txW E tx n (slot oa pi)) ++ (neW E z (nO (nAll rn n)) (nD (nAll rn n)) (nL (nAll rn n)) tops'_8 dpt'_8 lst'_8 stry'_8 srt'_8 lin'_8 tokA'_8 wah'_8 fol'_8 par_'_8 opn'_8) ++ (lyW E y sett clA) ++ (lyW E v setv clV) ++ (pkW E (kq 0) kn0 kz0 kl0 kp0 kk0) ++ (pkW E (kq 1) kn1 kz1 kl1 kp1 kk1) ++ (pkW E (kq 2) kn2 kz2 kl2 kp2 kk2)) (pl := poW E oa ta tl ct ps sn cb tk) (cx := (lyW E y sett clA) ++ (neW E z (nO (nAll rn n)) (nD (nAll rn n)) (nL (nAll rn n)) tops'_8 dpt'_8 lst'_8 stry'_8 srt'_8 lin'_8 tokA'_8 wah'_8 fol'_8 par_'_8 opn'_8) ++ (txW E tx n (slot oa pi))) (ex := poW E oa ta tl ct ps sn cb tk) (wn := fun (clA' : Nat → Int32) => (lyW E y sett clA') ++ (neW E z (nO (nAll rn n)) (nD (nAll rn n)) (nL (nAll rn n)) tops'_8 dpt'_8 lst'_8 stry'_8 srt'_8 lin'_8 tokA'_8 wah'_8 fol'_8 par_'_8 opn'_8) ++ (txW E tx n (slot oa pi))) ⟨hx, hb, hml, hown, hts⟩ hK hZ hS hA (fun sz => c_X0_lay l G E y sett clA z (nO (nAll rn n)) (nD (nAll rn n)) (nL (nAll rn n)) tops'_8 dpt'_8 lst'_8 stry'_8 srt'_8 lin'_8 tokA'_8 wah'_8 fol'_8 par_'_8 opn'_8 tx n pi oa ta tl ct ps sn cb tk rn (by first | assumption | omega) (by first | assumption | omega) (by first | assumption | omega) rfl p8 sz) gX5_readLines_X0_lay rfl rfl rfl (by decide +kernel) ⟨Nat.le_of_ble_eq_true rfl, Nat.le_of_ble_eq_true rfl⟩ hP hD [17, 18, 19, 5, 6, 7, 8, 9, 10, 11, 12, 13, 14, 15, 16, 3, 4] rfl (by decide) (fun k => k) (fun _ _ h => h) (fun _ _ _ _ h => h) (fun _ => rfl) rfl rfl hl.1 rfl rfl (Nat.le_of_ble_eq_true rfl) dX5_readLines_23 ⟨Nat.zero_le _, Nat.zero_le _⟩ (fun u23 H locs p23 hP hD hS => ?_)
  generalize u23 = clA'_23 at p23 hP hD
  try dsimp only at p23 hP hD
  have hP : va_P G vwCl (((iaW E ia tx z y v kq gp gd) ++ (txW E tx n (slot oa pi)) ++ (neW E z (nO (nAll rn n)) (nD (nAll rn n)) (nL (nAll rn n)) tops'_8 dpt'_8 lst'_8 stry'_8 srt'_8 lin'_8 tokA'_8 wah'_8 fol'_8 par_'_8 opn'_8) ++ (lyW E y sett clA'_23) ++ (lyW E v setv clV) ++ (pkW E (kq 0) kn0 kz0 kl0 kp0 kk0) ++ (pkW E (kq 1) kn1 kz1 kl1 kp1 kk1) ++ (pkW E (kq 2) kn2 kz2 kl2 kp2 kk2)) ++ poW E oa ta tl ct ps sn cb tk) H := hP
  have hD : va_D A (((iaW E ia tx z y v kq gp gd) ++ (txW E tx n (slot oa pi)) ++ (neW E z (nO (nAll rn n)) (nD (nAll rn n)) (nL (nAll rn n)) tops'_8 dpt'_8 lst'_8 stry'_8 srt'_8 lin'_8 tokA'_8 wah'_8 fol'_8 par_'_8 opn'_8) ++ (lyW E y sett clA'_23) ++ (lyW E v setv clV) ++ (pkW E (kq 0) kn0 kz0 kl0 kp0 kk0) ++ (pkW E (kq 1) kn1 kz1 kl1 kp1 kk1) ++ (pkW E (kq 2) kn2 kz2 kl2 kp2 kk2)) ++ poW E oa ta tl ct ps sn cb tk) := hD
  exact W.vret hx hb hr (fun tZ htZ hWZ => ⟨⟨(tops'_8, dpt'_8, lst'_8, stry'_8, srt'_8, lin'_8, tokA'_8, wah'_8, fol'_8, par_'_8, opn'_8, clA'_23), rfl, ⟨p8, p23⟩, by show va_P G vwCl _ tZ.heap; rw [htZ]; exact hP⟩, hS.F htZ⟩) hS.2.2 dX5_readLines_26

set_option maxHeartbeats 4000000 in
set_option maxRecDepth 100000 in
theorem c_X5_layTried (l : Launch) (G : va_G) (E : cEnv) (ia tx z y v : Nat → Nat) (kq : Nat → Nat → Nat) (gp : Int32) (gd : Nat → Int32) (n : Nat) (pi : Nat → Nat) (op hg la : Nat) (tops dpt lst stry srt lin tokA wah fol par_ opn : Nat → Int32) (sett clA setv clV : Nat → Int32) (kn0 kz0 kn1 kz1 kn2 kz2 : Nat) (kl0 kp0 kk0 kl1 kp1 kk1 kl2 kp2 kk2 : Nat → Int32) (oa ta : Nat → Nat) (tl ct ps : Nat → Nat) (sn cb : Nat → Int32) (tk : Nat → Nat → Int32) (x0 x1 x2 x3 : Int32) (rn : Nat → Nat) (hn : n ≤ 20) (hrn : ∀ j, j < n → rn j < 1000000000) (hPL : PL n rn pi tl ct ps tk) (hop : op = nO (nAll rn n)) (hCN : CN (nAll rn n) (n) tops dpt lst stry srt lin tokA wah fol par_ opn) (sz : Nat) : Met l yX5_layTried wsX5_layTried ({ frames := 4, cells := 0, slots := 0, locals := 96 }) (va_Pc [.ref (ia 0), .int x0, .int x1, .int x2, .int x3] (PW G E (((iaW E ia tx z y v kq gp gd) ++ (txW E tx n (slot oa pi)) ++ (neW E z op hg la tops dpt lst stry srt lin tokA wah fol par_ opn) ++ (lyW E y sett clA) ++ (lyW E v setv clV) ++ (pkW E (kq 0) kn0 kz0 kl0 kp0 kk0) ++ (pkW E (kq 1) kn1 kz1 kl1 kp1 kk1) ++ (pkW E (kq 2) kn2 kz2 kl2 kp2 kk2)) ++ poW E oa ta tl ct ps sn cb tk) sz)) (va_Qv (fun (u : (Nat → Int32) × (Nat → Int32)) => (∀ k, k < 4 → u.1 k = st4 x0 x1 x2 x3 k) ∧ ∀ j, j < n → u.2 j = cols (st4 x0 x1 x2 x3) rn n j) (fun (u : (Nat → Int32) × (Nat → Int32)) tQ => va_P G vwCl (((iaW E ia tx z y v kq gp gd) ++ (txW E tx n (slot oa pi)) ++ (neW E z op hg la tops dpt lst stry srt lin tokA wah fol par_ opn) ++ (lyW E y sett clA) ++ (lyW E v u.1 u.2) ++ (pkW E (kq 0) kn0 kz0 kl0 kp0 kk0) ++ (pkW E (kq 1) kn1 kz1 kl1 kp1 kk1) ++ (pkW E (kq 2) kn2 kz2 kl2 kp2 kk2)) ++ poW E oa ta tl ct ps sn cb tk) tQ.heap) (va_A (((iaW E ia tx z y v kq gp gd) ++ (txW E tx n (slot oa pi)) ++ (neW E z op hg la tops dpt lst stry srt lin tokA wah fol par_ opn) ++ (lyW E y sett clA) ++ (lyW E v setv clV) ++ (pkW E (kq 0) kn0 kz0 kl0 kp0 kk0) ++ (pkW E (kq 1) kn1 kz1 kl1 kp1 kk1) ++ (pkW E (kq 2) kn2 kz2 kl2 kp2 kk2)) ++ poW E oa ta tl ct ps sn cb tk) sz)) 0 0 (va_A (((iaW E ia tx z y v kq gp gd) ++ (txW E tx n (slot oa pi)) ++ (neW E z op hg la tops dpt lst stry srt lin tokA wah fol par_ opn) ++ (lyW E y sett clA) ++ (lyW E v setv clV) ++ (pkW E (kq 0) kn0 kz0 kl0 kp0 kk0) ++ (pkW E (kq 1) kn1 kz1 kl1 kp1 kk1) ++ (pkW E (kq 2) kn2 kz2 kl2 kp2 kk2)) ++ poW E oa ta tl ct ps sn cb tk) sz) := by
  refine Met.ofW (cc := cX5_layTried) (maxL := 5) (ret := none) (by decide) rfl ?_
  intro p e s m args below meth c s₁ B hml hv
  obtain ⟨rfl, hsz, hP, hK, hD0, hZ⟩ := hv
  have hx := B.exec
  have hb := B.bytes
  have hr := B.returns
  have hts := atoms_spec (ws := wsX5_layTried) B.pre
  have hown : s.vm.findClass RX5 = some m.cls := findClass_of_methodNamed B.named
  have hlocks := B.notSynchronized
  have hin5 : ∀ w ∈ u_ws RX5 TX5 7, w ∈ wsX5_layTried := mem_pl [49, 50, 51, 52, 53, 54, 55] (by rfl)
  subst hsz
  have hD := hD0.self (sz := s.heap.size)
  generalize hAe : va_A (((iaW E ia tx z y v kq gp gd) ++ (txW E tx n (slot oa pi)) ++ (neW E z op hg la tops dpt lst stry srt lin tokA wah fol par_ opn) ++ (lyW E y sett clA) ++ (lyW E v setv clV) ++ (pkW E (kq 0) kn0 kz0 kl0 kp0 kk0) ++ (pkW E (kq 1) kn1 kz1 kl1 kp1 kk1) ++ (pkW E (kq 2) kn2 kz2 kl2 kp2 kk2)) ++ poW E oa ta tl ct ps sn cb tk) s.heap.size = A at hD hZ ⊢
  have hA : ∀ q : Nat, s.heap.size ≤ q → A q := fun q h => by rw [← hAe]; exact Or.inr h
  have hS : va_S A s.heap s.heap [] := va_S.rf
  have hl := lv_entry ([.ref (ia 0), .int x0, .int x1, .int x2, .int x3]) (n := 5) (Nat.le_of_ble_eq_true rfl)
  rw [lg_entry_eq]
  generalize (lg_sl ([.ref (ia 0), .int x0, .int x1, .int x2, .int x3]) ++ List.replicate (5 - (lg_sl ([.ref (ia 0), .int x0, .int x1, .int x2, .int x3])).length) Slot.unset).toArray = ls at hl ⊢
  have hl : lv_has ls 5 [(0, .ref (ia 0)), (1, .int x0), (2, .int x1), (3, .int x2), (4, .int x3)] := hl
  refine lv_aload_n hx hb dX5_layTried_0 rfl (lv_at hl 0 rfl) ?_
  refine va_get (D := G) (ci := 5) (v := .ref (v 0)) (C := RX5) (T := TX5) (N := 7) hx hb hts hin5 hown hK hP 0 rfl rfl 3 (by decide) (hts (Cond.fieldLink RX5 30 "IndentRules" "tried" "LIndentRules$Layout;") (List.mem_of_getElem? (i := 1) rfl)) (fun _ h9 => h9) rfl dX5_layTried_1 ?_
  refine lv_iload_n hx hb dX5_layTried_4 rfl (lv_at hl 1 rfl) ?_
  refine lv_iload_n hx hb dX5_layTried_5 rfl (lv_at hl 2 rfl) ?_
  refine lv_iload_n hx hb dX5_layTried_6 rfl (lv_at hl 3 rfl) ?_
  refine lv_iload hx hb dX5_layTried_7 (lv_at hl 4 rfl) ?_
  refine we_v (n := 4) (G := G) (E := E) (As := [.int x0, .int x1, .int x2, .int x3]) (rest := []) (ci := 0) (q0 := 20) (X := (iaW E ia tx z y v kq gp gd) ++ (txW E tx n (slot oa pi)) ++ (neW E z op hg la tops dpt lst stry srt lin tokA wah fol par_ opn) ++ (lyW E y sett clA) ++ (lyW E v setv clV) ++ (pkW E (kq 0) kn0 kz0 kl0 kp0 kk0) ++ (pkW E (kq 1) kn1 kz1 kl1 kp1 kk1) ++ (pkW E (kq 2) kn2 kz2 kl2 kp2 kk2)) (pl := poW E oa ta tl ct ps sn cb tk) (cx := lyW E v setv clV) (ex := ([] : va_W)) (wn := fun (sett' : Nat → Int32) => lyW E v sett' clV) ⟨hx, hb, hml, hown, hts⟩ hK hZ hS hA (fun sz => by have z := c_X0_choose l G E v setv clV x0 x1 x2 x3 sz; simpa only [List.append_nil] using z) gX5_layTried_X0_choose rfl rfl rfl (by decide +kernel) ⟨Nat.le_of_ble_eq_true rfl, Nat.le_of_ble_eq_true rfl⟩ hP hD [20, 21, 22] rfl (by decide) (fun k => k) (fun k q h => by simp at h) (fun _ _ _ _ h => h) (fun _ => rfl) rfl rfl hl.1 rfl rfl (Nat.le_of_ble_eq_true rfl) dX5_layTried_9 ⟨Nat.zero_le _, Nat.zero_le _⟩ (fun u9 H locs p9 hP hD hS => ?_)
  generalize u9 = sett'_9 at p9 hP hD
  try dsimp only at p9 hP hD
  have hP : va_P G vwCl (((iaW E ia tx z y v kq gp gd) ++ (txW E tx n (slot oa pi)) ++ (neW E z op hg la tops dpt lst stry srt lin tokA wah fol par_ opn) ++ (lyW E y sett clA) ++ (lyW E v sett'_9 clV) ++ (pkW E (kq 0) kn0 kz0 kl0 kp0 kk0) ++ (pkW E (kq 1) kn1 kz1 kl1 kp1 kk1) ++ (pkW E (kq 2) kn2 kz2 kl2 kp2 kk2)) ++ poW E oa ta tl ct ps sn cb tk) H := hP
  have hD : va_D A (((iaW E ia tx z y v kq gp gd) ++ (txW E tx n (slot oa pi)) ++ (neW E z op hg la tops dpt lst stry srt lin tokA wah fol par_ opn) ++ (lyW E y sett clA) ++ (lyW E v sett'_9 clV) ++ (pkW E (kq 0) kn0 kz0 kl0 kp0 kk0) ++ (pkW E (kq 1) kn1 kz1 kl1 kp1 kk1) ++ (pkW E (kq 2) kn2 kz2 kl2 kp2 kk2)) ++ poW E oa ta tl ct ps sn cb tk) := hD
  refine lv_aload_n hx hb dX5_layTried_12 rfl (lv_at hl 0 rfl) ?_
  refine va_get (D := G) (ci := 5) (v := .ref (v 0)) (C := RX5) (T := TX5) (N := 7) hx hb hts hin5 hown hK hP 0 rfl rfl 3 (by decide) (hts (Cond.fieldLink RX5 30 "IndentRules" "tried" "LIndentRules$Layout;") (List.mem_of_getElem? (i := 1) rfl)) (fun _ h9 => h9) rfl dX5_layTried_13 ?_
  refine lv_aload_n hx hb dX5_layTried_16 rfl (lv_at hl 0 rfl) ?_
  refine va_get (D := G) (ci := 5) (v := .ref (tx 0)) (C := RX5) (T := TX5) (N := 7) hx hb hts hin5 hown hK hP 0 rfl rfl 0 (by decide) (hts (Cond.fieldLink RX5 12 "IndentRules" "text" "LIndentRules$Text;") (List.mem_of_getElem? (i := 2) rfl)) (fun _ h9 => h9) rfl dX5_layTried_17 ?_
  refine lv_aload_n hx hb dX5_layTried_20 rfl (lv_at hl 0 rfl) ?_
  refine va_get (D := G) (ci := 5) (v := .ref (z 0)) (C := RX5) (T := TX5) (N := 7) hx hb hts hin5 hown hK hP 0 rfl rfl 1 (by decide) (hts (Cond.fieldLink RX5 19 "IndentRules" "nesting" "LIndentRules$Nesting;") (List.mem_of_getElem? (i := 3) rfl)) (fun _ h9 => h9) rfl dX5_layTried_21 ?_
  refine we_v (n := 2) (G := G) (E := E) (As := [.ref (tx 0), .ref (z 0)]) (rest := []) (ci := 0) (q0 := 20) (X := (iaW E ia tx z y v kq gp gd) ++ (txW E tx n (slot oa pi)) ++ (neW E z op hg la tops dpt lst stry srt lin tokA wah fol par_ opn) ++ (lyW E y sett clA) ++ (lyW E v sett'_9 clV) ++ (pkW E (kq 0) kn0 kz0 kl0 kp0 kk0) ++ (pkW E (kq 1) kn1 kz1 kl1 kp1 kk1) ++ (pkW E (kq 2) kn2 kz2 kl2 kp2 kk2)) (pl := poW E oa ta tl ct ps sn cb tk) (cx := (lyW E v sett'_9 clV) ++ (neW E z op hg la tops dpt lst stry srt lin tokA wah fol par_ opn) ++ (txW E tx n (slot oa pi))) (ex := poW E oa ta tl ct ps sn cb tk) (wn := fun (clA' : Nat → Int32) => (lyW E v sett'_9 clA') ++ (neW E z op hg la tops dpt lst stry srt lin tokA wah fol par_ opn) ++ (txW E tx n (slot oa pi))) ⟨hx, hb, hml, hown, hts⟩ hK hZ hS hA (fun sz => c_X0_lay l G E v sett'_9 clV z op hg la tops dpt lst stry srt lin tokA wah fol par_ opn tx n pi oa ta tl ct ps sn cb tk rn (by first | assumption | omega) (by first | assumption | omega) (by first | assumption | omega) (by first | assumption | omega) (by first | assumption | omega) sz) gX5_layTried_X0_lay rfl rfl rfl (by decide +kernel) ⟨Nat.le_of_ble_eq_true rfl, Nat.le_of_ble_eq_true rfl⟩ hP hD [20, 21, 22, 5, 6, 7, 8, 9, 10, 11, 12, 13, 14, 15, 16, 3, 4] rfl (by decide) (fun k => k) (fun _ _ h => h) (fun _ _ _ _ h => h) (fun _ => rfl) rfl rfl hl.1 rfl rfl (Nat.le_of_ble_eq_true rfl) dX5_layTried_24 ⟨Nat.zero_le _, Nat.zero_le _⟩ (fun u24 H locs p24 hP hD hS => ?_)
  generalize u24 = clA'_24 at p24 hP hD
  try dsimp only at p24 hP hD
  have hP : va_P G vwCl (((iaW E ia tx z y v kq gp gd) ++ (txW E tx n (slot oa pi)) ++ (neW E z op hg la tops dpt lst stry srt lin tokA wah fol par_ opn) ++ (lyW E y sett clA) ++ (lyW E v sett'_9 clA'_24) ++ (pkW E (kq 0) kn0 kz0 kl0 kp0 kk0) ++ (pkW E (kq 1) kn1 kz1 kl1 kp1 kk1) ++ (pkW E (kq 2) kn2 kz2 kl2 kp2 kk2)) ++ poW E oa ta tl ct ps sn cb tk) H := hP
  have hD : va_D A (((iaW E ia tx z y v kq gp gd) ++ (txW E tx n (slot oa pi)) ++ (neW E z op hg la tops dpt lst stry srt lin tokA wah fol par_ opn) ++ (lyW E y sett clA) ++ (lyW E v sett'_9 clA'_24) ++ (pkW E (kq 0) kn0 kz0 kl0 kp0 kk0) ++ (pkW E (kq 1) kn1 kz1 kl1 kp1 kk1) ++ (pkW E (kq 2) kn2 kz2 kl2 kp2 kk2)) ++ poW E oa ta tl ct ps sn cb tk) := hD
  exact W.vret hx hb hr (fun tZ htZ hWZ => ⟨⟨(sett'_9, clA'_24), rfl, ⟨p9, fun j hj => by rw [← cols_congr p9]; exact p24 j hj⟩, by show va_P G vwCl _ tZ.heap; rw [htZ]; exact hP⟩, hS.F htZ⟩) hS.2.2 dX5_layTried_27

set_option maxHeartbeats 4000000 in
set_option maxRecDepth 100000 in
theorem c_X5_hasSeenTokens (l : Launch) (G : va_G) (E : cEnv) (ia tx z y v : Nat → Nat) (kq : Nat → Nat → Nat) (gp : Int32) (gd : Nat → Int32) (n : Nat) (pi : Nat → Nat) (op hg la : Nat) (tops dpt lst stry srt lin tokA wah fol par_ opn : Nat → Int32) (sett clA setv clV : Nat → Int32) (kn0 kz0 kn1 kz1 kn2 kz2 : Nat) (kl0 kp0 kk0 kl1 kp1 kk1 kl2 kp2 kk2 : Nat → Int32) (oa ta : Nat → Nat) (tl ct ps : Nat → Nat) (sn cb : Nat → Int32) (tk : Nat → Nat → Int32) (ab : ABS) (hab : ClsOk ab n op pi tl ct ps sn tk tops dpt lst stry srt lin tokA wah fol par_ opn sett clA kn0 kz0 kn1 kz1 kn2 kz2 kl0 kp0 kk0 kl1 kp1 kk1 kl2 kp2 kk2) : Met l yX5_hasSeenTokens wsX5_hasSeenTokens ({ frames := 1, cells := 0, slots := 0, locals := 20 }) (va_Pc [.ref (ia 0)] (PR G E (((iaW E ia tx z y v kq gp gd) ++ (txW E tx n (slot oa pi)) ++ (neW E z op hg la tops dpt lst stry srt lin tokA wah fol par_ opn) ++ (lyW E y sett clA) ++ (lyW E v setv clV) ++ (pkW E (kq 0) kn0 kz0 kl0 kp0 kk0) ++ (pkW E (kq 1) kn1 kz1 kl1 kp1 kk1) ++ (pkW E (kq 2) kn2 kz2 kl2 kp2 kk2)) ++ poW E oa ta tl ct ps sn cb tk))) (vp_Si (fun r => (anyS ab (aN ab) = true ∧ r = nI 1) ∨ (¬ anyS ab (aN ab) = true ∧ r = nI 0))) 0 0 (fun _ => False) := by
  refine Met.ofW (cc := cX5_hasSeenTokens) (maxL := 2) (ret := (some .boolean)) (by decide) rfl ?_
  intro p e s m args below meth c s₁ B hml hv
  obtain ⟨rfl, hP, hK, hZ⟩ := hv
  have hx := B.exec
  have hb := B.bytes
  have hr := B.returns
  have hts := atoms_spec (ws := wsX5_hasSeenTokens) B.pre
  have hown : s.vm.findClass RX5 = some m.cls := findClass_of_methodNamed B.named
  have hlocks := B.notSynchronized
  have hin4 : ∀ w ∈ u_ws RX4 TX4 2, w ∈ wsX5_hasSeenTokens := mem_pl [18, 19] (by rfl)
  have hin5 : ∀ w ∈ u_ws RX5 TX5 7, w ∈ wsX5_hasSeenTokens := mem_pl [11, 12, 13, 14, 15, 16, 17] (by rfl)
  have hS : va_S (fun _ => False) s.heap s.heap [] := va_S.rf
  have hl := lv_entry ([.ref (ia 0)]) (n := 2) (Nat.le_of_ble_eq_true rfl)
  rw [lg_entry_eq]
  generalize (lg_sl ([.ref (ia 0)]) ++ List.replicate (2 - (lg_sl ([.ref (ia 0)])).length) Slot.unset).toArray = ls at hl ⊢
  have hl : lv_has ls 2 [(0, .ref (ia 0))] := hl
  obtain ⟨hN, hok, hop, hPL, hSN, hpp, hCN, hsg, hcl, hk0, hk1, hk2⟩ := id hab
  have hn : n ≤ 20 := by rw [hN]; exact hok.1
  have hrn : ∀ j, j < n → aR ab j < 1000000000 := fun j hj => (hok.2.1 j (by omega)).1
  have hpi : ∀ i, i < 20 → pi i < 20 := fun i hi => (hpp i hi).1
  have hwN := wfN_all (row := aR ab) (aN ab) (fun j hj => hrn j (by omega))
  have hob : nO (aNest ab) ≤ 180 := Nat.le_trans hwN.2.1 (by omega)
  have hCn : CN (nAll (aR ab) n) n tops dpt lst stry srt lin tokA wah fol par_ opn := by rw [hN] at hCN ⊢; exact hCN
  have hLN : LN (nF (aNest ab)) (nO (aNest ab)) srt lin wah fol := hCN.ln (by omega) (fun j hj => hrn j (by omega))
  refine lv_iconst (v := (nI 0)) hx hb dX5_hasSeenTokens_0 (by decide) ?_
  refine lv_istore_n (lv' := [(1, .int (nI 0)), (0, .ref (ia 0))]) hx hb dX5_hasSeenTokens_1 rfl hl (by decide) rfl (fun ls hl => ?_)
  have lp2 : ∀ (kk : Nat) (i : Nat), (i ≤ n) → (anyS ab i = false) → n - i < kk → ∀ ls : Array Slot, lv_has ls 2 [(1, .int (nI i)), (0, .ref (ia 0))] → W p l e (headSpec wsX5_hasSeenTokens ({ frames := 1, cells := 0, slots := 0, locals := 20 } : Room)).room s m ([.ref (ia 0)] : List Value).toArray below meth c s.heap [] 0 0 (MQ below (vp_Si (fun r => (anyS ab (aN ab) = true ∧ r = nI 1) ∨ (¬ anyS ab (aN ab) = true ∧ r = nI 0))) ([.ref (ia 0)] : List Value).toArray s 0 0 (fun _ => False)) (F0 m 2 ls []) := by
    intro kk
    induction kk with
    | zero => intro i  hi hno hkk; exact absurd hkk (Nat.not_lt_zero _)
    | succ kk ih2 =>
      intro i hi hno hkk ls hl
      refine lv_iload_n hx hb dX5_hasSeenTokens_2 rfl (lv_at hl 0 rfl) ?_
      refine lv_aload_n hx hb dX5_hasSeenTokens_3 rfl (lv_at hl 1 rfl) ?_
      refine va_get (D := G) (ci := 5) (v := .ref (tx 0)) (C := RX5) (T := TX5) (N := 7) hx hb hts hin5 hown hK hP 0 rfl rfl 0 (by decide) (hts (Cond.fieldLink RX5 12 "IndentRules" "text" "LIndentRules$Text;") (List.mem_of_getElem? (i := 1) rfl)) (fun _ h9 => h9) rfl dX5_hasSeenTokens_4 ?_
      refine va_get (D := G) (ci := 4) (v := .int (nI n)) (C := RX4) (T := TX4) (N := 2) hx hb hts hin4 hown hK hP 3 rfl rfl 1 (by decide) (hts (Cond.fieldLink RX5 48 "IndentRules$Text" "size" "I") (List.mem_of_getElem? (i := 2) rfl)) (fun _ h9 => h9) rfl dX5_hasSeenTokens_7 ?_
      refine n_icmp_ge (a := i) (b := n) (tgt := 36) hx hb (by omega) (by omega) dX5_hasSeenTokens_10 (by decide) (fun c10 => ?_) (fun c10 => ?_)
      · refine lv_iconst (v := (nI 0)) hx hb dX5_hasSeenTokens_36 (by decide) ?_
        exact W.zret (v := (nI 0)) hx hb hr (by first | rfl | decide | assumption) (fun tZ htZ hWZ => ⟨_, rfl, Or.inr ⟨fun q => by rw [← hN, show n = i by omega, hno] at q; exact Bool.noConfusion q, rfl⟩, htZ⟩) (fun _ h => by cases h) dX5_hasSeenTokens_37
      · refine lv_aload_n hx hb dX5_hasSeenTokens_13 rfl (lv_at hl 1 rfl) ?_
        refine va_get (D := G) (ci := 5) (v := .ref (tx 0)) (C := RX5) (T := TX5) (N := 7) hx hb hts hin5 hown hK hP 0 rfl rfl 0 (by decide) (hts (Cond.fieldLink RX5 12 "IndentRules" "text" "LIndentRules$Text;") (List.mem_of_getElem? (i := 1) rfl)) (fun _ h9 => h9) rfl dX5_hasSeenTokens_14 ?_
        refine va_get (D := G) (ci := 4) (v := .ref (tx 1)) (C := RX4) (T := TX4) (N := 2) hx hb hts hin4 hown hK hP 3 rfl rfl 0 (by decide) (hts (Cond.fieldLink RX5 73 "IndentRules$Text" "lines" "[LIndentRules$Line;") (List.mem_of_getElem? (i := 3) rfl)) (fun _ h9 => h9) rfl dX5_hasSeenTokens_17 ?_
        refine lv_iload_n hx hb dX5_hasSeenTokens_20 rfl (lv_at hl 0 rfl) ?_
        refine k_aald (D := G) (tys := TYS E) (j := i) (f := (slot oa pi)) (n := 20) hx hb hK hP 4 2 rfl rfl (by omega) (by decide) dX5_hasSeenTokens_21 ?_
        refine W.eq (g2 := F0 m 22 ls [.ref (oa (pi i))]) rfl ?_
        refine rv_i (n := 0) (G := G) (E := E) (As := []) (rest := []) (ci := 1) (q0 := 0) ⟨hx, hb, hml, hown, hts⟩ hK hZ hS (c_X1_counts l G E (oa (pi i)) (ta (pi i)) (tl (pi i)) (ct (pi i)) (ps (pi i)) (sn (pi i)) (cb (pi i)) (tk (pi i)) (by rw [(hPL i (by omega)).2.2.1]; have := (len_lt 9 (aR ab i)).mp (hrn i (by omega)); omega)) gX5_hasSeenTokens_X1_counts rfl rfl rfl (by decide +kernel) ⟨Nat.le_of_ble_eq_true rfl, Nat.le_of_ble_eq_true rfl⟩ (po_P2 hP (hpi i (by omega))) rfl rfl hl.1 rfl rfl (Nat.le_of_ble_eq_true rfl) dX5_hasSeenTokens_22 ⟨Nat.zero_le _, Nat.zero_le _⟩ (fun r22 p22 => ?_)
        rcases p22 with ⟨h22, rfl⟩ | ⟨h22, rfl⟩
        · have hcn : cnt ab i := by rw [hSN i (by omega), (hPL i (by omega)).2.2.1] at h22; exact cnt_iff.mp h22
          refine n_if_eq (a := 1) (tgt := 30) hx hb (by decide) dX5_hasSeenTokens_25 (by decide) (fun c25 => absurd c25 (by decide)) (fun c25 => ?_)
          refine lv_iconst (v := (nI 1)) hx hb dX5_hasSeenTokens_28 (by decide) ?_
          exact W.zret (v := (nI 1)) hx hb hr (by first | rfl | decide | assumption) (fun tZ htZ hWZ => ⟨_, rfl, Or.inl ⟨anyS_of hcn (by omega), rfl⟩, htZ⟩) (fun _ h => by cases h) dX5_hasSeenTokens_29
        · have hcn : ¬ cnt ab i := by rw [hSN i (by omega), (hPL i (by omega)).2.2.1] at h22; exact fun z => h22 (cnt_iff.mpr z)
          refine n_if_eq (a := 0) (tgt := 30) hx hb (by decide) dX5_hasSeenTokens_25 (by decide) (fun c25 => ?_) (fun c25 => absurd c25 (by decide))
          refine lv_iinc (v := (nI (i + 1))) (lv' := [(1, .int (nI (i + 1))), (0, .ref (ia 0))]) hx hb dX5_hasSeenTokens_30 hl (k := 0) rfl (k_inc i) (by decide) rfl (fun ls hl => ?_)
          refine lv_goto (tgt := 2) hx hb dX5_hasSeenTokens_33 (by decide) ?_
          exact ih2 (i + 1) (by omega) (by show (anyS ab i || decide (cnt ab i)) = false; rw [hno]; simp [hcn]) (by omega) ls (lv_sub hl [0, 1] rfl)
  exact lp2 (n - 0 + 1) 0 (Nat.zero_le _) rfl (Nat.lt_succ_self _) ls (lv_sub hl [0, 1] rfl)

set_option maxHeartbeats 4000000 in
set_option maxRecDepth 100000 in
theorem c_X5_partsOfTried (l : Launch) (G : va_G) (E : cEnv) (ia tx z y v : Nat → Nat) (kq : Nat → Nat → Nat) (gp : Int32) (gd : Nat → Int32) (n : Nat) (pi : Nat → Nat) (op hg la : Nat) (tops dpt lst stry srt lin tokA wah fol par_ opn : Nat → Int32) (sett clA setv clV : Nat → Int32) (kn0 kz0 kn1 kz1 kn2 kz2 : Nat) (kl0 kp0 kk0 kl1 kp1 kk1 kl2 kp2 kk2 : Nat → Int32) (oa ta : Nat → Nat) (tl ct ps : Nat → Nat) (sn cb : Nat → Int32) (tk : Nat → Nat → Int32) (C : Nat → Int32) (hC : ∀ j, j < n → clV j = C j) (ab : ABS) (hab : ClsOk ab n op pi tl ct ps sn tk tops dpt lst stry srt lin tokA wah fol par_ opn sett clA kn0 kz0 kn1 kz1 kn2 kz2 kl0 kp0 kk0 kl1 kp1 kk1 kl2 kp2 kk2) : Met l yX5_partsOfTried wsX5_partsOfTried ({ frames := 2, cells := 0, slots := 0, locals := 43 }) (va_Pc [.ref (ia 0)] (PR G E (((iaW E ia tx z y v kq gp gd) ++ (txW E tx n (slot oa pi)) ++ (neW E z op hg la tops dpt lst stry srt lin tokA wah fol par_ opn) ++ (lyW E y sett clA) ++ (lyW E v setv clV) ++ (pkW E (kq 0) kn0 kz0 kl0 kp0 kk0) ++ (pkW E (kq 1) kn1 kz1 kl1 kp1 kk1) ++ (pkW E (kq 2) kn2 kz2 kl2 kp2 kk2)) ++ poW E oa ta tl ct ps sn cb tk))) (vp_Si (fun r => r = nI (scr ab C (aN ab)))) 0 0 (fun _ => False) := by
  refine Met.ofW (cc := cX5_partsOfTried) (maxL := 3) (ret := (some .int)) (by decide) rfl ?_
  intro p e s m args below meth c s₁ B hml hv
  obtain ⟨rfl, hP, hK, hZ⟩ := hv
  have hx := B.exec
  have hb := B.bytes
  have hr := B.returns
  have hts := atoms_spec (ws := wsX5_partsOfTried) B.pre
  have hown : s.vm.findClass RX5 = some m.cls := findClass_of_methodNamed B.named
  have hlocks := B.notSynchronized
  have hin2 : ∀ w ∈ u_ws RX2 TX2 14, w ∈ wsX5_partsOfTried := mem_pl [34, 35, 36, 37, 38, 39, 40, 41, 42, 43, 44, 45, 46, 47] (by rfl)
  have hin4 : ∀ w ∈ u_ws RX4 TX4 2, w ∈ wsX5_partsOfTried := mem_pl [32, 33] (by rfl)
  have hin5 : ∀ w ∈ u_ws RX5 TX5 7, w ∈ wsX5_partsOfTried := mem_pl [25, 26, 27, 28, 29, 30, 31] (by rfl)
  have hS : va_S (fun _ => False) s.heap s.heap [] := va_S.rf
  have hl := lv_entry ([.ref (ia 0)]) (n := 3) (Nat.le_of_ble_eq_true rfl)
  rw [lg_entry_eq]
  generalize (lg_sl ([.ref (ia 0)]) ++ List.replicate (3 - (lg_sl ([.ref (ia 0)])).length) Slot.unset).toArray = ls at hl ⊢
  have hl : lv_has ls 3 [(0, .ref (ia 0))] := hl
  obtain ⟨hN, hok, hop, hPL, hSN, hpp, hCN, hsg, hcl, hk0, hk1, hk2⟩ := id hab
  have hn : n ≤ 20 := by rw [hN]; exact hok.1
  have hrn : ∀ j, j < n → aR ab j < 1000000000 := fun j hj => (hok.2.1 j (by omega)).1
  have hpi : ∀ i, i < 20 → pi i < 20 := fun i hi => (hpp i hi).1
  have hwN := wfN_all (row := aR ab) (aN ab) (fun j hj => hrn j (by omega))
  have hob : nO (aNest ab) ≤ 180 := Nat.le_trans hwN.2.1 (by omega)
  have hCn : CN (nAll (aR ab) n) n tops dpt lst stry srt lin tokA wah fol par_ opn := by rw [hN] at hCN ⊢; exact hCN
  have hLN : LN (nF (aNest ab)) (nO (aNest ab)) srt lin wah fol := hCN.ln (by omega) (fun j hj => hrn j (by omega))
  refine lv_iconst (v := (nI 0)) hx hb dX5_partsOfTried_0 (by decide) ?_
  refine lv_istore_n (lv' := [(1, .int (nI 0)), (0, .ref (ia 0))]) hx hb dX5_partsOfTried_1 rfl hl (by decide) rfl (fun ls hl => ?_)
  refine lv_iconst (v := (nI 0)) hx hb dX5_partsOfTried_2 (by decide) ?_
  refine lv_istore_n (lv' := [(2, .int (nI 0)), (1, .int (nI 0)), (0, .ref (ia 0))]) hx hb dX5_partsOfTried_3 rfl hl (by decide) rfl (fun ls hl => ?_)
  have lp4 : ∀ (kk : Nat) (nn : Nat) (i : Nat), (i ≤ n) → (nn = scr ab C i) → n - i < kk → ∀ ls : Array Slot, lv_has ls 3 [(2, .int (nI i)), (1, .int (nI nn)), (0, .ref (ia 0))] → W p l e (headSpec wsX5_partsOfTried ({ frames := 2, cells := 0, slots := 0, locals := 43 } : Room)).room s m ([.ref (ia 0)] : List Value).toArray below meth c s.heap [] 0 0 (MQ below (vp_Si (fun r => r = nI (scr ab C (aN ab)))) ([.ref (ia 0)] : List Value).toArray s 0 0 (fun _ => False)) (F0 m 4 ls []) := by
    intro kk
    induction kk with
    | zero => intro nn i  hi hnn hkk; exact absurd hkk (Nat.not_lt_zero _)
    | succ kk ih4 =>
      intro nn i hi hnn hkk ls hl
      refine lv_iload_n hx hb dX5_partsOfTried_4 rfl (lv_at hl 0 rfl) ?_
      refine lv_aload_n hx hb dX5_partsOfTried_5 rfl (lv_at hl 2 rfl) ?_
      refine va_get (D := G) (ci := 5) (v := .ref (tx 0)) (C := RX5) (T := TX5) (N := 7) hx hb hts hin5 hown hK hP 0 rfl rfl 0 (by decide) (hts (Cond.fieldLink RX5 12 "IndentRules" "text" "LIndentRules$Text;") (List.mem_of_getElem? (i := 1) rfl)) (fun _ h9 => h9) rfl dX5_partsOfTried_6 ?_
      refine va_get (D := G) (ci := 4) (v := .int (nI n)) (C := RX4) (T := TX4) (N := 2) hx hb hts hin4 hown hK hP 3 rfl rfl 1 (by decide) (hts (Cond.fieldLink RX5 48 "IndentRules$Text" "size" "I") (List.mem_of_getElem? (i := 2) rfl)) (fun _ h9 => h9) rfl dX5_partsOfTried_9 ?_
      refine n_icmp_ge (a := i) (b := n) (tgt := 54) hx hb (by omega) (by omega) dX5_partsOfTried_12 (by decide) (fun c12 => ?_) (fun c12 => ?_)
      · refine lv_iload_n hx hb dX5_partsOfTried_54 rfl (lv_at hl 1 rfl) ?_
        exact W.iret (v := (nI nn)) hx hb hr (fun tZ htZ hWZ => ⟨_, rfl, by rw [hnn, show i = aN ab by omega], htZ⟩) (fun _ h => by cases h) dX5_partsOfTried_55
      · refine lv_aload_n hx hb dX5_partsOfTried_15 rfl (lv_at hl 2 rfl) ?_
        refine lv_aload_n hx hb dX5_partsOfTried_16 rfl (lv_at hl 2 rfl) ?_
        refine va_get (D := G) (ci := 5) (v := .ref (v 0)) (C := RX5) (T := TX5) (N := 7) hx hb hts hin5 hown hK hP 0 rfl rfl 3 (by decide) (hts (Cond.fieldLink RX5 30 "IndentRules" "tried" "LIndentRules$Layout;") (List.mem_of_getElem? (i := 3) rfl)) (fun _ h9 => h9) rfl dX5_partsOfTried_17 ?_
        refine lv_iload_n hx hb dX5_partsOfTried_20 rfl (lv_at hl 0 rfl) ?_
        refine rv_i (n := 2) (G := G) (E := E) (As := [.ref (v 0), .int (nI i)]) (rest := []) (ci := 5) (q0 := 0) ⟨hx, hb, hml, hown, hts⟩ hK hZ hS (c_X5_isAsSeen l G E ia tx z y v gp n pi v setv clV oa ta tl ct ps sn cb tk i (aR ab) (aS ab) (by first | assumption | omega) (by first | assumption | omega) (by first | assumption | omega) (by first | assumption | omega) (by first | assumption | omega)) gX5_partsOfTried_X5_isAsSeen rfl rfl rfl (by decide +kernel) ⟨Nat.le_of_ble_eq_true rfl, Nat.le_of_ble_eq_true rfl⟩ (hP.part (cx := ([(ia 0, .inr (5, [.ref (tx 0), .ref (z 0), .ref (y 0), .ref (v 0), .ref (ia 5), .int gp, .ref (ia 7)])), (tx 0, .inr (4, [.ref (tx 1), .int (nI n)])), (tx 1, .inl (E.2.2.1, 20, .inr (.inr (.inr (.inr (fun k => some ((slot oa pi) k))))))), (v 0, .inr (0, [.ref (v 1), .ref (v 2)])), (v 1, .inl (E.1, 4, .inl setv)), (v 2, .inl (E.1, 20, .inl clV))])) [0, 3, 4, 20, 21, 22] rfl) rfl rfl hl.1 rfl rfl (Nat.le_of_ble_eq_true rfl) dX5_partsOfTried_21 ⟨Nat.zero_le _, Nat.zero_le _⟩ (fun r21 p21 => ?_)
        rcases p21 with ⟨h21, rfl⟩ | ⟨h21, rfl⟩
        · refine n_if_eq (a := 1) (tgt := 48) hx hb (by decide) dX5_partsOfTried_24 (by decide) (fun c24 => absurd c24 (by decide)) (fun c24 => ?_)
          refine lv_iload_n hx hb dX5_partsOfTried_27 rfl (lv_at hl 1 rfl) ?_
          refine lv_sipush (v := (nI 4096)) hx hb dX5_partsOfTried_28 (by decide) ?_
          refine lv_aload_n hx hb dX5_partsOfTried_31 rfl (lv_at hl 2 rfl) ?_
          refine va_get (D := G) (ci := 5) (v := .ref (z 0)) (C := RX5) (T := TX5) (N := 7) hx hb hts hin5 hown hK hP 0 rfl rfl 1 (by decide) (hts (Cond.fieldLink RX5 19 "IndentRules" "nesting" "LIndentRules$Nesting;") (List.mem_of_getElem? (i := 4) rfl)) (fun _ h9 => h9) rfl dX5_partsOfTried_32 ?_
          refine va_get (D := G) (ci := 2) (v := .ref (z 2)) (C := RX2) (T := TX2) (N := 14) hx hb hts hin2 hown hK hP 5 rfl rfl 1 (by decide) (hts (Cond.fieldLink RX5 109 "IndentRules$Nesting" "depths" "[I") (List.mem_of_getElem? (i := 5) rfl)) (fun _ h9 => h9) rfl dX5_partsOfTried_35 ?_
          refine lv_iload_n hx hb dX5_partsOfTried_38 rfl (lv_at hl 0 rfl) ?_
          refine k_iald (D := G) (tys := TYS E) (j := i) (f := dpt) (n := 20) hx hb hK hP 7 0 rfl rfl (by omega) (by decide) dX5_partsOfTried_39 ?_
          rw [(hCN.2.1 i (by omega)).2.1]
          refine lv_bipush (v := (nI 12)) hx hb dX5_partsOfTried_40 (by decide) ?_
          refine va_mmin hx hb (hml.trans hl.1.symm) hown (hts (Cond.methodLink RX5 223 Lib.Math.min.name) (List.mem_of_getElem? (i := 6) rfl)) (hts (Cond.static Lib.Math.min.name) (List.mem_of_getElem? (i := 7) rfl)) (hts (Cond.initialized "java/lang/Math") (List.mem_of_getElem? (i := 8) rfl)) (hts (Cond.code Lib.Math.min.name Lib.Math.min.code 2 (some .int)) (List.mem_of_getElem? (i := 9) rfl)) (Nat.le_of_ble_eq_true rfl) (Nat.le_of_ble_eq_true rfl) (Nat.zero_le _) (Nat.zero_le _) dX5_partsOfTried_42 ?_
          rw [show (if (nI 12) < (nI (nF (aNest ab) 9 i)) then (nI 12) else (nI (nF (aNest ab) 9 i))) = (nI (min (nF (aNest ab) 9 i) 12)) from pt_min (by have q : nF (aNest ab) 9 i ≤ 9 * i := depth_le (aR ab) (n := aN ab) (j := i) (by omega) (fun j hj => hrn j (by omega)); omega)]
          refine lv_ishr hx hb dX5_partsOfTried_45 ?_
          rw [show (nI 4096) >>> ((nI (min (nF (aNest ab) 9 i) 12)) &&& 31) = (nI (2 ^ (12 - min (nF (aNest ab) 9 i) 12))) from pt_shr _]
          refine k_iadd (a := nn) (b := (2 ^ (12 - min (nF (aNest ab) 9 i) 12))) hx hb dX5_partsOfTried_46 ?_
          refine lv_istore_n (lv' := [(1, .int (nI (nn + (2 ^ (12 - min (nF (aNest ab) 9 i) 12))))), (2, .int (nI i)), (0, .ref (ia 0))]) hx hb dX5_partsOfTried_47 rfl hl (by decide) rfl (fun ls hl => ?_)
          refine lv_iinc (v := (nI (i + 1))) (lv' := [(2, .int (nI (i + 1))), (1, .int (nI (nn + (2 ^ (12 - min (nF (aNest ab) 9 i) 12))))), (0, .ref (ia 0))]) hx hb dX5_partsOfTried_48 hl (k := 1) rfl (k_inc i) (by decide) rfl (fun ls hl => ?_)
          refine lv_goto (tgt := 4) hx hb dX5_partsOfTried_51 (by decide) ?_
          exact ih4 (nn + (2 ^ (12 - min (nF (aNest ab) 9 i) 12))) (i + 1) (by omega) (by rw [hnn]; show _ = scr ab C i + _; rw [if_pos ⟨h21.1, by rw [← hC i (by omega)]; exact h21.2⟩]) (by omega) ls (lv_sub hl [0, 1, 2] rfl)
        · refine n_if_eq (a := 0) (tgt := 48) hx hb (by decide) dX5_partsOfTried_24 (by decide) (fun c24 => ?_) (fun c24 => absurd c24 (by decide))
          refine lv_iinc (v := (nI (i + 1))) (lv' := [(2, .int (nI (i + 1))), (1, .int (nI nn)), (0, .ref (ia 0))]) hx hb dX5_partsOfTried_48 hl (k := 0) rfl (k_inc i) (by decide) rfl (fun ls hl => ?_)
          refine lv_goto (tgt := 4) hx hb dX5_partsOfTried_51 (by decide) ?_
          exact ih4 nn (i + 1) (by omega) (by rw [hnn]; show _ = scr ab C i + _; rw [if_neg (fun q => h21 ⟨q.1, by rw [hC i (by omega)]; exact q.2⟩), Nat.add_zero]) (by omega) ls (lv_sub hl [0, 1, 2] rfl)
  exact lp4 (n - 0 + 1) 0 0 (Nat.zero_le _) rfl (Nat.lt_succ_self _) ls (lv_sub hl [0, 1, 2] rfl)

set_option maxHeartbeats 4000000 in
set_option maxRecDepth 100000 in
theorem c_X5_keepIfBetter (l : Launch) (G : va_G) (E : cEnv) (ia tx z y v : Nat → Nat) (kq : Nat → Nat → Nat) (gp : Int32) (gd : Nat → Int32) (n : Nat) (pi : Nat → Nat) (op hg la : Nat) (tops dpt lst stry srt lin tokA wah fol par_ opn : Nat → Int32) (sett clA setv clV : Nat → Int32) (kn0 kz0 kn1 kz1 kn2 kz2 : Nat) (kl0 kp0 kk0 kl1 kp1 kk1 kl2 kp2 kk2 : Nat → Int32) (oa ta : Nat → Nat) (tl ct ps : Nat → Nat) (sn cb : Nat → Int32) (tk : Nat → Nat → Int32) (C : Nat → Int32) (bb : Nat) (hC : ∀ j, j < n → clV j = C j) (hgp : gp = gv bb) (hbb : bb < 2 ^ 30) (ab : ABS) (hab : ClsOk ab n op pi tl ct ps sn tk tops dpt lst stry srt lin tokA wah fol par_ opn sett clA kn0 kz0 kn1 kz1 kn2 kz2 kl0 kp0 kk0 kl1 kp1 kk1 kl2 kp2 kk2) (sz : Nat) : Met l yX5_keepIfBetter wsX5_keepIfBetter ({ frames := 3, cells := 0, slots := 0, locals := 65 }) (va_Pc [.ref (ia 0)] (PW G E (((iaW E ia tx z y v kq gp gd) ++ (txW E tx n (slot oa pi)) ++ (neW E z op hg la tops dpt lst stry srt lin tokA wah fol par_ opn) ++ (lyW E y sett clA) ++ (lyW E v setv clV) ++ (pkW E (kq 0) kn0 kz0 kl0 kp0 kk0) ++ (pkW E (kq 1) kn1 kz1 kl1 kp1 kk1) ++ (pkW E (kq 2) kn2 kz2 kl2 kp2 kk2)) ++ poW E oa ta tl ct ps sn cb tk) sz)) (va_Qv (fun (u : (Int32) × (Nat → Int32)) => (bb < scr ab C (aN ab) + 1 → u.1 = gv (scr ab C (aN ab) + 1) ∧ ∀ k, k < 4 → u.2 k = setv k) ∧ (¬ bb < scr ab C (aN ab) + 1 → u.1 = gp ∧ u.2 = gd)) (fun (u : (Int32) × (Nat → Int32)) tQ => va_P G vwCl (((iaW E ia tx z y v kq u.1 u.2) ++ (txW E tx n (slot oa pi)) ++ (neW E z op hg la tops dpt lst stry srt lin tokA wah fol par_ opn) ++ (lyW E y sett clA) ++ (lyW E v setv clV) ++ (pkW E (kq 0) kn0 kz0 kl0 kp0 kk0) ++ (pkW E (kq 1) kn1 kz1 kl1 kp1 kk1) ++ (pkW E (kq 2) kn2 kz2 kl2 kp2 kk2)) ++ poW E oa ta tl ct ps sn cb tk) tQ.heap) (va_A (((iaW E ia tx z y v kq gp gd) ++ (txW E tx n (slot oa pi)) ++ (neW E z op hg la tops dpt lst stry srt lin tokA wah fol par_ opn) ++ (lyW E y sett clA) ++ (lyW E v setv clV) ++ (pkW E (kq 0) kn0 kz0 kl0 kp0 kk0) ++ (pkW E (kq 1) kn1 kz1 kl1 kp1 kk1) ++ (pkW E (kq 2) kn2 kz2 kl2 kp2 kk2)) ++ poW E oa ta tl ct ps sn cb tk) sz)) 0 0 (va_A (((iaW E ia tx z y v kq gp gd) ++ (txW E tx n (slot oa pi)) ++ (neW E z op hg la tops dpt lst stry srt lin tokA wah fol par_ opn) ++ (lyW E y sett clA) ++ (lyW E v setv clV) ++ (pkW E (kq 0) kn0 kz0 kl0 kp0 kk0) ++ (pkW E (kq 1) kn1 kz1 kl1 kp1 kk1) ++ (pkW E (kq 2) kn2 kz2 kl2 kp2 kk2)) ++ poW E oa ta tl ct ps sn cb tk) sz) := by
  refine Met.ofW (cc := cX5_keepIfBetter) (maxL := 3) (ret := none) (by decide) rfl ?_
  intro p e s m args below meth c s₁ B hml hv
  obtain ⟨rfl, hsz, hP, hK, hD0, hZ⟩ := hv
  have hx := B.exec
  have hb := B.bytes
  have hr := B.returns
  have hts := atoms_spec (ws := wsX5_keepIfBetter) B.pre
  have hown : s.vm.findClass RX5 = some m.cls := findClass_of_methodNamed B.named
  have hlocks := B.notSynchronized
  have hin0 : ∀ w ∈ u_ws RX0 TX0 2, w ∈ wsX5_keepIfBetter := mem_pl [39, 40] (by rfl)
  have hin5 : ∀ w ∈ u_ws RX5 TX5 7, w ∈ wsX5_keepIfBetter := mem_pl [32, 33, 34, 35, 36, 37, 38] (by rfl)
  subst hsz
  have hD := hD0.self (sz := s.heap.size)
  generalize hAe : va_A (((iaW E ia tx z y v kq gp gd) ++ (txW E tx n (slot oa pi)) ++ (neW E z op hg la tops dpt lst stry srt lin tokA wah fol par_ opn) ++ (lyW E y sett clA) ++ (lyW E v setv clV) ++ (pkW E (kq 0) kn0 kz0 kl0 kp0 kk0) ++ (pkW E (kq 1) kn1 kz1 kl1 kp1 kk1) ++ (pkW E (kq 2) kn2 kz2 kl2 kp2 kk2)) ++ poW E oa ta tl ct ps sn cb tk) s.heap.size = A at hD hZ ⊢
  have hA : ∀ q : Nat, s.heap.size ≤ q → A q := fun q h => by rw [← hAe]; exact Or.inr h
  have hS : va_S A s.heap s.heap [] := va_S.rf
  have hl := lv_entry ([.ref (ia 0)]) (n := 3) (Nat.le_of_ble_eq_true rfl)
  rw [lg_entry_eq]
  generalize (lg_sl ([.ref (ia 0)]) ++ List.replicate (3 - (lg_sl ([.ref (ia 0)])).length) Slot.unset).toArray = ls at hl ⊢
  have hl : lv_has ls 3 [(0, .ref (ia 0))] := hl
  obtain ⟨hN, hok, hop, hPL, hSN, hpp, hCN, hsg, hcl, hk0, hk1, hk2⟩ := id hab
  have hn : n ≤ 20 := by rw [hN]; exact hok.1
  have hrn : ∀ j, j < n → aR ab j < 1000000000 := fun j hj => (hok.2.1 j (by omega)).1
  have hpi : ∀ i, i < 20 → pi i < 20 := fun i hi => (hpp i hi).1
  have hwN := wfN_all (row := aR ab) (aN ab) (fun j hj => hrn j (by omega))
  have hob : nO (aNest ab) ≤ 180 := Nat.le_trans hwN.2.1 (by omega)
  have hCn : CN (nAll (aR ab) n) n tops dpt lst stry srt lin tokA wah fol par_ opn := by rw [hN] at hCN ⊢; exact hCN
  have hLN : LN (nF (aNest ab)) (nO (aNest ab)) srt lin wah fol := hCN.ln (by omega) (fun j hj => hrn j (by omega))
  refine lv_aload_n hx hb dX5_keepIfBetter_0 rfl (lv_at hl 0 rfl) ?_
  refine rv_i (n := 0) (G := G) (E := E) (As := []) (rest := []) (ci := 5) (q0 := 0) ⟨hx, hb, hml, hown, hts⟩ hK hZ hS (c_X5_partsOfTried l G E ia tx z y v kq gp gd n pi op hg la tops dpt lst stry srt lin tokA wah fol par_ opn sett clA setv clV kn0 kz0 kn1 kz1 kn2 kz2 kl0 kp0 kk0 kl1 kp1 kk1 kl2 kp2 kk2 oa ta tl ct ps sn cb tk C (by first | assumption | omega) ab (by first | assumption | omega)) gX5_keepIfBetter_X5_partsOfTried rfl rfl rfl (by decide +kernel) ⟨Nat.le_of_ble_eq_true rfl, Nat.le_of_ble_eq_true rfl⟩ hP rfl rfl hl.1 rfl rfl (Nat.le_of_ble_eq_true rfl) dX5_keepIfBetter_1 ⟨Nat.zero_le _, Nat.zero_le _⟩ (fun r1 p1 => ?_)
  subst p1
  refine lv_istore_n (lv' := [(1, .int (nI (scr ab C (aN ab)))), (0, .ref (ia 0))]) hx hb dX5_keepIfBetter_4 rfl hl (by decide) rfl (fun ls hl => ?_)
  refine lv_iload_n hx hb dX5_keepIfBetter_5 rfl (lv_at hl 0 rfl) ?_
  refine lv_aload_n hx hb dX5_keepIfBetter_6 rfl (lv_at hl 1 rfl) ?_
  refine va_get (D := G) (ci := 5) (v := .int gp) (C := RX5) (T := TX5) (N := 7) hx hb hts hin5 hown hK hP 0 rfl rfl 5 (by decide) (hts (Cond.fieldLink RX5 168 "IndentRules" "guessedParts" "I") (List.mem_of_getElem? (i := 1) rfl)) (fun _ h9 => h9) rfl dX5_keepIfBetter_7 ?_
  refine lv_icmp_le (x := (nI (scr ab C (aN ab)))) (y := gp) (tgt := 46) hx hb dX5_keepIfBetter_10 (by decide) (fun c10 => ?_) (fun c10 => ?_)
  · have cb1 : ¬ bb < scr ab C (aN ab) + 1 := by rw [hgp] at c10; exact (gv_le (by have q := scr_le ab C (aN ab); have := hok.1; omega) hbb).mp c10
    exact W.vret hx hb hr (fun tZ htZ hWZ => ⟨⟨(gp, gd), rfl, ⟨fun q => absurd q cb1, fun _ => ⟨rfl, rfl⟩⟩, by show va_P G vwCl _ tZ.heap; rw [htZ]; exact hP⟩, hS.F htZ⟩) hS.2.2 dX5_keepIfBetter_46
  · have cb1 : bb < scr ab C (aN ab) + 1 := Classical.not_not.mp (fun z => c10 (by rw [hgp]; exact (gv_le (by have q := scr_le ab C (aN ab); have := hok.1; omega) hbb).mpr z))
    refine lv_aload_n hx hb dX5_keepIfBetter_13 rfl (lv_at hl 1 rfl) ?_
    refine lv_iload_n hx hb dX5_keepIfBetter_14 rfl (lv_at hl 0 rfl) ?_
    refine va_put (D := G) (ci := 5) (v := .int (nI (scr ab C (aN ab)))) (ty := .int) (C := RX5) (T := TX5) (N := 7) hx hb hts hin5 tyX5 tyX5_ok nmX5 hown hK hP hD hS 0 rfl rfl 5 (by decide) (hts (Cond.fieldLink RX5 168 "IndentRules" "guessedParts" "I") (List.mem_of_getElem? (i := 1) rfl)) (fun _ h9 => h9) rfl (by decide +kernel) rfl rfl (Nat.le_of_ble_eq_true rfl) dX5_keepIfBetter_15 (fun H locs hP hD hS => ?_)
    have hP : va_P G vwCl (((iaW E ia tx z y v kq (nI (scr ab C (aN ab))) gd) ++ (txW E tx n (slot oa pi)) ++ (neW E z op hg la tops dpt lst stry srt lin tokA wah fol par_ opn) ++ (lyW E y sett clA) ++ (lyW E v setv clV) ++ (pkW E (kq 0) kn0 kz0 kl0 kp0 kk0) ++ (pkW E (kq 1) kn1 kz1 kl1 kp1 kk1) ++ (pkW E (kq 2) kn2 kz2 kl2 kp2 kk2)) ++ poW E oa ta tl ct ps sn cb tk) H := hP
    have hD : va_D A (((iaW E ia tx z y v kq (nI (scr ab C (aN ab))) gd) ++ (txW E tx n (slot oa pi)) ++ (neW E z op hg la tops dpt lst stry srt lin tokA wah fol par_ opn) ++ (lyW E y sett clA) ++ (lyW E v setv clV) ++ (pkW E (kq 0) kn0 kz0 kl0 kp0 kk0) ++ (pkW E (kq 1) kn1 kz1 kl1 kp1 kk1) ++ (pkW E (kq 2) kn2 kz2 kl2 kp2 kk2)) ++ poW E oa ta tl ct ps sn cb tk) := hD
    refine lv_iconst (v := (nI 0)) hx hb dX5_keepIfBetter_18 (by decide) ?_
    refine lv_istore_n (lv' := [(2, .int (nI 0)), (1, .int (nI (scr ab C (aN ab)))), (0, .ref (ia 0))]) hx hb dX5_keepIfBetter_19 rfl hl (by decide) rfl (fun ls hl => ?_)
    have lp20 : ∀ (kk : Nat) (k : Nat) (gdX : Nat → Int32) (H : Heap) (locs : List Loc), (k ≤ 4) → (∀ i, i < k → gdX i = setv i) → 4 - k < kk → va_P G vwCl (((iaW E ia tx z y v kq (nI (scr ab C (aN ab))) gdX) ++ (txW E tx n (slot oa pi)) ++ (neW E z op hg la tops dpt lst stry srt lin tokA wah fol par_ opn) ++ (lyW E y sett clA) ++ (lyW E v setv clV) ++ (pkW E (kq 0) kn0 kz0 kl0 kp0 kk0) ++ (pkW E (kq 1) kn1 kz1 kl1 kp1 kk1) ++ (pkW E (kq 2) kn2 kz2 kl2 kp2 kk2)) ++ poW E oa ta tl ct ps sn cb tk) H → va_D A (((iaW E ia tx z y v kq (nI (scr ab C (aN ab))) gdX) ++ (txW E tx n (slot oa pi)) ++ (neW E z op hg la tops dpt lst stry srt lin tokA wah fol par_ opn) ++ (lyW E y sett clA) ++ (lyW E v setv clV) ++ (pkW E (kq 0) kn0 kz0 kl0 kp0 kk0) ++ (pkW E (kq 1) kn1 kz1 kl1 kp1 kk1) ++ (pkW E (kq 2) kn2 kz2 kl2 kp2 kk2)) ++ poW E oa ta tl ct ps sn cb tk) → va_S A s.heap H locs → ∀ ls : Array Slot, lv_has ls 3 [(2, .int (nI k)), (1, .int (nI (scr ab C (aN ab)))), (0, .ref (ia 0))] → W p l e (headSpec wsX5_keepIfBetter ({ frames := 3, cells := 0, slots := 0, locals := 65 } : Room)).room s m ([.ref (ia 0)] : List Value).toArray below meth c H locs 0 0 (MQ below (va_Qv (fun (u : (Int32) × (Nat → Int32)) => (bb < scr ab C (aN ab) + 1 → u.1 = gv (scr ab C (aN ab) + 1) ∧ ∀ k, k < 4 → u.2 k = setv k) ∧ (¬ bb < scr ab C (aN ab) + 1 → u.1 = gp ∧ u.2 = gd)) (fun (u : (Int32) × (Nat → Int32)) tQ => va_P G vwCl (((iaW E ia tx z y v kq u.1 u.2) ++ (txW E tx n (slot oa pi)) ++ (neW E z op hg la tops dpt lst stry srt lin tokA wah fol par_ opn) ++ (lyW E y sett clA) ++ (lyW E v setv clV) ++ (pkW E (kq 0) kn0 kz0 kl0 kp0 kk0) ++ (pkW E (kq 1) kn1 kz1 kl1 kp1 kk1) ++ (pkW E (kq 2) kn2 kz2 kl2 kp2 kk2)) ++ poW E oa ta tl ct ps sn cb tk) tQ.heap) A) ([.ref (ia 0)] : List Value).toArray s 0 0 A) (F0 m 20 ls []) := by
      intro kk
      induction kk with
      | zero => intro k gdX H locs hk4 hgg hkk; exact absurd hkk (Nat.not_lt_zero _)
      | succ kk ih20 =>
        intro k gdX H locs hk4 hgg hkk hP hD hS ls hl
        refine lv_iload_n hx hb dX5_keepIfBetter_20 rfl (lv_at hl 0 rfl) ?_
        refine lv_iconst (v := (nI 4)) hx hb dX5_keepIfBetter_21 (by decide) ?_
        refine n_icmp_ge (a := k) (b := 4) (tgt := 46) hx hb (by omega) (by decide) dX5_keepIfBetter_22 (by decide) (fun c22 => ?_) (fun c22 => ?_)
        · exact W.vret hx hb hr (fun tZ htZ hWZ => ⟨⟨((nI (scr ab C (aN ab))), gdX), rfl, ⟨fun _ => ⟨(gv_s _).symm, fun i hi => hgg i (by omega)⟩, fun q => absurd cb1 q⟩, by show va_P G vwCl _ tZ.heap; rw [htZ]; exact hP⟩, hS.F htZ⟩) hS.2.2 dX5_keepIfBetter_46
        · refine lv_aload_n hx hb dX5_keepIfBetter_25 rfl (lv_at hl 2 rfl) ?_
          refine va_get (D := G) (ci := 5) (v := .ref (ia 5)) (C := RX5) (T := TX5) (N := 7) hx hb hts hin5 hown hK hP 0 rfl rfl 4 (by decide) (hts (Cond.fieldLink RX5 33 "IndentRules" "guessed" "[I") (List.mem_of_getElem? (i := 2) rfl)) (fun _ h9 => h9) rfl dX5_keepIfBetter_26 ?_
          refine lv_iload_n hx hb dX5_keepIfBetter_29 rfl (lv_at hl 0 rfl) ?_
          refine lv_aload_n hx hb dX5_keepIfBetter_30 rfl (lv_at hl 2 rfl) ?_
          refine va_get (D := G) (ci := 5) (v := .ref (v 0)) (C := RX5) (T := TX5) (N := 7) hx hb hts hin5 hown hK hP 0 rfl rfl 3 (by decide) (hts (Cond.fieldLink RX5 30 "IndentRules" "tried" "LIndentRules$Layout;") (List.mem_of_getElem? (i := 3) rfl)) (fun _ h9 => h9) rfl dX5_keepIfBetter_31 ?_
          refine va_get (D := G) (ci := 0) (v := .ref (v 1)) (C := RX0) (T := TX0) (N := 2) hx hb hts hin0 hown hK hP 20 rfl rfl 0 (by decide) (hts (Cond.fieldLink RX5 90 "IndentRules$Layout" "settings" "[I") (List.mem_of_getElem? (i := 4) rfl)) (fun _ h9 => h9) rfl dX5_keepIfBetter_34 ?_
          refine lv_iload_n hx hb dX5_keepIfBetter_37 rfl (lv_at hl 0 rfl) ?_
          refine k_iald (D := G) (tys := TYS E) (j := k) (f := setv) (n := 4) hx hb hK hP 21 0 rfl rfl (by omega) (by decide) dX5_keepIfBetter_38 ?_
          refine k_iast (D := G) (tys := TYS E) (j := k) (x := (setv k)) (f := gdX) (n := 4) hx hb hK hP hD hS 1 0 rfl rfl (by omega) (by decide) dX5_keepIfBetter_39 (fun H locs hP hD hS => ?_)
          have hP : va_P G vwCl (((iaW E ia tx z y v kq (nI (scr ab C (aN ab))) (upd gdX k (setv k))) ++ (txW E tx n (slot oa pi)) ++ (neW E z op hg la tops dpt lst stry srt lin tokA wah fol par_ opn) ++ (lyW E y sett clA) ++ (lyW E v setv clV) ++ (pkW E (kq 0) kn0 kz0 kl0 kp0 kk0) ++ (pkW E (kq 1) kn1 kz1 kl1 kp1 kk1) ++ (pkW E (kq 2) kn2 kz2 kl2 kp2 kk2)) ++ poW E oa ta tl ct ps sn cb tk) H := hP
          have hD : va_D A (((iaW E ia tx z y v kq (nI (scr ab C (aN ab))) (upd gdX k (setv k))) ++ (txW E tx n (slot oa pi)) ++ (neW E z op hg la tops dpt lst stry srt lin tokA wah fol par_ opn) ++ (lyW E y sett clA) ++ (lyW E v setv clV) ++ (pkW E (kq 0) kn0 kz0 kl0 kp0 kk0) ++ (pkW E (kq 1) kn1 kz1 kl1 kp1 kk1) ++ (pkW E (kq 2) kn2 kz2 kl2 kp2 kk2)) ++ poW E oa ta tl ct ps sn cb tk) := hD
          obtain ⟨f39, ef39⟩ : ∃ z : Nat → Int32, z = upd gdX k (setv k) := ⟨_, rfl⟩
          rw [← ef39] at hP hD
          refine lv_iinc (v := (nI (k + 1))) (lv' := [(2, .int (nI (k + 1))), (1, .int (nI (scr ab C (aN ab)))), (0, .ref (ia 0))]) hx hb dX5_keepIfBetter_40 hl (k := 0) rfl (k_inc k) (by decide) rfl (fun ls hl => ?_)
          refine lv_goto (tgt := 20) hx hb dX5_keepIfBetter_43 (by decide) ?_
          exact ih20 (k + 1) f39 _ _ (by omega) (upd_all ef39 rfl hgg) (by omega) hP hD hS ls (lv_sub hl [0, 1, 2] rfl)
    exact lp20 (4 - 0 + 1) 0 gd _ _ (by decide) (fun i hi => absurd hi (Nat.not_lt_zero _)) (Nat.lt_succ_self _) hP hD hS ls (lv_sub hl [0, 1, 2] rfl)

set_option maxHeartbeats 4000000 in
set_option maxRecDepth 100000 in
theorem c_X5_findGuess (l : Launch) (G : va_G) (E : cEnv) (ia tx z y v : Nat → Nat) (kq : Nat → Nat → Nat) (gp : Int32) (gd : Nat → Int32) (n : Nat) (pi : Nat → Nat) (op hg la : Nat) (tops dpt lst stry srt lin tokA wah fol par_ opn : Nat → Int32) (sett clA setv clV : Nat → Int32) (kn0 kz0 kn1 kz1 kn2 kz2 : Nat) (kl0 kp0 kk0 kl1 kp1 kk1 kl2 kp2 kk2 : Nat → Int32) (oa ta : Nat → Nat) (tl ct ps : Nat → Nat) (sn cb : Nat → Int32) (tk : Nat → Nat → Int32) (ab : ABS) (hab : ClsOk ab n op pi tl ct ps sn tk tops dpt lst stry srt lin tokA wah fol par_ opn sett clA kn0 kz0 kn1 kz1 kn2 kz2 kl0 kp0 kk0 kl1 kp1 kk1 kl2 kp2 kk2) (sz : Nat) : Met l yX5_findGuess wsX5_findGuess ({ frames := 5, cells := 0, slots := 0, locals := 120 }) (va_Pc [.ref (ia 0)] (PW G E (((iaW E ia tx z y v kq gp gd) ++ (txW E tx n (slot oa pi)) ++ (neW E z op hg la tops dpt lst stry srt lin tokA wah fol par_ opn) ++ (lyW E y sett clA) ++ (lyW E v setv clV) ++ (pkW E (kq 0) kn0 kz0 kl0 kp0 kk0) ++ (pkW E (kq 1) kn1 kz1 kl1 kp1 kk1) ++ (pkW E (kq 2) kn2 kz2 kl2 kp2 kk2)) ++ poW E oa ta tl ct ps sn cb tk) sz)) (va_Qv (fun (u : (Int32) × (Nat → Int32) × (Nat → Int32) × (Nat → Int32)) => u.1 = nI ((gbest ab 256).1 - 1) ∧ ∀ k, k < 4 → u.2.1 k = stx (gbest ab 256).2 k) (fun (u : (Int32) × (Nat → Int32) × (Nat → Int32) × (Nat → Int32)) tQ => va_P G vwCl (((iaW E ia tx z y v kq u.1 u.2.1) ++ (txW E tx n (slot oa pi)) ++ (neW E z op hg la tops dpt lst stry srt lin tokA wah fol par_ opn) ++ (lyW E y sett clA) ++ (lyW E v u.2.2.1 u.2.2.2) ++ (pkW E (kq 0) kn0 kz0 kl0 kp0 kk0) ++ (pkW E (kq 1) kn1 kz1 kl1 kp1 kk1) ++ (pkW E (kq 2) kn2 kz2 kl2 kp2 kk2)) ++ poW E oa ta tl ct ps sn cb tk) tQ.heap) (va_A (((iaW E ia tx z y v kq gp gd) ++ (txW E tx n (slot oa pi)) ++ (neW E z op hg la tops dpt lst stry srt lin tokA wah fol par_ opn) ++ (lyW E y sett clA) ++ (lyW E v setv clV) ++ (pkW E (kq 0) kn0 kz0 kl0 kp0 kk0) ++ (pkW E (kq 1) kn1 kz1 kl1 kp1 kk1) ++ (pkW E (kq 2) kn2 kz2 kl2 kp2 kk2)) ++ poW E oa ta tl ct ps sn cb tk) sz)) 0 0 (va_A (((iaW E ia tx z y v kq gp gd) ++ (txW E tx n (slot oa pi)) ++ (neW E z op hg la tops dpt lst stry srt lin tokA wah fol par_ opn) ++ (lyW E y sett clA) ++ (lyW E v setv clV) ++ (pkW E (kq 0) kn0 kz0 kl0 kp0 kk0) ++ (pkW E (kq 1) kn1 kz1 kl1 kp1 kk1) ++ (pkW E (kq 2) kn2 kz2 kl2 kp2 kk2)) ++ poW E oa ta tl ct ps sn cb tk) sz) := by
  refine Met.ofW (cc := cX5_findGuess) (maxL := 5) (ret := none) (by decide) rfl ?_
  intro p e s m args below meth c s₁ B hml hv
  obtain ⟨rfl, hsz, hP, hK, hD0, hZ⟩ := hv
  have hx := B.exec
  have hb := B.bytes
  have hr := B.returns
  have hts := atoms_spec (ws := wsX5_findGuess) B.pre
  have hown : s.vm.findClass RX5 = some m.cls := findClass_of_methodNamed B.named
  have hlocks := B.notSynchronized
  have hin5 : ∀ w ∈ u_ws RX5 TX5 7, w ∈ wsX5_findGuess := mem_pl [87, 88, 89, 90, 91, 92, 93] (by rfl)
  subst hsz
  have hD := hD0.self (sz := s.heap.size)
  generalize hAe : va_A (((iaW E ia tx z y v kq gp gd) ++ (txW E tx n (slot oa pi)) ++ (neW E z op hg la tops dpt lst stry srt lin tokA wah fol par_ opn) ++ (lyW E y sett clA) ++ (lyW E v setv clV) ++ (pkW E (kq 0) kn0 kz0 kl0 kp0 kk0) ++ (pkW E (kq 1) kn1 kz1 kl1 kp1 kk1) ++ (pkW E (kq 2) kn2 kz2 kl2 kp2 kk2)) ++ poW E oa ta tl ct ps sn cb tk) s.heap.size = A at hD hZ ⊢
  have hA : ∀ q : Nat, s.heap.size ≤ q → A q := fun q h => by rw [← hAe]; exact Or.inr h
  have hS : va_S A s.heap s.heap [] := va_S.rf
  have hl := lv_entry ([.ref (ia 0)]) (n := 5) (Nat.le_of_ble_eq_true rfl)
  rw [lg_entry_eq]
  generalize (lg_sl ([.ref (ia 0)]) ++ List.replicate (5 - (lg_sl ([.ref (ia 0)])).length) Slot.unset).toArray = ls at hl ⊢
  have hl : lv_has ls 5 [(0, .ref (ia 0))] := hl
  obtain ⟨⟨tS_W, hZW, hTW⟩, ⟨tS_L, hZL, hTL⟩, ⟨tS_M, hZM, hTM⟩, hNW⟩ := id hZ
  obtain ⟨hN, hok, hop, hPL, hSN, hpp, hCN, hsg, hcl, hk0, hk1, hk2⟩ := id hab
  have hn : n ≤ 20 := by rw [hN]; exact hok.1
  have hrn : ∀ j, j < n → aR ab j < 1000000000 := fun j hj => (hok.2.1 j (by omega)).1
  have hpi : ∀ i, i < 20 → pi i < 20 := fun i hi => (hpp i hi).1
  have hwN := wfN_all (row := aR ab) (aN ab) (fun j hj => hrn j (by omega))
  have hob : nO (aNest ab) ≤ 180 := Nat.le_trans hwN.2.1 (by omega)
  have hCn : CN (nAll (aR ab) n) n tops dpt lst stry srt lin tokA wah fol par_ opn := by rw [hN] at hCN ⊢; exact hCN
  have hLN : LN (nF (aNest ab)) (nO (aNest ab)) srt lin wah fol := hCN.ln (by omega) (fun j hj => hrn j (by omega))
  refine lv_aload_n hx hb dX5_findGuess_0 rfl (lv_at hl 0 rfl) ?_
  refine lv_iconst (v := (-1)) hx hb dX5_findGuess_1 (by decide) ?_
  refine va_put (D := G) (ci := 5) (v := .int (-1)) (ty := .int) (C := RX5) (T := TX5) (N := 7) hx hb hts hin5 tyX5 tyX5_ok nmX5 hown hK hP hD hS 0 rfl rfl 5 (by decide) (hts (Cond.fieldLink RX5 168 "IndentRules" "guessedParts" "I") (List.mem_of_getElem? (i := 1) rfl)) (fun _ h9 => h9) rfl (by decide +kernel) rfl rfl (Nat.le_of_ble_eq_true rfl) dX5_findGuess_2 (fun H locs hP hD hS => ?_)
  have hP : va_P G vwCl (((iaW E ia tx z y v kq (-1) gd) ++ (txW E tx n (slot oa pi)) ++ (neW E z op hg la tops dpt lst stry srt lin tokA wah fol par_ opn) ++ (lyW E y sett clA) ++ (lyW E v setv clV) ++ (pkW E (kq 0) kn0 kz0 kl0 kp0 kk0) ++ (pkW E (kq 1) kn1 kz1 kl1 kp1 kk1) ++ (pkW E (kq 2) kn2 kz2 kl2 kp2 kk2)) ++ poW E oa ta tl ct ps sn cb tk) H := hP
  have hD : va_D A (((iaW E ia tx z y v kq (-1) gd) ++ (txW E tx n (slot oa pi)) ++ (neW E z op hg la tops dpt lst stry srt lin tokA wah fol par_ opn) ++ (lyW E y sett clA) ++ (lyW E v setv clV) ++ (pkW E (kq 0) kn0 kz0 kl0 kp0 kk0) ++ (pkW E (kq 1) kn1 kz1 kl1 kp1 kk1) ++ (pkW E (kq 2) kn2 kz2 kl2 kp2 kk2)) ++ poW E oa ta tl ct ps sn cb tk) := hD
  refine va_gets hx hb hZL hS hown (hts (Cond.fieldLink RX5 211 "IndentRules" "LEAST" "[I") (List.mem_of_getElem? (i := 2) rfl)) (fun _ h9 => h9) dX5_findGuess_5 ?_
  refine lv_iconst (v := (nI 0)) hx hb dX5_findGuess_8 (by decide) ?_
  refine k_ti (j := 0) hx hb hTL hS (by decide) (by decide) dX5_findGuess_9 ?_
  refine W.eq (g2 := F0 m 10 ls ([.int (nI 1)])) rfl ?_
  refine lv_istore_n (lv' := [(1, .int (nI 1)), (0, .ref (ia 0))]) hx hb dX5_findGuess_10 rfl hl (by decide) rfl (fun ls hl => ?_)
  have lp11 : ∀ (kk : Nat) (s1 : Nat) (gpX : Int32) (gdX : Nat → Int32) (svX : Nat → Int32) (cvX : Nat → Int32) (H : Heap) (locs : List Loc), (1 ≤ s1 ∧ s1 ≤ 9) → (gpX = gv (gbest ab ((s1 - 1) * 32)).1 ∧ (0 < (s1 - 1) * 32 → ∀ k, k < 4 → gdX k = stx (gbest ab ((s1 - 1) * 32)).2 k)) → 9 - s1 < kk → va_P G vwCl (((iaW E ia tx z y v kq gpX gdX) ++ (txW E tx n (slot oa pi)) ++ (neW E z op hg la tops dpt lst stry srt lin tokA wah fol par_ opn) ++ (lyW E y sett clA) ++ (lyW E v svX cvX) ++ (pkW E (kq 0) kn0 kz0 kl0 kp0 kk0) ++ (pkW E (kq 1) kn1 kz1 kl1 kp1 kk1) ++ (pkW E (kq 2) kn2 kz2 kl2 kp2 kk2)) ++ poW E oa ta tl ct ps sn cb tk) H → va_D A (((iaW E ia tx z y v kq gpX gdX) ++ (txW E tx n (slot oa pi)) ++ (neW E z op hg la tops dpt lst stry srt lin tokA wah fol par_ opn) ++ (lyW E y sett clA) ++ (lyW E v svX cvX) ++ (pkW E (kq 0) kn0 kz0 kl0 kp0 kk0) ++ (pkW E (kq 1) kn1 kz1 kl1 kp1 kk1) ++ (pkW E (kq 2) kn2 kz2 kl2 kp2 kk2)) ++ poW E oa ta tl ct ps sn cb tk) → va_S A s.heap H locs → ∀ ls : Array Slot, lv_has ls 5 [(1, .int (nI s1)), (0, .ref (ia 0))] → W p l e (headSpec wsX5_findGuess ({ frames := 5, cells := 0, slots := 0, locals := 120 } : Room)).room s m ([.ref (ia 0)] : List Value).toArray below meth c H locs 0 0 (MQ below (va_Qv (fun (u : (Int32) × (Nat → Int32) × (Nat → Int32) × (Nat → Int32)) => u.1 = nI ((gbest ab 256).1 - 1) ∧ ∀ k, k < 4 → u.2.1 k = stx (gbest ab 256).2 k) (fun (u : (Int32) × (Nat → Int32) × (Nat → Int32) × (Nat → Int32)) tQ => va_P G vwCl (((iaW E ia tx z y v kq u.1 u.2.1) ++ (txW E tx n (slot oa pi)) ++ (neW E z op hg la tops dpt lst stry srt lin tokA wah fol par_ opn) ++ (lyW E y sett clA) ++ (lyW E v u.2.2.1 u.2.2.2) ++ (pkW E (kq 0) kn0 kz0 kl0 kp0 kk0) ++ (pkW E (kq 1) kn1 kz1 kl1 kp1 kk1) ++ (pkW E (kq 2) kn2 kz2 kl2 kp2 kk2)) ++ poW E oa ta tl ct ps sn cb tk) tQ.heap) A) ([.ref (ia 0)] : List Value).toArray s 0 0 A) (F0 m 11 ls []) := by
    intro kk
    induction kk with
    | zero => intro s1 gpX gdX svX cvX H locs hb1 hg11 hkk; exact absurd hkk (Nat.not_lt_zero _)
    | succ kk ih11 =>
      intro s1 gpX gdX svX cvX H locs hb1 hg11 hkk hP hD hS ls hl
      refine lv_iload_n hx hb dX5_findGuess_11 rfl (lv_at hl 0 rfl) ?_
      refine va_gets hx hb hZM hS hown (hts (Cond.fieldLink RX5 214 "IndentRules" "MOST" "[I") (List.mem_of_getElem? (i := 3) rfl)) (fun _ h9 => h9) dX5_findGuess_12 ?_
      refine lv_iconst (v := (nI 0)) hx hb dX5_findGuess_15 (by decide) ?_
      refine k_ti (j := 0) hx hb hTM hS (by decide) (by decide) dX5_findGuess_16 ?_
      refine W.eq (g2 := F0 m 17 ls ([.int (nI 8), .int (nI s1)])) rfl ?_
      refine n_icmp_gt (a := s1) (b := 8) (tgt := 104) hx hb (by omega) (by decide) dX5_findGuess_17 (by decide) (fun c17 => ?_) (fun c17 => ?_)
      · exact W.vret hx hb hr (fun tZ htZ hWZ => ⟨⟨(gpX, gdX, svX, cvX), rfl, ⟨by show gpX = _; rw [hg11.1, show (s1 - 1) * 32 = 256 by omega]; unfold gv; rw [if_neg (by have q : 0 < (gbest ab 256).1 := gb_pos 255; omega)], fun k hk => by show gdX k = _; rw [hg11.2 (by omega) k hk, show (s1 - 1) * 32 = 256 by omega]⟩, by show va_P G vwCl _ tZ.heap; rw [htZ]; exact hP⟩, hS.F htZ⟩) hS.2.2 dX5_findGuess_104
      · refine va_gets hx hb hZL hS hown (hts (Cond.fieldLink RX5 211 "IndentRules" "LEAST" "[I") (List.mem_of_getElem? (i := 2) rfl)) (fun _ h9 => h9) dX5_findGuess_20 ?_
        refine lv_iconst (v := (nI 1)) hx hb dX5_findGuess_23 (by decide) ?_
        refine k_ti (j := 1) hx hb hTL hS (by decide) (by decide) dX5_findGuess_24 ?_
        refine W.eq (g2 := F0 m 25 ls ([.int (nI 1)])) rfl ?_
        refine lv_istore_n (lv' := [(2, .int (nI 1)), (1, .int (nI s1)), (0, .ref (ia 0))]) hx hb dX5_findGuess_25 rfl hl (by decide) rfl (fun ls hl => ?_)
        have lp26 : ∀ (kk : Nat) (s2 : Nat) (gpX : Int32) (gdX : Nat → Int32) (svX : Nat → Int32) (cvX : Nat → Int32) (H : Heap) (locs : List Loc), (1 ≤ s2 ∧ s2 ≤ 9) → (gpX = gv (gbest ab ((s1 - 1) * 32 + (s2 - 1) * 4)).1 ∧ (0 < (s1 - 1) * 32 + (s2 - 1) * 4 → ∀ k, k < 4 → gdX k = stx (gbest ab ((s1 - 1) * 32 + (s2 - 1) * 4)).2 k)) → 9 - s2 < kk → va_P G vwCl (((iaW E ia tx z y v kq gpX gdX) ++ (txW E tx n (slot oa pi)) ++ (neW E z op hg la tops dpt lst stry srt lin tokA wah fol par_ opn) ++ (lyW E y sett clA) ++ (lyW E v svX cvX) ++ (pkW E (kq 0) kn0 kz0 kl0 kp0 kk0) ++ (pkW E (kq 1) kn1 kz1 kl1 kp1 kk1) ++ (pkW E (kq 2) kn2 kz2 kl2 kp2 kk2)) ++ poW E oa ta tl ct ps sn cb tk) H → va_D A (((iaW E ia tx z y v kq gpX gdX) ++ (txW E tx n (slot oa pi)) ++ (neW E z op hg la tops dpt lst stry srt lin tokA wah fol par_ opn) ++ (lyW E y sett clA) ++ (lyW E v svX cvX) ++ (pkW E (kq 0) kn0 kz0 kl0 kp0 kk0) ++ (pkW E (kq 1) kn1 kz1 kl1 kp1 kk1) ++ (pkW E (kq 2) kn2 kz2 kl2 kp2 kk2)) ++ poW E oa ta tl ct ps sn cb tk) → va_S A s.heap H locs → ∀ ls : Array Slot, lv_has ls 5 [(2, .int (nI s2)), (1, .int (nI s1)), (0, .ref (ia 0))] → W p l e (headSpec wsX5_findGuess ({ frames := 5, cells := 0, slots := 0, locals := 120 } : Room)).room s m ([.ref (ia 0)] : List Value).toArray below meth c H locs 0 0 (MQ below (va_Qv (fun (u : (Int32) × (Nat → Int32) × (Nat → Int32) × (Nat → Int32)) => u.1 = nI ((gbest ab 256).1 - 1) ∧ ∀ k, k < 4 → u.2.1 k = stx (gbest ab 256).2 k) (fun (u : (Int32) × (Nat → Int32) × (Nat → Int32) × (Nat → Int32)) tQ => va_P G vwCl (((iaW E ia tx z y v kq u.1 u.2.1) ++ (txW E tx n (slot oa pi)) ++ (neW E z op hg la tops dpt lst stry srt lin tokA wah fol par_ opn) ++ (lyW E y sett clA) ++ (lyW E v u.2.2.1 u.2.2.2) ++ (pkW E (kq 0) kn0 kz0 kl0 kp0 kk0) ++ (pkW E (kq 1) kn1 kz1 kl1 kp1 kk1) ++ (pkW E (kq 2) kn2 kz2 kl2 kp2 kk2)) ++ poW E oa ta tl ct ps sn cb tk) tQ.heap) A) ([.ref (ia 0)] : List Value).toArray s 0 0 A) (F0 m 26 ls []) := by
          intro kk
          induction kk with
          | zero => intro s2 gpX gdX svX cvX H locs hb2 hg26 hkk; exact absurd hkk (Nat.not_lt_zero _)
          | succ kk ih26 =>
            intro s2 gpX gdX svX cvX H locs hb2 hg26 hkk hP hD hS ls hl
            refine lv_iload_n hx hb dX5_findGuess_26 rfl (lv_at hl 0 rfl) ?_
            refine va_gets hx hb hZM hS hown (hts (Cond.fieldLink RX5 214 "IndentRules" "MOST" "[I") (List.mem_of_getElem? (i := 3) rfl)) (fun _ h9 => h9) dX5_findGuess_27 ?_
            refine lv_iconst (v := (nI 1)) hx hb dX5_findGuess_30 (by decide) ?_
            refine k_ti (j := 1) hx hb hTM hS (by decide) (by decide) dX5_findGuess_31 ?_
            refine W.eq (g2 := F0 m 32 ls ([.int (nI 8), .int (nI s2)])) rfl ?_
            refine n_icmp_gt (a := s2) (b := 8) (tgt := 98) hx hb (by omega) (by decide) dX5_findGuess_32 (by decide) (fun c32 => ?_) (fun c32 => ?_)
            · refine lv_iinc (v := (nI (s1 + 1))) (lv' := [(1, .int (nI (s1 + 1))), (2, .int (nI s2)), (0, .ref (ia 0))]) hx hb dX5_findGuess_98 hl (k := 1) rfl (k_inc s1) (by decide) rfl (fun ls hl => ?_)
              refine lv_goto (tgt := 11) hx hb dX5_findGuess_101 (by decide) ?_
              exact ih11 (s1 + 1) gpX gdX svX cvX _ _ ⟨by omega, by omega⟩ (by rw [show (s1 + 1 - 1) * 32 = (s1 - 1) * 32 + (s2 - 1) * 4 by omega]; exact hg26) (by omega) hP hD hS ls (lv_sub hl [0, 2] rfl)
            · refine va_gets hx hb hZL hS hown (hts (Cond.fieldLink RX5 211 "IndentRules" "LEAST" "[I") (List.mem_of_getElem? (i := 2) rfl)) (fun _ h9 => h9) dX5_findGuess_35 ?_
              refine lv_iconst (v := (nI 2)) hx hb dX5_findGuess_38 (by decide) ?_
              refine k_ti (j := 2) hx hb hTL hS (by decide) (by decide) dX5_findGuess_39 ?_
              refine W.eq (g2 := F0 m 40 ls ([.int (nI 0)])) rfl ?_
              refine lv_istore_n (lv' := [(3, .int (nI 0)), (2, .int (nI s2)), (1, .int (nI s1)), (0, .ref (ia 0))]) hx hb dX5_findGuess_40 rfl hl (by decide) rfl (fun ls hl => ?_)
              have lp41 : ∀ (kk : Nat) (s3 : Nat) (gpX : Int32) (gdX : Nat → Int32) (svX : Nat → Int32) (cvX : Nat → Int32) (H : Heap) (locs : List Loc), (s3 ≤ 2) → (gpX = gv (gbest ab ((s1 - 1) * 32 + (s2 - 1) * 4 + s3 * 2)).1 ∧ (0 < (s1 - 1) * 32 + (s2 - 1) * 4 + s3 * 2 → ∀ k, k < 4 → gdX k = stx (gbest ab ((s1 - 1) * 32 + (s2 - 1) * 4 + s3 * 2)).2 k)) → 2 - s3 < kk → va_P G vwCl (((iaW E ia tx z y v kq gpX gdX) ++ (txW E tx n (slot oa pi)) ++ (neW E z op hg la tops dpt lst stry srt lin tokA wah fol par_ opn) ++ (lyW E y sett clA) ++ (lyW E v svX cvX) ++ (pkW E (kq 0) kn0 kz0 kl0 kp0 kk0) ++ (pkW E (kq 1) kn1 kz1 kl1 kp1 kk1) ++ (pkW E (kq 2) kn2 kz2 kl2 kp2 kk2)) ++ poW E oa ta tl ct ps sn cb tk) H → va_D A (((iaW E ia tx z y v kq gpX gdX) ++ (txW E tx n (slot oa pi)) ++ (neW E z op hg la tops dpt lst stry srt lin tokA wah fol par_ opn) ++ (lyW E y sett clA) ++ (lyW E v svX cvX) ++ (pkW E (kq 0) kn0 kz0 kl0 kp0 kk0) ++ (pkW E (kq 1) kn1 kz1 kl1 kp1 kk1) ++ (pkW E (kq 2) kn2 kz2 kl2 kp2 kk2)) ++ poW E oa ta tl ct ps sn cb tk) → va_S A s.heap H locs → ∀ ls : Array Slot, lv_has ls 5 [(3, .int (nI s3)), (2, .int (nI s2)), (1, .int (nI s1)), (0, .ref (ia 0))] → W p l e (headSpec wsX5_findGuess ({ frames := 5, cells := 0, slots := 0, locals := 120 } : Room)).room s m ([.ref (ia 0)] : List Value).toArray below meth c H locs 0 0 (MQ below (va_Qv (fun (u : (Int32) × (Nat → Int32) × (Nat → Int32) × (Nat → Int32)) => u.1 = nI ((gbest ab 256).1 - 1) ∧ ∀ k, k < 4 → u.2.1 k = stx (gbest ab 256).2 k) (fun (u : (Int32) × (Nat → Int32) × (Nat → Int32) × (Nat → Int32)) tQ => va_P G vwCl (((iaW E ia tx z y v kq u.1 u.2.1) ++ (txW E tx n (slot oa pi)) ++ (neW E z op hg la tops dpt lst stry srt lin tokA wah fol par_ opn) ++ (lyW E y sett clA) ++ (lyW E v u.2.2.1 u.2.2.2) ++ (pkW E (kq 0) kn0 kz0 kl0 kp0 kk0) ++ (pkW E (kq 1) kn1 kz1 kl1 kp1 kk1) ++ (pkW E (kq 2) kn2 kz2 kl2 kp2 kk2)) ++ poW E oa ta tl ct ps sn cb tk) tQ.heap) A) ([.ref (ia 0)] : List Value).toArray s 0 0 A) (F0 m 41 ls []) := by
                intro kk
                induction kk with
                | zero => intro s3 gpX gdX svX cvX H locs hb3 hg41 hkk; exact absurd hkk (Nat.not_lt_zero _)
                | succ kk ih41 =>
                  intro s3 gpX gdX svX cvX H locs hb3 hg41 hkk hP hD hS ls hl
                  refine lv_iload_n hx hb dX5_findGuess_41 rfl (lv_at hl 0 rfl) ?_
                  refine va_gets hx hb hZM hS hown (hts (Cond.fieldLink RX5 214 "IndentRules" "MOST" "[I") (List.mem_of_getElem? (i := 3) rfl)) (fun _ h9 => h9) dX5_findGuess_42 ?_
                  refine lv_iconst (v := (nI 2)) hx hb dX5_findGuess_45 (by decide) ?_
                  refine k_ti (j := 2) hx hb hTM hS (by decide) (by decide) dX5_findGuess_46 ?_
                  refine W.eq (g2 := F0 m 47 ls ([.int (nI 1), .int (nI s3)])) rfl ?_
                  refine n_icmp_gt (a := s3) (b := 1) (tgt := 92) hx hb (by omega) (by decide) dX5_findGuess_47 (by decide) (fun c47 => ?_) (fun c47 => ?_)
                  · refine lv_iinc (v := (nI (s2 + 1))) (lv' := [(2, .int (nI (s2 + 1))), (3, .int (nI s3)), (1, .int (nI s1)), (0, .ref (ia 0))]) hx hb dX5_findGuess_92 hl (k := 1) rfl (k_inc s2) (by decide) rfl (fun ls hl => ?_)
                    refine lv_goto (tgt := 26) hx hb dX5_findGuess_95 (by decide) ?_
                    exact ih26 (s2 + 1) gpX gdX svX cvX _ _ ⟨by omega, by omega⟩ (by rw [show (s1 - 1) * 32 + (s2 + 1 - 1) * 4 = (s1 - 1) * 32 + (s2 - 1) * 4 + s3 * 2 by omega]; exact hg41) (by omega) hP hD hS ls (lv_sub hl [0, 2, 3] rfl)
                  · refine va_gets hx hb hZL hS hown (hts (Cond.fieldLink RX5 211 "IndentRules" "LEAST" "[I") (List.mem_of_getElem? (i := 2) rfl)) (fun _ h9 => h9) dX5_findGuess_50 ?_
                    refine lv_iconst (v := (nI 3)) hx hb dX5_findGuess_53 (by decide) ?_
                    refine k_ti (j := 3) hx hb hTL hS (by decide) (by decide) dX5_findGuess_54 ?_
                    refine W.eq (g2 := F0 m 55 ls ([.int (nI 0)])) rfl ?_
                    refine lv_istore (lv' := [(4, .int (nI 0)), (3, .int (nI s3)), (2, .int (nI s2)), (1, .int (nI s1)), (0, .ref (ia 0))]) hx hb dX5_findGuess_55 hl (by decide) rfl (fun ls hl => ?_)
                    have lp57 : ∀ (kk : Nat) (s4 : Nat) (gpX : Int32) (gdX : Nat → Int32) (svX : Nat → Int32) (cvX : Nat → Int32) (H : Heap) (locs : List Loc), (s4 ≤ 2) → (gpX = gv (gbest ab ((s1 - 1) * 32 + (s2 - 1) * 4 + s3 * 2 + s4)).1 ∧ (0 < (s1 - 1) * 32 + (s2 - 1) * 4 + s3 * 2 + s4 → ∀ k, k < 4 → gdX k = stx (gbest ab ((s1 - 1) * 32 + (s2 - 1) * 4 + s3 * 2 + s4)).2 k)) → 2 - s4 < kk → va_P G vwCl (((iaW E ia tx z y v kq gpX gdX) ++ (txW E tx n (slot oa pi)) ++ (neW E z op hg la tops dpt lst stry srt lin tokA wah fol par_ opn) ++ (lyW E y sett clA) ++ (lyW E v svX cvX) ++ (pkW E (kq 0) kn0 kz0 kl0 kp0 kk0) ++ (pkW E (kq 1) kn1 kz1 kl1 kp1 kk1) ++ (pkW E (kq 2) kn2 kz2 kl2 kp2 kk2)) ++ poW E oa ta tl ct ps sn cb tk) H → va_D A (((iaW E ia tx z y v kq gpX gdX) ++ (txW E tx n (slot oa pi)) ++ (neW E z op hg la tops dpt lst stry srt lin tokA wah fol par_ opn) ++ (lyW E y sett clA) ++ (lyW E v svX cvX) ++ (pkW E (kq 0) kn0 kz0 kl0 kp0 kk0) ++ (pkW E (kq 1) kn1 kz1 kl1 kp1 kk1) ++ (pkW E (kq 2) kn2 kz2 kl2 kp2 kk2)) ++ poW E oa ta tl ct ps sn cb tk) → va_S A s.heap H locs → ∀ ls : Array Slot, lv_has ls 5 [(4, .int (nI s4)), (3, .int (nI s3)), (2, .int (nI s2)), (1, .int (nI s1)), (0, .ref (ia 0))] → W p l e (headSpec wsX5_findGuess ({ frames := 5, cells := 0, slots := 0, locals := 120 } : Room)).room s m ([.ref (ia 0)] : List Value).toArray below meth c H locs 0 0 (MQ below (va_Qv (fun (u : (Int32) × (Nat → Int32) × (Nat → Int32) × (Nat → Int32)) => u.1 = nI ((gbest ab 256).1 - 1) ∧ ∀ k, k < 4 → u.2.1 k = stx (gbest ab 256).2 k) (fun (u : (Int32) × (Nat → Int32) × (Nat → Int32) × (Nat → Int32)) tQ => va_P G vwCl (((iaW E ia tx z y v kq u.1 u.2.1) ++ (txW E tx n (slot oa pi)) ++ (neW E z op hg la tops dpt lst stry srt lin tokA wah fol par_ opn) ++ (lyW E y sett clA) ++ (lyW E v u.2.2.1 u.2.2.2) ++ (pkW E (kq 0) kn0 kz0 kl0 kp0 kk0) ++ (pkW E (kq 1) kn1 kz1 kl1 kp1 kk1) ++ (pkW E (kq 2) kn2 kz2 kl2 kp2 kk2)) ++ poW E oa ta tl ct ps sn cb tk) tQ.heap) A) ([.ref (ia 0)] : List Value).toArray s 0 0 A) (F0 m 57 ls []) := by
                      intro kk
                      induction kk with
                      | zero => intro s4 gpX gdX svX cvX H locs hb4 hg57 hkk; exact absurd hkk (Nat.not_lt_zero _)
                      | succ kk ih57 =>
                        intro s4 gpX gdX svX cvX H locs hb4 hg57 hkk hP hD hS ls hl
                        refine lv_iload hx hb dX5_findGuess_57 (lv_at hl 0 rfl) ?_
                        refine va_gets hx hb hZM hS hown (hts (Cond.fieldLink RX5 214 "IndentRules" "MOST" "[I") (List.mem_of_getElem? (i := 3) rfl)) (fun _ h9 => h9) dX5_findGuess_59 ?_
                        refine lv_iconst (v := (nI 3)) hx hb dX5_findGuess_62 (by decide) ?_
                        refine k_ti (j := 3) hx hb hTM hS (by decide) (by decide) dX5_findGuess_63 ?_
                        refine W.eq (g2 := F0 m 64 ls ([.int (nI 1), .int (nI s4)])) rfl ?_
                        refine n_icmp_gt (a := s4) (b := 1) (tgt := 86) hx hb (by omega) (by decide) dX5_findGuess_64 (by decide) (fun c64 => ?_) (fun c64 => ?_)
                        · refine lv_iinc (v := (nI (s3 + 1))) (lv' := [(3, .int (nI (s3 + 1))), (4, .int (nI s4)), (2, .int (nI s2)), (1, .int (nI s1)), (0, .ref (ia 0))]) hx hb dX5_findGuess_86 hl (k := 1) rfl (k_inc s3) (by decide) rfl (fun ls hl => ?_)
                          refine lv_goto (tgt := 41) hx hb dX5_findGuess_89 (by decide) ?_
                          exact ih41 (s3 + 1) gpX gdX svX cvX _ _ (by omega) (by rw [show (s1 - 1) * 32 + (s2 - 1) * 4 + (s3 + 1) * 2 = (s1 - 1) * 32 + (s2 - 1) * 4 + s3 * 2 + s4 by omega]; exact hg57) (by omega) hP hD hS ls (lv_sub hl [0, 2, 3, 4] rfl)
                        · refine lv_aload_n hx hb dX5_findGuess_67 rfl (lv_at hl 4 rfl) ?_
                          refine lv_iload_n hx hb dX5_findGuess_68 rfl (lv_at hl 3 rfl) ?_
                          refine lv_iload_n hx hb dX5_findGuess_69 rfl (lv_at hl 2 rfl) ?_
                          refine lv_iload_n hx hb dX5_findGuess_70 rfl (lv_at hl 1 rfl) ?_
                          refine lv_iload hx hb dX5_findGuess_71 (lv_at hl 0 rfl) ?_
                          refine wf_v (n := 4) (G := G) (E := E) (As := [.int (nI s1), .int (nI s2), .int (nI s3), .int (nI s4)]) (rest := []) (ci := 5) (q0 := 0) (wn := fun (u : (Nat → Int32) × (Nat → Int32)) => ((iaW E ia tx z y v kq gpX gdX) ++ (txW E tx n (slot oa pi)) ++ (neW E z op hg la tops dpt lst stry srt lin tokA wah fol par_ opn) ++ (lyW E y sett clA) ++ (lyW E v u.1 u.2) ++ (pkW E (kq 0) kn0 kz0 kl0 kp0 kk0) ++ (pkW E (kq 1) kn1 kz1 kl1 kp1 kk1) ++ (pkW E (kq 2) kn2 kz2 kl2 kp2 kk2)) ++ poW E oa ta tl ct ps sn cb tk) ⟨hx, hb, hml, hown, hts⟩ hK hZ hS hA (fun sz => c_X5_layTried l G E ia tx z y v kq gpX gdX n pi op hg la tops dpt lst stry srt lin tokA wah fol par_ opn sett clA svX cvX kn0 kz0 kn1 kz1 kn2 kz2 kl0 kp0 kk0 kl1 kp1 kk1 kl2 kp2 kk2 oa ta tl ct ps sn cb tk (nI s1) (nI s2) (nI s3) (nI s4) (aR ab) (by first | assumption | omega) (by first | assumption | omega) (by first | assumption | omega) (by rw [hop, hN]) hCn sz) gX5_findGuess_X5_layTried rfl rfl rfl (by decide +kernel) ⟨Nat.le_of_ble_eq_true rfl, Nat.le_of_ble_eq_true rfl⟩ hP hD (fun _ => po_fstA rfl) rfl rfl hl.1 rfl rfl (Nat.le_of_ble_eq_true rfl) dX5_findGuess_73 ⟨Nat.zero_le _, Nat.zero_le _⟩ (fun u73 H locs p73 hP hD hS => ?_)
                          obtain ⟨setv'_73, clV'_73⟩ := u73
                          try dsimp only at p73 hP hD
                          have hP : va_P G vwCl (((iaW E ia tx z y v kq gpX gdX) ++ (txW E tx n (slot oa pi)) ++ (neW E z op hg la tops dpt lst stry srt lin tokA wah fol par_ opn) ++ (lyW E y sett clA) ++ (lyW E v setv'_73 clV'_73) ++ (pkW E (kq 0) kn0 kz0 kl0 kp0 kk0) ++ (pkW E (kq 1) kn1 kz1 kl1 kp1 kk1) ++ (pkW E (kq 2) kn2 kz2 kl2 kp2 kk2)) ++ poW E oa ta tl ct ps sn cb tk) H := hP
                          have hD : va_D A (((iaW E ia tx z y v kq gpX gdX) ++ (txW E tx n (slot oa pi)) ++ (neW E z op hg la tops dpt lst stry srt lin tokA wah fol par_ opn) ++ (lyW E y sett clA) ++ (lyW E v setv'_73 clV'_73) ++ (pkW E (kq 0) kn0 kz0 kl0 kp0 kk0) ++ (pkW E (kq 1) kn1 kz1 kl1 kp1 kk1) ++ (pkW E (kq 2) kn2 kz2 kl2 kp2 kk2)) ++ poW E oa ta tl ct ps sn cb tk) := hD
                          have hgs : scr ab (cols (st4 (nI s1) (nI s2) (nI s3) (nI s4)) (aR ab) n) (aN ab) = gsc ab ((s1 - 1) * 32 + (s2 - 1) * 4 + s3 * 2 + s4) ∧ ∀ k, k < 4 → setv'_73 k = stx ((s1 - 1) * 32 + (s2 - 1) * 4 + s3 * 2 + s4) k := gs_at hN (by omega) (by omega) (by omega) (by omega) p73.1
                          refine lv_aload_n hx hb dX5_findGuess_76 rfl (lv_at hl 4 rfl) ?_
                          refine wf_v (n := 0) (G := G) (E := E) (As := []) (rest := []) (ci := 5) (q0 := 0) (wn := fun (u : (Int32) × (Nat → Int32)) => ((iaW E ia tx z y v kq u.1 u.2) ++ (txW E tx n (slot oa pi)) ++ (neW E z op hg la tops dpt lst stry srt lin tokA wah fol par_ opn) ++ (lyW E y sett clA) ++ (lyW E v setv'_73 clV'_73) ++ (pkW E (kq 0) kn0 kz0 kl0 kp0 kk0) ++ (pkW E (kq 1) kn1 kz1 kl1 kp1 kk1) ++ (pkW E (kq 2) kn2 kz2 kl2 kp2 kk2)) ++ poW E oa ta tl ct ps sn cb tk) ⟨hx, hb, hml, hown, hts⟩ hK hZ hS hA (fun sz => c_X5_keepIfBetter l G E ia tx z y v kq gpX gdX n pi op hg la tops dpt lst stry srt lin tokA wah fol par_ opn sett clA setv'_73 clV'_73 kn0 kz0 kn1 kz1 kn2 kz2 kl0 kp0 kk0 kl1 kp1 kk1 kl2 kp2 kk2 oa ta tl ct ps sn cb tk (cols (st4 (nI s1) (nI s2) (nI s3) (nI s4)) (aR ab) n) ((gbest ab ((s1 - 1) * 32 + (s2 - 1) * 4 + s3 * 2 + s4)).1) p73.2 hg57.1 (by have := gb_le (A := ab) (by omega) ((s1 - 1) * 32 + (s2 - 1) * 4 + s3 * 2 + s4); omega) ab (by first | assumption | omega) sz) gX5_findGuess_X5_keepIfBetter rfl rfl rfl (by decide +kernel) ⟨Nat.le_of_ble_eq_true rfl, Nat.le_of_ble_eq_true rfl⟩ hP hD (fun _ => po_fstA rfl) rfl rfl hl.1 rfl rfl (Nat.le_of_ble_eq_true rfl) dX5_findGuess_77 ⟨Nat.zero_le _, Nat.zero_le _⟩ (fun u77 H locs p77 hP hD hS => ?_)
                          obtain ⟨gp'_77, gd'_77⟩ := u77
                          try dsimp only at p77 hP hD
                          have hP : va_P G vwCl (((iaW E ia tx z y v kq gp'_77 gd'_77) ++ (txW E tx n (slot oa pi)) ++ (neW E z op hg la tops dpt lst stry srt lin tokA wah fol par_ opn) ++ (lyW E y sett clA) ++ (lyW E v setv'_73 clV'_73) ++ (pkW E (kq 0) kn0 kz0 kl0 kp0 kk0) ++ (pkW E (kq 1) kn1 kz1 kl1 kp1 kk1) ++ (pkW E (kq 2) kn2 kz2 kl2 kp2 kk2)) ++ poW E oa ta tl ct ps sn cb tk) H := hP
                          have hD : va_D A (((iaW E ia tx z y v kq gp'_77 gd'_77) ++ (txW E tx n (slot oa pi)) ++ (neW E z op hg la tops dpt lst stry srt lin tokA wah fol par_ opn) ++ (lyW E y sett clA) ++ (lyW E v setv'_73 clV'_73) ++ (pkW E (kq 0) kn0 kz0 kl0 kp0 kk0) ++ (pkW E (kq 1) kn1 kz1 kl1 kp1 kk1) ++ (pkW E (kq 2) kn2 kz2 kl2 kp2 kk2)) ++ poW E oa ta tl ct ps sn cb tk) := hD
                          refine lv_iinc (v := (nI (s4 + 1))) (lv' := [(4, .int (nI (s4 + 1))), (3, .int (nI s3)), (2, .int (nI s2)), (1, .int (nI s1)), (0, .ref (ia 0))]) hx hb dX5_findGuess_80 hl (k := 0) rfl (k_inc s4) (by decide) rfl (fun ls hl => ?_)
                          refine lv_goto (tgt := 57) hx hb dX5_findGuess_83 (by decide) ?_
                          exact ih57 (s4 + 1) gp'_77 gd'_77 setv'_73 clV'_73 _ _ (by omega) (gb_step hgs hg57 p77) (by omega) hP hD hS ls (lv_sub hl [0, 1, 2, 3, 4] rfl)
                    exact lp57 (2 - 0 + 1) 0 gpX gdX svX cvX _ _ (by decide) (by simpa using hg41) (Nat.lt_succ_self _) hP hD hS ls (lv_sub hl [0, 1, 2, 3, 4] rfl)
              exact lp41 (2 - 0 + 1) 0 gpX gdX svX cvX _ _ (by decide) (by simpa using hg26) (Nat.lt_succ_self _) hP hD hS ls (lv_sub hl [0, 1, 2, 3] rfl)
        exact lp26 (9 - 1 + 1) 1 gpX gdX svX cvX _ _ ⟨by decide, by decide⟩ (by simpa using hg11) (Nat.lt_succ_self _) hP hD hS ls (lv_sub hl [0, 1, 2] rfl)
  exact lp11 (9 - 1 + 1) 1 (-1) gd setv clV _ _ ⟨by decide, by decide⟩ ⟨rfl, fun q => absurd q (by decide)⟩ (Nat.lt_succ_self _) hP hD hS ls (lv_sub hl [0, 1] rfl)
