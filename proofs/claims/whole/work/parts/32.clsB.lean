set_option maxHeartbeats 4000000 in
set_option maxRecDepth 100000 in
theorem c_X2_closeOne (l : Launch) (G : va_G) (E : cEnv) (z : Nat → Nat) (tops dpt lst stry srt lin tokA wah fol par_ opn : Nat → Int32) (k li : Nat) (S : NS) (mm L bb : Nat) (hkq : k = 2 ∨ k = 4) (hli : li < 20) (hlm : li < mm) (hCN : CN (S) (mm) tops dpt lst stry srt lin tokA wah fol par_ opn) (hwf : wfN S L bb) (hbb : bb ≤ 180) (sz : Nat) : Met l yX2_closeOne wsX2_closeOne ({ frames := 0, cells := 0, slots := 0, locals := 0 }) (va_Pc [.ref (z 0), .int (nI k), .int (nI li)] (PW G E (neW E z (nO S) (nD S) (nL S) tops dpt lst stry srt lin tokA wah fol par_ opn) sz)) (va_Qv (fun (u : (Nat → Int32) × (Nat → Int32)) => CN (nClose k li S) (mm) tops dpt lst u.1 srt lin tokA wah fol u.2 opn) (fun (u : (Nat → Int32) × (Nat → Int32)) tQ => va_P G vwCl (neW E z (nO S) (nD (nClose k li S)) (nL S) tops dpt lst u.1 srt lin tokA wah fol u.2 opn) tQ.heap) (va_A (neW E z (nO S) (nD S) (nL S) tops dpt lst stry srt lin tokA wah fol par_ opn) sz)) 0 0 (va_A (neW E z (nO S) (nD S) (nL S) tops dpt lst stry srt lin tokA wah fol par_ opn) sz) := by
  refine Met.ofW (cc := cX2_closeOne) (maxL := 3) (ret := none) (by decide) rfl ?_
  intro p e s m args below meth c s₁ B hml hv
  obtain ⟨rfl, hsz, hP, hK, hD0, hZ⟩ := hv
  have hx := B.exec
  have hb := B.bytes
  have hr := B.returns
  have hts := atoms_spec (ws := wsX2_closeOne) B.pre
  have hown : s.vm.findClass RX2 = some m.cls := findClass_of_methodNamed B.named
  have hlocks := B.notSynchronized
  have hin2 : ∀ w ∈ u_ws RX2 TX2 14, w ∈ wsX2_closeOne := mem_pl [6, 7, 8, 9, 10, 11, 12, 13, 14, 15, 16, 17, 18, 19] (by rfl)
  subst hsz
  have hD := hD0.self (sz := s.heap.size)
  generalize hAe : va_A (neW E z (nO S) (nD S) (nL S) tops dpt lst stry srt lin tokA wah fol par_ opn) s.heap.size = A at hD hZ ⊢
  have hA : ∀ q : Nat, s.heap.size ≤ q → A q := fun q h => by rw [← hAe]; exact Or.inr h
  have hS : va_S A s.heap s.heap [] := va_S.rf
  have hl := lv_entry ([.ref (z 0), .int (nI k), .int (nI li)]) (n := 3) (Nat.le_of_ble_eq_true rfl)
  rw [lg_entry_eq]
  generalize (lg_sl ([.ref (z 0), .int (nI k), .int (nI li)]) ++ List.replicate (3 - (lg_sl ([.ref (z 0), .int (nI k), .int (nI li)])).length) Slot.unset).toArray = ls at hl ⊢
  have hl : lv_has ls 3 [(0, .ref (z 0)), (1, .int (nI k)), (2, .int (nI li))] := hl
  have hwo := hwf.2.1
  have hwd := hwf.1
  refine lv_aload_n hx hb dX2_closeOne_0 rfl (lv_at hl 0 rfl) ?_
  refine va_get (D := G) (ci := 2) (v := .int (nI (nD S))) (C := RX2) (T := TX2) (N := 14) hx hb hts hin2 hown hK hP 0 rfl rfl 12 (by decide) (hts (Cond.fieldLink RX2 50 "IndentRules$Nesting" "height" "I") (List.mem_of_getElem? (i := 1) rfl)) (fun _ h9 => h9) rfl dX2_closeOne_1 ?_
  refine n_if_le (a := (nD S)) (tgt := 55) hx hb (by omega) dX2_closeOne_4 (by decide) (fun c4 => ?_) (fun c4 => ?_)
  · have hno : ¬ (0 < nD S ∧ nF S 0 (nF S 6 (nD S - 1)) = k) := fun q => by omega
    refine lv_aload_n hx hb dX2_closeOne_55 rfl (lv_at hl 0 rfl) ?_
    refine va_get (D := G) (ci := 2) (v := .ref (z 4)) (C := RX2) (T := TX2) (N := 14) hx hb hts hin2 hown hK hP 0 rfl rfl 3 (by decide) (hts (Cond.fieldLink RX2 21 "IndentRules$Nesting" "strays" "[I") (List.mem_of_getElem? (i := 5) rfl)) (fun _ h9 => h9) rfl dX2_closeOne_56 ?_
    refine lv_iload_n hx hb dX2_closeOne_59 rfl (lv_at hl 2 rfl) ?_
    refine lv_dup2_11 hx hb dX2_closeOne_60 rfl rfl ?_
    refine k_iald (D := G) (tys := TYS E) (j := li) (f := stry) (n := 20) hx hb hK hP 4 0 rfl rfl (by omega) (by decide) dX2_closeOne_61 ?_
    rw [(hCN.2.1 li hlm).2.2.2]
    refine lv_iconst (v := (nI 1)) hx hb dX2_closeOne_62 (by decide) ?_
    refine k_iadd (a := (nF S 7 li)) (b := 1) hx hb dX2_closeOne_63 ?_
    refine k_iast (D := G) (tys := TYS E) (j := li) (x := (nI (nF S 7 li + 1))) (f := stry) (n := 20) hx hb hK hP hD hS 4 0 rfl rfl (by omega) (by decide) dX2_closeOne_64 (fun H locs hP hD hS => ?_)
    have hP : va_P G vwCl (neW E z (nO S) (nD S) (nL S) tops dpt lst (upd stry li (nI (nF S 7 li + 1))) srt lin tokA wah fol par_ opn) H := hP
    have hD : va_D A (neW E z (nO S) (nD S) (nL S) tops dpt lst (upd stry li (nI (nF S 7 li + 1))) srt lin tokA wah fol par_ opn) := hD
    obtain ⟨f64, ef64⟩ : ∃ z : Nat → Int32, z = upd stry li (nI (nF S 7 li + 1)) := ⟨_, rfl⟩
    rw [← ef64] at hP hD
    exact W.vret hx hb hr (fun tZ htZ hWZ => ⟨⟨(f64, par_), rfl, by rw [ef64]; exact CN_stray hCN hno, by show va_P G vwCl _ tZ.heap; rw [htZ, show nD (nClose k li S) = nD S by unfold nClose; rw [if_neg hno]]; exact hP⟩, hS.F htZ⟩) hS.2.2 dX2_closeOne_65
  · obtain ⟨c0, hc0⟩ : ∃ z, z = nF S 6 (nD S - 1) := ⟨_, rfl⟩
    have hst : opn (nD S - 1) = nI c0 := by rw [hCN.2.2 (nD S - 1) (by omega), hc0]
    have hclt : c0 < nO S := by rw [hc0]; exact hwf.2.2.1 _ (by omega)
    obtain ⟨q1, q2, q3, q4, q5, q6⟩ := hCN.1 c0 hclt
    have hso := (hwf.2.2.2.1 c0 hclt).2
    refine lv_aload_n hx hb dX2_closeOne_7 rfl (lv_at hl 0 rfl) ?_
    refine va_get (D := G) (ci := 2) (v := .ref (z 6)) (C := RX2) (T := TX2) (N := 14) hx hb hts hin2 hown hK hP 0 rfl rfl 5 (by decide) (hts (Cond.fieldLink RX2 24 "IndentRules$Nesting" "sortOf" "[I") (List.mem_of_getElem? (i := 2) rfl)) (fun _ h9 => h9) rfl dX2_closeOne_8 ?_
    refine lv_aload_n hx hb dX2_closeOne_11 rfl (lv_at hl 0 rfl) ?_
    refine va_get (D := G) (ci := 2) (v := .ref (z 12)) (C := RX2) (T := TX2) (N := 14) hx hb hts hin2 hown hK hP 0 rfl rfl 11 (by decide) (hts (Cond.fieldLink RX2 43 "IndentRules$Nesting" "open" "[I") (List.mem_of_getElem? (i := 3) rfl)) (fun _ h9 => h9) rfl dX2_closeOne_12 ?_
    refine lv_aload_n hx hb dX2_closeOne_15 rfl (lv_at hl 0 rfl) ?_
    refine va_get (D := G) (ci := 2) (v := .int (nI (nD S))) (C := RX2) (T := TX2) (N := 14) hx hb hts hin2 hown hK hP 0 rfl rfl 12 (by decide) (hts (Cond.fieldLink RX2 50 "IndentRules$Nesting" "height" "I") (List.mem_of_getElem? (i := 1) rfl)) (fun _ h9 => h9) rfl dX2_closeOne_16 ?_
    refine lv_iconst (v := (nI 1)) hx hb dX2_closeOne_19 (by decide) ?_
    refine k_isub (a := (nD S)) (b := 1) hx hb (by omega) dX2_closeOne_20 ?_
    refine k_iald (D := G) (tys := TYS E) (j := ((nD S) - 1)) (f := opn) (n := 180) hx hb hK hP 11 0 rfl rfl (by omega) (by decide) dX2_closeOne_21 ?_
    rw [hst]
    refine k_iald (D := G) (tys := TYS E) (j := c0) (f := srt) (n := 180) hx hb hK hP 5 0 rfl rfl (by omega) (by decide) dX2_closeOne_22 ?_
    rw [q1]
    refine lv_iload_n hx hb dX2_closeOne_23 rfl (lv_at hl 1 rfl) ?_
    refine n_icmp_ne (a := (nF S 0 c0)) (b := k) (tgt := 55) hx hb (by omega) (by omega) dX2_closeOne_24 (by decide) (fun c24 => ?_) (fun c24 => ?_)
    · have hno : ¬ (0 < nD S ∧ nF S 0 (nF S 6 (nD S - 1)) = k) := fun q => by rw [← hc0] at q; exact c24 q.2
      refine lv_aload_n hx hb dX2_closeOne_55 rfl (lv_at hl 0 rfl) ?_
      refine va_get (D := G) (ci := 2) (v := .ref (z 4)) (C := RX2) (T := TX2) (N := 14) hx hb hts hin2 hown hK hP 0 rfl rfl 3 (by decide) (hts (Cond.fieldLink RX2 21 "IndentRules$Nesting" "strays" "[I") (List.mem_of_getElem? (i := 5) rfl)) (fun _ h9 => h9) rfl dX2_closeOne_56 ?_
      refine lv_iload_n hx hb dX2_closeOne_59 rfl (lv_at hl 2 rfl) ?_
      refine lv_dup2_11 hx hb dX2_closeOne_60 rfl rfl ?_
      refine k_iald (D := G) (tys := TYS E) (j := li) (f := stry) (n := 20) hx hb hK hP 4 0 rfl rfl (by omega) (by decide) dX2_closeOne_61 ?_
      rw [(hCN.2.1 li hlm).2.2.2]
      refine lv_iconst (v := (nI 1)) hx hb dX2_closeOne_62 (by decide) ?_
      refine k_iadd (a := (nF S 7 li)) (b := 1) hx hb dX2_closeOne_63 ?_
      refine k_iast (D := G) (tys := TYS E) (j := li) (x := (nI (nF S 7 li + 1))) (f := stry) (n := 20) hx hb hK hP hD hS 4 0 rfl rfl (by omega) (by decide) dX2_closeOne_64 (fun H locs hP hD hS => ?_)
      have hP : va_P G vwCl (neW E z (nO S) (nD S) (nL S) tops dpt lst (upd stry li (nI (nF S 7 li + 1))) srt lin tokA wah fol par_ opn) H := hP
      have hD : va_D A (neW E z (nO S) (nD S) (nL S) tops dpt lst (upd stry li (nI (nF S 7 li + 1))) srt lin tokA wah fol par_ opn) := hD
      obtain ⟨f64, ef64⟩ : ∃ z : Nat → Int32, z = upd stry li (nI (nF S 7 li + 1)) := ⟨_, rfl⟩
      rw [← ef64] at hP hD
      exact W.vret hx hb hr (fun tZ htZ hWZ => ⟨⟨(f64, par_), rfl, by rw [ef64]; exact CN_stray hCN hno, by show va_P G vwCl _ tZ.heap; rw [htZ, show nD (nClose k li S) = nD S by unfold nClose; rw [if_neg hno]]; exact hP⟩, hS.F htZ⟩) hS.2.2 dX2_closeOne_65
    · refine lv_aload_n hx hb dX2_closeOne_27 rfl (lv_at hl 0 rfl) ?_
      refine lv_dup hx hb dX2_closeOne_28 rfl ?_
      refine va_get (D := G) (ci := 2) (v := .int (nI (nD S))) (C := RX2) (T := TX2) (N := 14) hx hb hts hin2 hown hK hP 0 rfl rfl 12 (by decide) (hts (Cond.fieldLink RX2 50 "IndentRules$Nesting" "height" "I") (List.mem_of_getElem? (i := 1) rfl)) (fun _ h9 => h9) rfl dX2_closeOne_29 ?_
      refine lv_iconst (v := (nI 1)) hx hb dX2_closeOne_32 (by decide) ?_
      refine k_isub (a := (nD S)) (b := 1) hx hb (by omega) dX2_closeOne_33 ?_
      refine va_put (D := G) (ci := 2) (v := .int (nI ((nD S) - 1))) (ty := .int) (C := RX2) (T := TX2) (N := 14) hx hb hts hin2 tyX2 tyX2_ok nmX2 hown hK hP hD hS 0 rfl rfl 12 (by decide) (hts (Cond.fieldLink RX2 50 "IndentRules$Nesting" "height" "I") (List.mem_of_getElem? (i := 1) rfl)) (fun _ h9 => h9) rfl (by decide +kernel) rfl rfl (Nat.le_of_ble_eq_true rfl) dX2_closeOne_34 (fun H locs hP hD hS => ?_)
      have hP : va_P G vwCl (neW E z (nO S) ((nD S) - 1) (nL S) tops dpt lst stry srt lin tokA wah fol par_ opn) H := hP
      have hD : va_D A (neW E z (nO S) ((nD S) - 1) (nL S) tops dpt lst stry srt lin tokA wah fol par_ opn) := hD
      refine lv_aload_n hx hb dX2_closeOne_37 rfl (lv_at hl 0 rfl) ?_
      refine va_get (D := G) (ci := 2) (v := .ref (z 11)) (C := RX2) (T := TX2) (N := 14) hx hb hts hin2 hown hK hP 0 rfl rfl 10 (by decide) (hts (Cond.fieldLink RX2 40 "IndentRules$Nesting" "partnerLineOf" "[I") (List.mem_of_getElem? (i := 4) rfl)) (fun _ h9 => h9) rfl dX2_closeOne_38 ?_
      refine lv_aload_n hx hb dX2_closeOne_41 rfl (lv_at hl 0 rfl) ?_
      refine va_get (D := G) (ci := 2) (v := .ref (z 12)) (C := RX2) (T := TX2) (N := 14) hx hb hts hin2 hown hK hP 0 rfl rfl 11 (by decide) (hts (Cond.fieldLink RX2 43 "IndentRules$Nesting" "open" "[I") (List.mem_of_getElem? (i := 3) rfl)) (fun _ h9 => h9) rfl dX2_closeOne_42 ?_
      refine lv_aload_n hx hb dX2_closeOne_45 rfl (lv_at hl 0 rfl) ?_
      refine va_get (D := G) (ci := 2) (v := .int (nI ((nD S) - 1))) (C := RX2) (T := TX2) (N := 14) hx hb hts hin2 hown hK hP 0 rfl rfl 12 (by decide) (hts (Cond.fieldLink RX2 50 "IndentRules$Nesting" "height" "I") (List.mem_of_getElem? (i := 1) rfl)) (fun _ h9 => h9) rfl dX2_closeOne_46 ?_
      refine k_iald (D := G) (tys := TYS E) (j := ((nD S) - 1)) (f := opn) (n := 180) hx hb hK hP 11 0 rfl rfl (by omega) (by decide) dX2_closeOne_49 ?_
      rw [hst]
      refine lv_iload_n hx hb dX2_closeOne_50 rfl (lv_at hl 2 rfl) ?_
      refine k_iast (D := G) (tys := TYS E) (j := c0) (x := (nI li)) (f := par_) (n := 180) hx hb hK hP hD hS 10 0 rfl rfl (by omega) (by decide) dX2_closeOne_51 (fun H locs hP hD hS => ?_)
      have hP : va_P G vwCl (neW E z (nO S) ((nD S) - 1) (nL S) tops dpt lst stry srt lin tokA wah fol (upd par_ c0 (nI li)) opn) H := hP
      have hD : va_D A (neW E z (nO S) ((nD S) - 1) (nL S) tops dpt lst stry srt lin tokA wah fol (upd par_ c0 (nI li)) opn) := hD
      obtain ⟨f51, ef51⟩ : ∃ z : Nat → Int32, z = upd par_ c0 (nI li) := ⟨_, rfl⟩
      rw [← ef51] at hP hD
      refine lv_goto (tgt := 65) hx hb dX2_closeOne_52 (by decide) ?_
      exact W.vret hx hb hr (fun tZ htZ hWZ => ⟨⟨(stry, f51), rfl, by rw [ef51, hc0]; exact CN_match hCN (by omega) (by rw [← hc0]; exact c24), by show va_P G vwCl _ tZ.heap; rw [htZ, show nD (nClose k li S) = nD S - 1 by unfold nClose; rw [if_pos ⟨by omega, by rw [← hc0]; exact c24⟩]]; exact hP⟩, hS.F htZ⟩) hS.2.2 dX2_closeOne_65

set_option maxHeartbeats 4000000 in
set_option maxRecDepth 100000 in
theorem c_X2_openOne (l : Launch) (G : va_G) (E : cEnv) (z : Nat → Nat) (tops dpt lst stry srt lin tokA wah fol par_ opn : Nat → Int32) (q q2 : Nat) (tl ct ps : Nat) (sn cb : Int32) (tk : Nat → Int32) (t li i : Nat) (S : NS) (mm : Nat) (ht : t < 1000000000) (hct : ct = len t) (hps : ps = pres t) (htk : ∀ k, k < len t → tk k = nI (tok t k)) (hi : i < pres t) (hli : li < 20) (ho8 : nO S < 180) (hd8 : nD S < 180) (hCN : CN (S) (mm) tops dpt lst stry srt lin tokA wah fol par_ opn) (sz : Nat) : Met l yX2_openOne wsX2_openOne ({ frames := 1, cells := 0, slots := 0, locals := 23 }) (va_Pc [.ref (z 0), .ref q, .int (nI li), .int (nI i)] (PW G E ((neW E z (nO S) (nD S) (nL S) tops dpt lst stry srt lin tokA wah fol par_ opn) ++ [(q, .inr (1, [.ref q2, .int (nI tl), .int (nI ct), .int (nI ps), .int sn, .int cb])), (q2, .inl (E.1, 9, .inl tk))]) sz)) (va_Qv (fun (u : (Nat → Int32) × (Nat → Int32) × (Nat → Int32) × (Nat → Int32) × (Nat → Int32) × (Nat → Int32) × (Nat → Int32)) => CN (nOpen t li i S) (mm) tops dpt lst stry u.1 u.2.1 u.2.2.1 u.2.2.2.1 u.2.2.2.2.1 u.2.2.2.2.2.1 u.2.2.2.2.2.2) (fun (u : (Nat → Int32) × (Nat → Int32) × (Nat → Int32) × (Nat → Int32) × (Nat → Int32) × (Nat → Int32) × (Nat → Int32)) tQ => va_P G vwCl ((neW E z (nO S + 1) (nD S + 1) (nL S) tops dpt lst stry u.1 u.2.1 u.2.2.1 u.2.2.2.1 u.2.2.2.2.1 u.2.2.2.2.2.1 u.2.2.2.2.2.2) ++ [(q, .inr (1, [.ref q2, .int (nI tl), .int (nI ct), .int (nI ps), .int sn, .int cb])), (q2, .inl (E.1, 9, .inl tk))]) tQ.heap) (va_A ((neW E z (nO S) (nD S) (nL S) tops dpt lst stry srt lin tokA wah fol par_ opn) ++ [(q, .inr (1, [.ref q2, .int (nI tl), .int (nI ct), .int (nI ps), .int sn, .int cb])), (q2, .inl (E.1, 9, .inl tk))]) sz)) 0 0 (va_A ((neW E z (nO S) (nD S) (nL S) tops dpt lst stry srt lin tokA wah fol par_ opn) ++ [(q, .inr (1, [.ref q2, .int (nI tl), .int (nI ct), .int (nI ps), .int sn, .int cb])), (q2, .inl (E.1, 9, .inl tk))]) sz) := by
  refine Met.ofW (cc := cX2_openOne) (maxL := 4) (ret := none) (by decide) rfl ?_
  intro p e s m args below meth c s₁ B hml hv
  obtain ⟨rfl, hsz, hP, hK, hD0, hZ⟩ := hv
  have hx := B.exec
  have hb := B.bytes
  have hr := B.returns
  have hts := atoms_spec (ws := wsX2_openOne) B.pre
  have hown : s.vm.findClass RX2 = some m.cls := findClass_of_methodNamed B.named
  have hlocks := B.notSynchronized
  have hin1 : ∀ w ∈ u_ws RX1 TX1 6, w ∈ wsX2_openOne := mem_pl [37, 38, 39, 40, 41, 42] (by rfl)
  have hin2 : ∀ w ∈ u_ws RX2 TX2 14, w ∈ wsX2_openOne := mem_pl [23, 24, 25, 26, 27, 28, 29, 30, 31, 32, 33, 34, 35, 36] (by rfl)
  subst hsz
  have hD := hD0.self (sz := s.heap.size)
  generalize hAe : va_A ((neW E z (nO S) (nD S) (nL S) tops dpt lst stry srt lin tokA wah fol par_ opn) ++ [(q, .inr (1, [.ref q2, .int (nI tl), .int (nI ct), .int (nI ps), .int sn, .int cb])), (q2, .inl (E.1, 9, .inl tk))]) s.heap.size = A at hD hZ ⊢
  have hA : ∀ q : Nat, s.heap.size ≤ q → A q := fun q h => by rw [← hAe]; exact Or.inr h
  have hS : va_S A s.heap s.heap [] := va_S.rf
  have hl := lv_entry ([.ref (z 0), .ref q, .int (nI li), .int (nI i)]) (n := 4) (Nat.le_of_ble_eq_true rfl)
  rw [lg_entry_eq]
  generalize (lg_sl ([.ref (z 0), .ref q, .int (nI li), .int (nI i)]) ++ List.replicate (4 - (lg_sl ([.ref (z 0), .ref q, .int (nI li), .int (nI i)])).length) Slot.unset).toArray = ls at hl ⊢
  have hl : lv_has ls 4 [(0, .ref (z 0)), (1, .ref q), (2, .int (nI li)), (3, .int (nI i))] := hl
  have hl9 := (len_lt 9 t).mp ht
  have hpl := pres_le t
  refine lv_aload_n hx hb dX2_openOne_0 rfl (lv_at hl 0 rfl) ?_
  refine va_get (D := G) (ci := 2) (v := .int (nI (nO S))) (C := RX2) (T := TX2) (N := 14) hx hb hts hin2 hown hK hP 0 rfl rfl 4 (by decide) (hts (Cond.fieldLink RX2 46 "IndentRules$Nesting" "openers" "I") (List.mem_of_getElem? (i := 1) rfl)) (fun _ h9 => h9) rfl dX2_openOne_1 ?_
  refine lv_sipush (v := (nI 180)) hx hb dX2_openOne_4 (by decide) ?_
  refine n_icmp_ge (a := (nO S)) (b := 180) (tgt := 20) hx hb (by omega) (by decide) dX2_openOne_7 (by decide) (fun c7 => absurd c7 (by omega)) (fun c7 => ?_)
  refine lv_aload_n hx hb dX2_openOne_10 rfl (lv_at hl 0 rfl) ?_
  refine va_get (D := G) (ci := 2) (v := .int (nI (nD S))) (C := RX2) (T := TX2) (N := 14) hx hb hts hin2 hown hK hP 0 rfl rfl 12 (by decide) (hts (Cond.fieldLink RX2 50 "IndentRules$Nesting" "height" "I") (List.mem_of_getElem? (i := 2) rfl)) (fun _ h9 => h9) rfl dX2_openOne_11 ?_
  refine lv_sipush (v := (nI 180)) hx hb dX2_openOne_14 (by decide) ?_
  refine n_icmp_lt (a := (nD S)) (b := 180) (tgt := 21) hx hb (by omega) (by decide) dX2_openOne_17 (by decide) (fun c17 => ?_) (fun c17 => absurd c17 (by omega))
  refine lv_aload_n hx hb dX2_openOne_21 rfl (lv_at hl 0 rfl) ?_
  refine va_get (D := G) (ci := 2) (v := .ref (z 6)) (C := RX2) (T := TX2) (N := 14) hx hb hts hin2 hown hK hP 0 rfl rfl 5 (by decide) (hts (Cond.fieldLink RX2 24 "IndentRules$Nesting" "sortOf" "[I") (List.mem_of_getElem? (i := 3) rfl)) (fun _ h9 => h9) rfl dX2_openOne_22 ?_
  refine lv_aload_n hx hb dX2_openOne_25 rfl (lv_at hl 0 rfl) ?_
  refine va_get (D := G) (ci := 2) (v := .int (nI (nO S))) (C := RX2) (T := TX2) (N := 14) hx hb hts hin2 hown hK hP 0 rfl rfl 4 (by decide) (hts (Cond.fieldLink RX2 46 "IndentRules$Nesting" "openers" "I") (List.mem_of_getElem? (i := 1) rfl)) (fun _ h9 => h9) rfl dX2_openOne_26 ?_
  refine lv_aload_n hx hb dX2_openOne_29 rfl (lv_at hl 1 rfl) ?_
  refine va_get (D := G) (ci := 1) (v := .ref q2) (C := RX1) (T := TX1) (N := 6) hx hb hts hin1 hown hK hP 12 rfl rfl 0 (by decide) (hts (Cond.fieldLink RX2 74 "IndentRules$Line" "tokens" "[I") (List.mem_of_getElem? (i := 4) rfl)) (fun _ h9 => h9) rfl dX2_openOne_30 ?_
  refine lv_iload_n hx hb dX2_openOne_33 rfl (lv_at hl 3 rfl) ?_
  refine k_iald (D := G) (tys := TYS E) (j := i) (f := tk) (n := 9) hx hb hK hP 13 0 rfl rfl (by omega) (by decide) dX2_openOne_34 ?_
  rw [htk i (by omega)]
  refine k_iast (D := G) (tys := TYS E) (j := (nO S)) (x := (nI (tok t i))) (f := srt) (n := 180) hx hb hK hP hD hS 5 0 rfl rfl (by omega) (by decide) dX2_openOne_35 (fun H locs hP hD hS => ?_)
  have hP : va_P G vwCl ((neW E z (nO S) (nD S) (nL S) tops dpt lst stry (upd srt (nO S) (nI (tok t i))) lin tokA wah fol par_ opn) ++ [(q, .inr (1, [.ref q2, .int (nI tl), .int (nI ct), .int (nI ps), .int sn, .int cb])), (q2, .inl (E.1, 9, .inl tk))]) H := hP
  have hD : va_D A ((neW E z (nO S) (nD S) (nL S) tops dpt lst stry (upd srt (nO S) (nI (tok t i))) lin tokA wah fol par_ opn) ++ [(q, .inr (1, [.ref q2, .int (nI tl), .int (nI ct), .int (nI ps), .int sn, .int cb])), (q2, .inl (E.1, 9, .inl tk))]) := hD
  obtain ⟨f35, ef35⟩ : ∃ z : Nat → Int32, z = upd srt (nO S) (nI (tok t i)) := ⟨_, rfl⟩
  rw [← ef35] at hP hD
  refine lv_aload_n hx hb dX2_openOne_36 rfl (lv_at hl 0 rfl) ?_
  refine va_get (D := G) (ci := 2) (v := .ref (z 7)) (C := RX2) (T := TX2) (N := 14) hx hb hts hin2 hown hK hP 0 rfl rfl 6 (by decide) (hts (Cond.fieldLink RX2 27 "IndentRules$Nesting" "lineOf" "[I") (List.mem_of_getElem? (i := 5) rfl)) (fun _ h9 => h9) rfl dX2_openOne_37 ?_
  refine lv_aload_n hx hb dX2_openOne_40 rfl (lv_at hl 0 rfl) ?_
  refine va_get (D := G) (ci := 2) (v := .int (nI (nO S))) (C := RX2) (T := TX2) (N := 14) hx hb hts hin2 hown hK hP 0 rfl rfl 4 (by decide) (hts (Cond.fieldLink RX2 46 "IndentRules$Nesting" "openers" "I") (List.mem_of_getElem? (i := 1) rfl)) (fun _ h9 => h9) rfl dX2_openOne_41 ?_
  refine lv_iload_n hx hb dX2_openOne_44 rfl (lv_at hl 2 rfl) ?_
  refine k_iast (D := G) (tys := TYS E) (j := (nO S)) (x := (nI li)) (f := lin) (n := 180) hx hb hK hP hD hS 6 0 rfl rfl (by omega) (by decide) dX2_openOne_45 (fun H locs hP hD hS => ?_)
  have hP : va_P G vwCl ((neW E z (nO S) (nD S) (nL S) tops dpt lst stry f35 (upd lin (nO S) (nI li)) tokA wah fol par_ opn) ++ [(q, .inr (1, [.ref q2, .int (nI tl), .int (nI ct), .int (nI ps), .int sn, .int cb])), (q2, .inl (E.1, 9, .inl tk))]) H := hP
  have hD : va_D A ((neW E z (nO S) (nD S) (nL S) tops dpt lst stry f35 (upd lin (nO S) (nI li)) tokA wah fol par_ opn) ++ [(q, .inr (1, [.ref q2, .int (nI tl), .int (nI ct), .int (nI ps), .int sn, .int cb])), (q2, .inl (E.1, 9, .inl tk))]) := hD
  obtain ⟨f45, ef45⟩ : ∃ z : Nat → Int32, z = upd lin (nO S) (nI li) := ⟨_, rfl⟩
  rw [← ef45] at hP hD
  refine lv_aload_n hx hb dX2_openOne_46 rfl (lv_at hl 0 rfl) ?_
  refine va_get (D := G) (ci := 2) (v := .ref (z 8)) (C := RX2) (T := TX2) (N := 14) hx hb hts hin2 hown hK hP 0 rfl rfl 7 (by decide) (hts (Cond.fieldLink RX2 30 "IndentRules$Nesting" "tokenOf" "[I") (List.mem_of_getElem? (i := 6) rfl)) (fun _ h9 => h9) rfl dX2_openOne_47 ?_
  refine lv_aload_n hx hb dX2_openOne_50 rfl (lv_at hl 0 rfl) ?_
  refine va_get (D := G) (ci := 2) (v := .int (nI (nO S))) (C := RX2) (T := TX2) (N := 14) hx hb hts hin2 hown hK hP 0 rfl rfl 4 (by decide) (hts (Cond.fieldLink RX2 46 "IndentRules$Nesting" "openers" "I") (List.mem_of_getElem? (i := 1) rfl)) (fun _ h9 => h9) rfl dX2_openOne_51 ?_
  refine lv_iload_n hx hb dX2_openOne_54 rfl (lv_at hl 3 rfl) ?_
  refine k_iast (D := G) (tys := TYS E) (j := (nO S)) (x := (nI i)) (f := tokA) (n := 180) hx hb hK hP hD hS 7 0 rfl rfl (by omega) (by decide) dX2_openOne_55 (fun H locs hP hD hS => ?_)
  have hP : va_P G vwCl ((neW E z (nO S) (nD S) (nL S) tops dpt lst stry f35 f45 (upd tokA (nO S) (nI i)) wah fol par_ opn) ++ [(q, .inr (1, [.ref q2, .int (nI tl), .int (nI ct), .int (nI ps), .int sn, .int cb])), (q2, .inl (E.1, 9, .inl tk))]) H := hP
  have hD : va_D A ((neW E z (nO S) (nD S) (nL S) tops dpt lst stry f35 f45 (upd tokA (nO S) (nI i)) wah fol par_ opn) ++ [(q, .inr (1, [.ref q2, .int (nI tl), .int (nI ct), .int (nI ps), .int sn, .int cb])), (q2, .inl (E.1, 9, .inl tk))]) := hD
  obtain ⟨f55, ef55⟩ : ∃ z : Nat → Int32, z = upd tokA (nO S) (nI i) := ⟨_, rfl⟩
  rw [← ef55] at hP hD
  refine lv_aload_n hx hb dX2_openOne_56 rfl (lv_at hl 0 rfl) ?_
  refine va_get (D := G) (ci := 2) (v := .ref (z 9)) (C := RX2) (T := TX2) (N := 14) hx hb hts hin2 hown hK hP 0 rfl rfl 8 (by decide) (hts (Cond.fieldLink RX2 33 "IndentRules$Nesting" "widthAheadOf" "[I") (List.mem_of_getElem? (i := 7) rfl)) (fun _ h9 => h9) rfl dX2_openOne_57 ?_
  refine lv_aload_n hx hb dX2_openOne_60 rfl (lv_at hl 0 rfl) ?_
  refine va_get (D := G) (ci := 2) (v := .int (nI (nO S))) (C := RX2) (T := TX2) (N := 14) hx hb hts hin2 hown hK hP 0 rfl rfl 4 (by decide) (hts (Cond.fieldLink RX2 46 "IndentRules$Nesting" "openers" "I") (List.mem_of_getElem? (i := 1) rfl)) (fun _ h9 => h9) rfl dX2_openOne_61 ?_
  refine lv_aload_n hx hb dX2_openOne_64 rfl (lv_at hl 1 rfl) ?_
  refine lv_iload_n hx hb dX2_openOne_65 rfl (lv_at hl 3 rfl) ?_
  refine rv_i (n := 1) (G := G) (E := E) (As := [.int (nI i)]) (rest := [.int (nI (nO S)), .ref (z 9)]) (ci := 1) (q0 := 0) ⟨hx, hb, hml, hown, hts⟩ hK hZ hS (c_X1_widthAhead l G E q q2 tl ct ps sn cb tk i t (by first | assumption | omega) (by first | assumption | omega) (by first | assumption | omega) (by omega)) gX2_openOne_X1_widthAhead rfl rfl rfl (by decide +kernel) ⟨Nat.le_of_ble_eq_true rfl, Nat.le_of_ble_eq_true rfl⟩ (hP.sub (ws' := ([(q, .inr (1, [.ref q2, .int (nI tl), .int (nI ct), .int (nI ps), .int sn, .int cb])), (q2, .inl (E.1, 9, .inl tk))])) [12, 13] rfl) rfl rfl hl.1 rfl rfl (Nat.le_of_ble_eq_true rfl) dX2_openOne_66 ⟨Nat.zero_le _, Nat.zero_le _⟩ (fun r66 p66 => ?_)
  subst p66
  refine k_iast (D := G) (tys := TYS E) (j := (nO S)) (x := (nI (wsum t i))) (f := wah) (n := 180) hx hb hK hP hD hS 8 0 rfl rfl (by omega) (by decide) dX2_openOne_69 (fun H locs hP hD hS => ?_)
  have hP : va_P G vwCl ((neW E z (nO S) (nD S) (nL S) tops dpt lst stry f35 f45 f55 (upd wah (nO S) (nI (wsum t i))) fol par_ opn) ++ [(q, .inr (1, [.ref q2, .int (nI tl), .int (nI ct), .int (nI ps), .int sn, .int cb])), (q2, .inl (E.1, 9, .inl tk))]) H := hP
  have hD : va_D A ((neW E z (nO S) (nD S) (nL S) tops dpt lst stry f35 f45 f55 (upd wah (nO S) (nI (wsum t i))) fol par_ opn) ++ [(q, .inr (1, [.ref q2, .int (nI tl), .int (nI ct), .int (nI ps), .int sn, .int cb])), (q2, .inl (E.1, 9, .inl tk))]) := hD
  obtain ⟨f69, ef69⟩ : ∃ z : Nat → Int32, z = upd wah (nO S) (nI (wsum t i)) := ⟨_, rfl⟩
  rw [← ef69] at hP hD
  refine lv_aload_n hx hb dX2_openOne_70 rfl (lv_at hl 0 rfl) ?_
  refine va_get (D := G) (ci := 2) (v := .ref (z 10)) (C := RX2) (T := TX2) (N := 14) hx hb hts hin2 hown hK hP 0 rfl rfl 9 (by decide) (hts (Cond.fieldLink RX2 36 "IndentRules$Nesting" "followed" "[Z") (List.mem_of_getElem? (i := 8) rfl)) (fun _ h9 => h9) rfl dX2_openOne_71 ?_
  refine lv_aload_n hx hb dX2_openOne_74 rfl (lv_at hl 0 rfl) ?_
  refine va_get (D := G) (ci := 2) (v := .int (nI (nO S))) (C := RX2) (T := TX2) (N := 14) hx hb hts hin2 hown hK hP 0 rfl rfl 4 (by decide) (hts (Cond.fieldLink RX2 46 "IndentRules$Nesting" "openers" "I") (List.mem_of_getElem? (i := 1) rfl)) (fun _ h9 => h9) rfl dX2_openOne_75 ?_
  refine lv_aload_n hx hb dX2_openOne_78 rfl (lv_at hl 1 rfl) ?_
  refine lv_iload_n hx hb dX2_openOne_79 rfl (lv_at hl 3 rfl) ?_
  refine rv_i (n := 1) (G := G) (E := E) (As := [.int (nI i)]) (rest := [.int (nI (nO S)), .ref (z 10)]) (ci := 1) (q0 := 0) ⟨hx, hb, hml, hown, hts⟩ hK hZ hS (c_X1_isFollowed l G E q q2 tl ct ps sn cb tk i t (by first | assumption | omega) (by first | assumption | omega) (by first | assumption | omega) (by first | assumption | omega) (by omega)) gX2_openOne_X1_isFollowed rfl rfl rfl (by decide +kernel) ⟨Nat.le_of_ble_eq_true rfl, Nat.le_of_ble_eq_true rfl⟩ (hP.sub (ws' := ([(q, .inr (1, [.ref q2, .int (nI tl), .int (nI ct), .int (nI ps), .int sn, .int cb])), (q2, .inl (E.1, 9, .inl tk))])) [12, 13] rfl) rfl rfl hl.1 rfl rfl (Nat.le_of_ble_eq_true rfl) dX2_openOne_80 ⟨Nat.zero_le _, Nat.zero_le _⟩ (fun r80 p80 => ?_)
  subst p80
  refine k_zast (D := G) (tys := TYS E) (j := (nO S)) (v := (folw t i)) (f := fol) (n := 180) hx hb hK hP hD hS 9 1 rfl rfl (folw_le t i) (by omega) (by decide) dX2_openOne_83 (fun H locs hP hD hS => ?_)
  have hP : va_P G vwCl ((neW E z (nO S) (nD S) (nL S) tops dpt lst stry f35 f45 f55 f69 (upd fol (nO S) (nI (folw t i))) par_ opn) ++ [(q, .inr (1, [.ref q2, .int (nI tl), .int (nI ct), .int (nI ps), .int sn, .int cb])), (q2, .inl (E.1, 9, .inl tk))]) H := hP
  have hD : va_D A ((neW E z (nO S) (nD S) (nL S) tops dpt lst stry f35 f45 f55 f69 (upd fol (nO S) (nI (folw t i))) par_ opn) ++ [(q, .inr (1, [.ref q2, .int (nI tl), .int (nI ct), .int (nI ps), .int sn, .int cb])), (q2, .inl (E.1, 9, .inl tk))]) := hD
  obtain ⟨f83, ef83⟩ : ∃ z : Nat → Int32, z = upd fol (nO S) (nI (folw t i)) := ⟨_, rfl⟩
  rw [← ef83] at hP hD
  refine lv_aload_n hx hb dX2_openOne_84 rfl (lv_at hl 0 rfl) ?_
  refine va_get (D := G) (ci := 2) (v := .ref (z 11)) (C := RX2) (T := TX2) (N := 14) hx hb hts hin2 hown hK hP 0 rfl rfl 10 (by decide) (hts (Cond.fieldLink RX2 40 "IndentRules$Nesting" "partnerLineOf" "[I") (List.mem_of_getElem? (i := 9) rfl)) (fun _ h9 => h9) rfl dX2_openOne_85 ?_
  refine lv_aload_n hx hb dX2_openOne_88 rfl (lv_at hl 0 rfl) ?_
  refine va_get (D := G) (ci := 2) (v := .int (nI (nO S))) (C := RX2) (T := TX2) (N := 14) hx hb hts hin2 hown hK hP 0 rfl rfl 4 (by decide) (hts (Cond.fieldLink RX2 46 "IndentRules$Nesting" "openers" "I") (List.mem_of_getElem? (i := 1) rfl)) (fun _ h9 => h9) rfl dX2_openOne_89 ?_
  refine lv_bipush (v := (-9)) hx hb dX2_openOne_92 (by decide) ?_
  refine k_iast (D := G) (tys := TYS E) (j := (nO S)) (x := (-9)) (f := par_) (n := 180) hx hb hK hP hD hS 10 0 rfl rfl (by omega) (by decide) dX2_openOne_94 (fun H locs hP hD hS => ?_)
  have hP : va_P G vwCl ((neW E z (nO S) (nD S) (nL S) tops dpt lst stry f35 f45 f55 f69 f83 (upd par_ (nO S) (-9)) opn) ++ [(q, .inr (1, [.ref q2, .int (nI tl), .int (nI ct), .int (nI ps), .int sn, .int cb])), (q2, .inl (E.1, 9, .inl tk))]) H := hP
  have hD : va_D A ((neW E z (nO S) (nD S) (nL S) tops dpt lst stry f35 f45 f55 f69 f83 (upd par_ (nO S) (-9)) opn) ++ [(q, .inr (1, [.ref q2, .int (nI tl), .int (nI ct), .int (nI ps), .int sn, .int cb])), (q2, .inl (E.1, 9, .inl tk))]) := hD
  obtain ⟨f94, ef94⟩ : ∃ z : Nat → Int32, z = upd par_ (nO S) (-9) := ⟨_, rfl⟩
  rw [← ef94] at hP hD
  refine lv_aload_n hx hb dX2_openOne_95 rfl (lv_at hl 0 rfl) ?_
  refine va_get (D := G) (ci := 2) (v := .ref (z 12)) (C := RX2) (T := TX2) (N := 14) hx hb hts hin2 hown hK hP 0 rfl rfl 11 (by decide) (hts (Cond.fieldLink RX2 43 "IndentRules$Nesting" "open" "[I") (List.mem_of_getElem? (i := 10) rfl)) (fun _ h9 => h9) rfl dX2_openOne_96 ?_
  refine lv_aload_n hx hb dX2_openOne_99 rfl (lv_at hl 0 rfl) ?_
  refine va_get (D := G) (ci := 2) (v := .int (nI (nD S))) (C := RX2) (T := TX2) (N := 14) hx hb hts hin2 hown hK hP 0 rfl rfl 12 (by decide) (hts (Cond.fieldLink RX2 50 "IndentRules$Nesting" "height" "I") (List.mem_of_getElem? (i := 2) rfl)) (fun _ h9 => h9) rfl dX2_openOne_100 ?_
  refine lv_aload_n hx hb dX2_openOne_103 rfl (lv_at hl 0 rfl) ?_
  refine va_get (D := G) (ci := 2) (v := .int (nI (nO S))) (C := RX2) (T := TX2) (N := 14) hx hb hts hin2 hown hK hP 0 rfl rfl 4 (by decide) (hts (Cond.fieldLink RX2 46 "IndentRules$Nesting" "openers" "I") (List.mem_of_getElem? (i := 1) rfl)) (fun _ h9 => h9) rfl dX2_openOne_104 ?_
  refine k_iast (D := G) (tys := TYS E) (j := (nD S)) (x := (nI (nO S))) (f := opn) (n := 180) hx hb hK hP hD hS 11 0 rfl rfl (by omega) (by decide) dX2_openOne_107 (fun H locs hP hD hS => ?_)
  have hP : va_P G vwCl ((neW E z (nO S) (nD S) (nL S) tops dpt lst stry f35 f45 f55 f69 f83 f94 (upd opn (nD S) (nI (nO S)))) ++ [(q, .inr (1, [.ref q2, .int (nI tl), .int (nI ct), .int (nI ps), .int sn, .int cb])), (q2, .inl (E.1, 9, .inl tk))]) H := hP
  have hD : va_D A ((neW E z (nO S) (nD S) (nL S) tops dpt lst stry f35 f45 f55 f69 f83 f94 (upd opn (nD S) (nI (nO S)))) ++ [(q, .inr (1, [.ref q2, .int (nI tl), .int (nI ct), .int (nI ps), .int sn, .int cb])), (q2, .inl (E.1, 9, .inl tk))]) := hD
  obtain ⟨f107, ef107⟩ : ∃ z : Nat → Int32, z = upd opn (nD S) (nI (nO S)) := ⟨_, rfl⟩
  rw [← ef107] at hP hD
  refine lv_aload_n hx hb dX2_openOne_108 rfl (lv_at hl 0 rfl) ?_
  refine lv_dup hx hb dX2_openOne_109 rfl ?_
  refine va_get (D := G) (ci := 2) (v := .int (nI (nD S))) (C := RX2) (T := TX2) (N := 14) hx hb hts hin2 hown hK hP 0 rfl rfl 12 (by decide) (hts (Cond.fieldLink RX2 50 "IndentRules$Nesting" "height" "I") (List.mem_of_getElem? (i := 2) rfl)) (fun _ h9 => h9) rfl dX2_openOne_110 ?_
  refine lv_iconst (v := (nI 1)) hx hb dX2_openOne_113 (by decide) ?_
  refine k_iadd (a := (nD S)) (b := 1) hx hb dX2_openOne_114 ?_
  refine va_put (D := G) (ci := 2) (v := .int (nI (nD S + 1))) (ty := .int) (C := RX2) (T := TX2) (N := 14) hx hb hts hin2 tyX2 tyX2_ok nmX2 hown hK hP hD hS 0 rfl rfl 12 (by decide) (hts (Cond.fieldLink RX2 50 "IndentRules$Nesting" "height" "I") (List.mem_of_getElem? (i := 2) rfl)) (fun _ h9 => h9) rfl (by decide +kernel) rfl rfl (Nat.le_of_ble_eq_true rfl) dX2_openOne_115 (fun H locs hP hD hS => ?_)
  have hP : va_P G vwCl ((neW E z (nO S) (nD S + 1) (nL S) tops dpt lst stry f35 f45 f55 f69 f83 f94 f107) ++ [(q, .inr (1, [.ref q2, .int (nI tl), .int (nI ct), .int (nI ps), .int sn, .int cb])), (q2, .inl (E.1, 9, .inl tk))]) H := hP
  have hD : va_D A ((neW E z (nO S) (nD S + 1) (nL S) tops dpt lst stry f35 f45 f55 f69 f83 f94 f107) ++ [(q, .inr (1, [.ref q2, .int (nI tl), .int (nI ct), .int (nI ps), .int sn, .int cb])), (q2, .inl (E.1, 9, .inl tk))]) := hD
  refine lv_aload_n hx hb dX2_openOne_118 rfl (lv_at hl 0 rfl) ?_
  refine lv_dup hx hb dX2_openOne_119 rfl ?_
  refine va_get (D := G) (ci := 2) (v := .int (nI (nO S))) (C := RX2) (T := TX2) (N := 14) hx hb hts hin2 hown hK hP 0 rfl rfl 4 (by decide) (hts (Cond.fieldLink RX2 46 "IndentRules$Nesting" "openers" "I") (List.mem_of_getElem? (i := 1) rfl)) (fun _ h9 => h9) rfl dX2_openOne_120 ?_
  refine lv_iconst (v := (nI 1)) hx hb dX2_openOne_123 (by decide) ?_
  refine k_iadd (a := (nO S)) (b := 1) hx hb dX2_openOne_124 ?_
  refine va_put (D := G) (ci := 2) (v := .int (nI (nO S + 1))) (ty := .int) (C := RX2) (T := TX2) (N := 14) hx hb hts hin2 tyX2 tyX2_ok nmX2 hown hK hP hD hS 0 rfl rfl 4 (by decide) (hts (Cond.fieldLink RX2 46 "IndentRules$Nesting" "openers" "I") (List.mem_of_getElem? (i := 1) rfl)) (fun _ h9 => h9) rfl (by decide +kernel) rfl rfl (Nat.le_of_ble_eq_true rfl) dX2_openOne_125 (fun H locs hP hD hS => ?_)
  have hP : va_P G vwCl ((neW E z (nO S + 1) (nD S + 1) (nL S) tops dpt lst stry f35 f45 f55 f69 f83 f94 f107) ++ [(q, .inr (1, [.ref q2, .int (nI tl), .int (nI ct), .int (nI ps), .int sn, .int cb])), (q2, .inl (E.1, 9, .inl tk))]) H := hP
  have hD : va_D A ((neW E z (nO S + 1) (nD S + 1) (nL S) tops dpt lst stry f35 f45 f55 f69 f83 f94 f107) ++ [(q, .inr (1, [.ref q2, .int (nI tl), .int (nI ct), .int (nI ps), .int sn, .int cb])), (q2, .inl (E.1, 9, .inl tk))]) := hD
  exact W.vret hx hb hr (fun tZ htZ hWZ => ⟨⟨(f35, f45, f55, f69, f83, f94, f107), rfl, by rw [ef35, ef45, ef55, ef69, ef83, ef94, ef107]; exact CN_open hCN, by show va_P G vwCl _ tZ.heap; rw [htZ]; exact hP⟩, hS.F htZ⟩) hS.2.2 dX2_openOne_128

set_option maxHeartbeats 4000000 in
set_option maxRecDepth 100000 in
theorem c_X2_readLine (l : Launch) (G : va_G) (E : cEnv) (z : Nat → Nat) (tops dpt lst stry srt lin tokA wah fol par_ opn : Nat → Int32) (q q2 : Nat) (tl ct ps : Nat) (sn cb : Int32) (tk : Nat → Int32) (t li : Nat) (S : NS) (mm L bb : Nat) (ht : t < 1000000000) (hct : ct = len t) (hps : ps = pres t) (htk : ∀ k, k < len t → tk k = nI (tok t k)) (hli : li < 20) (hlm : li < mm) (hlL : li < L) (hCN : CN (S) (mm) tops dpt lst stry srt lin tokA wah fol par_ opn) (hwf : wfN S L bb) (hbb : bb + 9 ≤ 180) (sz : Nat) : Met l yX2_readLine wsX2_readLine ({ frames := 2, cells := 0, slots := 0, locals := 46 }) (va_Pc [.ref (z 0), .ref q, .int (nI li)] (PW G E ((neW E z (nO S) (nD S) (nL S) tops dpt lst stry srt lin tokA wah fol par_ opn) ++ [(q, .inr (1, [.ref q2, .int (nI tl), .int (nI ct), .int (nI ps), .int sn, .int cb])), (q2, .inl (E.1, 9, .inl tk))]) sz)) (va_Qv (fun (u : (Nat → Int32) × (Nat → Int32) × (Nat → Int32) × (Nat → Int32) × (Nat → Int32) × (Nat → Int32) × (Nat → Int32) × (Nat → Int32)) => CN (nLine t li S (pres t)) (mm) tops dpt lst u.1 u.2.1 u.2.2.1 u.2.2.2.1 u.2.2.2.2.1 u.2.2.2.2.2.1 u.2.2.2.2.2.2.1 u.2.2.2.2.2.2.2) (fun (u : (Nat → Int32) × (Nat → Int32) × (Nat → Int32) × (Nat → Int32) × (Nat → Int32) × (Nat → Int32) × (Nat → Int32) × (Nat → Int32)) tQ => va_P G vwCl ((neW E z (nO (nLine t li S (pres t))) (nD (nLine t li S (pres t))) (nL (nLine t li S (pres t))) tops dpt lst u.1 u.2.1 u.2.2.1 u.2.2.2.1 u.2.2.2.2.1 u.2.2.2.2.2.1 u.2.2.2.2.2.2.1 u.2.2.2.2.2.2.2) ++ [(q, .inr (1, [.ref q2, .int (nI tl), .int (nI ct), .int (nI ps), .int sn, .int cb])), (q2, .inl (E.1, 9, .inl tk))]) tQ.heap) (va_A ((neW E z (nO S) (nD S) (nL S) tops dpt lst stry srt lin tokA wah fol par_ opn) ++ [(q, .inr (1, [.ref q2, .int (nI tl), .int (nI ct), .int (nI ps), .int sn, .int cb])), (q2, .inl (E.1, 9, .inl tk))]) sz)) 0 0 (va_A ((neW E z (nO S) (nD S) (nL S) tops dpt lst stry srt lin tokA wah fol par_ opn) ++ [(q, .inr (1, [.ref q2, .int (nI tl), .int (nI ct), .int (nI ps), .int sn, .int cb])), (q2, .inl (E.1, 9, .inl tk))]) sz) := by
  refine Met.ofW (cc := cX2_readLine) (maxL := 5) (ret := none) (by decide) rfl ?_
  intro p e s m args below meth c s₁ B hml hv
  obtain ⟨rfl, hsz, hP, hK, hD0, hZ⟩ := hv
  have hx := B.exec
  have hb := B.bytes
  have hr := B.returns
  have hts := atoms_spec (ws := wsX2_readLine) B.pre
  have hown : s.vm.findClass RX2 = some m.cls := findClass_of_methodNamed B.named
  have hlocks := B.notSynchronized
  have hin1 : ∀ w ∈ u_ws RX1 TX1 6, w ∈ wsX2_readLine := mem_pl [35, 36, 37, 38, 39, 40] (by rfl)
  have hin2 : ∀ w ∈ u_ws RX2 TX2 14, w ∈ wsX2_readLine := mem_pl [41, 42, 43, 44, 45, 46, 47, 48, 49, 50, 51, 52, 53, 54] (by rfl)
  subst hsz
  have hD := hD0.self (sz := s.heap.size)
  generalize hAe : va_A ((neW E z (nO S) (nD S) (nL S) tops dpt lst stry srt lin tokA wah fol par_ opn) ++ [(q, .inr (1, [.ref q2, .int (nI tl), .int (nI ct), .int (nI ps), .int sn, .int cb])), (q2, .inl (E.1, 9, .inl tk))]) s.heap.size = A at hD hZ ⊢
  have hA : ∀ q : Nat, s.heap.size ≤ q → A q := fun q h => by rw [← hAe]; exact Or.inr h
  have hS : va_S A s.heap s.heap [] := va_S.rf
  have hl := lv_entry ([.ref (z 0), .ref q, .int (nI li)]) (n := 5) (Nat.le_of_ble_eq_true rfl)
  rw [lg_entry_eq]
  generalize (lg_sl ([.ref (z 0), .ref q, .int (nI li)]) ++ List.replicate (5 - (lg_sl ([.ref (z 0), .ref q, .int (nI li)])).length) Slot.unset).toArray = ls at hl ⊢
  have hl : lv_has ls 5 [(0, .ref (z 0)), (1, .ref q), (2, .int (nI li))] := hl
  have hl9 := (len_lt 9 t).mp ht
  have hpl := pres_le t
  refine lv_iconst (v := (nI 0)) hx hb dX2_readLine_0 (by decide) ?_
  refine lv_istore_n (lv' := [(3, .int (nI 0)), (0, .ref (z 0)), (1, .ref q), (2, .int (nI li))]) hx hb dX2_readLine_1 rfl hl (by decide) rfl (fun ls hl => ?_)
  have lp2 : ∀ (kk : Nat) (i : Nat) (stryX : Nat → Int32) (srtX : Nat → Int32) (linX : Nat → Int32) (tokAX : Nat → Int32) (wahX : Nat → Int32) (folX : Nat → Int32) (par_X : Nat → Int32) (opnX : Nat → Int32) (H : Heap) (locs : List Loc), (i ≤ pres t) → (CN (nLine t li S i) (mm) tops dpt lst stryX srtX linX tokAX wahX folX par_X opnX) → pres t - i < kk → va_P G vwCl ((neW E z (nO (nLine t li S i)) (nD (nLine t li S i)) (nL (nLine t li S i)) tops dpt lst stryX srtX linX tokAX wahX folX par_X opnX) ++ [(q, .inr (1, [.ref q2, .int (nI tl), .int (nI ct), .int (nI ps), .int sn, .int cb])), (q2, .inl (E.1, 9, .inl tk))]) H → va_D A ((neW E z (nO (nLine t li S i)) (nD (nLine t li S i)) (nL (nLine t li S i)) tops dpt lst stryX srtX linX tokAX wahX folX par_X opnX) ++ [(q, .inr (1, [.ref q2, .int (nI tl), .int (nI ct), .int (nI ps), .int sn, .int cb])), (q2, .inl (E.1, 9, .inl tk))]) → va_S A s.heap H locs → ∀ ls : Array Slot, lv_has ls 5 [(3, .int (nI i)), (0, .ref (z 0)), (1, .ref q), (2, .int (nI li))] → W p l e (headSpec wsX2_readLine ({ frames := 2, cells := 0, slots := 0, locals := 46 } : Room)).room s m ([.ref (z 0), .ref q, .int (nI li)] : List Value).toArray below meth c H locs 0 0 (MQ below (va_Qv (fun (u : (Nat → Int32) × (Nat → Int32) × (Nat → Int32) × (Nat → Int32) × (Nat → Int32) × (Nat → Int32) × (Nat → Int32) × (Nat → Int32)) => CN (nLine t li S (pres t)) (mm) tops dpt lst u.1 u.2.1 u.2.2.1 u.2.2.2.1 u.2.2.2.2.1 u.2.2.2.2.2.1 u.2.2.2.2.2.2.1 u.2.2.2.2.2.2.2) (fun (u : (Nat → Int32) × (Nat → Int32) × (Nat → Int32) × (Nat → Int32) × (Nat → Int32) × (Nat → Int32) × (Nat → Int32) × (Nat → Int32)) tQ => va_P G vwCl ((neW E z (nO (nLine t li S (pres t))) (nD (nLine t li S (pres t))) (nL (nLine t li S (pres t))) tops dpt lst u.1 u.2.1 u.2.2.1 u.2.2.2.1 u.2.2.2.2.1 u.2.2.2.2.2.1 u.2.2.2.2.2.2.1 u.2.2.2.2.2.2.2) ++ [(q, .inr (1, [.ref q2, .int (nI tl), .int (nI ct), .int (nI ps), .int sn, .int cb])), (q2, .inl (E.1, 9, .inl tk))]) tQ.heap) A) ([.ref (z 0), .ref q, .int (nI li)] : List Value).toArray s 0 0 A) (F0 m 2 ls []) := by
    intro kk
    induction kk with
    | zero => intro i stryX srtX linX tokAX wahX folX par_X opnX H locs hi hC2 hkk; exact absurd hkk (Nat.not_lt_zero _)
    | succ kk ih2 =>
      intro i stryX srtX linX tokAX wahX folX par_X opnX H locs hi hC2 hkk hP hD hS ls hl
      refine lv_iload_n hx hb dX2_readLine_2 rfl (lv_at hl 0 rfl) ?_
      refine lv_aload_n hx hb dX2_readLine_3 rfl (lv_at hl 2 rfl) ?_
      refine va_get (D := G) (ci := 1) (v := .int (nI ps)) (C := RX1) (T := TX1) (N := 6) hx hb hts hin1 hown hK hP 12 rfl rfl 3 (by decide) (hts (Cond.fieldLink RX2 69 "IndentRules$Line" "present" "I") (List.mem_of_getElem? (i := 1) rfl)) (fun _ h9 => h9) rfl dX2_readLine_4 ?_
      refine n_icmp_ge (a := i) (b := ps) (tgt := 86) hx hb (by omega) (by omega) dX2_readLine_7 (by decide) (fun c7 => ?_) (fun c7 => ?_)
      · exact W.vret hx hb hr (fun tZ htZ hWZ => ⟨⟨(stryX, srtX, linX, tokAX, wahX, folX, par_X, opnX), rfl, by rw [show i = pres t by omega] at hC2; exact hC2, by rw [show i = pres t by omega] at hP; show va_P G vwCl _ tZ.heap; rw [htZ]; exact hP⟩, hS.F htZ⟩) hS.2.2 dX2_readLine_86
      · have hwk := wfN_line (t := t) (li := li) hwf hlL i
        have hwo := hwk.2.1
        have hwd := hwk.1
        have htl := tok_lt t i
        refine lv_aload_n hx hb dX2_readLine_10 rfl (lv_at hl 2 rfl) ?_
        refine va_get (D := G) (ci := 1) (v := .ref q2) (C := RX1) (T := TX1) (N := 6) hx hb hts hin1 hown hK hP 12 rfl rfl 0 (by decide) (hts (Cond.fieldLink RX2 74 "IndentRules$Line" "tokens" "[I") (List.mem_of_getElem? (i := 2) rfl)) (fun _ h9 => h9) rfl dX2_readLine_11 ?_
        refine lv_iload_n hx hb dX2_readLine_14 rfl (lv_at hl 0 rfl) ?_
        refine k_iald (D := G) (tys := TYS E) (j := i) (f := tk) (n := 9) hx hb hK hP 13 0 rfl rfl (by omega) (by decide) dX2_readLine_15 ?_
        rw [htk i (by omega)]
        refine lv_istore (lv' := [(4, .int (nI (tok t i))), (3, .int (nI i)), (0, .ref (z 0)), (1, .ref q), (2, .int (nI li))]) hx hb dX2_readLine_16 hl (by decide) rfl (fun ls hl => ?_)
        refine lv_iload hx hb dX2_readLine_18 (lv_at hl 0 rfl) ?_
        refine lv_iconst (v := (nI 2)) hx hb dX2_readLine_20 (by decide) ?_
        refine n_icmp_eq (a := (tok t i)) (b := 2) (tgt := 30) hx hb (by omega) (by decide) dX2_readLine_21 (by decide) (fun c21 => ?_) (fun c21 => ?_)
        · refine lv_aload_n hx hb dX2_readLine_30 rfl (lv_at hl 2 rfl) ?_
          refine lv_aload_n hx hb dX2_readLine_31 rfl (lv_at hl 3 rfl) ?_
          refine lv_iload_n hx hb dX2_readLine_32 rfl (lv_at hl 4 rfl) ?_
          refine lv_iload_n hx hb dX2_readLine_33 rfl (lv_at hl 1 rfl) ?_
          refine wf_v (n := 3) (G := G) (E := E) (As := [.ref q, .int (nI li), .int (nI i)]) (rest := []) (ci := 2) (q0 := 0) (wn := fun (u : (Nat → Int32) × (Nat → Int32) × (Nat → Int32) × (Nat → Int32) × (Nat → Int32) × (Nat → Int32) × (Nat → Int32)) => (neW E z (nO (nLine t li S i) + 1) (nD (nLine t li S i) + 1) (nL (nLine t li S i)) tops dpt lst stryX u.1 u.2.1 u.2.2.1 u.2.2.2.1 u.2.2.2.2.1 u.2.2.2.2.2.1 u.2.2.2.2.2.2) ++ [(q, .inr (1, [.ref q2, .int (nI tl), .int (nI ct), .int (nI ps), .int sn, .int cb])), (q2, .inl (E.1, 9, .inl tk))]) ⟨hx, hb, hml, hown, hts⟩ hK hZ hS hA (fun sz => c_X2_openOne l G E z tops dpt lst stryX srtX linX tokAX wahX folX par_X opnX q q2 tl ct ps sn cb tk t li i (nLine t li S i) mm (by first | assumption | omega) (by first | assumption | omega) (by first | assumption | omega) (by first | assumption | omega) (by omega) (by first | assumption | omega) (by omega) (by omega) hC2 sz) gX2_readLine_X2_openOne rfl rfl rfl (by decide +kernel) ⟨Nat.le_of_ble_eq_true rfl, Nat.le_of_ble_eq_true rfl⟩ hP hD (fun _ => rfl) rfl rfl hl.1 rfl rfl (Nat.le_of_ble_eq_true rfl) dX2_readLine_34 ⟨Nat.zero_le _, Nat.zero_le _⟩ (fun u34 H locs p34 hP hD hS => ?_)
          obtain ⟨srt'_34, lin'_34, tokA'_34, wah'_34, fol'_34, par_'_34, opn'_34⟩ := u34
          dsimp only at p34 hP hD
          have hP : va_P G vwCl ((neW E z (nO (nLine t li S i) + 1) (nD (nLine t li S i) + 1) (nL (nLine t li S i)) tops dpt lst stryX srt'_34 lin'_34 tokA'_34 wah'_34 fol'_34 par_'_34 opn'_34) ++ [(q, .inr (1, [.ref q2, .int (nI tl), .int (nI ct), .int (nI ps), .int sn, .int cb])), (q2, .inl (E.1, 9, .inl tk))]) H := hP
          have hD : va_D A ((neW E z (nO (nLine t li S i) + 1) (nD (nLine t li S i) + 1) (nL (nLine t li S i)) tops dpt lst stryX srt'_34 lin'_34 tokA'_34 wah'_34 fol'_34 par_'_34 opn'_34) ++ [(q, .inr (1, [.ref q2, .int (nI tl), .int (nI ct), .int (nI ps), .int sn, .int cb])), (q2, .inl (E.1, 9, .inl tk))]) := hD
          refine lv_goto (tgt := 67) hx hb dX2_readLine_37 (by decide) ?_
          refine lv_iload hx hb dX2_readLine_67 (lv_at hl 0 rfl) ?_
          refine lv_bipush (v := (nI 9)) hx hb dX2_readLine_69 (by decide) ?_
          refine n_icmp_eq (a := (tok t i)) (b := 9) (tgt := 80) hx hb (by omega) (by decide) dX2_readLine_71 (by decide) (fun c71 => absurd c71 (by omega)) (fun c71 => ?_)
          refine lv_aload_n hx hb dX2_readLine_74 rfl (lv_at hl 2 rfl) ?_
          refine lv_iload hx hb dX2_readLine_75 (lv_at hl 0 rfl) ?_
          refine va_put (D := G) (ci := 2) (v := .int (nI (tok t i))) (ty := .int) (C := RX2) (T := TX2) (N := 14) hx hb hts hin2 tyX2 tyX2_ok nmX2 hown hK hP hD hS 0 rfl rfl 13 (by decide) (hts (Cond.fieldLink RX2 53 "IndentRules$Nesting" "last" "I") (List.mem_of_getElem? (i := 3) rfl)) (fun _ h9 => h9) rfl (by decide +kernel) rfl rfl (Nat.le_of_ble_eq_true rfl) dX2_readLine_77 (fun H locs hP hD hS => ?_)
          have hP : va_P G vwCl ((neW E z (nO (nLine t li S i) + 1) (nD (nLine t li S i) + 1) (tok t i) tops dpt lst stryX srt'_34 lin'_34 tokA'_34 wah'_34 fol'_34 par_'_34 opn'_34) ++ [(q, .inr (1, [.ref q2, .int (nI tl), .int (nI ct), .int (nI ps), .int sn, .int cb])), (q2, .inl (E.1, 9, .inl tk))]) H := hP
          have hD : va_D A ((neW E z (nO (nLine t li S i) + 1) (nD (nLine t li S i) + 1) (tok t i) tops dpt lst stryX srt'_34 lin'_34 tokA'_34 wah'_34 fol'_34 par_'_34 opn'_34) ++ [(q, .inr (1, [.ref q2, .int (nI tl), .int (nI ct), .int (nI ps), .int sn, .int cb])), (q2, .inl (E.1, 9, .inl tk))]) := hD
          have hnx : nLine t li S (i + 1) = nTok t li i (nLine t li S i) := rfl
          have hP : va_P G vwCl ((neW E z (nO (nLine t li S (i + 1))) (nD (nLine t li S (i + 1))) (nL (nLine t li S (i + 1))) tops dpt lst stryX srt'_34 lin'_34 tokA'_34 wah'_34 fol'_34 par_'_34 opn'_34) ++ [(q, .inr (1, [.ref q2, .int (nI tl), .int (nI ct), .int (nI ps), .int sn, .int cb])), (q2, .inl (E.1, 9, .inl tk))]) H := by rw [hnx, nTok_2 (Or.inl c21)]; exact hP
          have hD : va_D A ((neW E z (nO (nLine t li S (i + 1))) (nD (nLine t li S (i + 1))) (nL (nLine t li S (i + 1))) tops dpt lst stryX srt'_34 lin'_34 tokA'_34 wah'_34 fol'_34 par_'_34 opn'_34) ++ [(q, .inr (1, [.ref q2, .int (nI tl), .int (nI ct), .int (nI ps), .int sn, .int cb])), (q2, .inl (E.1, 9, .inl tk))]) := by rw [hnx, nTok_2 (Or.inl c21)]; exact hD
          refine lv_iinc (v := (nI (i + 1))) (lv' := [(3, .int (nI (i + 1))), (4, .int (nI (tok t i))), (0, .ref (z 0)), (1, .ref q), (2, .int (nI li))]) hx hb dX2_readLine_80 hl (k := 1) rfl (k_inc i) (by decide) rfl (fun ls hl => ?_)
          refine lv_goto (tgt := 2) hx hb dX2_readLine_83 (by decide) ?_
          exact ih2 (i + 1) stryX srt'_34 lin'_34 tokA'_34 wah'_34 fol'_34 par_'_34 opn'_34 _ _ (by omega) (by show CN (nTok t li i (nLine t li S i)) mm _ _ _ _ _ _ _ _ _ _ _; rw [nTok_2 (Or.inl c21)]; exact CN_last p34 rfl rfl rfl) (by omega) hP hD hS ls (lv_sub hl [0, 2, 3, 4] rfl)
        · refine lv_iload hx hb dX2_readLine_24 (lv_at hl 0 rfl) ?_
          refine lv_iconst (v := (nI 4)) hx hb dX2_readLine_26 (by decide) ?_
          refine n_icmp_ne (a := (tok t i)) (b := 4) (tgt := 40) hx hb (by omega) (by decide) dX2_readLine_27 (by decide) (fun c27 => ?_) (fun c27 => ?_)
          · refine lv_iload hx hb dX2_readLine_40 (lv_at hl 0 rfl) ?_
            refine lv_iconst (v := (nI 3)) hx hb dX2_readLine_42 (by decide) ?_
            refine n_icmp_ne (a := (tok t i)) (b := 3) (tgt := 55) hx hb (by omega) (by decide) dX2_readLine_43 (by decide) (fun c43 => ?_) (fun c43 => ?_)
            · refine lv_iload hx hb dX2_readLine_55 (lv_at hl 0 rfl) ?_
              refine lv_iconst (v := (nI 5)) hx hb dX2_readLine_57 (by decide) ?_
              refine n_icmp_ne (a := (tok t i)) (b := 5) (tgt := 67) hx hb (by omega) (by decide) dX2_readLine_58 (by decide) (fun c58 => ?_) (fun c58 => ?_)
              · refine lv_iload hx hb dX2_readLine_67 (lv_at hl 0 rfl) ?_
                refine lv_bipush (v := (nI 9)) hx hb dX2_readLine_69 (by decide) ?_
                refine n_icmp_eq (a := (tok t i)) (b := 9) (tgt := 80) hx hb (by omega) (by decide) dX2_readLine_71 (by decide) (fun c71 => ?_) (fun c71 => ?_)
                · have hnx : nLine t li S (i + 1) = nTok t li i (nLine t li S i) := rfl
                  have hP : va_P G vwCl ((neW E z (nO (nLine t li S (i + 1))) (nD (nLine t li S (i + 1))) (nL (nLine t li S (i + 1))) tops dpt lst stryX srtX linX tokAX wahX folX par_X opnX) ++ [(q, .inr (1, [.ref q2, .int (nI tl), .int (nI ct), .int (nI ps), .int sn, .int cb])), (q2, .inl (E.1, 9, .inl tk))]) H := by rw [hnx, nTok_eq9 _ _ _ _ c71]; exact hP
                  have hD : va_D A ((neW E z (nO (nLine t li S (i + 1))) (nD (nLine t li S (i + 1))) (nL (nLine t li S (i + 1))) tops dpt lst stryX srtX linX tokAX wahX folX par_X opnX) ++ [(q, .inr (1, [.ref q2, .int (nI tl), .int (nI ct), .int (nI ps), .int sn, .int cb])), (q2, .inl (E.1, 9, .inl tk))]) := by rw [hnx, nTok_eq9 _ _ _ _ c71]; exact hD
                  refine lv_iinc (v := (nI (i + 1))) (lv' := [(3, .int (nI (i + 1))), (4, .int (nI (tok t i))), (0, .ref (z 0)), (1, .ref q), (2, .int (nI li))]) hx hb dX2_readLine_80 hl (k := 1) rfl (k_inc i) (by decide) rfl (fun ls hl => ?_)
                  refine lv_goto (tgt := 2) hx hb dX2_readLine_83 (by decide) ?_
                  exact ih2 (i + 1) stryX srtX linX tokAX wahX folX par_X opnX _ _ (by omega) (by show CN (nTok t li i (nLine t li S i)) mm _ _ _ _ _ _ _ _ _ _ _; rw [nTok_eq9 _ _ _ _ c71]; exact hC2) (by omega) hP hD hS ls (lv_sub hl [0, 2, 3, 4] rfl)
                · refine lv_aload_n hx hb dX2_readLine_74 rfl (lv_at hl 2 rfl) ?_
                  refine lv_iload hx hb dX2_readLine_75 (lv_at hl 0 rfl) ?_
                  refine va_put (D := G) (ci := 2) (v := .int (nI (tok t i))) (ty := .int) (C := RX2) (T := TX2) (N := 14) hx hb hts hin2 tyX2 tyX2_ok nmX2 hown hK hP hD hS 0 rfl rfl 13 (by decide) (hts (Cond.fieldLink RX2 53 "IndentRules$Nesting" "last" "I") (List.mem_of_getElem? (i := 3) rfl)) (fun _ h9 => h9) rfl (by decide +kernel) rfl rfl (Nat.le_of_ble_eq_true rfl) dX2_readLine_77 (fun H locs hP hD hS => ?_)
                  have hP : va_P G vwCl ((neW E z (nO (nLine t li S i)) (nD (nLine t li S i)) (tok t i) tops dpt lst stryX srtX linX tokAX wahX folX par_X opnX) ++ [(q, .inr (1, [.ref q2, .int (nI tl), .int (nI ct), .int (nI ps), .int sn, .int cb])), (q2, .inl (E.1, 9, .inl tk))]) H := hP
                  have hD : va_D A ((neW E z (nO (nLine t li S i)) (nD (nLine t li S i)) (tok t i) tops dpt lst stryX srtX linX tokAX wahX folX par_X opnX) ++ [(q, .inr (1, [.ref q2, .int (nI tl), .int (nI ct), .int (nI ps), .int sn, .int cb])), (q2, .inl (E.1, 9, .inl tk))]) := hD
                  have hnx : nLine t li S (i + 1) = nTok t li i (nLine t li S i) := rfl
                  have hP : va_P G vwCl ((neW E z (nO (nLine t li S (i + 1))) (nD (nLine t li S (i + 1))) (nL (nLine t li S (i + 1))) tops dpt lst stryX srtX linX tokAX wahX folX par_X opnX) ++ [(q, .inr (1, [.ref q2, .int (nI tl), .int (nI ct), .int (nI ps), .int sn, .int cb])), (q2, .inl (E.1, 9, .inl tk))]) H := by rw [hnx, nTok_o c21 c43 c27 c58 c71]; exact hP
                  have hD : va_D A ((neW E z (nO (nLine t li S (i + 1))) (nD (nLine t li S (i + 1))) (nL (nLine t li S (i + 1))) tops dpt lst stryX srtX linX tokAX wahX folX par_X opnX) ++ [(q, .inr (1, [.ref q2, .int (nI tl), .int (nI ct), .int (nI ps), .int sn, .int cb])), (q2, .inl (E.1, 9, .inl tk))]) := by rw [hnx, nTok_o c21 c43 c27 c58 c71]; exact hD
                  refine lv_iinc (v := (nI (i + 1))) (lv' := [(3, .int (nI (i + 1))), (4, .int (nI (tok t i))), (0, .ref (z 0)), (1, .ref q), (2, .int (nI li))]) hx hb dX2_readLine_80 hl (k := 1) rfl (k_inc i) (by decide) rfl (fun ls hl => ?_)
                  refine lv_goto (tgt := 2) hx hb dX2_readLine_83 (by decide) ?_
                  exact ih2 (i + 1) stryX srtX linX tokAX wahX folX par_X opnX _ _ (by omega) (by show CN (nTok t li i (nLine t li S i)) mm _ _ _ _ _ _ _ _ _ _ _; rw [nTok_o c21 c43 c27 c58 c71]; exact CN_last hC2 rfl rfl rfl) (by omega) hP hD hS ls (lv_sub hl [0, 2, 3, 4] rfl)
              · refine lv_aload_n hx hb dX2_readLine_61 rfl (lv_at hl 2 rfl) ?_
                refine lv_iconst (v := (nI 4)) hx hb dX2_readLine_62 (by decide) ?_
                refine lv_iload_n hx hb dX2_readLine_63 rfl (lv_at hl 4 rfl) ?_
                refine wv_v (n := 2) (G := G) (E := E) (As := [.int (nI 4), .int (nI li)]) (rest := []) (ci := 2) (q0 := 0) (wn := fun (u : (Nat → Int32) × (Nat → Int32)) => neW E z (nO (nLine t li S i)) (nD (nClose 4 li (nLine t li S i))) (nL (nLine t li S i)) tops dpt lst u.1 srtX linX tokAX wahX folX u.2 opnX) ⟨hx, hb, hml, hown, hts⟩ hK hZ hS hA (fun sz => c_X2_closeOne l G E z tops dpt lst stryX srtX linX tokAX wahX folX par_X opnX 4 li (nLine t li S i) mm L (bb + i) (Or.inr rfl) (by first | assumption | omega) (by first | assumption | omega) hC2 hwk (by omega) sz) gX2_readLine_X2_closeOne rfl rfl rfl (by decide +kernel) ⟨Nat.le_of_ble_eq_true rfl, Nat.le_of_ble_eq_true rfl⟩ hP hD [0, 1, 2, 3, 4, 5, 6, 7, 8, 9, 10, 11] rfl (by decide) (fun _ => rfl) rfl rfl hl.1 rfl rfl (Nat.le_of_ble_eq_true rfl) dX2_readLine_64 ⟨Nat.zero_le _, Nat.zero_le _⟩ (fun u64 H locs p64 hP hD hS => ?_)
                obtain ⟨stry'_64, par_'_64⟩ := u64
                dsimp only at p64 hP hD
                have hP : va_P G vwCl ((neW E z (nO (nLine t li S i)) (nD (nClose 4 li (nLine t li S i))) (nL (nLine t li S i)) tops dpt lst stry'_64 srtX linX tokAX wahX folX par_'_64 opnX) ++ [(q, .inr (1, [.ref q2, .int (nI tl), .int (nI ct), .int (nI ps), .int sn, .int cb])), (q2, .inl (E.1, 9, .inl tk))]) H := hP
                have hD : va_D A ((neW E z (nO (nLine t li S i)) (nD (nClose 4 li (nLine t li S i))) (nL (nLine t li S i)) tops dpt lst stry'_64 srtX linX tokAX wahX folX par_'_64 opnX) ++ [(q, .inr (1, [.ref q2, .int (nI tl), .int (nI ct), .int (nI ps), .int sn, .int cb])), (q2, .inl (E.1, 9, .inl tk))]) := hD
                refine lv_iload hx hb dX2_readLine_67 (lv_at hl 0 rfl) ?_
                refine lv_bipush (v := (nI 9)) hx hb dX2_readLine_69 (by decide) ?_
                refine n_icmp_eq (a := (tok t i)) (b := 9) (tgt := 80) hx hb (by omega) (by decide) dX2_readLine_71 (by decide) (fun c71 => absurd c71 (by omega)) (fun c71 => ?_)
                refine lv_aload_n hx hb dX2_readLine_74 rfl (lv_at hl 2 rfl) ?_
                refine lv_iload hx hb dX2_readLine_75 (lv_at hl 0 rfl) ?_
                refine va_put (D := G) (ci := 2) (v := .int (nI (tok t i))) (ty := .int) (C := RX2) (T := TX2) (N := 14) hx hb hts hin2 tyX2 tyX2_ok nmX2 hown hK hP hD hS 0 rfl rfl 13 (by decide) (hts (Cond.fieldLink RX2 53 "IndentRules$Nesting" "last" "I") (List.mem_of_getElem? (i := 3) rfl)) (fun _ h9 => h9) rfl (by decide +kernel) rfl rfl (Nat.le_of_ble_eq_true rfl) dX2_readLine_77 (fun H locs hP hD hS => ?_)
                have hP : va_P G vwCl ((neW E z (nO (nLine t li S i)) (nD (nClose 4 li (nLine t li S i))) (tok t i) tops dpt lst stry'_64 srtX linX tokAX wahX folX par_'_64 opnX) ++ [(q, .inr (1, [.ref q2, .int (nI tl), .int (nI ct), .int (nI ps), .int sn, .int cb])), (q2, .inl (E.1, 9, .inl tk))]) H := hP
                have hD : va_D A ((neW E z (nO (nLine t li S i)) (nD (nClose 4 li (nLine t li S i))) (tok t i) tops dpt lst stry'_64 srtX linX tokAX wahX folX par_'_64 opnX) ++ [(q, .inr (1, [.ref q2, .int (nI tl), .int (nI ct), .int (nI ps), .int sn, .int cb])), (q2, .inl (E.1, 9, .inl tk))]) := hD
                have hnx : nLine t li S (i + 1) = nTok t li i (nLine t li S i) := rfl
                have hP : va_P G vwCl ((neW E z (nO (nLine t li S (i + 1))) (nD (nLine t li S (i + 1))) (nL (nLine t li S (i + 1))) tops dpt lst stry'_64 srtX linX tokAX wahX folX par_'_64 opnX) ++ [(q, .inr (1, [.ref q2, .int (nI tl), .int (nI ct), .int (nI ps), .int sn, .int cb])), (q2, .inl (E.1, 9, .inl tk))]) H := by rw [hnx, nTok_5 c58]; exact hP
                have hD : va_D A ((neW E z (nO (nLine t li S (i + 1))) (nD (nLine t li S (i + 1))) (nL (nLine t li S (i + 1))) tops dpt lst stry'_64 srtX linX tokAX wahX folX par_'_64 opnX) ++ [(q, .inr (1, [.ref q2, .int (nI tl), .int (nI ct), .int (nI ps), .int sn, .int cb])), (q2, .inl (E.1, 9, .inl tk))]) := by rw [hnx, nTok_5 c58]; exact hD
                refine lv_iinc (v := (nI (i + 1))) (lv' := [(3, .int (nI (i + 1))), (4, .int (nI (tok t i))), (0, .ref (z 0)), (1, .ref q), (2, .int (nI li))]) hx hb dX2_readLine_80 hl (k := 1) rfl (k_inc i) (by decide) rfl (fun ls hl => ?_)
                refine lv_goto (tgt := 2) hx hb dX2_readLine_83 (by decide) ?_
                exact ih2 (i + 1) stry'_64 srtX linX tokAX wahX folX par_'_64 opnX _ _ (by omega) (by show CN (nTok t li i (nLine t li S i)) mm _ _ _ _ _ _ _ _ _ _ _; rw [nTok_5 c58]; exact CN_last p64 (by rw [nClose_O]) rfl rfl) (by omega) hP hD hS ls (lv_sub hl [0, 2, 3, 4] rfl)
            · refine lv_aload_n hx hb dX2_readLine_46 rfl (lv_at hl 2 rfl) ?_
              refine lv_iconst (v := (nI 2)) hx hb dX2_readLine_47 (by decide) ?_
              refine lv_iload_n hx hb dX2_readLine_48 rfl (lv_at hl 4 rfl) ?_
              refine wv_v (n := 2) (G := G) (E := E) (As := [.int (nI 2), .int (nI li)]) (rest := []) (ci := 2) (q0 := 0) (wn := fun (u : (Nat → Int32) × (Nat → Int32)) => neW E z (nO (nLine t li S i)) (nD (nClose 2 li (nLine t li S i))) (nL (nLine t li S i)) tops dpt lst u.1 srtX linX tokAX wahX folX u.2 opnX) ⟨hx, hb, hml, hown, hts⟩ hK hZ hS hA (fun sz => c_X2_closeOne l G E z tops dpt lst stryX srtX linX tokAX wahX folX par_X opnX 2 li (nLine t li S i) mm L (bb + i) (Or.inl rfl) (by first | assumption | omega) (by first | assumption | omega) hC2 hwk (by omega) sz) gX2_readLine_X2_closeOne rfl rfl rfl (by decide +kernel) ⟨Nat.le_of_ble_eq_true rfl, Nat.le_of_ble_eq_true rfl⟩ hP hD [0, 1, 2, 3, 4, 5, 6, 7, 8, 9, 10, 11] rfl (by decide) (fun _ => rfl) rfl rfl hl.1 rfl rfl (Nat.le_of_ble_eq_true rfl) dX2_readLine_49 ⟨Nat.zero_le _, Nat.zero_le _⟩ (fun u49 H locs p49 hP hD hS => ?_)
              obtain ⟨stry'_49, par_'_49⟩ := u49
              dsimp only at p49 hP hD
              have hP : va_P G vwCl ((neW E z (nO (nLine t li S i)) (nD (nClose 2 li (nLine t li S i))) (nL (nLine t li S i)) tops dpt lst stry'_49 srtX linX tokAX wahX folX par_'_49 opnX) ++ [(q, .inr (1, [.ref q2, .int (nI tl), .int (nI ct), .int (nI ps), .int sn, .int cb])), (q2, .inl (E.1, 9, .inl tk))]) H := hP
              have hD : va_D A ((neW E z (nO (nLine t li S i)) (nD (nClose 2 li (nLine t li S i))) (nL (nLine t li S i)) tops dpt lst stry'_49 srtX linX tokAX wahX folX par_'_49 opnX) ++ [(q, .inr (1, [.ref q2, .int (nI tl), .int (nI ct), .int (nI ps), .int sn, .int cb])), (q2, .inl (E.1, 9, .inl tk))]) := hD
              refine lv_goto (tgt := 67) hx hb dX2_readLine_52 (by decide) ?_
              refine lv_iload hx hb dX2_readLine_67 (lv_at hl 0 rfl) ?_
              refine lv_bipush (v := (nI 9)) hx hb dX2_readLine_69 (by decide) ?_
              refine n_icmp_eq (a := (tok t i)) (b := 9) (tgt := 80) hx hb (by omega) (by decide) dX2_readLine_71 (by decide) (fun c71 => absurd c71 (by omega)) (fun c71 => ?_)
              refine lv_aload_n hx hb dX2_readLine_74 rfl (lv_at hl 2 rfl) ?_
              refine lv_iload hx hb dX2_readLine_75 (lv_at hl 0 rfl) ?_
              refine va_put (D := G) (ci := 2) (v := .int (nI (tok t i))) (ty := .int) (C := RX2) (T := TX2) (N := 14) hx hb hts hin2 tyX2 tyX2_ok nmX2 hown hK hP hD hS 0 rfl rfl 13 (by decide) (hts (Cond.fieldLink RX2 53 "IndentRules$Nesting" "last" "I") (List.mem_of_getElem? (i := 3) rfl)) (fun _ h9 => h9) rfl (by decide +kernel) rfl rfl (Nat.le_of_ble_eq_true rfl) dX2_readLine_77 (fun H locs hP hD hS => ?_)
              have hP : va_P G vwCl ((neW E z (nO (nLine t li S i)) (nD (nClose 2 li (nLine t li S i))) (tok t i) tops dpt lst stry'_49 srtX linX tokAX wahX folX par_'_49 opnX) ++ [(q, .inr (1, [.ref q2, .int (nI tl), .int (nI ct), .int (nI ps), .int sn, .int cb])), (q2, .inl (E.1, 9, .inl tk))]) H := hP
              have hD : va_D A ((neW E z (nO (nLine t li S i)) (nD (nClose 2 li (nLine t li S i))) (tok t i) tops dpt lst stry'_49 srtX linX tokAX wahX folX par_'_49 opnX) ++ [(q, .inr (1, [.ref q2, .int (nI tl), .int (nI ct), .int (nI ps), .int sn, .int cb])), (q2, .inl (E.1, 9, .inl tk))]) := hD
              have hnx : nLine t li S (i + 1) = nTok t li i (nLine t li S i) := rfl
              have hP : va_P G vwCl ((neW E z (nO (nLine t li S (i + 1))) (nD (nLine t li S (i + 1))) (nL (nLine t li S (i + 1))) tops dpt lst stry'_49 srtX linX tokAX wahX folX par_'_49 opnX) ++ [(q, .inr (1, [.ref q2, .int (nI tl), .int (nI ct), .int (nI ps), .int sn, .int cb])), (q2, .inl (E.1, 9, .inl tk))]) H := by rw [hnx, nTok_3 c43]; exact hP
              have hD : va_D A ((neW E z (nO (nLine t li S (i + 1))) (nD (nLine t li S (i + 1))) (nL (nLine t li S (i + 1))) tops dpt lst stry'_49 srtX linX tokAX wahX folX par_'_49 opnX) ++ [(q, .inr (1, [.ref q2, .int (nI tl), .int (nI ct), .int (nI ps), .int sn, .int cb])), (q2, .inl (E.1, 9, .inl tk))]) := by rw [hnx, nTok_3 c43]; exact hD
              refine lv_iinc (v := (nI (i + 1))) (lv' := [(3, .int (nI (i + 1))), (4, .int (nI (tok t i))), (0, .ref (z 0)), (1, .ref q), (2, .int (nI li))]) hx hb dX2_readLine_80 hl (k := 1) rfl (k_inc i) (by decide) rfl (fun ls hl => ?_)
              refine lv_goto (tgt := 2) hx hb dX2_readLine_83 (by decide) ?_
              exact ih2 (i + 1) stry'_49 srtX linX tokAX wahX folX par_'_49 opnX _ _ (by omega) (by show CN (nTok t li i (nLine t li S i)) mm _ _ _ _ _ _ _ _ _ _ _; rw [nTok_3 c43]; exact CN_last p49 (by rw [nClose_O]) rfl rfl) (by omega) hP hD hS ls (lv_sub hl [0, 2, 3, 4] rfl)
          · refine lv_aload_n hx hb dX2_readLine_30 rfl (lv_at hl 2 rfl) ?_
            refine lv_aload_n hx hb dX2_readLine_31 rfl (lv_at hl 3 rfl) ?_
            refine lv_iload_n hx hb dX2_readLine_32 rfl (lv_at hl 4 rfl) ?_
            refine lv_iload_n hx hb dX2_readLine_33 rfl (lv_at hl 1 rfl) ?_
            refine wf_v (n := 3) (G := G) (E := E) (As := [.ref q, .int (nI li), .int (nI i)]) (rest := []) (ci := 2) (q0 := 0) (wn := fun (u : (Nat → Int32) × (Nat → Int32) × (Nat → Int32) × (Nat → Int32) × (Nat → Int32) × (Nat → Int32) × (Nat → Int32)) => (neW E z (nO (nLine t li S i) + 1) (nD (nLine t li S i) + 1) (nL (nLine t li S i)) tops dpt lst stryX u.1 u.2.1 u.2.2.1 u.2.2.2.1 u.2.2.2.2.1 u.2.2.2.2.2.1 u.2.2.2.2.2.2) ++ [(q, .inr (1, [.ref q2, .int (nI tl), .int (nI ct), .int (nI ps), .int sn, .int cb])), (q2, .inl (E.1, 9, .inl tk))]) ⟨hx, hb, hml, hown, hts⟩ hK hZ hS hA (fun sz => c_X2_openOne l G E z tops dpt lst stryX srtX linX tokAX wahX folX par_X opnX q q2 tl ct ps sn cb tk t li i (nLine t li S i) mm (by first | assumption | omega) (by first | assumption | omega) (by first | assumption | omega) (by first | assumption | omega) (by omega) (by first | assumption | omega) (by omega) (by omega) hC2 sz) gX2_readLine_X2_openOne rfl rfl rfl (by decide +kernel) ⟨Nat.le_of_ble_eq_true rfl, Nat.le_of_ble_eq_true rfl⟩ hP hD (fun _ => rfl) rfl rfl hl.1 rfl rfl (Nat.le_of_ble_eq_true rfl) dX2_readLine_34 ⟨Nat.zero_le _, Nat.zero_le _⟩ (fun u34 H locs p34 hP hD hS => ?_)
            obtain ⟨srt'_34, lin'_34, tokA'_34, wah'_34, fol'_34, par_'_34, opn'_34⟩ := u34
            dsimp only at p34 hP hD
            have hP : va_P G vwCl ((neW E z (nO (nLine t li S i) + 1) (nD (nLine t li S i) + 1) (nL (nLine t li S i)) tops dpt lst stryX srt'_34 lin'_34 tokA'_34 wah'_34 fol'_34 par_'_34 opn'_34) ++ [(q, .inr (1, [.ref q2, .int (nI tl), .int (nI ct), .int (nI ps), .int sn, .int cb])), (q2, .inl (E.1, 9, .inl tk))]) H := hP
            have hD : va_D A ((neW E z (nO (nLine t li S i) + 1) (nD (nLine t li S i) + 1) (nL (nLine t li S i)) tops dpt lst stryX srt'_34 lin'_34 tokA'_34 wah'_34 fol'_34 par_'_34 opn'_34) ++ [(q, .inr (1, [.ref q2, .int (nI tl), .int (nI ct), .int (nI ps), .int sn, .int cb])), (q2, .inl (E.1, 9, .inl tk))]) := hD
            refine lv_goto (tgt := 67) hx hb dX2_readLine_37 (by decide) ?_
            refine lv_iload hx hb dX2_readLine_67 (lv_at hl 0 rfl) ?_
            refine lv_bipush (v := (nI 9)) hx hb dX2_readLine_69 (by decide) ?_
            refine n_icmp_eq (a := (tok t i)) (b := 9) (tgt := 80) hx hb (by omega) (by decide) dX2_readLine_71 (by decide) (fun c71 => absurd c71 (by omega)) (fun c71 => ?_)
            refine lv_aload_n hx hb dX2_readLine_74 rfl (lv_at hl 2 rfl) ?_
            refine lv_iload hx hb dX2_readLine_75 (lv_at hl 0 rfl) ?_
            refine va_put (D := G) (ci := 2) (v := .int (nI (tok t i))) (ty := .int) (C := RX2) (T := TX2) (N := 14) hx hb hts hin2 tyX2 tyX2_ok nmX2 hown hK hP hD hS 0 rfl rfl 13 (by decide) (hts (Cond.fieldLink RX2 53 "IndentRules$Nesting" "last" "I") (List.mem_of_getElem? (i := 3) rfl)) (fun _ h9 => h9) rfl (by decide +kernel) rfl rfl (Nat.le_of_ble_eq_true rfl) dX2_readLine_77 (fun H locs hP hD hS => ?_)
            have hP : va_P G vwCl ((neW E z (nO (nLine t li S i) + 1) (nD (nLine t li S i) + 1) (tok t i) tops dpt lst stryX srt'_34 lin'_34 tokA'_34 wah'_34 fol'_34 par_'_34 opn'_34) ++ [(q, .inr (1, [.ref q2, .int (nI tl), .int (nI ct), .int (nI ps), .int sn, .int cb])), (q2, .inl (E.1, 9, .inl tk))]) H := hP
            have hD : va_D A ((neW E z (nO (nLine t li S i) + 1) (nD (nLine t li S i) + 1) (tok t i) tops dpt lst stryX srt'_34 lin'_34 tokA'_34 wah'_34 fol'_34 par_'_34 opn'_34) ++ [(q, .inr (1, [.ref q2, .int (nI tl), .int (nI ct), .int (nI ps), .int sn, .int cb])), (q2, .inl (E.1, 9, .inl tk))]) := hD
            have hnx : nLine t li S (i + 1) = nTok t li i (nLine t li S i) := rfl
            have hP : va_P G vwCl ((neW E z (nO (nLine t li S (i + 1))) (nD (nLine t li S (i + 1))) (nL (nLine t li S (i + 1))) tops dpt lst stryX srt'_34 lin'_34 tokA'_34 wah'_34 fol'_34 par_'_34 opn'_34) ++ [(q, .inr (1, [.ref q2, .int (nI tl), .int (nI ct), .int (nI ps), .int sn, .int cb])), (q2, .inl (E.1, 9, .inl tk))]) H := by rw [hnx, nTok_2 (Or.inr c27)]; exact hP
            have hD : va_D A ((neW E z (nO (nLine t li S (i + 1))) (nD (nLine t li S (i + 1))) (nL (nLine t li S (i + 1))) tops dpt lst stryX srt'_34 lin'_34 tokA'_34 wah'_34 fol'_34 par_'_34 opn'_34) ++ [(q, .inr (1, [.ref q2, .int (nI tl), .int (nI ct), .int (nI ps), .int sn, .int cb])), (q2, .inl (E.1, 9, .inl tk))]) := by rw [hnx, nTok_2 (Or.inr c27)]; exact hD
            refine lv_iinc (v := (nI (i + 1))) (lv' := [(3, .int (nI (i + 1))), (4, .int (nI (tok t i))), (0, .ref (z 0)), (1, .ref q), (2, .int (nI li))]) hx hb dX2_readLine_80 hl (k := 1) rfl (k_inc i) (by decide) rfl (fun ls hl => ?_)
            refine lv_goto (tgt := 2) hx hb dX2_readLine_83 (by decide) ?_
            exact ih2 (i + 1) stryX srt'_34 lin'_34 tokA'_34 wah'_34 fol'_34 par_'_34 opn'_34 _ _ (by omega) (by show CN (nTok t li i (nLine t li S i)) mm _ _ _ _ _ _ _ _ _ _ _; rw [nTok_2 (Or.inr c27)]; exact CN_last p34 rfl rfl rfl) (by omega) hP hD hS ls (lv_sub hl [0, 2, 3, 4] rfl)
  exact lp2 (pres t - 0 + 1) 0 stry srt lin tokA wah fol par_ opn _ _ (Nat.zero_le _) hCN (Nat.lt_succ_self _) hP hD hS ls (lv_sub hl [0, 1, 2, 3] rfl)

set_option maxHeartbeats 4000000 in
set_option maxRecDepth 100000 in
theorem c_X2_read (l : Launch) (G : va_G) (E : cEnv) (z : Nat → Nat) (op hg la : Nat) (tops dpt lst stry srt lin tokA wah fol par_ opn : Nat → Int32) (tx : Nat → Nat) (n : Nat) (pi : Nat → Nat) (oa ta : Nat → Nat) (tl ct ps : Nat → Nat) (sn cb : Nat → Int32) (tk : Nat → Nat → Int32) (rn : Nat → Nat) (hPL : PL n rn pi tl ct ps tk) (hn : n ≤ 20) (hrn : ∀ j, j < n → rn j < 1000000000) (sz : Nat) : Met l yX2_read wsX2_read ({ frames := 3, cells := 0, slots := 0, locals := 70 }) (va_Pc [.ref (z 0), .ref (tx 0)] (PW G E (((neW E z op hg la tops dpt lst stry srt lin tokA wah fol par_ opn) ++ (txW E tx n (slot oa pi))) ++ poW E oa ta tl ct ps sn cb tk) sz)) (va_Qv (fun (u : (Nat → Int32) × (Nat → Int32) × (Nat → Int32) × (Nat → Int32) × (Nat → Int32) × (Nat → Int32) × (Nat → Int32) × (Nat → Int32) × (Nat → Int32) × (Nat → Int32) × (Nat → Int32)) => CN (nAll rn n) (n) u.1 u.2.1 u.2.2.1 u.2.2.2.1 u.2.2.2.2.1 u.2.2.2.2.2.1 u.2.2.2.2.2.2.1 u.2.2.2.2.2.2.2.1 u.2.2.2.2.2.2.2.2.1 u.2.2.2.2.2.2.2.2.2.1 u.2.2.2.2.2.2.2.2.2.2) (fun (u : (Nat → Int32) × (Nat → Int32) × (Nat → Int32) × (Nat → Int32) × (Nat → Int32) × (Nat → Int32) × (Nat → Int32) × (Nat → Int32) × (Nat → Int32) × (Nat → Int32) × (Nat → Int32)) tQ => va_P G vwCl (((neW E z (nO (nAll rn n)) (nD (nAll rn n)) (nL (nAll rn n)) u.1 u.2.1 u.2.2.1 u.2.2.2.1 u.2.2.2.2.1 u.2.2.2.2.2.1 u.2.2.2.2.2.2.1 u.2.2.2.2.2.2.2.1 u.2.2.2.2.2.2.2.2.1 u.2.2.2.2.2.2.2.2.2.1 u.2.2.2.2.2.2.2.2.2.2) ++ (txW E tx n (slot oa pi))) ++ poW E oa ta tl ct ps sn cb tk) tQ.heap) (va_A (((neW E z op hg la tops dpt lst stry srt lin tokA wah fol par_ opn) ++ (txW E tx n (slot oa pi))) ++ poW E oa ta tl ct ps sn cb tk) sz)) 0 0 (va_A (((neW E z op hg la tops dpt lst stry srt lin tokA wah fol par_ opn) ++ (txW E tx n (slot oa pi))) ++ poW E oa ta tl ct ps sn cb tk) sz) := by
  refine Met.ofW (cc := cX2_read) (maxL := 3) (ret := none) (by decide) rfl ?_
  intro p e s m args below meth c s₁ B hml hv
  obtain ⟨rfl, hsz, hP, hK, hD0, hZ⟩ := hv
  have hx := B.exec
  have hb := B.bytes
  have hr := B.returns
  have hts := atoms_spec (ws := wsX2_read) B.pre
  have hown : s.vm.findClass RX2 = some m.cls := findClass_of_methodNamed B.named
  have hlocks := B.notSynchronized
  have hin2 : ∀ w ∈ u_ws RX2 TX2 14, w ∈ wsX2_read := mem_pl [44, 45, 46, 47, 48, 49, 50, 51, 52, 53, 54, 55, 56, 57] (by rfl)
  have hin4 : ∀ w ∈ u_ws RX4 TX4 2, w ∈ wsX2_read := mem_pl [58, 59] (by rfl)
  subst hsz
  have hD := hD0.self (sz := s.heap.size)
  generalize hAe : va_A (((neW E z op hg la tops dpt lst stry srt lin tokA wah fol par_ opn) ++ (txW E tx n (slot oa pi))) ++ poW E oa ta tl ct ps sn cb tk) s.heap.size = A at hD hZ ⊢
  have hA : ∀ q : Nat, s.heap.size ≤ q → A q := fun q h => by rw [← hAe]; exact Or.inr h
  have hS : va_S A s.heap s.heap [] := va_S.rf
  have hl := lv_entry ([.ref (z 0), .ref (tx 0)]) (n := 3) (Nat.le_of_ble_eq_true rfl)
  rw [lg_entry_eq]
  generalize (lg_sl ([.ref (z 0), .ref (tx 0)]) ++ List.replicate (3 - (lg_sl ([.ref (z 0), .ref (tx 0)])).length) Slot.unset).toArray = ls at hl ⊢
  have hl : lv_has ls 3 [(0, .ref (z 0)), (1, .ref (tx 0))] := hl
  refine lv_aload_n hx hb dX2_read_0 rfl (lv_at hl 0 rfl) ?_
  refine lv_iconst (v := (nI 0)) hx hb dX2_read_1 (by decide) ?_
  refine va_put (D := G) (ci := 2) (v := .int (nI 0)) (ty := .int) (C := RX2) (T := TX2) (N := 14) hx hb hts hin2 tyX2 tyX2_ok nmX2 hown hK hP hD hS 0 rfl rfl 4 (by decide) (hts (Cond.fieldLink RX2 46 "IndentRules$Nesting" "openers" "I") (List.mem_of_getElem? (i := 1) rfl)) (fun _ h9 => h9) rfl (by decide +kernel) rfl rfl (Nat.le_of_ble_eq_true rfl) dX2_read_2 (fun H locs hP hD hS => ?_)
  have hP : va_P G vwCl (((neW E z 0 hg la tops dpt lst stry srt lin tokA wah fol par_ opn) ++ (txW E tx n (slot oa pi))) ++ poW E oa ta tl ct ps sn cb tk) H := hP
  have hD : va_D A (((neW E z 0 hg la tops dpt lst stry srt lin tokA wah fol par_ opn) ++ (txW E tx n (slot oa pi))) ++ poW E oa ta tl ct ps sn cb tk) := hD
  refine lv_aload_n hx hb dX2_read_5 rfl (lv_at hl 0 rfl) ?_
  refine lv_iconst (v := (nI 0)) hx hb dX2_read_6 (by decide) ?_
  refine va_put (D := G) (ci := 2) (v := .int (nI 0)) (ty := .int) (C := RX2) (T := TX2) (N := 14) hx hb hts hin2 tyX2 tyX2_ok nmX2 hown hK hP hD hS 0 rfl rfl 12 (by decide) (hts (Cond.fieldLink RX2 50 "IndentRules$Nesting" "height" "I") (List.mem_of_getElem? (i := 2) rfl)) (fun _ h9 => h9) rfl (by decide +kernel) rfl rfl (Nat.le_of_ble_eq_true rfl) dX2_read_7 (fun H locs hP hD hS => ?_)
  have hP : va_P G vwCl (((neW E z 0 0 la tops dpt lst stry srt lin tokA wah fol par_ opn) ++ (txW E tx n (slot oa pi))) ++ poW E oa ta tl ct ps sn cb tk) H := hP
  have hD : va_D A (((neW E z 0 0 la tops dpt lst stry srt lin tokA wah fol par_ opn) ++ (txW E tx n (slot oa pi))) ++ poW E oa ta tl ct ps sn cb tk) := hD
  refine lv_aload_n hx hb dX2_read_10 rfl (lv_at hl 0 rfl) ?_
  refine lv_iconst (v := (nI 0)) hx hb dX2_read_11 (by decide) ?_
  refine va_put (D := G) (ci := 2) (v := .int (nI 0)) (ty := .int) (C := RX2) (T := TX2) (N := 14) hx hb hts hin2 tyX2 tyX2_ok nmX2 hown hK hP hD hS 0 rfl rfl 13 (by decide) (hts (Cond.fieldLink RX2 53 "IndentRules$Nesting" "last" "I") (List.mem_of_getElem? (i := 3) rfl)) (fun _ h9 => h9) rfl (by decide +kernel) rfl rfl (Nat.le_of_ble_eq_true rfl) dX2_read_12 (fun H locs hP hD hS => ?_)
  have hP : va_P G vwCl (((neW E z 0 0 0 tops dpt lst stry srt lin tokA wah fol par_ opn) ++ (txW E tx n (slot oa pi))) ++ poW E oa ta tl ct ps sn cb tk) H := hP
  have hD : va_D A (((neW E z 0 0 0 tops dpt lst stry srt lin tokA wah fol par_ opn) ++ (txW E tx n (slot oa pi))) ++ poW E oa ta tl ct ps sn cb tk) := hD
  refine lv_iconst (v := (nI 0)) hx hb dX2_read_15 (by decide) ?_
  refine lv_istore_n (lv' := [(2, .int (nI 0)), (0, .ref (z 0)), (1, .ref (tx 0))]) hx hb dX2_read_16 rfl hl (by decide) rfl (fun ls hl => ?_)
  have lp17 : ∀ (kk : Nat) (li : Nat) (topsX : Nat → Int32) (dptX : Nat → Int32) (lstX : Nat → Int32) (stryX : Nat → Int32) (srtX : Nat → Int32) (linX : Nat → Int32) (tokAX : Nat → Int32) (wahX : Nat → Int32) (folX : Nat → Int32) (par_X : Nat → Int32) (opnX : Nat → Int32) (H : Heap) (locs : List Loc), (li ≤ n) → (CN (nAll rn li) (li) topsX dptX lstX stryX srtX linX tokAX wahX folX par_X opnX) → n - li < kk → va_P G vwCl (((neW E z (nO (nAll rn li)) (nD (nAll rn li)) (nL (nAll rn li)) topsX dptX lstX stryX srtX linX tokAX wahX folX par_X opnX) ++ (txW E tx n (slot oa pi))) ++ poW E oa ta tl ct ps sn cb tk) H → va_D A (((neW E z (nO (nAll rn li)) (nD (nAll rn li)) (nL (nAll rn li)) topsX dptX lstX stryX srtX linX tokAX wahX folX par_X opnX) ++ (txW E tx n (slot oa pi))) ++ poW E oa ta tl ct ps sn cb tk) → va_S A s.heap H locs → ∀ ls : Array Slot, lv_has ls 3 [(2, .int (nI li)), (0, .ref (z 0)), (1, .ref (tx 0))] → W p l e (headSpec wsX2_read ({ frames := 3, cells := 0, slots := 0, locals := 70 } : Room)).room s m ([.ref (z 0), .ref (tx 0)] : List Value).toArray below meth c H locs 0 0 (MQ below (va_Qv (fun (u : (Nat → Int32) × (Nat → Int32) × (Nat → Int32) × (Nat → Int32) × (Nat → Int32) × (Nat → Int32) × (Nat → Int32) × (Nat → Int32) × (Nat → Int32) × (Nat → Int32) × (Nat → Int32)) => CN (nAll rn n) (n) u.1 u.2.1 u.2.2.1 u.2.2.2.1 u.2.2.2.2.1 u.2.2.2.2.2.1 u.2.2.2.2.2.2.1 u.2.2.2.2.2.2.2.1 u.2.2.2.2.2.2.2.2.1 u.2.2.2.2.2.2.2.2.2.1 u.2.2.2.2.2.2.2.2.2.2) (fun (u : (Nat → Int32) × (Nat → Int32) × (Nat → Int32) × (Nat → Int32) × (Nat → Int32) × (Nat → Int32) × (Nat → Int32) × (Nat → Int32) × (Nat → Int32) × (Nat → Int32) × (Nat → Int32)) tQ => va_P G vwCl (((neW E z (nO (nAll rn n)) (nD (nAll rn n)) (nL (nAll rn n)) u.1 u.2.1 u.2.2.1 u.2.2.2.1 u.2.2.2.2.1 u.2.2.2.2.2.1 u.2.2.2.2.2.2.1 u.2.2.2.2.2.2.2.1 u.2.2.2.2.2.2.2.2.1 u.2.2.2.2.2.2.2.2.2.1 u.2.2.2.2.2.2.2.2.2.2) ++ (txW E tx n (slot oa pi))) ++ poW E oa ta tl ct ps sn cb tk) tQ.heap) A) ([.ref (z 0), .ref (tx 0)] : List Value).toArray s 0 0 A) (F0 m 17 ls []) := by
    intro kk
    induction kk with
    | zero => intro li topsX dptX lstX stryX srtX linX tokAX wahX folX par_X opnX H locs hli hC2 hkk; exact absurd hkk (Nat.not_lt_zero _)
    | succ kk ih17 =>
      intro li topsX dptX lstX stryX srtX linX tokAX wahX folX par_X opnX H locs hli hC2 hkk hP hD hS ls hl
      refine lv_iload_n hx hb dX2_read_17 rfl (lv_at hl 0 rfl) ?_
      refine lv_aload_n hx hb dX2_read_18 rfl (lv_at hl 2 rfl) ?_
      refine va_get (D := G) (ci := 4) (v := .int (nI n)) (C := RX4) (T := TX4) (N := 2) hx hb hts hin4 hown hK hP 12 rfl rfl 1 (by decide) (hts (Cond.fieldLink RX2 56 "IndentRules$Text" "size" "I") (List.mem_of_getElem? (i := 4) rfl)) (fun _ h9 => h9) rfl dX2_read_19 ?_
      refine n_icmp_ge (a := li) (b := n) (tgt := 98) hx hb (by omega) (by omega) dX2_read_22 (by decide) (fun c22 => ?_) (fun c22 => ?_)
      · exact W.vret hx hb hr (fun tZ htZ hWZ => ⟨⟨(topsX, dptX, lstX, stryX, srtX, linX, tokAX, wahX, folX, par_X, opnX), rfl, by rw [show li = n by omega] at hC2; exact hC2, by rw [show li = n by omega] at hP; show va_P G vwCl _ tZ.heap; rw [htZ]; exact hP⟩, hS.F htZ⟩) hS.2.2 dX2_read_98
      · obtain ⟨hp1, hp2, hp3, hp4, hp5⟩ := hPL li (by omega)
        have hwf := wfN_all (row := rn) li (fun j hj => hrn j (by omega))
        have hwo := hwf.2.1
        have hwd := hwf.1
        have hwf1 := wfN_start (li := li) (hwf.up (Nat.le_succ li) (Nat.le_refl _))
        refine lv_aload_n hx hb dX2_read_25 rfl (lv_at hl 1 rfl) ?_
        refine va_get (D := G) (ci := 2) (v := .ref (z 1)) (C := RX2) (T := TX2) (N := 14) hx hb hts hin2 hown hK hP 0 rfl rfl 0 (by decide) (hts (Cond.fieldLink RX2 9 "IndentRules$Nesting" "tops" "[I") (List.mem_of_getElem? (i := 5) rfl)) (fun _ h9 => h9) rfl dX2_read_26 ?_
        refine lv_iload_n hx hb dX2_read_29 rfl (lv_at hl 0 rfl) ?_
        refine lv_aload_n hx hb dX2_read_30 rfl (lv_at hl 1 rfl) ?_
        refine va_get (D := G) (ci := 2) (v := .int (nI (nD (nAll rn li)))) (C := RX2) (T := TX2) (N := 14) hx hb hts hin2 hown hK hP 0 rfl rfl 12 (by decide) (hts (Cond.fieldLink RX2 50 "IndentRules$Nesting" "height" "I") (List.mem_of_getElem? (i := 2) rfl)) (fun _ h9 => h9) rfl dX2_read_31 ?_
        refine n_if_le (a := (nD (nAll rn li))) (tgt := 51) hx hb (by omega) dX2_read_34 (by decide) (fun c34 => ?_) (fun c34 => ?_)
        · refine lv_bipush (v := (-9)) hx hb dX2_read_51 (by decide) ?_
          refine W.eq (g2 := F0 m 53 ls [.int (pv (topN (nAll rn li))), .int (nI li), .ref (z 1)]) (by unfold topN; rw [if_pos c34]; rfl) ?_
          refine k_iast (D := G) (tys := TYS E) (j := li) (x := (pv (topN (nAll rn li)))) (f := topsX) (n := 20) hx hb hK hP hD hS 1 0 rfl rfl (by omega) (by decide) dX2_read_53 (fun H locs hP hD hS => ?_)
          have hP : va_P G vwCl (((neW E z (nO (nAll rn li)) (nD (nAll rn li)) (nL (nAll rn li)) (upd topsX li (pv (topN (nAll rn li)))) dptX lstX stryX srtX linX tokAX wahX folX par_X opnX) ++ (txW E tx n (slot oa pi))) ++ poW E oa ta tl ct ps sn cb tk) H := hP
          have hD : va_D A (((neW E z (nO (nAll rn li)) (nD (nAll rn li)) (nL (nAll rn li)) (upd topsX li (pv (topN (nAll rn li)))) dptX lstX stryX srtX linX tokAX wahX folX par_X opnX) ++ (txW E tx n (slot oa pi))) ++ poW E oa ta tl ct ps sn cb tk) := hD
          obtain ⟨f53, ef53⟩ : ∃ z : Nat → Int32, z = upd topsX li (pv (topN (nAll rn li))) := ⟨_, rfl⟩
          rw [← ef53] at hP hD
          refine lv_aload_n hx hb dX2_read_54 rfl (lv_at hl 1 rfl) ?_
          refine va_get (D := G) (ci := 2) (v := .ref (z 2)) (C := RX2) (T := TX2) (N := 14) hx hb hts hin2 hown hK hP 0 rfl rfl 1 (by decide) (hts (Cond.fieldLink RX2 15 "IndentRules$Nesting" "depths" "[I") (List.mem_of_getElem? (i := 7) rfl)) (fun _ h9 => h9) rfl dX2_read_55 ?_
          refine lv_iload_n hx hb dX2_read_58 rfl (lv_at hl 0 rfl) ?_
          refine lv_aload_n hx hb dX2_read_59 rfl (lv_at hl 1 rfl) ?_
          refine va_get (D := G) (ci := 2) (v := .int (nI (nD (nAll rn li)))) (C := RX2) (T := TX2) (N := 14) hx hb hts hin2 hown hK hP 0 rfl rfl 12 (by decide) (hts (Cond.fieldLink RX2 50 "IndentRules$Nesting" "height" "I") (List.mem_of_getElem? (i := 2) rfl)) (fun _ h9 => h9) rfl dX2_read_60 ?_
          refine k_iast (D := G) (tys := TYS E) (j := li) (x := (nI (nD (nAll rn li)))) (f := dptX) (n := 20) hx hb hK hP hD hS 2 0 rfl rfl (by omega) (by decide) dX2_read_63 (fun H locs hP hD hS => ?_)
          have hP : va_P G vwCl (((neW E z (nO (nAll rn li)) (nD (nAll rn li)) (nL (nAll rn li)) f53 (upd dptX li (nI (nD (nAll rn li)))) lstX stryX srtX linX tokAX wahX folX par_X opnX) ++ (txW E tx n (slot oa pi))) ++ poW E oa ta tl ct ps sn cb tk) H := hP
          have hD : va_D A (((neW E z (nO (nAll rn li)) (nD (nAll rn li)) (nL (nAll rn li)) f53 (upd dptX li (nI (nD (nAll rn li)))) lstX stryX srtX linX tokAX wahX folX par_X opnX) ++ (txW E tx n (slot oa pi))) ++ poW E oa ta tl ct ps sn cb tk) := hD
          obtain ⟨f63, ef63⟩ : ∃ z : Nat → Int32, z = upd dptX li (nI (nD (nAll rn li))) := ⟨_, rfl⟩
          rw [← ef63] at hP hD
          refine lv_aload_n hx hb dX2_read_64 rfl (lv_at hl 1 rfl) ?_
          refine va_get (D := G) (ci := 2) (v := .ref (z 3)) (C := RX2) (T := TX2) (N := 14) hx hb hts hin2 hown hK hP 0 rfl rfl 2 (by decide) (hts (Cond.fieldLink RX2 18 "IndentRules$Nesting" "lasts" "[I") (List.mem_of_getElem? (i := 8) rfl)) (fun _ h9 => h9) rfl dX2_read_65 ?_
          refine lv_iload_n hx hb dX2_read_68 rfl (lv_at hl 0 rfl) ?_
          refine lv_aload_n hx hb dX2_read_69 rfl (lv_at hl 1 rfl) ?_
          refine va_get (D := G) (ci := 2) (v := .int (nI (nL (nAll rn li)))) (C := RX2) (T := TX2) (N := 14) hx hb hts hin2 hown hK hP 0 rfl rfl 13 (by decide) (hts (Cond.fieldLink RX2 53 "IndentRules$Nesting" "last" "I") (List.mem_of_getElem? (i := 3) rfl)) (fun _ h9 => h9) rfl dX2_read_70 ?_
          refine k_iast (D := G) (tys := TYS E) (j := li) (x := (nI (nL (nAll rn li)))) (f := lstX) (n := 20) hx hb hK hP hD hS 3 0 rfl rfl (by omega) (by decide) dX2_read_73 (fun H locs hP hD hS => ?_)
          have hP : va_P G vwCl (((neW E z (nO (nAll rn li)) (nD (nAll rn li)) (nL (nAll rn li)) f53 f63 (upd lstX li (nI (nL (nAll rn li)))) stryX srtX linX tokAX wahX folX par_X opnX) ++ (txW E tx n (slot oa pi))) ++ poW E oa ta tl ct ps sn cb tk) H := hP
          have hD : va_D A (((neW E z (nO (nAll rn li)) (nD (nAll rn li)) (nL (nAll rn li)) f53 f63 (upd lstX li (nI (nL (nAll rn li)))) stryX srtX linX tokAX wahX folX par_X opnX) ++ (txW E tx n (slot oa pi))) ++ poW E oa ta tl ct ps sn cb tk) := hD
          obtain ⟨f73, ef73⟩ : ∃ z : Nat → Int32, z = upd lstX li (nI (nL (nAll rn li))) := ⟨_, rfl⟩
          rw [← ef73] at hP hD
          refine lv_aload_n hx hb dX2_read_74 rfl (lv_at hl 1 rfl) ?_
          refine va_get (D := G) (ci := 2) (v := .ref (z 4)) (C := RX2) (T := TX2) (N := 14) hx hb hts hin2 hown hK hP 0 rfl rfl 3 (by decide) (hts (Cond.fieldLink RX2 21 "IndentRules$Nesting" "strays" "[I") (List.mem_of_getElem? (i := 9) rfl)) (fun _ h9 => h9) rfl dX2_read_75 ?_
          refine lv_iload_n hx hb dX2_read_78 rfl (lv_at hl 0 rfl) ?_
          refine lv_iconst (v := (nI 0)) hx hb dX2_read_79 (by decide) ?_
          refine k_iast (D := G) (tys := TYS E) (j := li) (x := (nI 0)) (f := stryX) (n := 20) hx hb hK hP hD hS 4 0 rfl rfl (by omega) (by decide) dX2_read_80 (fun H locs hP hD hS => ?_)
          have hP : va_P G vwCl (((neW E z (nO (nAll rn li)) (nD (nAll rn li)) (nL (nAll rn li)) f53 f63 f73 (upd stryX li (nI 0)) srtX linX tokAX wahX folX par_X opnX) ++ (txW E tx n (slot oa pi))) ++ poW E oa ta tl ct ps sn cb tk) H := hP
          have hD : va_D A (((neW E z (nO (nAll rn li)) (nD (nAll rn li)) (nL (nAll rn li)) f53 f63 f73 (upd stryX li (nI 0)) srtX linX tokAX wahX folX par_X opnX) ++ (txW E tx n (slot oa pi))) ++ poW E oa ta tl ct ps sn cb tk) := hD
          obtain ⟨f80, ef80⟩ : ∃ z : Nat → Int32, z = upd stryX li (nI 0) := ⟨_, rfl⟩
          rw [← ef80] at hP hD
          have hC3 : CN (nStart li (nAll rn li)) (li + 1) f53 f63 f73 f80 srtX linX tokAX wahX folX par_X opnX := by rw [ef53, ef63, ef73, ef80]; exact CN_start hC2
          refine lv_aload_n hx hb dX2_read_81 rfl (lv_at hl 1 rfl) ?_
          refine lv_aload_n hx hb dX2_read_82 rfl (lv_at hl 2 rfl) ?_
          refine va_get (D := G) (ci := 4) (v := .ref (tx 1)) (C := RX4) (T := TX4) (N := 2) hx hb hts hin4 hown hK hP 12 rfl rfl 0 (by decide) (hts (Cond.fieldLink RX2 61 "IndentRules$Text" "lines" "[LIndentRules$Line;") (List.mem_of_getElem? (i := 10) rfl)) (fun _ h9 => h9) rfl dX2_read_83 ?_
          refine lv_iload_n hx hb dX2_read_86 rfl (lv_at hl 0 rfl) ?_
          refine k_aald (D := G) (tys := TYS E) (j := li) (f := (slot oa pi)) (n := 20) hx hb hK hP 13 2 rfl rfl (by omega) (by decide) dX2_read_87 ?_
          refine W.eq (g2 := F0 m 88 ls [.ref (oa (pi li)), .ref (z 0)]) rfl ?_
          refine lv_iload_n hx hb dX2_read_88 rfl (lv_at hl 0 rfl) ?_
          refine we_v (n := 2) (G := G) (E := E) (As := [.ref (oa (pi li)), .int (nI li)]) (rest := []) (ci := 2) (q0 := 0) (X := (neW E z (nO (nAll rn li)) (nD (nAll rn li)) (nL (nAll rn li)) f53 f63 f73 f80 srtX linX tokAX wahX folX par_X opnX) ++ (txW E tx n (slot oa pi))) (pl := poW E oa ta tl ct ps sn cb tk) (cx := neW E z (nO (nStart li (nAll rn li))) (nD (nStart li (nAll rn li))) (nL (nStart li (nAll rn li))) f53 f63 f73 f80 srtX linX tokAX wahX folX par_X opnX) (ex := [((oa (pi li)), .inr (1, [.ref (ta (pi li)), .int (nI (tl (pi li))), .int (nI (ct (pi li))), .int (nI (ps (pi li))), .int (sn (pi li)), .int (cb (pi li))])), ((ta (pi li)), .inl (E.1, 9, .inl (tk (pi li))))]) (wn := fun (u : (Nat → Int32) × (Nat → Int32) × (Nat → Int32) × (Nat → Int32) × (Nat → Int32) × (Nat → Int32) × (Nat → Int32) × (Nat → Int32)) => neW E z (nO (nLine (rn li) li (nStart li (nAll rn li)) (pres (rn li)))) (nD (nLine (rn li) li (nStart li (nAll rn li)) (pres (rn li)))) (nL (nLine (rn li) li (nStart li (nAll rn li)) (pres (rn li)))) f53 f63 f73 u.1 u.2.1 u.2.2.1 u.2.2.2.1 u.2.2.2.2.1 u.2.2.2.2.2.1 u.2.2.2.2.2.2.1 u.2.2.2.2.2.2.2) ⟨hx, hb, hml, hown, hts⟩ hK hZ hS hA (fun sz => c_X2_readLine l G E z f53 f63 f73 f80 srtX linX tokAX wahX folX par_X opnX (oa (pi li)) (ta (pi li)) (tl (pi li)) (ct (pi li)) (ps (pi li)) (sn (pi li)) (cb (pi li)) (tk (pi li)) (rn li) li (nStart li (nAll rn li)) (li + 1) (li + 1) (9 * li) (hrn li (by omega)) hp3 hp4 hp5 (by first | assumption | omega) (Nat.lt_succ_self _) (Nat.lt_succ_self _) hC3 hwf1 (by omega) sz) gX2_read_X2_readLine rfl rfl rfl (by decide +kernel) ⟨Nat.le_of_ble_eq_true rfl, Nat.le_of_ble_eq_true rfl⟩ hP hD [0, 1, 2, 3, 4, 5, 6, 7, 8, 9, 10, 11] rfl (by decide) (fun k => if k = 0 then (pi li) else 20 + (pi li)) (po_e2 hp1) (fun _ _ ha hb h => po_i2 ha hb h) (fun _ => rfl) rfl rfl hl.1 rfl rfl (Nat.le_of_ble_eq_true rfl) dX2_read_89 ⟨Nat.zero_le _, Nat.zero_le _⟩ (fun u89 H locs p89 hP hD hS => ?_)
          obtain ⟨stry'_89, srt'_89, lin'_89, tokA'_89, wah'_89, fol'_89, par_'_89, opn'_89⟩ := u89
          dsimp only at p89 hP hD
          have hP : va_P G vwCl (((neW E z (nO (nLine (rn li) li (nStart li (nAll rn li)) (pres (rn li)))) (nD (nLine (rn li) li (nStart li (nAll rn li)) (pres (rn li)))) (nL (nLine (rn li) li (nStart li (nAll rn li)) (pres (rn li)))) f53 f63 f73 stry'_89 srt'_89 lin'_89 tokA'_89 wah'_89 fol'_89 par_'_89 opn'_89) ++ (txW E tx n (slot oa pi))) ++ poW E oa ta tl ct ps sn cb tk) H := hP
          have hD : va_D A (((neW E z (nO (nLine (rn li) li (nStart li (nAll rn li)) (pres (rn li)))) (nD (nLine (rn li) li (nStart li (nAll rn li)) (pres (rn li)))) (nL (nLine (rn li) li (nStart li (nAll rn li)) (pres (rn li)))) f53 f63 f73 stry'_89 srt'_89 lin'_89 tokA'_89 wah'_89 fol'_89 par_'_89 opn'_89) ++ (txW E tx n (slot oa pi))) ++ poW E oa ta tl ct ps sn cb tk) := hD
          refine lv_iinc (v := (nI (li + 1))) (lv' := [(2, .int (nI (li + 1))), (0, .ref (z 0)), (1, .ref (tx 0))]) hx hb dX2_read_92 hl (k := 0) rfl (k_inc li) (by decide) rfl (fun ls hl => ?_)
          refine lv_goto (tgt := 17) hx hb dX2_read_95 (by decide) ?_
          exact ih17 (li + 1) f53 f63 f73 stry'_89 srt'_89 lin'_89 tokA'_89 wah'_89 fol'_89 par_'_89 opn'_89 _ _ (by omega) p89 (by omega) hP hD hS ls (lv_sub hl [0, 1, 2] rfl)
        · refine lv_aload_n hx hb dX2_read_37 rfl (lv_at hl 1 rfl) ?_
          refine va_get (D := G) (ci := 2) (v := .ref (z 12)) (C := RX2) (T := TX2) (N := 14) hx hb hts hin2 hown hK hP 0 rfl rfl 11 (by decide) (hts (Cond.fieldLink RX2 43 "IndentRules$Nesting" "open" "[I") (List.mem_of_getElem? (i := 6) rfl)) (fun _ h9 => h9) rfl dX2_read_38 ?_
          refine lv_aload_n hx hb dX2_read_41 rfl (lv_at hl 1 rfl) ?_
          refine va_get (D := G) (ci := 2) (v := .int (nI (nD (nAll rn li)))) (C := RX2) (T := TX2) (N := 14) hx hb hts hin2 hown hK hP 0 rfl rfl 12 (by decide) (hts (Cond.fieldLink RX2 50 "IndentRules$Nesting" "height" "I") (List.mem_of_getElem? (i := 2) rfl)) (fun _ h9 => h9) rfl dX2_read_42 ?_
          refine lv_iconst (v := (nI 1)) hx hb dX2_read_45 (by decide) ?_
          refine k_isub (a := (nD (nAll rn li))) (b := 1) hx hb (by omega) dX2_read_46 ?_
          refine k_iald (D := G) (tys := TYS E) (j := ((nD (nAll rn li)) - 1)) (f := opnX) (n := 180) hx hb hK hP 11 0 rfl rfl (by omega) (by decide) dX2_read_47 ?_
          rw [show opnX (nD (nAll rn li) - 1) = pv (topN (nAll rn li)) by rw [hC2.2.2 _ (by omega)]; unfold topN; rw [if_neg (by omega)]; rfl]
          refine lv_goto (tgt := 53) hx hb dX2_read_48 (by decide) ?_
          refine k_iast (D := G) (tys := TYS E) (j := li) (x := (pv (topN (nAll rn li)))) (f := topsX) (n := 20) hx hb hK hP hD hS 1 0 rfl rfl (by omega) (by decide) dX2_read_53 (fun H locs hP hD hS => ?_)
          have hP : va_P G vwCl (((neW E z (nO (nAll rn li)) (nD (nAll rn li)) (nL (nAll rn li)) (upd topsX li (pv (topN (nAll rn li)))) dptX lstX stryX srtX linX tokAX wahX folX par_X opnX) ++ (txW E tx n (slot oa pi))) ++ poW E oa ta tl ct ps sn cb tk) H := hP
          have hD : va_D A (((neW E z (nO (nAll rn li)) (nD (nAll rn li)) (nL (nAll rn li)) (upd topsX li (pv (topN (nAll rn li)))) dptX lstX stryX srtX linX tokAX wahX folX par_X opnX) ++ (txW E tx n (slot oa pi))) ++ poW E oa ta tl ct ps sn cb tk) := hD
          obtain ⟨f53, ef53⟩ : ∃ z : Nat → Int32, z = upd topsX li (pv (topN (nAll rn li))) := ⟨_, rfl⟩
          rw [← ef53] at hP hD
          refine lv_aload_n hx hb dX2_read_54 rfl (lv_at hl 1 rfl) ?_
          refine va_get (D := G) (ci := 2) (v := .ref (z 2)) (C := RX2) (T := TX2) (N := 14) hx hb hts hin2 hown hK hP 0 rfl rfl 1 (by decide) (hts (Cond.fieldLink RX2 15 "IndentRules$Nesting" "depths" "[I") (List.mem_of_getElem? (i := 7) rfl)) (fun _ h9 => h9) rfl dX2_read_55 ?_
          refine lv_iload_n hx hb dX2_read_58 rfl (lv_at hl 0 rfl) ?_
          refine lv_aload_n hx hb dX2_read_59 rfl (lv_at hl 1 rfl) ?_
          refine va_get (D := G) (ci := 2) (v := .int (nI (nD (nAll rn li)))) (C := RX2) (T := TX2) (N := 14) hx hb hts hin2 hown hK hP 0 rfl rfl 12 (by decide) (hts (Cond.fieldLink RX2 50 "IndentRules$Nesting" "height" "I") (List.mem_of_getElem? (i := 2) rfl)) (fun _ h9 => h9) rfl dX2_read_60 ?_
          refine k_iast (D := G) (tys := TYS E) (j := li) (x := (nI (nD (nAll rn li)))) (f := dptX) (n := 20) hx hb hK hP hD hS 2 0 rfl rfl (by omega) (by decide) dX2_read_63 (fun H locs hP hD hS => ?_)
          have hP : va_P G vwCl (((neW E z (nO (nAll rn li)) (nD (nAll rn li)) (nL (nAll rn li)) f53 (upd dptX li (nI (nD (nAll rn li)))) lstX stryX srtX linX tokAX wahX folX par_X opnX) ++ (txW E tx n (slot oa pi))) ++ poW E oa ta tl ct ps sn cb tk) H := hP
          have hD : va_D A (((neW E z (nO (nAll rn li)) (nD (nAll rn li)) (nL (nAll rn li)) f53 (upd dptX li (nI (nD (nAll rn li)))) lstX stryX srtX linX tokAX wahX folX par_X opnX) ++ (txW E tx n (slot oa pi))) ++ poW E oa ta tl ct ps sn cb tk) := hD
          obtain ⟨f63, ef63⟩ : ∃ z : Nat → Int32, z = upd dptX li (nI (nD (nAll rn li))) := ⟨_, rfl⟩
          rw [← ef63] at hP hD
          refine lv_aload_n hx hb dX2_read_64 rfl (lv_at hl 1 rfl) ?_
          refine va_get (D := G) (ci := 2) (v := .ref (z 3)) (C := RX2) (T := TX2) (N := 14) hx hb hts hin2 hown hK hP 0 rfl rfl 2 (by decide) (hts (Cond.fieldLink RX2 18 "IndentRules$Nesting" "lasts" "[I") (List.mem_of_getElem? (i := 8) rfl)) (fun _ h9 => h9) rfl dX2_read_65 ?_
          refine lv_iload_n hx hb dX2_read_68 rfl (lv_at hl 0 rfl) ?_
          refine lv_aload_n hx hb dX2_read_69 rfl (lv_at hl 1 rfl) ?_
          refine va_get (D := G) (ci := 2) (v := .int (nI (nL (nAll rn li)))) (C := RX2) (T := TX2) (N := 14) hx hb hts hin2 hown hK hP 0 rfl rfl 13 (by decide) (hts (Cond.fieldLink RX2 53 "IndentRules$Nesting" "last" "I") (List.mem_of_getElem? (i := 3) rfl)) (fun _ h9 => h9) rfl dX2_read_70 ?_
          refine k_iast (D := G) (tys := TYS E) (j := li) (x := (nI (nL (nAll rn li)))) (f := lstX) (n := 20) hx hb hK hP hD hS 3 0 rfl rfl (by omega) (by decide) dX2_read_73 (fun H locs hP hD hS => ?_)
          have hP : va_P G vwCl (((neW E z (nO (nAll rn li)) (nD (nAll rn li)) (nL (nAll rn li)) f53 f63 (upd lstX li (nI (nL (nAll rn li)))) stryX srtX linX tokAX wahX folX par_X opnX) ++ (txW E tx n (slot oa pi))) ++ poW E oa ta tl ct ps sn cb tk) H := hP
          have hD : va_D A (((neW E z (nO (nAll rn li)) (nD (nAll rn li)) (nL (nAll rn li)) f53 f63 (upd lstX li (nI (nL (nAll rn li)))) stryX srtX linX tokAX wahX folX par_X opnX) ++ (txW E tx n (slot oa pi))) ++ poW E oa ta tl ct ps sn cb tk) := hD
          obtain ⟨f73, ef73⟩ : ∃ z : Nat → Int32, z = upd lstX li (nI (nL (nAll rn li))) := ⟨_, rfl⟩
          rw [← ef73] at hP hD
          refine lv_aload_n hx hb dX2_read_74 rfl (lv_at hl 1 rfl) ?_
          refine va_get (D := G) (ci := 2) (v := .ref (z 4)) (C := RX2) (T := TX2) (N := 14) hx hb hts hin2 hown hK hP 0 rfl rfl 3 (by decide) (hts (Cond.fieldLink RX2 21 "IndentRules$Nesting" "strays" "[I") (List.mem_of_getElem? (i := 9) rfl)) (fun _ h9 => h9) rfl dX2_read_75 ?_
          refine lv_iload_n hx hb dX2_read_78 rfl (lv_at hl 0 rfl) ?_
          refine lv_iconst (v := (nI 0)) hx hb dX2_read_79 (by decide) ?_
          refine k_iast (D := G) (tys := TYS E) (j := li) (x := (nI 0)) (f := stryX) (n := 20) hx hb hK hP hD hS 4 0 rfl rfl (by omega) (by decide) dX2_read_80 (fun H locs hP hD hS => ?_)
          have hP : va_P G vwCl (((neW E z (nO (nAll rn li)) (nD (nAll rn li)) (nL (nAll rn li)) f53 f63 f73 (upd stryX li (nI 0)) srtX linX tokAX wahX folX par_X opnX) ++ (txW E tx n (slot oa pi))) ++ poW E oa ta tl ct ps sn cb tk) H := hP
          have hD : va_D A (((neW E z (nO (nAll rn li)) (nD (nAll rn li)) (nL (nAll rn li)) f53 f63 f73 (upd stryX li (nI 0)) srtX linX tokAX wahX folX par_X opnX) ++ (txW E tx n (slot oa pi))) ++ poW E oa ta tl ct ps sn cb tk) := hD
          obtain ⟨f80, ef80⟩ : ∃ z : Nat → Int32, z = upd stryX li (nI 0) := ⟨_, rfl⟩
          rw [← ef80] at hP hD
          have hC3 : CN (nStart li (nAll rn li)) (li + 1) f53 f63 f73 f80 srtX linX tokAX wahX folX par_X opnX := by rw [ef53, ef63, ef73, ef80]; exact CN_start hC2
          refine lv_aload_n hx hb dX2_read_81 rfl (lv_at hl 1 rfl) ?_
          refine lv_aload_n hx hb dX2_read_82 rfl (lv_at hl 2 rfl) ?_
          refine va_get (D := G) (ci := 4) (v := .ref (tx 1)) (C := RX4) (T := TX4) (N := 2) hx hb hts hin4 hown hK hP 12 rfl rfl 0 (by decide) (hts (Cond.fieldLink RX2 61 "IndentRules$Text" "lines" "[LIndentRules$Line;") (List.mem_of_getElem? (i := 10) rfl)) (fun _ h9 => h9) rfl dX2_read_83 ?_
          refine lv_iload_n hx hb dX2_read_86 rfl (lv_at hl 0 rfl) ?_
          refine k_aald (D := G) (tys := TYS E) (j := li) (f := (slot oa pi)) (n := 20) hx hb hK hP 13 2 rfl rfl (by omega) (by decide) dX2_read_87 ?_
          refine W.eq (g2 := F0 m 88 ls [.ref (oa (pi li)), .ref (z 0)]) rfl ?_
          refine lv_iload_n hx hb dX2_read_88 rfl (lv_at hl 0 rfl) ?_
          refine we_v (n := 2) (G := G) (E := E) (As := [.ref (oa (pi li)), .int (nI li)]) (rest := []) (ci := 2) (q0 := 0) (X := (neW E z (nO (nAll rn li)) (nD (nAll rn li)) (nL (nAll rn li)) f53 f63 f73 f80 srtX linX tokAX wahX folX par_X opnX) ++ (txW E tx n (slot oa pi))) (pl := poW E oa ta tl ct ps sn cb tk) (cx := neW E z (nO (nStart li (nAll rn li))) (nD (nStart li (nAll rn li))) (nL (nStart li (nAll rn li))) f53 f63 f73 f80 srtX linX tokAX wahX folX par_X opnX) (ex := [((oa (pi li)), .inr (1, [.ref (ta (pi li)), .int (nI (tl (pi li))), .int (nI (ct (pi li))), .int (nI (ps (pi li))), .int (sn (pi li)), .int (cb (pi li))])), ((ta (pi li)), .inl (E.1, 9, .inl (tk (pi li))))]) (wn := fun (u : (Nat → Int32) × (Nat → Int32) × (Nat → Int32) × (Nat → Int32) × (Nat → Int32) × (Nat → Int32) × (Nat → Int32) × (Nat → Int32)) => neW E z (nO (nLine (rn li) li (nStart li (nAll rn li)) (pres (rn li)))) (nD (nLine (rn li) li (nStart li (nAll rn li)) (pres (rn li)))) (nL (nLine (rn li) li (nStart li (nAll rn li)) (pres (rn li)))) f53 f63 f73 u.1 u.2.1 u.2.2.1 u.2.2.2.1 u.2.2.2.2.1 u.2.2.2.2.2.1 u.2.2.2.2.2.2.1 u.2.2.2.2.2.2.2) ⟨hx, hb, hml, hown, hts⟩ hK hZ hS hA (fun sz => c_X2_readLine l G E z f53 f63 f73 f80 srtX linX tokAX wahX folX par_X opnX (oa (pi li)) (ta (pi li)) (tl (pi li)) (ct (pi li)) (ps (pi li)) (sn (pi li)) (cb (pi li)) (tk (pi li)) (rn li) li (nStart li (nAll rn li)) (li + 1) (li + 1) (9 * li) (hrn li (by omega)) hp3 hp4 hp5 (by first | assumption | omega) (Nat.lt_succ_self _) (Nat.lt_succ_self _) hC3 hwf1 (by omega) sz) gX2_read_X2_readLine rfl rfl rfl (by decide +kernel) ⟨Nat.le_of_ble_eq_true rfl, Nat.le_of_ble_eq_true rfl⟩ hP hD [0, 1, 2, 3, 4, 5, 6, 7, 8, 9, 10, 11] rfl (by decide) (fun k => if k = 0 then (pi li) else 20 + (pi li)) (po_e2 hp1) (fun _ _ ha hb h => po_i2 ha hb h) (fun _ => rfl) rfl rfl hl.1 rfl rfl (Nat.le_of_ble_eq_true rfl) dX2_read_89 ⟨Nat.zero_le _, Nat.zero_le _⟩ (fun u89 H locs p89 hP hD hS => ?_)
          obtain ⟨stry'_89, srt'_89, lin'_89, tokA'_89, wah'_89, fol'_89, par_'_89, opn'_89⟩ := u89
          dsimp only at p89 hP hD
          have hP : va_P G vwCl (((neW E z (nO (nLine (rn li) li (nStart li (nAll rn li)) (pres (rn li)))) (nD (nLine (rn li) li (nStart li (nAll rn li)) (pres (rn li)))) (nL (nLine (rn li) li (nStart li (nAll rn li)) (pres (rn li)))) f53 f63 f73 stry'_89 srt'_89 lin'_89 tokA'_89 wah'_89 fol'_89 par_'_89 opn'_89) ++ (txW E tx n (slot oa pi))) ++ poW E oa ta tl ct ps sn cb tk) H := hP
          have hD : va_D A (((neW E z (nO (nLine (rn li) li (nStart li (nAll rn li)) (pres (rn li)))) (nD (nLine (rn li) li (nStart li (nAll rn li)) (pres (rn li)))) (nL (nLine (rn li) li (nStart li (nAll rn li)) (pres (rn li)))) f53 f63 f73 stry'_89 srt'_89 lin'_89 tokA'_89 wah'_89 fol'_89 par_'_89 opn'_89) ++ (txW E tx n (slot oa pi))) ++ poW E oa ta tl ct ps sn cb tk) := hD
          refine lv_iinc (v := (nI (li + 1))) (lv' := [(2, .int (nI (li + 1))), (0, .ref (z 0)), (1, .ref (tx 0))]) hx hb dX2_read_92 hl (k := 0) rfl (k_inc li) (by decide) rfl (fun ls hl => ?_)
          refine lv_goto (tgt := 17) hx hb dX2_read_95 (by decide) ?_
          exact ih17 (li + 1) f53 f63 f73 stry'_89 srt'_89 lin'_89 tokA'_89 wah'_89 fol'_89 par_'_89 opn'_89 _ _ (by omega) p89 (by omega) hP hD hS ls (lv_sub hl [0, 1, 2] rfl)
  exact lp17 (n - 0 + 1) 0 tops dpt lst stry srt lin tokA wah fol par_ opn _ _ (Nat.zero_le _) ⟨fun k hk => absurd hk (Nat.not_lt_zero _), fun k hk => absurd hk (Nat.not_lt_zero _), fun k hk => absurd hk (Nat.not_lt_zero _)⟩ (Nat.lt_succ_self _) hP hD hS ls (lv_sub hl [0, 1, 2] rfl)

set_option maxHeartbeats 4000000 in
set_option maxRecDepth 100000 in
theorem c_X2_withoutPartner (l : Launch) (G : va_G) (E : cEnv) (z : Nat → Nat) (op hg la : Nat) (tops dpt lst stry srt lin tokA wah fol par_ opn : Nat → Int32) (F : Nat → Nat → Nat) (hop : op ≤ 180) (hpt : ∀ k, k < op → par_ k = pv (F 5 k)) : Met l yX2_withoutPartner wsX2_withoutPartner ({ frames := 0, cells := 0, slots := 0, locals := 0 }) (va_Pc [.ref (z 0)] (PR G E (neW E z op hg la tops dpt lst stry srt lin tokA wah fol par_ opn))) (vp_Si (fun r => r = nI (mnP F op))) 0 0 (fun _ => False) := by
  refine Met.ofW (cc := cX2_withoutPartner) (maxL := 3) (ret := (some .int)) (by decide) rfl ?_
  intro p e s m args below meth c s₁ B hml hv
  obtain ⟨rfl, hP, hK, hZ⟩ := hv
  have hx := B.exec
  have hb := B.bytes
  have hr := B.returns
  have hts := atoms_spec (ws := wsX2_withoutPartner) B.pre
  have hown : s.vm.findClass RX2 = some m.cls := findClass_of_methodNamed B.named
  have hlocks := B.notSynchronized
  have hin2 : ∀ w ∈ u_ws RX2 TX2 14, w ∈ wsX2_withoutPartner := mem_pl [3, 4, 5, 6, 7, 8, 9, 10, 11, 12, 13, 14, 15, 16] (by rfl)
  have hS : va_S (fun _ => False) s.heap s.heap [] := va_S.rf
  have hl := lv_entry ([.ref (z 0)]) (n := 3) (Nat.le_of_ble_eq_true rfl)
  rw [lg_entry_eq]
  generalize (lg_sl ([.ref (z 0)]) ++ List.replicate (3 - (lg_sl ([.ref (z 0)])).length) Slot.unset).toArray = ls at hl ⊢
  have hl : lv_has ls 3 [(0, .ref (z 0))] := hl
  refine lv_iconst (v := (nI 0)) hx hb dX2_withoutPartner_0 (by decide) ?_
  refine lv_istore_n (lv' := [(1, .int (nI 0)), (0, .ref (z 0))]) hx hb dX2_withoutPartner_1 rfl hl (by decide) rfl (fun ls hl => ?_)
  refine lv_iconst (v := (nI 0)) hx hb dX2_withoutPartner_2 (by decide) ?_
  refine lv_istore_n (lv' := [(2, .int (nI 0)), (1, .int (nI 0)), (0, .ref (z 0))]) hx hb dX2_withoutPartner_3 rfl hl (by decide) rfl (fun ls hl => ?_)
  have lp4 : ∀ (kk : Nat) (nn : Nat) (i : Nat), (i ≤ op) → (nn = mnP F i) → op - i < kk → ∀ ls : Array Slot, lv_has ls 3 [(2, .int (nI i)), (1, .int (nI nn)), (0, .ref (z 0))] → W p l e (headSpec wsX2_withoutPartner ({ frames := 0, cells := 0, slots := 0, locals := 0 } : Room)).room s m ([.ref (z 0)] : List Value).toArray below meth c s.heap [] 0 0 (MQ below (vp_Si (fun r => r = nI (mnP F op))) ([.ref (z 0)] : List Value).toArray s 0 0 (fun _ => False)) (F0 m 4 ls []) := by
    intro kk
    induction kk with
    | zero => intro nn i  hi hnn hkk; exact absurd hkk (Nat.not_lt_zero _)
    | succ kk ih4 =>
      intro nn i hi hnn hkk ls hl
      refine lv_iload_n hx hb dX2_withoutPartner_4 rfl (lv_at hl 0 rfl) ?_
      refine lv_aload_n hx hb dX2_withoutPartner_5 rfl (lv_at hl 2 rfl) ?_
      refine va_get (D := G) (ci := 2) (v := .int (nI op)) (C := RX2) (T := TX2) (N := 14) hx hb hts hin2 hown hK hP 0 rfl rfl 4 (by decide) (hts (Cond.fieldLink RX2 46 "IndentRules$Nesting" "openers" "I") (List.mem_of_getElem? (i := 1) rfl)) (fun _ h9 => h9) rfl dX2_withoutPartner_6 ?_
      refine n_icmp_ge (a := i) (b := op) (tgt := 32) hx hb (by omega) (by omega) dX2_withoutPartner_9 (by decide) (fun c9 => ?_) (fun c9 => ?_)
      · refine lv_iload_n hx hb dX2_withoutPartner_32 rfl (lv_at hl 1 rfl) ?_
        exact W.iret (v := (nI nn)) hx hb hr (fun tZ htZ hWZ => ⟨_, rfl, by rw [hnn, show i = op by omega], htZ⟩) (fun _ h => by cases h) dX2_withoutPartner_33
      · refine lv_aload_n hx hb dX2_withoutPartner_12 rfl (lv_at hl 2 rfl) ?_
        refine va_get (D := G) (ci := 2) (v := .ref (z 11)) (C := RX2) (T := TX2) (N := 14) hx hb hts hin2 hown hK hP 0 rfl rfl 10 (by decide) (hts (Cond.fieldLink RX2 40 "IndentRules$Nesting" "partnerLineOf" "[I") (List.mem_of_getElem? (i := 2) rfl)) (fun _ h9 => h9) rfl dX2_withoutPartner_13 ?_
        refine lv_iload_n hx hb dX2_withoutPartner_16 rfl (lv_at hl 0 rfl) ?_
        refine k_iald (D := G) (tys := TYS E) (j := i) (f := par_) (n := 180) hx hb hK hP 10 0 rfl rfl (by omega) (by decide) dX2_withoutPartner_17 ?_
        rw [hpt i (by omega)]
        refine lv_bipush (v := (-9)) hx hb dX2_withoutPartner_18 (by decide) ?_
        refine lv_icmp_ne (x := (pv (F 5 i))) (y := (-9)) (tgt := 26) hx hb dX2_withoutPartner_20 (by decide) (fun c20 => ?_) (fun c20 => ?_)
        · refine lv_iinc (v := (nI (i + 1))) (lv' := [(2, .int (nI (i + 1))), (1, .int (nI nn)), (0, .ref (z 0))]) hx hb dX2_withoutPartner_26 hl (k := 0) rfl (k_inc i) (by decide) rfl (fun ls hl => ?_)
          refine lv_goto (tgt := 4) hx hb dX2_withoutPartner_29 (by decide) ?_
          exact ih4 nn (i + 1) (by omega) (by rw [hnn]; show _ = mnP F i + _; rw [if_neg c20, Nat.add_zero]) (by omega) ls (lv_sub hl [0, 1, 2] rfl)
        · refine lv_iinc (v := (nI (nn + 1))) (lv' := [(1, .int (nI (nn + 1))), (2, .int (nI i)), (0, .ref (z 0))]) hx hb dX2_withoutPartner_23 hl (k := 1) rfl (k_inc nn) (by decide) rfl (fun ls hl => ?_)
          refine lv_iinc (v := (nI (i + 1))) (lv' := [(2, .int (nI (i + 1))), (1, .int (nI (nn + 1))), (0, .ref (z 0))]) hx hb dX2_withoutPartner_26 hl (k := 1) rfl (k_inc i) (by decide) rfl (fun ls hl => ?_)
          refine lv_goto (tgt := 4) hx hb dX2_withoutPartner_29 (by decide) ?_
          exact ih4 (nn + 1) (i + 1) (by omega) (by rw [hnn]; show _ = mnP F i + _; rw [if_pos c20]) (by omega) ls (lv_sub hl [0, 1, 2] rfl)
  exact lp4 (op - 0 + 1) 0 0 (Nat.zero_le _) rfl (Nat.lt_succ_self _) ls (lv_sub hl [0, 1, 2] rfl)

set_option maxHeartbeats 4000000 in
set_option maxRecDepth 100000 in
theorem c_X0_lay (l : Launch) (G : va_G) (E : cEnv) (y : Nat → Nat) (sett clA : Nat → Int32) (z : Nat → Nat) (op hg la : Nat) (tops dpt lst stry srt lin tokA wah fol par_ opn : Nat → Int32) (tx : Nat → Nat) (n : Nat) (pi : Nat → Nat) (oa ta : Nat → Nat) (tl ct ps : Nat → Nat) (sn cb : Nat → Int32) (tk : Nat → Nat → Int32) (rn : Nat → Nat) (hPL : PL n rn pi tl ct ps tk) (hn : n ≤ 20) (hrn : ∀ j, j < n → rn j < 1000000000) (hop : op = nO (nAll rn n)) (hCN : CN (nAll rn n) (n) tops dpt lst stry srt lin tokA wah fol par_ opn) (sz : Nat) : Met l yX0_lay wsX0_lay ({ frames := 3, cells := 0, slots := 0, locals := 72 }) (va_Pc [.ref (y 0), .ref (tx 0), .ref (z 0)] (PW G E (((lyW E y sett clA) ++ (neW E z op hg la tops dpt lst stry srt lin tokA wah fol par_ opn) ++ (txW E tx n (slot oa pi))) ++ poW E oa ta tl ct ps sn cb tk) sz)) (va_Qv (fun (clA' : Nat → Int32) => ∀ j, j < n → clA' j = cols sett rn n j) (fun (clA' : Nat → Int32) tQ => va_P G vwCl (((lyW E y sett clA') ++ (neW E z op hg la tops dpt lst stry srt lin tokA wah fol par_ opn) ++ (txW E tx n (slot oa pi))) ++ poW E oa ta tl ct ps sn cb tk) tQ.heap) (va_A (((lyW E y sett clA) ++ (neW E z op hg la tops dpt lst stry srt lin tokA wah fol par_ opn) ++ (txW E tx n (slot oa pi))) ++ poW E oa ta tl ct ps sn cb tk) sz)) 0 0 (va_A (((lyW E y sett clA) ++ (neW E z op hg la tops dpt lst stry srt lin tokA wah fol par_ opn) ++ (txW E tx n (slot oa pi))) ++ poW E oa ta tl ct ps sn cb tk) sz) := by
  refine Met.ofW (cc := cX0_lay) (maxL := 5) (ret := none) (by decide) rfl ?_
  intro p e s m args below meth c s₁ B hml hv
  obtain ⟨rfl, hsz, hP, hK, hD0, hZ⟩ := hv
  have hx := B.exec
  have hb := B.bytes
  have hr := B.returns
  have hts := atoms_spec (ws := wsX0_lay) B.pre
  have hown : s.vm.findClass RX0 = some m.cls := findClass_of_methodNamed B.named
  have hlocks := B.notSynchronized
  have hin0 : ∀ w ∈ u_ws RX0 TX0 2, w ∈ wsX0_lay := mem_pl [40, 41] (by rfl)
  have hin1 : ∀ w ∈ u_ws RX1 TX1 6, w ∈ wsX0_lay := mem_pl [42, 43, 44, 45, 46, 47] (by rfl)
  have hin4 : ∀ w ∈ u_ws RX4 TX4 2, w ∈ wsX0_lay := mem_pl [38, 39] (by rfl)
  subst hsz
  have hD := hD0.self (sz := s.heap.size)
  generalize hAe : va_A (((lyW E y sett clA) ++ (neW E z op hg la tops dpt lst stry srt lin tokA wah fol par_ opn) ++ (txW E tx n (slot oa pi))) ++ poW E oa ta tl ct ps sn cb tk) s.heap.size = A at hD hZ ⊢
  have hA : ∀ q : Nat, s.heap.size ≤ q → A q := fun q h => by rw [← hAe]; exact Or.inr h
  have hS : va_S A s.heap s.heap [] := va_S.rf
  have hl := lv_entry ([.ref (y 0), .ref (tx 0), .ref (z 0)]) (n := 5) (Nat.le_of_ble_eq_true rfl)
  rw [lg_entry_eq]
  generalize (lg_sl ([.ref (y 0), .ref (tx 0), .ref (z 0)]) ++ List.replicate (5 - (lg_sl ([.ref (y 0), .ref (tx 0), .ref (z 0)])).length) Slot.unset).toArray = ls at hl ⊢
  have hl : lv_has ls 5 [(0, .ref (y 0)), (1, .ref (tx 0)), (2, .ref (z 0))] := hl
  have hLN := hCN.ln hn hrn
  refine lv_iconst (v := (nI 0)) hx hb dX0_lay_0 (by decide) ?_
  refine lv_istore_n (lv' := [(3, .int (nI 0)), (0, .ref (y 0)), (1, .ref (tx 0)), (2, .ref (z 0))]) hx hb dX0_lay_1 rfl hl (by decide) rfl (fun ls hl => ?_)
  have lp2 : ∀ (kk : Nat) (i : Nat) (clX : Nat → Int32) (H : Heap) (locs : List Loc), (i ≤ n) → (∀ j, j < i → clX j = cols sett rn i j) → n - i < kk → va_P G vwCl (((lyW E y sett clX) ++ (neW E z op hg la tops dpt lst stry srt lin tokA wah fol par_ opn) ++ (txW E tx n (slot oa pi))) ++ poW E oa ta tl ct ps sn cb tk) H → va_D A (((lyW E y sett clX) ++ (neW E z op hg la tops dpt lst stry srt lin tokA wah fol par_ opn) ++ (txW E tx n (slot oa pi))) ++ poW E oa ta tl ct ps sn cb tk) → va_S A s.heap H locs → ∀ ls : Array Slot, lv_has ls 5 [(3, .int (nI i)), (0, .ref (y 0)), (1, .ref (tx 0)), (2, .ref (z 0))] → W p l e (headSpec wsX0_lay ({ frames := 3, cells := 0, slots := 0, locals := 72 } : Room)).room s m ([.ref (y 0), .ref (tx 0), .ref (z 0)] : List Value).toArray below meth c H locs 0 0 (MQ below (va_Qv (fun (clA' : Nat → Int32) => ∀ j, j < n → clA' j = cols sett rn n j) (fun (clA' : Nat → Int32) tQ => va_P G vwCl (((lyW E y sett clA') ++ (neW E z op hg la tops dpt lst stry srt lin tokA wah fol par_ opn) ++ (txW E tx n (slot oa pi))) ++ poW E oa ta tl ct ps sn cb tk) tQ.heap) A) ([.ref (y 0), .ref (tx 0), .ref (z 0)] : List Value).toArray s 0 0 A) (F0 m 2 ls []) := by
    intro kk
    induction kk with
    | zero => intro i clX H locs hi hcl hkk; exact absurd hkk (Nat.not_lt_zero _)
    | succ kk ih2 =>
      intro i clX H locs hi hcl hkk hP hD hS ls hl
      refine lv_iload_n hx hb dX0_lay_2 rfl (lv_at hl 0 rfl) ?_
      refine lv_aload_n hx hb dX0_lay_3 rfl (lv_at hl 2 rfl) ?_
      refine va_get (D := G) (ci := 4) (v := .int (nI n)) (C := RX4) (T := TX4) (N := 2) hx hb hts hin4 hown hK hP 15 rfl rfl 1 (by decide) (hts (Cond.fieldLink RX0 18 "IndentRules$Text" "size" "I") (List.mem_of_getElem? (i := 1) rfl)) (fun _ h9 => h9) rfl dX0_lay_4 ?_
      refine n_icmp_ge (a := i) (b := n) (tgt := 55) hx hb (by omega) (by omega) dX0_lay_7 (by decide) (fun c7 => ?_) (fun c7 => ?_)
      · exact W.vret hx hb hr (fun tZ htZ hWZ => ⟨⟨clX, rfl, fun j hj => by rw [hcl j (by omega), show i = n by omega], by show va_P G vwCl _ tZ.heap; rw [htZ]; exact hP⟩, hS.F htZ⟩) hS.2.2 dX0_lay_55
      · obtain ⟨hp1, hp2, hp3, hp4, hp5⟩ := hPL i (by omega)
        have hl9 := (len_lt 9 (rn i)).mp (hrn i (by omega))
        have htp := top_le (rn := rn) (i := i) (n := n) (by omega) hrn
        refine lv_aload_n hx hb dX0_lay_10 rfl (lv_at hl 2 rfl) ?_
        refine va_get (D := G) (ci := 4) (v := .ref (tx 1)) (C := RX4) (T := TX4) (N := 2) hx hb hts hin4 hown hK hP 15 rfl rfl 0 (by decide) (hts (Cond.fieldLink RX0 24 "IndentRules$Text" "lines" "[LIndentRules$Line;") (List.mem_of_getElem? (i := 2) rfl)) (fun _ h9 => h9) rfl dX0_lay_11 ?_
        refine lv_iload_n hx hb dX0_lay_14 rfl (lv_at hl 0 rfl) ?_
        refine k_aald (D := G) (tys := TYS E) (j := i) (f := (slot oa pi)) (n := 20) hx hb hK hP 16 2 rfl rfl (by omega) (by decide) dX0_lay_15 ?_
        refine W.eq (g2 := F0 m 16 ls [.ref (oa (pi i))]) rfl ?_
        refine lv_astore (lv' := [(4, .ref (oa (pi i))), (3, .int (nI i)), (0, .ref (y 0)), (1, .ref (tx 0)), (2, .ref (z 0))]) hx hb dX0_lay_16 hl (by decide) rfl (fun ls hl => ?_)
        refine lv_aload_n hx hb dX0_lay_18 rfl (lv_at hl 2 rfl) ?_
        refine va_get (D := G) (ci := 0) (v := .ref (y 2)) (C := RX0) (T := TX0) (N := 2) hx hb hts hin0 hown hK hP 0 rfl rfl 1 (by decide) (hts (Cond.fieldLink RX0 15 "IndentRules$Layout" "columns" "[I") (List.mem_of_getElem? (i := 3) rfl)) (fun _ h9 => h9) rfl dX0_lay_19 ?_
        refine lv_iload_n hx hb dX0_lay_22 rfl (lv_at hl 1 rfl) ?_
        refine lv_aload hx hb dX0_lay_23 (lv_at hl 0 rfl) ?_
        refine va_get (D := G) (ci := 1) (v := .int (nI (ct (pi i)))) (C := RX1) (T := TX1) (N := 6) hx hb hts hin1 hown hK hP (17 + (pi i)) (po_lnX rfl hp1) rfl 2 (by decide) (hts (Cond.fieldLink RX0 28 "IndentRules$Line" "count" "I") (List.mem_of_getElem? (i := 4) rfl)) (fun _ h9 => h9) rfl dX0_lay_25 ?_
        refine n_if_ne (a := (ct (pi i))) (tgt := 35) hx hb (by omega) dX0_lay_28 (by decide) (fun c28 => ?_) (fun c28 => ?_)
        · refine lv_aload_n hx hb dX0_lay_35 rfl (lv_at hl 2 rfl) ?_
          refine lv_aload_n hx hb dX0_lay_36 rfl (lv_at hl 4 rfl) ?_
          refine lv_iload_n hx hb dX0_lay_37 rfl (lv_at hl 1 rfl) ?_
          refine lv_aload hx hb dX0_lay_38 (lv_at hl 0 rfl) ?_
          refine va_get (D := G) (ci := 1) (v := .ref (ta (pi i))) (C := RX1) (T := TX1) (N := 6) hx hb hts hin1 hown hK hP (17 + (pi i)) (po_lnX rfl hp1) rfl 0 (by decide) (hts (Cond.fieldLink RX0 33 "IndentRules$Line" "tokens" "[I") (List.mem_of_getElem? (i := 5) rfl)) (fun _ h9 => h9) rfl dX0_lay_40 ?_
          refine lv_iconst (v := (nI 0)) hx hb dX0_lay_43 (by decide) ?_
          refine k_iald (D := G) (tys := TYS E) (j := 0) (f := (tk (pi i))) (n := 9) hx hb hK hP (17 + 20 + (pi i)) 0 (po_tkX rfl hp1) rfl (by decide) (by decide) dX0_lay_44 ?_
          rw [hp5 0 (by omega)]
          refine rv_i (n := 3) (G := G) (E := E) (As := [.ref (z 0), .int (nI i), .int (nI (tok (rn i) 0))]) (rest := [.int (nI i), .ref (y 2)]) (ci := 0) (q0 := 0) ⟨hx, hb, hml, hown, hts⟩ hK hZ hS (c_X0_columnBehind l G E y sett clX z op hg la tops dpt lst stry srt lin tokA wah fol par_ opn i (tok (rn i) 0) (nF (nAll rn n) 8 i) (nF (nAll rn n) 10 i) (nF (nAll rn n)) (nO (nAll rn n)) hLN (by first | assumption | omega) (tok_lt _ _) (hCN.2.1 i (by omega)).1 htp.1 (hCN.2.1 i (by omega)).2.2.1 htp.2) gX0_lay_X0_columnBehind rfl rfl rfl (by decide +kernel) ⟨Nat.le_of_ble_eq_true rfl, Nat.le_of_ble_eq_true rfl⟩ (hP.sub (ws' := ((lyW E y sett clX) ++ (neW E z op hg la tops dpt lst stry srt lin tokA wah fol par_ opn))) [0, 1, 2, 3, 4, 5, 6, 7, 8, 9, 10, 11, 12, 13, 14] rfl) rfl rfl hl.1 rfl rfl (Nat.le_of_ble_eq_true rfl) dX0_lay_45 ⟨Nat.zero_le _, Nat.zero_le _⟩ (fun r45 p45 => ?_)
          subst p45
          refine k_iast (D := G) (tys := TYS E) (j := i) (x := (cvt sett (nF (nAll rn n)) clX (nF (nAll rn n) 8 i) (nF (nAll rn n) 10 i) (tok (rn i) 0))) (f := clX) (n := 20) hx hb hK hP hD hS 2 0 rfl rfl (by omega) (by decide) dX0_lay_48 (fun H locs hP hD hS => ?_)
          have hP : va_P G vwCl (((lyW E y sett (upd clX i (cvt sett (nF (nAll rn n)) clX (nF (nAll rn n) 8 i) (nF (nAll rn n) 10 i) (tok (rn i) 0)))) ++ (neW E z op hg la tops dpt lst stry srt lin tokA wah fol par_ opn) ++ (txW E tx n (slot oa pi))) ++ poW E oa ta tl ct ps sn cb tk) H := hP
          have hD : va_D A (((lyW E y sett (upd clX i (cvt sett (nF (nAll rn n)) clX (nF (nAll rn n) 8 i) (nF (nAll rn n) 10 i) (tok (rn i) 0)))) ++ (neW E z op hg la tops dpt lst stry srt lin tokA wah fol par_ opn) ++ (txW E tx n (slot oa pi))) ++ poW E oa ta tl ct ps sn cb tk) := hD
          obtain ⟨f48, ef48⟩ : ∃ z : Nat → Int32, z = upd clX i (cvt sett (nF (nAll rn n)) clX (nF (nAll rn n) 8 i) (nF (nAll rn n) 10 i) (tok (rn i) 0)) := ⟨_, rfl⟩
          rw [← ef48] at hP hD
          have hv : (cvt sett (nF (nAll rn n)) clX (nF (nAll rn n) 8 i) (nF (nAll rn n) 10 i) (tok (rn i) 0)) = colAt sett rn i (cols sett rn i) := col_whole (by omega) hrn hcl (fun q => by rw [q, len_0] at hp3; omega)
          refine lv_iinc (v := (nI (i + 1))) (lv' := [(3, .int (nI (i + 1))), (4, .ref (oa (pi i))), (0, .ref (y 0)), (1, .ref (tx 0)), (2, .ref (z 0))]) hx hb dX0_lay_49 hl (k := 1) rfl (k_inc i) (by decide) rfl (fun ls hl => ?_)
          refine lv_goto (tgt := 2) hx hb dX0_lay_52 (by decide) ?_
          exact ih2 (i + 1) f48 _ _ (by omega) (upd_all (h := cols sett rn (i + 1)) ef48 (by show _ = upd (cols sett rn i) i _ i; rw [upd_s]; exact hv) (fun j hj => by rw [hcl j hj, cols_lt hj])) (by omega) hP hD hS ls (lv_sub hl [0, 2, 3, 4] rfl)
        · refine lv_iconst (v := (nI 0)) hx hb dX0_lay_31 (by decide) ?_
          refine lv_goto (tgt := 48) hx hb dX0_lay_32 (by decide) ?_
          refine k_iast (D := G) (tys := TYS E) (j := i) (x := (nI 0)) (f := clX) (n := 20) hx hb hK hP hD hS 2 0 rfl rfl (by omega) (by decide) dX0_lay_48 (fun H locs hP hD hS => ?_)
          have hP : va_P G vwCl (((lyW E y sett (upd clX i (nI 0))) ++ (neW E z op hg la tops dpt lst stry srt lin tokA wah fol par_ opn) ++ (txW E tx n (slot oa pi))) ++ poW E oa ta tl ct ps sn cb tk) H := hP
          have hD : va_D A (((lyW E y sett (upd clX i (nI 0))) ++ (neW E z op hg la tops dpt lst stry srt lin tokA wah fol par_ opn) ++ (txW E tx n (slot oa pi))) ++ poW E oa ta tl ct ps sn cb tk) := hD
          obtain ⟨f48, ef48⟩ : ∃ z : Nat → Int32, z = upd clX i (nI 0) := ⟨_, rfl⟩
          rw [← ef48] at hP hD
          have hv : (nI 0) = colAt sett rn i (cols sett rn i) := by unfold colAt; rw [if_pos (len_z.mp (by omega))]
          refine lv_iinc (v := (nI (i + 1))) (lv' := [(3, .int (nI (i + 1))), (4, .ref (oa (pi i))), (0, .ref (y 0)), (1, .ref (tx 0)), (2, .ref (z 0))]) hx hb dX0_lay_49 hl (k := 1) rfl (k_inc i) (by decide) rfl (fun ls hl => ?_)
          refine lv_goto (tgt := 2) hx hb dX0_lay_52 (by decide) ?_
          exact ih2 (i + 1) f48 _ _ (by omega) (upd_all (h := cols sett rn (i + 1)) ef48 (by show _ = upd (cols sett rn i) i _ i; rw [upd_s]; exact hv) (fun j hj => by rw [hcl j hj, cols_lt hj])) (by omega) hP hD hS ls (lv_sub hl [0, 2, 3, 4] rfl)
  exact lp2 (n - 0 + 1) 0 clA _ _ (Nat.zero_le _) (fun j hj => absurd hj (Nat.not_lt_zero _)) (Nat.lt_succ_self _) hP hD hS ls (lv_sub hl [0, 1, 2, 3] rfl)

set_option maxHeartbeats 4000000 in
set_option maxRecDepth 100000 in
theorem c_X0_choose (l : Launch) (G : va_G) (E : cEnv) (y : Nat → Nat) (sett clA : Nat → Int32) (x0 x1 x2 x3 : Int32) (sz : Nat) : Met l yX0_choose wsX0_choose ({ frames := 0, cells := 0, slots := 0, locals := 0 }) (va_Pc [.ref (y 0), .int x0, .int x1, .int x2, .int x3] (PW G E (lyW E y sett clA) sz)) (va_Qv (fun (sett' : Nat → Int32) => ∀ k, k < 4 → sett' k = st4 x0 x1 x2 x3 k) (fun (sett' : Nat → Int32) tQ => va_P G vwCl (lyW E y sett' clA) tQ.heap) (va_A (lyW E y sett clA) sz)) 0 0 (va_A (lyW E y sett clA) sz) := by
  refine Met.ofW (cc := cX0_choose) (maxL := 5) (ret := none) (by decide) rfl ?_
  intro p e s m args below meth c s₁ B hml hv
  obtain ⟨rfl, hsz, hP, hK, hD0, hZ⟩ := hv
  have hx := B.exec
  have hb := B.bytes
  have hr := B.returns
  have hts := atoms_spec (ws := wsX0_choose) B.pre
  have hown : s.vm.findClass RX0 = some m.cls := findClass_of_methodNamed B.named
  have hlocks := B.notSynchronized
  have hin0 : ∀ w ∈ u_ws RX0 TX0 2, w ∈ wsX0_choose := mem_pl [2, 3] (by rfl)
  subst hsz
  have hD := hD0.self (sz := s.heap.size)
  generalize hAe : va_A (lyW E y sett clA) s.heap.size = A at hD hZ ⊢
  have hA : ∀ q : Nat, s.heap.size ≤ q → A q := fun q h => by rw [← hAe]; exact Or.inr h
  have hS : va_S A s.heap s.heap [] := va_S.rf
  have hl := lv_entry ([.ref (y 0), .int x0, .int x1, .int x2, .int x3]) (n := 5) (Nat.le_of_ble_eq_true rfl)
  rw [lg_entry_eq]
  generalize (lg_sl ([.ref (y 0), .int x0, .int x1, .int x2, .int x3]) ++ List.replicate (5 - (lg_sl ([.ref (y 0), .int x0, .int x1, .int x2, .int x3])).length) Slot.unset).toArray = ls at hl ⊢
  have hl : lv_has ls 5 [(0, .ref (y 0)), (1, .int x0), (2, .int x1), (3, .int x2), (4, .int x3)] := hl
  refine lv_aload_n hx hb dX0_choose_0 rfl (lv_at hl 0 rfl) ?_
  refine va_get (D := G) (ci := 0) (v := .ref (y 1)) (C := RX0) (T := TX0) (N := 2) hx hb hts hin0 hown hK hP 0 rfl rfl 0 (by decide) (hts (Cond.fieldLink RX0 9 "IndentRules$Layout" "settings" "[I") (List.mem_of_getElem? (i := 1) rfl)) (fun _ h9 => h9) rfl dX0_choose_1 ?_
  refine lv_iconst (v := (nI 0)) hx hb dX0_choose_4 (by decide) ?_
  refine lv_iload_n hx hb dX0_choose_5 rfl (lv_at hl 1 rfl) ?_
  refine k_iast (D := G) (tys := TYS E) (j := 0) (x := x0) (f := sett) (n := 4) hx hb hK hP hD hS 1 0 rfl rfl (by decide) (by decide) dX0_choose_6 (fun H locs hP hD hS => ?_)
  have hP : va_P G vwCl (lyW E y (upd sett 0 x0) clA) H := hP
  have hD : va_D A (lyW E y (upd sett 0 x0) clA) := hD
  obtain ⟨f6, ef6⟩ : ∃ z : Nat → Int32, z = upd sett 0 x0 := ⟨_, rfl⟩
  rw [← ef6] at hP hD
  refine lv_aload_n hx hb dX0_choose_7 rfl (lv_at hl 0 rfl) ?_
  refine va_get (D := G) (ci := 0) (v := .ref (y 1)) (C := RX0) (T := TX0) (N := 2) hx hb hts hin0 hown hK hP 0 rfl rfl 0 (by decide) (hts (Cond.fieldLink RX0 9 "IndentRules$Layout" "settings" "[I") (List.mem_of_getElem? (i := 1) rfl)) (fun _ h9 => h9) rfl dX0_choose_8 ?_
  refine lv_iconst (v := (nI 1)) hx hb dX0_choose_11 (by decide) ?_
  refine lv_iload_n hx hb dX0_choose_12 rfl (lv_at hl 2 rfl) ?_
  refine k_iast (D := G) (tys := TYS E) (j := 1) (x := x1) (f := f6) (n := 4) hx hb hK hP hD hS 1 0 rfl rfl (by decide) (by decide) dX0_choose_13 (fun H locs hP hD hS => ?_)
  have hP : va_P G vwCl (lyW E y (upd f6 1 x1) clA) H := hP
  have hD : va_D A (lyW E y (upd f6 1 x1) clA) := hD
  obtain ⟨f13, ef13⟩ : ∃ z : Nat → Int32, z = upd f6 1 x1 := ⟨_, rfl⟩
  rw [← ef13] at hP hD
  refine lv_aload_n hx hb dX0_choose_14 rfl (lv_at hl 0 rfl) ?_
  refine va_get (D := G) (ci := 0) (v := .ref (y 1)) (C := RX0) (T := TX0) (N := 2) hx hb hts hin0 hown hK hP 0 rfl rfl 0 (by decide) (hts (Cond.fieldLink RX0 9 "IndentRules$Layout" "settings" "[I") (List.mem_of_getElem? (i := 1) rfl)) (fun _ h9 => h9) rfl dX0_choose_15 ?_
  refine lv_iconst (v := (nI 2)) hx hb dX0_choose_18 (by decide) ?_
  refine lv_iload_n hx hb dX0_choose_19 rfl (lv_at hl 3 rfl) ?_
  refine k_iast (D := G) (tys := TYS E) (j := 2) (x := x2) (f := f13) (n := 4) hx hb hK hP hD hS 1 0 rfl rfl (by decide) (by decide) dX0_choose_20 (fun H locs hP hD hS => ?_)
  have hP : va_P G vwCl (lyW E y (upd f13 2 x2) clA) H := hP
  have hD : va_D A (lyW E y (upd f13 2 x2) clA) := hD
  obtain ⟨f20, ef20⟩ : ∃ z : Nat → Int32, z = upd f13 2 x2 := ⟨_, rfl⟩
  rw [← ef20] at hP hD
  refine lv_aload_n hx hb dX0_choose_21 rfl (lv_at hl 0 rfl) ?_
  refine va_get (D := G) (ci := 0) (v := .ref (y 1)) (C := RX0) (T := TX0) (N := 2) hx hb hts hin0 hown hK hP 0 rfl rfl 0 (by decide) (hts (Cond.fieldLink RX0 9 "IndentRules$Layout" "settings" "[I") (List.mem_of_getElem? (i := 1) rfl)) (fun _ h9 => h9) rfl dX0_choose_22 ?_
  refine lv_iconst (v := (nI 3)) hx hb dX0_choose_25 (by decide) ?_
  refine lv_iload hx hb dX0_choose_26 (lv_at hl 4 rfl) ?_
  refine k_iast (D := G) (tys := TYS E) (j := 3) (x := x3) (f := f20) (n := 4) hx hb hK hP hD hS 1 0 rfl rfl (by decide) (by decide) dX0_choose_28 (fun H locs hP hD hS => ?_)
  have hP : va_P G vwCl (lyW E y (upd f20 3 x3) clA) H := hP
  have hD : va_D A (lyW E y (upd f20 3 x3) clA) := hD
  obtain ⟨f28, ef28⟩ : ∃ z : Nat → Int32, z = upd f20 3 x3 := ⟨_, rfl⟩
  rw [← ef28] at hP hD
  exact W.vret hx hb hr (fun tZ htZ hWZ => ⟨⟨f28, rfl, by intro k hk; rcases (show k = 0 ∨ k = 1 ∨ k = 2 ∨ k = 3 by omega) with rfl | rfl | rfl | rfl <;> simp [ef28, ef20, ef13, ef6, upd, st4], by show va_P G vwCl _ tZ.heap; rw [htZ]; exact hP⟩, hS.F htZ⟩) hS.2.2 dX0_choose_29
