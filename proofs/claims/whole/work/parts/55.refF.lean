set_option maxHeartbeats 4000000 in
set_option maxRecDepth 100000 in
theorem c_X6_ofLine (l : Launch) (G : va_G) (E : cEnv) (a : Nat → Nat) (ln op dp la : Nat) (row seen sty lineO tokO atO baseO kindO partO colO openO strayO stk bys was gsd cellsO sortO kLine kAt kKind : Nat → Int32) (x y : Int32) (ab : ABS) (hab : RefOk ab ln row seen sty cellsO sortO kLine kAt kKind) (sz : Nat) : Met l yX6_ofLine wsX6_ofLine ({ frames := 6, cells := 0, slots := 0, locals := 140 }) (va_Pc [.ref (a 0), .int x, .int y] (PW G E (rW E a ln op dp la row seen sty lineO tokO atO baseO kindO partO colO openO strayO stk bys was gsd cellsO sortO kLine kAt kKind) sz)) (va_Qi (fun (r : Int32) (u : (Nat) × (Nat) × (Nat) × (Nat → Int32) × (Nat → Int32) × (Nat → Int32) × (Nat → Int32) × (Nat → Int32) × (Nat → Int32) × (Nat → Int32) × (Nat → Int32) × (Nat → Int32) × (Nat → Int32) × (Nat → Int32) × (Nat → Int32) × (Nat → Int32)) => r = fOfLine ab x y) (fun (u : (Nat) × (Nat) × (Nat) × (Nat → Int32) × (Nat → Int32) × (Nat → Int32) × (Nat → Int32) × (Nat → Int32) × (Nat → Int32) × (Nat → Int32) × (Nat → Int32) × (Nat → Int32) × (Nat → Int32) × (Nat → Int32) × (Nat → Int32) × (Nat → Int32)) tQ => va_P G vwCl (rW E a ln u.1 u.2.1 u.2.2.1 row seen sty u.2.2.2.1 u.2.2.2.2.1 u.2.2.2.2.2.1 u.2.2.2.2.2.2.1 u.2.2.2.2.2.2.2.1 u.2.2.2.2.2.2.2.2.1 u.2.2.2.2.2.2.2.2.2.1 u.2.2.2.2.2.2.2.2.2.2.1 u.2.2.2.2.2.2.2.2.2.2.2.1 u.2.2.2.2.2.2.2.2.2.2.2.2.1 u.2.2.2.2.2.2.2.2.2.2.2.2.2.1 u.2.2.2.2.2.2.2.2.2.2.2.2.2.2.1 u.2.2.2.2.2.2.2.2.2.2.2.2.2.2.2 cellsO sortO kLine kAt kKind) tQ.heap) (va_A (rW E a ln op dp la row seen sty lineO tokO atO baseO kindO partO colO openO strayO stk bys was gsd cellsO sortO kLine kAt kKind) sz)) 0 0 (va_A (rW E a ln op dp la row seen sty lineO tokO atO baseO kindO partO colO openO strayO stk bys was gsd cellsO sortO kLine kAt kKind) sz) := by
  refine Met.ofW (cc := cX6_ofLine) (maxL := 3) (ret := (some .int)) (by decide) rfl ?_
  intro p e s m args below meth c s₁ B hml hv
  obtain ⟨rfl, hsz, hP, hK, hD0, hZ⟩ := hv
  have hx := B.exec
  have hb := B.bytes
  have hr := B.returns
  have hts := atoms_spec (ws := wsX6_ofLine) B.pre
  have hown : s.vm.findClass RX6 = some m.cls := findClass_of_methodNamed B.named
  have hlocks := B.notSynchronized
  have hin6 : ∀ w ∈ u_ws RX6 TX6 25, w ∈ wsX6_ofLine := mem_pl [72, 73, 74, 75, 76, 77, 78, 79, 80, 81, 82, 83, 84, 85, 86, 87, 88, 89, 90, 91, 92, 93, 94, 95, 96] (by rfl)
  subst hsz
  have hD := hD0.self (sz := s.heap.size)
  generalize hAe : va_A (rW E a ln op dp la row seen sty lineO tokO atO baseO kindO partO colO openO strayO stk bys was gsd cellsO sortO kLine kAt kKind) s.heap.size = A at hD hZ ⊢
  have hA : ∀ q : Nat, s.heap.size ≤ q → A q := fun q h => by rw [← hAe]; exact Or.inr h
  have hS : va_S A s.heap s.heap [] := va_S.rf
  have hl := lv_entry ([.ref (a 0), .int x, .int y]) (n := 3) (Nat.le_of_ble_eq_true rfl)
  rw [lg_entry_eq]
  generalize (lg_sl ([.ref (a 0), .int x, .int y]) ++ List.replicate (3 - (lg_sl ([.ref (a 0), .int x, .int y])).length) Slot.unset).toArray = ls at hl ⊢
  have hl : lv_has ls 3 [(0, .ref (a 0)), (1, .int x), (2, .int y)] := hl
  obtain ⟨hN, hok, hrn, hsn, hsg, hpk⟩ := id hab
  have hln : ln ≤ 20 := by rw [hN]; exact hok.1
  have hrb : ∀ i, i < aN ab → aR ab i < 1000000000 := fun i hi => (hok.2.1 i hi).1
  have hwN := wfN_all (row := aR ab) (aN ab) hrb
  refine lv_aload_n hx hb dX6_ofLine_0 rfl (lv_at hl 0 rfl) ?_
  refine lv_iload_n hx hb dX6_ofLine_1 rfl (lv_at hl 1 rfl) ?_
  refine rv_i (n := 1) (G := G) (E := E) (As := [.int x]) (rest := []) (ci := 6) (q0 := 0) ⟨hx, hb, hml, hown, hts⟩ hK hZ hS (c_X6_isLine l G E a ln op dp la row seen sty lineO tokO atO baseO kindO partO colO openO strayO stk bys was gsd cellsO sortO kLine kAt kKind x (by first | assumption | omega)) gX6_ofLine_X6_isLine rfl rfl rfl (by decide +kernel) ⟨Nat.le_of_ble_eq_true rfl, Nat.le_of_ble_eq_true rfl⟩ hP rfl rfl hl.1 rfl rfl (Nat.le_of_ble_eq_true rfl) dX6_ofLine_2 ⟨Nat.zero_le _, Nat.zero_le _⟩ (fun r2 p2 => ?_)
  rcases p2 with ⟨⟨j, hj, rfl⟩, rfl⟩ | ⟨h2, rfl⟩
  · refine n_if_ne (a := 1) (tgt := 10) hx hb (by decide) dX6_ofLine_5 (by decide) (fun c5 => ?_) (fun c5 => absurd c5 (by decide))
    refine lv_aload_n hx hb dX6_ofLine_10 rfl (lv_at hl 0 rfl) ?_
    refine wf_v (n := 0) (G := G) (E := E) (As := []) (rest := []) (ci := 6) (q0 := 0) (wn := fun (u : (Nat → Int32) × (Nat → Int32) × (Nat → Int32) × (Nat → Int32) × (Nat → Int32) × (Nat → Int32) × (Nat → Int32) × (Nat → Int32) × (Nat → Int32) × (Nat → Int32) × (Nat → Int32)) => rW E a ln (nO (nAll (aR ab) ln)) (nD (nAll (aR ab) ln)) (nL (nAll (aR ab) ln)) row seen sty u.1 u.2.1 u.2.2.1 u.2.2.2.1 u.2.2.2.2.1 u.2.2.2.2.2.1 u.2.2.2.2.2.2.1 u.2.2.2.2.2.2.2.1 u.2.2.2.2.2.2.2.2.1 u.2.2.2.2.2.2.2.2.2.1 u.2.2.2.2.2.2.2.2.2.2 was gsd cellsO sortO kLine kAt kKind) ⟨hx, hb, hml, hown, hts⟩ hK hZ hS hA (fun sz => c_X6_goes l G E a ln op dp la row seen sty lineO tokO atO baseO kindO partO colO openO strayO stk bys was gsd cellsO sortO kLine kAt kKind (aR ab) (by first | assumption | omega) (by first | assumption | omega) sz) gX6_ofLine_X6_goes rfl rfl rfl (by decide +kernel) ⟨Nat.le_of_ble_eq_true rfl, Nat.le_of_ble_eq_true rfl⟩ hP hD (fun _ => rfl) rfl rfl hl.1 rfl rfl (Nat.le_of_ble_eq_true rfl) dX6_ofLine_11 ⟨Nat.zero_le _, Nat.zero_le _⟩ (fun u11 H locs p11 hP hD hS => ?_)
    obtain ⟨lineO'_11, tokO'_11, atO'_11, baseO'_11, kindO'_11, partO'_11, colO'_11, openO'_11, strayO'_11, stk'_11, bys'_11⟩ := u11
    try dsimp only at p11 hP hD
    have hP : va_P G vwCl (rW E a ln (nO (nAll (aR ab) ln)) (nD (nAll (aR ab) ln)) (nL (nAll (aR ab) ln)) row seen sty lineO'_11 tokO'_11 atO'_11 baseO'_11 kindO'_11 partO'_11 colO'_11 openO'_11 strayO'_11 stk'_11 bys'_11 was gsd cellsO sortO kLine kAt kKind) H := hP
    have hD : va_D A (rW E a ln (nO (nAll (aR ab) ln)) (nD (nAll (aR ab) ln)) (nL (nAll (aR ab) ln)) row seen sty lineO'_11 tokO'_11 atO'_11 baseO'_11 kindO'_11 partO'_11 colO'_11 openO'_11 strayO'_11 stk'_11 bys'_11 was gsd cellsO sortO kLine kAt kKind) := hD
    have hRa : RR (aG ab 2) (aNest ab) (aCol ab) (aN ab) lineO'_11 tokO'_11 atO'_11 baseO'_11 kindO'_11 partO'_11 colO'_11 openO'_11 strayO'_11 stk'_11 := by have q := p11; rw [hsg 2 (by decide), cols_congr hsg, hN] at q; exact q
    refine lv_iload_n hx hb dX6_ofLine_14 rfl (lv_at hl 2 rfl) ?_
    by_cases h15_0 : y = nI 0
    · refine lv_tableIn (off := 37) (tgt := 52) hx hb dX6_ofLine_15 (by rw [h15_0]; decide) (by rw [h15_0]; decide) (by rw [h15_0]; decide) (by decide) ?_
      refine lv_aload_n hx hb dX6_ofLine_52 rfl (lv_at hl 0 rfl) ?_
      refine va_get (D := G) (ci := 6) (v := .ref (a 1)) (C := RX6) (T := TX6) (N := 25) hx hb hts hin6 hown hK hP 0 rfl rfl 1 (by decide) (hts (Cond.fieldLink RX6 7 "IndentRulesModel" "row" "[I") (List.mem_of_getElem? (i := 1) rfl)) (fun _ h9 => h9) rfl dX6_ofLine_53 ?_
      refine lv_iload_n hx hb dX6_ofLine_56 rfl (lv_at hl 1 rfl) ?_
      refine k_iald (D := G) (tys := TYS E) (j := j) (f := row) (n := 20) hx hb hK hP 1 0 rfl rfl (by omega) (by decide) dX6_ofLine_57 ?_
      rw [(hrn j hj).1]
      exact W.iret (v := (nI (aR ab j))) hx hb hr (fun tZ htZ hWZ => ⟨⟨_, (nO (nAll (aR ab) ln), nD (nAll (aR ab) ln), nL (nAll (aR ab) ln), lineO'_11, tokO'_11, atO'_11, baseO'_11, kindO'_11, partO'_11, colO'_11, openO'_11, strayO'_11, stk'_11, bys'_11, was, gsd), rfl, by unfold fOfLine; rw [if_pos (ixP_n (by omega) (by omega)), ix_n (by omega), if_pos h15_0], by show va_P G vwCl _ tZ.heap; rw [htZ]; exact hP⟩, hS.F htZ⟩) hS.2.2 dX6_ofLine_58
    by_cases h15_1 : y = nI 1
    · refine lv_tableIn (off := 44) (tgt := 59) hx hb dX6_ofLine_15 (by rw [h15_1]; decide) (by rw [h15_1]; decide) (by rw [h15_1]; decide) (by decide) ?_
      refine lv_aload_n hx hb dX6_ofLine_59 rfl (lv_at hl 0 rfl) ?_
      refine va_get (D := G) (ci := 6) (v := .ref (a 11)) (C := RX6) (T := TX6) (N := 25) hx hb hts hin6 hown hK hP 0 rfl rfl 11 (by decide) (hts (Cond.fieldLink RX6 37 "IndentRulesModel" "columnOf" "[I") (List.mem_of_getElem? (i := 2) rfl)) (fun _ h9 => h9) rfl dX6_ofLine_60 ?_
      refine lv_iload_n hx hb dX6_ofLine_63 rfl (lv_at hl 1 rfl) ?_
      refine k_iald (D := G) (tys := TYS E) (j := j) (f := colO'_11) (n := 20) hx hb hK hP 10 0 rfl rfl (by omega) (by decide) dX6_ofLine_64 ?_
      rw [(hRa.2.1 j (by omega)).1]
      exact W.iret (v := (aCol ab j)) hx hb hr (fun tZ htZ hWZ => ⟨⟨_, (nO (nAll (aR ab) ln), nD (nAll (aR ab) ln), nL (nAll (aR ab) ln), lineO'_11, tokO'_11, atO'_11, baseO'_11, kindO'_11, partO'_11, colO'_11, openO'_11, strayO'_11, stk'_11, bys'_11, was, gsd), rfl, by unfold fOfLine; rw [if_pos (ixP_n (by omega) (by omega)), ix_n (by omega), if_neg h15_0, if_pos h15_1], by show va_P G vwCl _ tZ.heap; rw [htZ]; exact hP⟩, hS.F htZ⟩) hS.2.2 dX6_ofLine_65
    by_cases h15_2 : y = nI 2
    · refine lv_tableIn (off := 51) (tgt := 66) hx hb dX6_ofLine_15 (by rw [h15_2]; decide) (by rw [h15_2]; decide) (by rw [h15_2]; decide) (by decide) ?_
      refine lv_aload_n hx hb dX6_ofLine_66 rfl (lv_at hl 0 rfl) ?_
      refine va_get (D := G) (ci := 6) (v := .ref (a 1)) (C := RX6) (T := TX6) (N := 25) hx hb hts hin6 hown hK hP 0 rfl rfl 1 (by decide) (hts (Cond.fieldLink RX6 7 "IndentRulesModel" "row" "[I") (List.mem_of_getElem? (i := 1) rfl)) (fun _ h9 => h9) rfl dX6_ofLine_67 ?_
      refine lv_iload_n hx hb dX6_ofLine_70 rfl (lv_at hl 1 rfl) ?_
      refine k_iald (D := G) (tys := TYS E) (j := j) (f := row) (n := 20) hx hb hK hP 1 0 rfl rfl (by omega) (by decide) dX6_ofLine_71 ?_
      rw [(hrn j hj).1]
      refine n_if_ne (a := (aR ab j)) (tgt := 79) hx hb (by have := (hrn j hj).2.1; omega) dX6_ofLine_72 (by decide) (fun c72 => ?_) (fun c72 => ?_)
      · refine lv_aload_n hx hb dX6_ofLine_79 rfl (lv_at hl 0 rfl) ?_
        refine va_get (D := G) (ci := 6) (v := .ref (a 11)) (C := RX6) (T := TX6) (N := 25) hx hb hts hin6 hown hK hP 0 rfl rfl 11 (by decide) (hts (Cond.fieldLink RX6 37 "IndentRulesModel" "columnOf" "[I") (List.mem_of_getElem? (i := 2) rfl)) (fun _ h9 => h9) rfl dX6_ofLine_80 ?_
        refine lv_iload_n hx hb dX6_ofLine_83 rfl (lv_at hl 1 rfl) ?_
        refine k_iald (D := G) (tys := TYS E) (j := j) (f := colO'_11) (n := 20) hx hb hK hP 10 0 rfl rfl (by omega) (by decide) dX6_ofLine_84 ?_
        rw [(hRa.2.1 j (by omega)).1]
        refine lv_aload_n hx hb dX6_ofLine_85 rfl (lv_at hl 0 rfl) ?_
        refine lv_aload_n hx hb dX6_ofLine_86 rfl (lv_at hl 0 rfl) ?_
        refine va_get (D := G) (ci := 6) (v := .ref (a 1)) (C := RX6) (T := TX6) (N := 25) hx hb hts hin6 hown hK hP 0 rfl rfl 1 (by decide) (hts (Cond.fieldLink RX6 7 "IndentRulesModel" "row" "[I") (List.mem_of_getElem? (i := 1) rfl)) (fun _ h9 => h9) rfl dX6_ofLine_87 ?_
        refine lv_iload_n hx hb dX6_ofLine_90 rfl (lv_at hl 1 rfl) ?_
        refine k_iald (D := G) (tys := TYS E) (j := j) (f := row) (n := 20) hx hb hK hP 1 0 rfl rfl (by omega) (by decide) dX6_ofLine_91 ?_
        rw [(hrn j hj).1]
        refine rv_i (n := 1) (G := G) (E := E) (As := [.int (nI (aR ab j))]) (rest := [.int (aCol ab j)]) (ci := 6) (q0 := 0) ⟨hx, hb, hml, hown, hts⟩ hK hZ hS (c_X6_widthsOf l G E a ln (nO (nAll (aR ab) ln)) (nD (nAll (aR ab) ln)) (nL (nAll (aR ab) ln)) row seen sty lineO'_11 tokO'_11 atO'_11 baseO'_11 kindO'_11 partO'_11 colO'_11 openO'_11 strayO'_11 stk'_11 bys'_11 was gsd cellsO sortO kLine kAt kKind (aR ab j) (by have := (hrn j hj).2.1; omega) (hrn j hj).2.2) gX6_ofLine_X6_widthsOf rfl rfl rfl (by decide +kernel) ⟨Nat.le_of_ble_eq_true rfl, Nat.le_of_ble_eq_true rfl⟩ hP rfl rfl hl.1 rfl rfl (Nat.le_of_ble_eq_true rfl) dX6_ofLine_92 ⟨Nat.zero_le _, Nat.zero_le _⟩ (fun r92 p92 => ?_)
        subst p92
        refine lv_iadd hx hb dX6_ofLine_95 ?_
        refine lv_topi (fun v95 ev95 => ?_)
        exact W.iret (v := v95) hx hb hr (fun tZ htZ hWZ => ⟨⟨_, (nO (nAll (aR ab) ln), nD (nAll (aR ab) ln), nL (nAll (aR ab) ln), lineO'_11, tokO'_11, atO'_11, baseO'_11, kindO'_11, partO'_11, colO'_11, openO'_11, strayO'_11, stk'_11, bys'_11, was, gsd), rfl, by unfold fOfLine; rw [if_pos (ixP_n (by omega) (by omega)), ix_n (by omega), if_neg h15_0, if_neg h15_1, if_pos h15_2, if_neg (by omega)]; exact ev95, by show va_P G vwCl _ tZ.heap; rw [htZ]; exact hP⟩, hS.F htZ⟩) hS.2.2 dX6_ofLine_96
      · refine lv_iconst (v := (nI 0)) hx hb dX6_ofLine_75 (by decide) ?_
        refine lv_goto (tgt := 96) hx hb dX6_ofLine_76 (by decide) ?_
        exact W.iret (v := (nI 0)) hx hb hr (fun tZ htZ hWZ => ⟨⟨_, (nO (nAll (aR ab) ln), nD (nAll (aR ab) ln), nL (nAll (aR ab) ln), lineO'_11, tokO'_11, atO'_11, baseO'_11, kindO'_11, partO'_11, colO'_11, openO'_11, strayO'_11, stk'_11, bys'_11, was, gsd), rfl, by unfold fOfLine; rw [if_pos (ixP_n (by omega) (by omega)), ix_n (by omega), if_neg h15_0, if_neg h15_1, if_pos h15_2, if_pos (by omega)], by show va_P G vwCl _ tZ.heap; rw [htZ]; exact hP⟩, hS.F htZ⟩) hS.2.2 dX6_ofLine_96
    by_cases h15_3 : y = nI 3
    · refine lv_tableIn (off := 82) (tgt := 97) hx hb dX6_ofLine_15 (by rw [h15_3]; decide) (by rw [h15_3]; decide) (by rw [h15_3]; decide) (by decide) ?_
      refine lv_aload_n hx hb dX6_ofLine_97 rfl (lv_at hl 0 rfl) ?_
      refine va_get (D := G) (ci := 6) (v := .ref (a 12)) (C := RX6) (T := TX6) (N := 25) hx hb hts hin6 hown hK hP 0 rfl rfl 12 (by decide) (hts (Cond.fieldLink RX6 40 "IndentRulesModel" "openOf" "[I") (List.mem_of_getElem? (i := 3) rfl)) (fun _ h9 => h9) rfl dX6_ofLine_98 ?_
      refine lv_iload_n hx hb dX6_ofLine_101 rfl (lv_at hl 1 rfl) ?_
      refine k_iald (D := G) (tys := TYS E) (j := j) (f := openO'_11) (n := 20) hx hb hK hP 11 0 rfl rfl (by omega) (by decide) dX6_ofLine_102 ?_
      rw [(hRa.2.1 j (by omega)).2.1]
      exact W.iret (v := (nI (nF (aNest ab) 9 j))) hx hb hr (fun tZ htZ hWZ => ⟨⟨_, (nO (nAll (aR ab) ln), nD (nAll (aR ab) ln), nL (nAll (aR ab) ln), lineO'_11, tokO'_11, atO'_11, baseO'_11, kindO'_11, partO'_11, colO'_11, openO'_11, strayO'_11, stk'_11, bys'_11, was, gsd), rfl, by unfold fOfLine; rw [if_pos (ixP_n (by omega) (by omega)), ix_n (by omega), if_neg h15_0, if_neg h15_1, if_neg h15_2, if_pos h15_3], by show va_P G vwCl _ tZ.heap; rw [htZ]; exact hP⟩, hS.F htZ⟩) hS.2.2 dX6_ofLine_103
    by_cases h15_4 : y = nI 4
    · refine lv_tableIn (off := 89) (tgt := 104) hx hb dX6_ofLine_15 (by rw [h15_4]; decide) (by rw [h15_4]; decide) (by rw [h15_4]; decide) (by decide) ?_
      refine lv_aload_n hx hb dX6_ofLine_104 rfl (lv_at hl 0 rfl) ?_
      refine va_get (D := G) (ci := 6) (v := .ref (a 13)) (C := RX6) (T := TX6) (N := 25) hx hb hts hin6 hown hK hP 0 rfl rfl 13 (by decide) (hts (Cond.fieldLink RX6 43 "IndentRulesModel" "strayOf" "[I") (List.mem_of_getElem? (i := 4) rfl)) (fun _ h9 => h9) rfl dX6_ofLine_105 ?_
      refine lv_iload_n hx hb dX6_ofLine_108 rfl (lv_at hl 1 rfl) ?_
      refine k_iald (D := G) (tys := TYS E) (j := j) (f := strayO'_11) (n := 20) hx hb hK hP 12 0 rfl rfl (by omega) (by decide) dX6_ofLine_109 ?_
      rw [(hRa.2.1 j (by omega)).2.2]
      exact W.iret (v := (nI (nF (aNest ab) 7 j))) hx hb hr (fun tZ htZ hWZ => ⟨⟨_, (nO (nAll (aR ab) ln), nD (nAll (aR ab) ln), nL (nAll (aR ab) ln), lineO'_11, tokO'_11, atO'_11, baseO'_11, kindO'_11, partO'_11, colO'_11, openO'_11, strayO'_11, stk'_11, bys'_11, was, gsd), rfl, by unfold fOfLine; rw [if_pos (ixP_n (by omega) (by omega)), ix_n (by omega), if_neg h15_0, if_neg h15_1, if_neg h15_2, if_neg h15_3, if_pos h15_4], by show va_P G vwCl _ tZ.heap; rw [htZ]; exact hP⟩, hS.F htZ⟩) hS.2.2 dX6_ofLine_110
    by_cases h15_5 : y = nI 5
    · refine lv_tableIn (off := 96) (tgt := 111) hx hb dX6_ofLine_15 (by rw [h15_5]; decide) (by rw [h15_5]; decide) (by rw [h15_5]; decide) (by decide) ?_
      refine lv_aload_n hx hb dX6_ofLine_111 rfl (lv_at hl 0 rfl) ?_
      refine va_get (D := G) (ci := 6) (v := .ref (a 2)) (C := RX6) (T := TX6) (N := 25) hx hb hts hin6 hown hK hP 0 rfl rfl 2 (by decide) (hts (Cond.fieldLink RX6 13 "IndentRulesModel" "seen" "[I") (List.mem_of_getElem? (i := 5) rfl)) (fun _ h9 => h9) rfl dX6_ofLine_112 ?_
      refine lv_iload_n hx hb dX6_ofLine_115 rfl (lv_at hl 1 rfl) ?_
      refine k_iald (D := G) (tys := TYS E) (j := j) (f := seen) (n := 20) hx hb hK hP 2 0 rfl rfl (by omega) (by decide) dX6_ofLine_116 ?_
      rw [hsn j hj]
      exact W.iret (v := (aS ab j)) hx hb hr (fun tZ htZ hWZ => ⟨⟨_, (nO (nAll (aR ab) ln), nD (nAll (aR ab) ln), nL (nAll (aR ab) ln), lineO'_11, tokO'_11, atO'_11, baseO'_11, kindO'_11, partO'_11, colO'_11, openO'_11, strayO'_11, stk'_11, bys'_11, was, gsd), rfl, by unfold fOfLine; rw [if_pos (ixP_n (by omega) (by omega)), ix_n (by omega), if_neg h15_0, if_neg h15_1, if_neg h15_2, if_neg h15_3, if_neg h15_4, if_pos h15_5], by show va_P G vwCl _ tZ.heap; rw [htZ]; exact hP⟩, hS.F htZ⟩) hS.2.2 dX6_ofLine_117
    refine lv_tableOut (tgt := 118) hx hb dX6_ofLine_15 (k_out y 5 (by decide) (by intro j hj; rcases (show j = 0 ∨ j = 1 ∨ j = 2 ∨ j = 3 ∨ j = 4 ∨ j = 5 by omega) with rfl | rfl | rfl | rfl | rfl | rfl <;> assumption)) (by decide) ?_
    refine lv_bipush (v := (-2)) hx hb dX6_ofLine_118 (by decide) ?_
    exact W.iret (v := (-2)) hx hb hr (fun tZ htZ hWZ => ⟨⟨_, (nO (nAll (aR ab) ln), nD (nAll (aR ab) ln), nL (nAll (aR ab) ln), lineO'_11, tokO'_11, atO'_11, baseO'_11, kindO'_11, partO'_11, colO'_11, openO'_11, strayO'_11, stk'_11, bys'_11, was, gsd), rfl, by unfold fOfLine; rw [if_pos (ixP_n (by omega) (by omega)), ix_n (by omega), if_neg h15_0, if_neg h15_1, if_neg h15_2, if_neg h15_3, if_neg h15_4, if_neg h15_5], by show va_P G vwCl _ tZ.heap; rw [htZ]; exact hP⟩, hS.F htZ⟩) hS.2.2 dX6_ofLine_120
  · have hx1 : ¬ ixP x (aN ab) := fun q => h2 (by rw [hN]; exact (ixP_iff (by omega)).mp q)
    refine n_if_ne (a := 0) (tgt := 10) hx hb (by decide) dX6_ofLine_5 (by decide) (fun c5 => absurd c5 (by decide)) (fun c5 => ?_)
    refine lv_iconst (v := (-1)) hx hb dX6_ofLine_8 (by decide) ?_
    exact W.iret (v := (-1)) hx hb hr (fun tZ htZ hWZ => ⟨⟨_, (op, dp, la, lineO, tokO, atO, baseO, kindO, partO, colO, openO, strayO, stk, bys, was, gsd), rfl, by unfold fOfLine; rw [if_neg hx1], by show va_P G vwCl _ tZ.heap; rw [htZ]; exact hP⟩, hS.F htZ⟩) hS.2.2 dX6_ofLine_9

set_option maxHeartbeats 4000000 in
set_option maxRecDepth 100000 in
theorem c_X6_opener (l : Launch) (G : va_G) (E : cEnv) (a : Nat → Nat) (ln op dp la : Nat) (row seen sty lineO tokO atO baseO kindO partO colO openO strayO stk bys was gsd cellsO sortO kLine kAt kKind : Nat → Int32) (x y : Int32) (ab : ABS) (hab : RefOk ab ln row seen sty cellsO sortO kLine kAt kKind) (sz : Nat) : Met l yX6_opener wsX6_opener ({ frames := 6, cells := 0, slots := 0, locals := 140 }) (va_Pc [.ref (a 0), .int x, .int y] (PW G E (rW E a ln op dp la row seen sty lineO tokO atO baseO kindO partO colO openO strayO stk bys was gsd cellsO sortO kLine kAt kKind) sz)) (va_Qi (fun (r : Int32) (u : (Nat) × (Nat) × (Nat) × (Nat → Int32) × (Nat → Int32) × (Nat → Int32) × (Nat → Int32) × (Nat → Int32) × (Nat → Int32) × (Nat → Int32) × (Nat → Int32) × (Nat → Int32) × (Nat → Int32) × (Nat → Int32) × (Nat → Int32) × (Nat → Int32)) => r = fOpener ab x y) (fun (u : (Nat) × (Nat) × (Nat) × (Nat → Int32) × (Nat → Int32) × (Nat → Int32) × (Nat → Int32) × (Nat → Int32) × (Nat → Int32) × (Nat → Int32) × (Nat → Int32) × (Nat → Int32) × (Nat → Int32) × (Nat → Int32) × (Nat → Int32) × (Nat → Int32)) tQ => va_P G vwCl (rW E a ln u.1 u.2.1 u.2.2.1 row seen sty u.2.2.2.1 u.2.2.2.2.1 u.2.2.2.2.2.1 u.2.2.2.2.2.2.1 u.2.2.2.2.2.2.2.1 u.2.2.2.2.2.2.2.2.1 u.2.2.2.2.2.2.2.2.2.1 u.2.2.2.2.2.2.2.2.2.2.1 u.2.2.2.2.2.2.2.2.2.2.2.1 u.2.2.2.2.2.2.2.2.2.2.2.2.1 u.2.2.2.2.2.2.2.2.2.2.2.2.2.1 u.2.2.2.2.2.2.2.2.2.2.2.2.2.2.1 u.2.2.2.2.2.2.2.2.2.2.2.2.2.2.2 cellsO sortO kLine kAt kKind) tQ.heap) (va_A (rW E a ln op dp la row seen sty lineO tokO atO baseO kindO partO colO openO strayO stk bys was gsd cellsO sortO kLine kAt kKind) sz)) 0 0 (va_A (rW E a ln op dp la row seen sty lineO tokO atO baseO kindO partO colO openO strayO stk bys was gsd cellsO sortO kLine kAt kKind) sz) := by
  refine Met.ofW (cc := cX6_opener) (maxL := 3) (ret := (some .int)) (by decide) rfl ?_
  intro p e s m args below meth c s₁ B hml hv
  obtain ⟨rfl, hsz, hP, hK, hD0, hZ⟩ := hv
  have hx := B.exec
  have hb := B.bytes
  have hr := B.returns
  have hts := atoms_spec (ws := wsX6_opener) B.pre
  have hown : s.vm.findClass RX6 = some m.cls := findClass_of_methodNamed B.named
  have hlocks := B.notSynchronized
  have hin6 : ∀ w ∈ u_ws RX6 TX6 25, w ∈ wsX6_opener := mem_pl [63, 64, 65, 66, 67, 68, 69, 70, 71, 72, 73, 74, 75, 76, 77, 78, 79, 80, 81, 82, 83, 84, 85, 86, 87] (by rfl)
  subst hsz
  have hD := hD0.self (sz := s.heap.size)
  generalize hAe : va_A (rW E a ln op dp la row seen sty lineO tokO atO baseO kindO partO colO openO strayO stk bys was gsd cellsO sortO kLine kAt kKind) s.heap.size = A at hD hZ ⊢
  have hA : ∀ q : Nat, s.heap.size ≤ q → A q := fun q h => by rw [← hAe]; exact Or.inr h
  have hS : va_S A s.heap s.heap [] := va_S.rf
  have hl := lv_entry ([.ref (a 0), .int x, .int y]) (n := 3) (Nat.le_of_ble_eq_true rfl)
  rw [lg_entry_eq]
  generalize (lg_sl ([.ref (a 0), .int x, .int y]) ++ List.replicate (3 - (lg_sl ([.ref (a 0), .int x, .int y])).length) Slot.unset).toArray = ls at hl ⊢
  have hl : lv_has ls 3 [(0, .ref (a 0)), (1, .int x), (2, .int y)] := hl
  obtain ⟨hN, hok, hrn, hsn, hsg, hpk⟩ := id hab
  have hln : ln ≤ 20 := by rw [hN]; exact hok.1
  have hrb : ∀ i, i < aN ab → aR ab i < 1000000000 := fun i hi => (hok.2.1 i hi).1
  have hwN := wfN_all (row := aR ab) (aN ab) hrb
  have hob : nO (nAll (aR ab) ln) ≤ 180 := by rw [hN]; exact Nat.le_trans hwN.2.1 (by omega)
  have hob2 : nO (aNest ab) ≤ 180 := Nat.le_trans hwN.2.1 (by omega)
  refine lv_aload_n hx hb dX6_opener_0 rfl (lv_at hl 0 rfl) ?_
  refine wf_v (n := 0) (G := G) (E := E) (As := []) (rest := []) (ci := 6) (q0 := 0) (wn := fun (u : (Nat → Int32) × (Nat → Int32) × (Nat → Int32) × (Nat → Int32) × (Nat → Int32) × (Nat → Int32) × (Nat → Int32) × (Nat → Int32) × (Nat → Int32) × (Nat → Int32) × (Nat → Int32)) => rW E a ln (nO (nAll (aR ab) ln)) (nD (nAll (aR ab) ln)) (nL (nAll (aR ab) ln)) row seen sty u.1 u.2.1 u.2.2.1 u.2.2.2.1 u.2.2.2.2.1 u.2.2.2.2.2.1 u.2.2.2.2.2.2.1 u.2.2.2.2.2.2.2.1 u.2.2.2.2.2.2.2.2.1 u.2.2.2.2.2.2.2.2.2.1 u.2.2.2.2.2.2.2.2.2.2 was gsd cellsO sortO kLine kAt kKind) ⟨hx, hb, hml, hown, hts⟩ hK hZ hS hA (fun sz => c_X6_goes l G E a ln op dp la row seen sty lineO tokO atO baseO kindO partO colO openO strayO stk bys was gsd cellsO sortO kLine kAt kKind (aR ab) (by first | assumption | omega) (by first | assumption | omega) sz) gX6_opener_X6_goes rfl rfl rfl (by decide +kernel) ⟨Nat.le_of_ble_eq_true rfl, Nat.le_of_ble_eq_true rfl⟩ hP hD (fun _ => rfl) rfl rfl hl.1 rfl rfl (Nat.le_of_ble_eq_true rfl) dX6_opener_1 ⟨Nat.zero_le _, Nat.zero_le _⟩ (fun u1 H locs p1 hP hD hS => ?_)
  obtain ⟨lineO'_1, tokO'_1, atO'_1, baseO'_1, kindO'_1, partO'_1, colO'_1, openO'_1, strayO'_1, stk'_1, bys'_1⟩ := u1
  try dsimp only at p1 hP hD
  have hP : va_P G vwCl (rW E a ln (nO (nAll (aR ab) ln)) (nD (nAll (aR ab) ln)) (nL (nAll (aR ab) ln)) row seen sty lineO'_1 tokO'_1 atO'_1 baseO'_1 kindO'_1 partO'_1 colO'_1 openO'_1 strayO'_1 stk'_1 bys'_1 was gsd cellsO sortO kLine kAt kKind) H := hP
  have hD : va_D A (rW E a ln (nO (nAll (aR ab) ln)) (nD (nAll (aR ab) ln)) (nL (nAll (aR ab) ln)) row seen sty lineO'_1 tokO'_1 atO'_1 baseO'_1 kindO'_1 partO'_1 colO'_1 openO'_1 strayO'_1 stk'_1 bys'_1 was gsd cellsO sortO kLine kAt kKind) := hD
  have hRa : RR (aG ab 2) (aNest ab) (aCol ab) (aN ab) lineO'_1 tokO'_1 atO'_1 baseO'_1 kindO'_1 partO'_1 colO'_1 openO'_1 strayO'_1 stk'_1 := by have q := p1; rw [hsg 2 (by decide), cols_congr hsg, hN] at q; exact q
  refine lv_iload_n hx hb dX6_opener_4 rfl (lv_at hl 1 rfl) ?_
  refine lv_iconst (v := (nI 0)) hx hb dX6_opener_5 (by decide) ?_
  refine lv_aload_n hx hb dX6_opener_6 rfl (lv_at hl 0 rfl) ?_
  refine va_get (D := G) (ci := 6) (v := .int (nI (nO (nAll (aR ab) ln)))) (C := RX6) (T := TX6) (N := 25) hx hb hts hin6 hown hK hP 0 rfl rfl 4 (by decide) (hts (Cond.fieldLink RX6 95 "IndentRulesModel" "openers" "I") (List.mem_of_getElem? (i := 1) rfl)) (fun _ h9 => h9) rfl dX6_opener_7 ?_
  refine lv_iconst (v := (nI 1)) hx hb dX6_opener_10 (by decide) ?_
  refine lv_isub hx hb dX6_opener_11 ?_
  refine rs_i (n := 3) (G := G) (E := E) (As := [.int x, .int (nI 0), .int ((nI (nO (nAll (aR ab) ln))) - (nI 1))]) (rest := []) ⟨hx, hb, hml, hown, hts⟩ hK hZ hS (c_X6_within l G E x (nI 0) ((nI (nO (nAll (aR ab) ln))) - (nI 1))) gX6_opener_X6_within rfl rfl rfl (by decide +kernel) ⟨Nat.le_of_ble_eq_true rfl, Nat.le_of_ble_eq_true rfl⟩ (fun k q h => by simp at h) hl.1 rfl rfl (Nat.le_of_ble_eq_true rfl) dX6_opener_12 ⟨Nat.zero_le _, Nat.zero_le _⟩ (fun r12 p12 => ?_)
  rcases p12 with ⟨h12, rfl⟩ | ⟨h12, rfl⟩
  · obtain ⟨j, hj, rfl⟩ := (w_ix (by omega)).mp h12
    rw [hN] at hj
    have hj : j < nO (aNest ab) := hj
    refine n_if_ne (a := 1) (tgt := 20) hx hb (by decide) dX6_opener_15 (by decide) (fun c15 => ?_) (fun c15 => absurd c15 (by decide))
    refine lv_iload_n hx hb dX6_opener_20 rfl (lv_at hl 2 rfl) ?_
    by_cases h21_0 : y = nI 0
    · refine lv_tableIn (off := 39) (tgt := 60) hx hb dX6_opener_21 (by rw [h21_0]; decide) (by rw [h21_0]; decide) (by rw [h21_0]; decide) (by decide) ?_
      refine lv_aload_n hx hb dX6_opener_60 rfl (lv_at hl 0 rfl) ?_
      refine va_get (D := G) (ci := 6) (v := .ref (a 5)) (C := RX6) (T := TX6) (N := 25) hx hb hts hin6 hown hK hP 0 rfl rfl 5 (by decide) (hts (Cond.fieldLink RX6 19 "IndentRulesModel" "lineOf" "[I") (List.mem_of_getElem? (i := 2) rfl)) (fun _ h9 => h9) rfl dX6_opener_61 ?_
      refine lv_iload_n hx hb dX6_opener_64 rfl (lv_at hl 1 rfl) ?_
      refine k_iald (D := G) (tys := TYS E) (j := j) (f := lineO'_1) (n := 180) hx hb hK hP 4 0 rfl rfl (by omega) (by decide) dX6_opener_65 ?_
      rw [(hRa.1 j hj).1]
      exact W.iret (v := (nI (nF (aNest ab) 1 j))) hx hb hr (fun tZ htZ hWZ => ⟨⟨_, (nO (nAll (aR ab) ln), nD (nAll (aR ab) ln), nL (nAll (aR ab) ln), lineO'_1, tokO'_1, atO'_1, baseO'_1, kindO'_1, partO'_1, colO'_1, openO'_1, strayO'_1, stk'_1, bys'_1, was, gsd), rfl, by unfold fOpener; rw [if_pos (ixP_n hj (by omega)), ix_n (by omega), if_pos h21_0], by show va_P G vwCl _ tZ.heap; rw [htZ]; exact hP⟩, hS.F htZ⟩) hS.2.2 dX6_opener_66
    by_cases h21_1 : y = nI 1
    · refine lv_tableIn (off := 46) (tgt := 67) hx hb dX6_opener_21 (by rw [h21_1]; decide) (by rw [h21_1]; decide) (by rw [h21_1]; decide) (by decide) ?_
      refine lv_aload_n hx hb dX6_opener_67 rfl (lv_at hl 0 rfl) ?_
      refine va_get (D := G) (ci := 6) (v := .ref (a 6)) (C := RX6) (T := TX6) (N := 25) hx hb hts hin6 hown hK hP 0 rfl rfl 6 (by decide) (hts (Cond.fieldLink RX6 22 "IndentRulesModel" "tokenOf" "[I") (List.mem_of_getElem? (i := 3) rfl)) (fun _ h9 => h9) rfl dX6_opener_68 ?_
      refine lv_iload_n hx hb dX6_opener_71 rfl (lv_at hl 1 rfl) ?_
      refine k_iald (D := G) (tys := TYS E) (j := j) (f := tokO'_1) (n := 180) hx hb hK hP 5 0 rfl rfl (by omega) (by decide) dX6_opener_72 ?_
      rw [(hRa.1 j hj).2.1]
      exact W.iret (v := (nI (nF (aNest ab) 2 j))) hx hb hr (fun tZ htZ hWZ => ⟨⟨_, (nO (nAll (aR ab) ln), nD (nAll (aR ab) ln), nL (nAll (aR ab) ln), lineO'_1, tokO'_1, atO'_1, baseO'_1, kindO'_1, partO'_1, colO'_1, openO'_1, strayO'_1, stk'_1, bys'_1, was, gsd), rfl, by unfold fOpener; rw [if_pos (ixP_n hj (by omega)), ix_n (by omega), if_neg h21_0, if_pos h21_1], by show va_P G vwCl _ tZ.heap; rw [htZ]; exact hP⟩, hS.F htZ⟩) hS.2.2 dX6_opener_73
    by_cases h21_2 : y = nI 2
    · refine lv_tableIn (off := 53) (tgt := 74) hx hb dX6_opener_21 (by rw [h21_2]; decide) (by rw [h21_2]; decide) (by rw [h21_2]; decide) (by decide) ?_
      refine lv_aload_n hx hb dX6_opener_74 rfl (lv_at hl 0 rfl) ?_
      refine va_get (D := G) (ci := 6) (v := .ref (a 7)) (C := RX6) (T := TX6) (N := 25) hx hb hts hin6 hown hK hP 0 rfl rfl 7 (by decide) (hts (Cond.fieldLink RX6 25 "IndentRulesModel" "atOf" "[I") (List.mem_of_getElem? (i := 4) rfl)) (fun _ h9 => h9) rfl dX6_opener_75 ?_
      refine lv_iload_n hx hb dX6_opener_78 rfl (lv_at hl 1 rfl) ?_
      refine k_iald (D := G) (tys := TYS E) (j := j) (f := atO'_1) (n := 180) hx hb hK hP 6 0 rfl rfl (by omega) (by decide) dX6_opener_79 ?_
      rw [(hRa.1 j hj).2.2.1]
      exact W.iret (v := (aCol ab (nF (aNest ab) 1 j) + nI (nF (aNest ab) 3 j))) hx hb hr (fun tZ htZ hWZ => ⟨⟨_, (nO (nAll (aR ab) ln), nD (nAll (aR ab) ln), nL (nAll (aR ab) ln), lineO'_1, tokO'_1, atO'_1, baseO'_1, kindO'_1, partO'_1, colO'_1, openO'_1, strayO'_1, stk'_1, bys'_1, was, gsd), rfl, by unfold fOpener; rw [if_pos (ixP_n hj (by omega)), ix_n (by omega), if_neg h21_0, if_neg h21_1, if_pos h21_2], by show va_P G vwCl _ tZ.heap; rw [htZ]; exact hP⟩, hS.F htZ⟩) hS.2.2 dX6_opener_80
    by_cases h21_3 : y = nI 3
    · refine lv_tableIn (off := 60) (tgt := 81) hx hb dX6_opener_21 (by rw [h21_3]; decide) (by rw [h21_3]; decide) (by rw [h21_3]; decide) (by decide) ?_
      refine lv_aload_n hx hb dX6_opener_81 rfl (lv_at hl 0 rfl) ?_
      refine va_get (D := G) (ci := 6) (v := .ref (a 8)) (C := RX6) (T := TX6) (N := 25) hx hb hts hin6 hown hK hP 0 rfl rfl 8 (by decide) (hts (Cond.fieldLink RX6 28 "IndentRulesModel" "baseOf" "[I") (List.mem_of_getElem? (i := 5) rfl)) (fun _ h9 => h9) rfl dX6_opener_82 ?_
      refine lv_iload_n hx hb dX6_opener_85 rfl (lv_at hl 1 rfl) ?_
      refine k_iald (D := G) (tys := TYS E) (j := j) (f := baseO'_1) (n := 180) hx hb hK hP 7 0 rfl rfl (by omega) (by decide) dX6_opener_86 ?_
      rw [(hRa.1 j hj).2.2.2.1]
      exact W.iret (v := (aCol ab (nF (aNest ab) 1 j))) hx hb hr (fun tZ htZ hWZ => ⟨⟨_, (nO (nAll (aR ab) ln), nD (nAll (aR ab) ln), nL (nAll (aR ab) ln), lineO'_1, tokO'_1, atO'_1, baseO'_1, kindO'_1, partO'_1, colO'_1, openO'_1, strayO'_1, stk'_1, bys'_1, was, gsd), rfl, by unfold fOpener; rw [if_pos (ixP_n hj (by omega)), ix_n (by omega), if_neg h21_0, if_neg h21_1, if_neg h21_2, if_pos h21_3], by show va_P G vwCl _ tZ.heap; rw [htZ]; exact hP⟩, hS.F htZ⟩) hS.2.2 dX6_opener_87
    by_cases h21_4 : y = nI 4
    · refine lv_tableIn (off := 67) (tgt := 88) hx hb dX6_opener_21 (by rw [h21_4]; decide) (by rw [h21_4]; decide) (by rw [h21_4]; decide) (by decide) ?_
      refine lv_aload_n hx hb dX6_opener_88 rfl (lv_at hl 0 rfl) ?_
      refine va_get (D := G) (ci := 6) (v := .ref (a 9)) (C := RX6) (T := TX6) (N := 25) hx hb hts hin6 hown hK hP 0 rfl rfl 9 (by decide) (hts (Cond.fieldLink RX6 31 "IndentRulesModel" "kindOf" "[I") (List.mem_of_getElem? (i := 6) rfl)) (fun _ h9 => h9) rfl dX6_opener_89 ?_
      refine lv_iload_n hx hb dX6_opener_92 rfl (lv_at hl 1 rfl) ?_
      refine k_iald (D := G) (tys := TYS E) (j := j) (f := kindO'_1) (n := 180) hx hb hK hP 8 0 rfl rfl (by omega) (by decide) dX6_opener_93 ?_
      rw [(hRa.1 j hj).2.2.2.2.1]
      exact W.iret (v := (nI (kd (aG ab 2) (nF (aNest ab)) j))) hx hb hr (fun tZ htZ hWZ => ⟨⟨_, (nO (nAll (aR ab) ln), nD (nAll (aR ab) ln), nL (nAll (aR ab) ln), lineO'_1, tokO'_1, atO'_1, baseO'_1, kindO'_1, partO'_1, colO'_1, openO'_1, strayO'_1, stk'_1, bys'_1, was, gsd), rfl, by unfold fOpener; rw [if_pos (ixP_n hj (by omega)), ix_n (by omega), if_neg h21_0, if_neg h21_1, if_neg h21_2, if_neg h21_3, if_pos h21_4], by show va_P G vwCl _ tZ.heap; rw [htZ]; exact hP⟩, hS.F htZ⟩) hS.2.2 dX6_opener_94
    by_cases h21_5 : y = nI 5
    · refine lv_tableIn (off := 74) (tgt := 95) hx hb dX6_opener_21 (by rw [h21_5]; decide) (by rw [h21_5]; decide) (by rw [h21_5]; decide) (by decide) ?_
      refine lv_aload_n hx hb dX6_opener_95 rfl (lv_at hl 0 rfl) ?_
      refine va_get (D := G) (ci := 6) (v := .ref (a 10)) (C := RX6) (T := TX6) (N := 25) hx hb hts hin6 hown hK hP 0 rfl rfl 10 (by decide) (hts (Cond.fieldLink RX6 34 "IndentRulesModel" "partnerOf" "[I") (List.mem_of_getElem? (i := 7) rfl)) (fun _ h9 => h9) rfl dX6_opener_96 ?_
      refine lv_iload_n hx hb dX6_opener_99 rfl (lv_at hl 1 rfl) ?_
      refine k_iald (D := G) (tys := TYS E) (j := j) (f := partO'_1) (n := 180) hx hb hK hP 9 0 rfl rfl (by omega) (by decide) dX6_opener_100 ?_
      rw [(hRa.1 j hj).2.2.2.2.2]
      exact W.iret (v := (pv (nF (aNest ab) 5 j))) hx hb hr (fun tZ htZ hWZ => ⟨⟨_, (nO (nAll (aR ab) ln), nD (nAll (aR ab) ln), nL (nAll (aR ab) ln), lineO'_1, tokO'_1, atO'_1, baseO'_1, kindO'_1, partO'_1, colO'_1, openO'_1, strayO'_1, stk'_1, bys'_1, was, gsd), rfl, by unfold fOpener; rw [if_pos (ixP_n hj (by omega)), ix_n (by omega), if_neg h21_0, if_neg h21_1, if_neg h21_2, if_neg h21_3, if_neg h21_4, if_pos h21_5], by show va_P G vwCl _ tZ.heap; rw [htZ]; exact hP⟩, hS.F htZ⟩) hS.2.2 dX6_opener_101
    refine lv_tableOut (tgt := 102) hx hb dX6_opener_21 (k_out y 5 (by decide) (by intro j hj; rcases (show j = 0 ∨ j = 1 ∨ j = 2 ∨ j = 3 ∨ j = 4 ∨ j = 5 by omega) with rfl | rfl | rfl | rfl | rfl | rfl <;> assumption)) (by decide) ?_
    refine lv_bipush (v := (-2)) hx hb dX6_opener_102 (by decide) ?_
    exact W.iret (v := (-2)) hx hb hr (fun tZ htZ hWZ => ⟨⟨_, (nO (nAll (aR ab) ln), nD (nAll (aR ab) ln), nL (nAll (aR ab) ln), lineO'_1, tokO'_1, atO'_1, baseO'_1, kindO'_1, partO'_1, colO'_1, openO'_1, strayO'_1, stk'_1, bys'_1, was, gsd), rfl, by unfold fOpener; rw [if_pos (ixP_n hj (by omega)), ix_n (by omega), if_neg h21_0, if_neg h21_1, if_neg h21_2, if_neg h21_3, if_neg h21_4, if_neg h21_5], by show va_P G vwCl _ tZ.heap; rw [htZ]; exact hP⟩, hS.F htZ⟩) hS.2.2 dX6_opener_104
  · have hx1 : ¬ ixP x (nO (aNest ab)) := fun q => h12 (by rw [hN]; exact (w_ixx (n := nO (aNest ab)) (by omega)).mpr q)
    refine n_if_ne (a := 0) (tgt := 20) hx hb (by decide) dX6_opener_15 (by decide) (fun c15 => absurd c15 (by decide)) (fun c15 => ?_)
    refine lv_iconst (v := (-1)) hx hb dX6_opener_18 (by decide) ?_
    exact W.iret (v := (-1)) hx hb hr (fun tZ htZ hWZ => ⟨⟨_, (nO (nAll (aR ab) ln), nD (nAll (aR ab) ln), nL (nAll (aR ab) ln), lineO'_1, tokO'_1, atO'_1, baseO'_1, kindO'_1, partO'_1, colO'_1, openO'_1, strayO'_1, stk'_1, bys'_1, was, gsd), rfl, by unfold fOpener; rw [if_neg hx1], by show va_P G vwCl _ tZ.heap; rw [htZ]; exact hP⟩, hS.F htZ⟩) hS.2.2 dX6_opener_19

set_option maxHeartbeats 4000000 in
set_option maxRecDepth 100000 in
theorem c_X6_unlike (l : Launch) (G : va_G) (E : cEnv) (a : Nat → Nat) (ln op dp la : Nat) (row seen sty lineO tokO atO baseO kindO partO colO openO strayO stk bys was gsd cellsO sortO kLine kAt kKind : Nat → Int32) (x : Int32) (ab : ABS) (hab : RefOk ab ln row seen sty cellsO sortO kLine kAt kKind) (sz : Nat) : Met l yX6_unlike wsX6_unlike ({ frames := 6, cells := 0, slots := 0, locals := 140 }) (va_Pc [.ref (a 0), .int x] (PW G E (rW E a ln op dp la row seen sty lineO tokO atO baseO kindO partO colO openO strayO stk bys was gsd cellsO sortO kLine kAt kKind) sz)) (va_Qi (fun (r : Int32) (u : (Nat) × (Nat) × (Nat) × (Nat → Int32) × (Nat → Int32) × (Nat → Int32) × (Nat → Int32) × (Nat → Int32) × (Nat → Int32) × (Nat → Int32) × (Nat → Int32) × (Nat → Int32) × (Nat → Int32) × (Nat → Int32) × (Nat → Int32) × (Nat → Int32)) => r = fUnlike ab x) (fun (u : (Nat) × (Nat) × (Nat) × (Nat → Int32) × (Nat → Int32) × (Nat → Int32) × (Nat → Int32) × (Nat → Int32) × (Nat → Int32) × (Nat → Int32) × (Nat → Int32) × (Nat → Int32) × (Nat → Int32) × (Nat → Int32) × (Nat → Int32) × (Nat → Int32)) tQ => va_P G vwCl (rW E a ln u.1 u.2.1 u.2.2.1 row seen sty u.2.2.2.1 u.2.2.2.2.1 u.2.2.2.2.2.1 u.2.2.2.2.2.2.1 u.2.2.2.2.2.2.2.1 u.2.2.2.2.2.2.2.2.1 u.2.2.2.2.2.2.2.2.2.1 u.2.2.2.2.2.2.2.2.2.2.1 u.2.2.2.2.2.2.2.2.2.2.2.1 u.2.2.2.2.2.2.2.2.2.2.2.2.1 u.2.2.2.2.2.2.2.2.2.2.2.2.2.1 u.2.2.2.2.2.2.2.2.2.2.2.2.2.2.1 u.2.2.2.2.2.2.2.2.2.2.2.2.2.2.2 cellsO sortO kLine kAt kKind) tQ.heap) (va_A (rW E a ln op dp la row seen sty lineO tokO atO baseO kindO partO colO openO strayO stk bys was gsd cellsO sortO kLine kAt kKind) sz)) 0 0 (va_A (rW E a ln op dp la row seen sty lineO tokO atO baseO kindO partO colO openO strayO stk bys was gsd cellsO sortO kLine kAt kKind) sz) := by
  refine Met.ofW (cc := cX6_unlike) (maxL := 3) (ret := (some .int)) (by decide) rfl ?_
  intro p e s m args below meth c s₁ B hml hv
  obtain ⟨rfl, hsz, hP, hK, hD0, hZ⟩ := hv
  have hx := B.exec
  have hb := B.bytes
  have hr := B.returns
  have hts := atoms_spec (ws := wsX6_unlike) B.pre
  have hown : s.vm.findClass RX6 = some m.cls := findClass_of_methodNamed B.named
  have hlocks := B.notSynchronized
  have hin6 : ∀ w ∈ u_ws RX6 TX6 25, w ∈ wsX6_unlike := mem_pl [72, 73, 74, 75, 76, 77, 78, 79, 80, 81, 82, 83, 84, 85, 86, 87, 88, 89, 90, 91, 92, 93, 94, 95, 96] (by rfl)
  subst hsz
  have hD := hD0.self (sz := s.heap.size)
  generalize hAe : va_A (rW E a ln op dp la row seen sty lineO tokO atO baseO kindO partO colO openO strayO stk bys was gsd cellsO sortO kLine kAt kKind) s.heap.size = A at hD hZ ⊢
  have hA : ∀ q : Nat, s.heap.size ≤ q → A q := fun q h => by rw [← hAe]; exact Or.inr h
  have hS : va_S A s.heap s.heap [] := va_S.rf
  have hl := lv_entry ([.ref (a 0), .int x]) (n := 3) (Nat.le_of_ble_eq_true rfl)
  rw [lg_entry_eq]
  generalize (lg_sl ([.ref (a 0), .int x]) ++ List.replicate (3 - (lg_sl ([.ref (a 0), .int x])).length) Slot.unset).toArray = ls at hl ⊢
  have hl : lv_has ls 3 [(0, .ref (a 0)), (1, .int x)] := hl
  obtain ⟨hN, hok, hrn, hsn, hsg, hpk⟩ := id hab
  have hln : ln ≤ 20 := by rw [hN]; exact hok.1
  refine lv_aload_n hx hb dX6_unlike_0 rfl (lv_at hl 0 rfl) ?_
  refine lv_iload_n hx hb dX6_unlike_1 rfl (lv_at hl 1 rfl) ?_
  refine rv_i (n := 1) (G := G) (E := E) (As := [.int x]) (rest := []) (ci := 6) (q0 := 0) ⟨hx, hb, hml, hown, hts⟩ hK hZ hS (c_X6_isLine l G E a ln op dp la row seen sty lineO tokO atO baseO kindO partO colO openO strayO stk bys was gsd cellsO sortO kLine kAt kKind x (by first | assumption | omega)) gX6_unlike_X6_isLine rfl rfl rfl (by decide +kernel) ⟨Nat.le_of_ble_eq_true rfl, Nat.le_of_ble_eq_true rfl⟩ hP rfl rfl hl.1 rfl rfl (Nat.le_of_ble_eq_true rfl) dX6_unlike_2 ⟨Nat.zero_le _, Nat.zero_le _⟩ (fun r2 p2 => ?_)
  rcases p2 with ⟨⟨j, hj, rfl⟩, rfl⟩ | ⟨h2, rfl⟩
  · refine n_if_ne (a := 1) (tgt := 10) hx hb (by decide) dX6_unlike_5 (by decide) (fun c5 => ?_) (fun c5 => absurd c5 (by decide))
    refine lv_aload_n hx hb dX6_unlike_10 rfl (lv_at hl 0 rfl) ?_
    refine wf_v (n := 0) (G := G) (E := E) (As := []) (rest := []) (ci := 6) (q0 := 0) (wn := fun (u : (Nat → Int32) × (Nat → Int32) × (Nat → Int32) × (Nat → Int32) × (Nat → Int32) × (Nat → Int32) × (Nat → Int32) × (Nat → Int32) × (Nat → Int32) × (Nat → Int32) × (Nat → Int32)) => rW E a ln (nO (nAll (aR ab) ln)) (nD (nAll (aR ab) ln)) (nL (nAll (aR ab) ln)) row seen sty u.1 u.2.1 u.2.2.1 u.2.2.2.1 u.2.2.2.2.1 u.2.2.2.2.2.1 u.2.2.2.2.2.2.1 u.2.2.2.2.2.2.2.1 u.2.2.2.2.2.2.2.2.1 u.2.2.2.2.2.2.2.2.2.1 u.2.2.2.2.2.2.2.2.2.2 was gsd cellsO sortO kLine kAt kKind) ⟨hx, hb, hml, hown, hts⟩ hK hZ hS hA (fun sz => c_X6_goes l G E a ln op dp la row seen sty lineO tokO atO baseO kindO partO colO openO strayO stk bys was gsd cellsO sortO kLine kAt kKind (aR ab) (by first | assumption | omega) (by first | assumption | omega) sz) gX6_unlike_X6_goes rfl rfl rfl (by decide +kernel) ⟨Nat.le_of_ble_eq_true rfl, Nat.le_of_ble_eq_true rfl⟩ hP hD (fun _ => rfl) rfl rfl hl.1 rfl rfl (Nat.le_of_ble_eq_true rfl) dX6_unlike_11 ⟨Nat.zero_le _, Nat.zero_le _⟩ (fun u11 H locs p11 hP hD hS => ?_)
    obtain ⟨lineO'_11, tokO'_11, atO'_11, baseO'_11, kindO'_11, partO'_11, colO'_11, openO'_11, strayO'_11, stk'_11, bys'_11⟩ := u11
    try dsimp only at p11 hP hD
    have hP : va_P G vwCl (rW E a ln (nO (nAll (aR ab) ln)) (nD (nAll (aR ab) ln)) (nL (nAll (aR ab) ln)) row seen sty lineO'_11 tokO'_11 atO'_11 baseO'_11 kindO'_11 partO'_11 colO'_11 openO'_11 strayO'_11 stk'_11 bys'_11 was gsd cellsO sortO kLine kAt kKind) H := hP
    have hD : va_D A (rW E a ln (nO (nAll (aR ab) ln)) (nD (nAll (aR ab) ln)) (nL (nAll (aR ab) ln)) row seen sty lineO'_11 tokO'_11 atO'_11 baseO'_11 kindO'_11 partO'_11 colO'_11 openO'_11 strayO'_11 stk'_11 bys'_11 was gsd cellsO sortO kLine kAt kKind) := hD
    have hRa : RR (aG ab 2) (aNest ab) (aCol ab) (aN ab) lineO'_11 tokO'_11 atO'_11 baseO'_11 kindO'_11 partO'_11 colO'_11 openO'_11 strayO'_11 stk'_11 := by have q := p11; rw [hsg 2 (by decide), cols_congr hsg, hN] at q; exact q
    refine lv_iload_n hx hb dX6_unlike_14 rfl (lv_at hl 1 rfl) ?_
    refine lv_istore_n (lv' := [(2, .int (nI j)), (0, .ref (a 0)), (1, .int (nI j))]) hx hb dX6_unlike_15 rfl hl (by decide) rfl (fun ls hl => ?_)
    have lp16 : ∀ (kk : Nat) (i : Nat) (H : Heap) (locs : List Loc), (j ≤ i ∧ i ≤ ln) → (scan ab (ln - i) i = scan ab (ln - j) j) → ln - i < kk → va_P G vwCl (rW E a ln (nO (nAll (aR ab) ln)) (nD (nAll (aR ab) ln)) (nL (nAll (aR ab) ln)) row seen sty lineO'_11 tokO'_11 atO'_11 baseO'_11 kindO'_11 partO'_11 colO'_11 openO'_11 strayO'_11 stk'_11 bys'_11 was gsd cellsO sortO kLine kAt kKind) H → va_D A (rW E a ln (nO (nAll (aR ab) ln)) (nD (nAll (aR ab) ln)) (nL (nAll (aR ab) ln)) row seen sty lineO'_11 tokO'_11 atO'_11 baseO'_11 kindO'_11 partO'_11 colO'_11 openO'_11 strayO'_11 stk'_11 bys'_11 was gsd cellsO sortO kLine kAt kKind) → va_S A s.heap H locs → ∀ ls : Array Slot, lv_has ls 3 [(2, .int (nI i)), (0, .ref (a 0)), (1, .int (nI j))] → W p l e (headSpec wsX6_unlike ({ frames := 6, cells := 0, slots := 0, locals := 140 } : Room)).room s m ([.ref (a 0), .int (nI j)] : List Value).toArray below meth c H locs 0 0 (MQ below (va_Qi (fun (r : Int32) (u : (Nat) × (Nat) × (Nat) × (Nat → Int32) × (Nat → Int32) × (Nat → Int32) × (Nat → Int32) × (Nat → Int32) × (Nat → Int32) × (Nat → Int32) × (Nat → Int32) × (Nat → Int32) × (Nat → Int32) × (Nat → Int32) × (Nat → Int32) × (Nat → Int32)) => r = fUnlike ab (nI j)) (fun (u : (Nat) × (Nat) × (Nat) × (Nat → Int32) × (Nat → Int32) × (Nat → Int32) × (Nat → Int32) × (Nat → Int32) × (Nat → Int32) × (Nat → Int32) × (Nat → Int32) × (Nat → Int32) × (Nat → Int32) × (Nat → Int32) × (Nat → Int32) × (Nat → Int32)) tQ => va_P G vwCl (rW E a ln u.1 u.2.1 u.2.2.1 row seen sty u.2.2.2.1 u.2.2.2.2.1 u.2.2.2.2.2.1 u.2.2.2.2.2.2.1 u.2.2.2.2.2.2.2.1 u.2.2.2.2.2.2.2.2.1 u.2.2.2.2.2.2.2.2.2.1 u.2.2.2.2.2.2.2.2.2.2.1 u.2.2.2.2.2.2.2.2.2.2.2.1 u.2.2.2.2.2.2.2.2.2.2.2.2.1 u.2.2.2.2.2.2.2.2.2.2.2.2.2.1 u.2.2.2.2.2.2.2.2.2.2.2.2.2.2.1 u.2.2.2.2.2.2.2.2.2.2.2.2.2.2.2 cellsO sortO kLine kAt kKind) tQ.heap) A) ([.ref (a 0), .int (nI j)] : List Value).toArray s 0 0 A) (F0 m 16 ls []) := by
      intro kk
      induction kk with
      | zero => intro i H locs hi hsc hkk; exact absurd hkk (Nat.not_lt_zero _)
      | succ kk ih16 =>
        intro i H locs hi hsc hkk hP hD hS ls hl
        refine lv_iload_n hx hb dX6_unlike_16 rfl (lv_at hl 0 rfl) ?_
        refine lv_aload_n hx hb dX6_unlike_17 rfl (lv_at hl 1 rfl) ?_
        refine va_get (D := G) (ci := 6) (v := .int (nI ln)) (C := RX6) (T := TX6) (N := 25) hx hb hts hin6 hown hK hP 0 rfl rfl 0 (by decide) (hts (Cond.fieldLink RX6 73 "IndentRulesModel" "lines" "I") (List.mem_of_getElem? (i := 1) rfl)) (fun _ h9 => h9) rfl dX6_unlike_18 ?_
        refine n_icmp_ge (a := i) (b := ln) (tgt := 55) hx hb (by omega) (by omega) dX6_unlike_21 (by decide) (fun c21 => ?_) (fun c21 => ?_)
        · refine lv_bipush (v := (-9)) hx hb dX6_unlike_55 (by decide) ?_
          exact W.iret (v := (-9)) hx hb hr (fun tZ htZ hWZ => ⟨⟨_, (nO (nAll (aR ab) ln), nD (nAll (aR ab) ln), nL (nAll (aR ab) ln), lineO'_11, tokO'_11, atO'_11, baseO'_11, kindO'_11, partO'_11, colO'_11, openO'_11, strayO'_11, stk'_11, bys'_11, was, gsd), rfl, by unfold fUnlike; rw [if_pos (ixP_n (by omega) (by omega)), ix_n (by omega), ← hN, ← hsc, show ln - i = 0 by omega]; rfl, by show va_P G vwCl _ tZ.heap; rw [htZ]; exact hP⟩, hS.F htZ⟩) hS.2.2 dX6_unlike_57
        · refine lv_aload_n hx hb dX6_unlike_24 rfl (lv_at hl 1 rfl) ?_
          refine lv_iload_n hx hb dX6_unlike_25 rfl (lv_at hl 0 rfl) ?_
          refine rv_i (n := 1) (G := G) (E := E) (As := [.int (nI i)]) (rest := []) (ci := 6) (q0 := 0) ⟨hx, hb, hml, hown, hts⟩ hK hZ hS (c_X6_counts l G E a ln (nO (nAll (aR ab) ln)) (nD (nAll (aR ab) ln)) (nL (nAll (aR ab) ln)) row seen sty lineO'_11 tokO'_11 atO'_11 baseO'_11 kindO'_11 partO'_11 colO'_11 openO'_11 strayO'_11 stk'_11 bys'_11 was gsd cellsO sortO kLine kAt kKind i (by first | assumption | omega)) gX6_unlike_X6_counts rfl rfl rfl (by decide +kernel) ⟨Nat.le_of_ble_eq_true rfl, Nat.le_of_ble_eq_true rfl⟩ hP rfl rfl hl.1 rfl rfl (Nat.le_of_ble_eq_true rfl) dX6_unlike_26 ⟨Nat.zero_le _, Nat.zero_le _⟩ (fun r26 p26 => ?_)
          rcases p26 with ⟨h26, rfl⟩ | ⟨h26, rfl⟩
          · have hcn : cnt ab i := ⟨fun q => h26.1 (by rw [hsn i (by omega)]; exact q), fun q => h26.2 (by rw [(hrn i (by omega)).1, q, nI_0])⟩
            refine n_if_eq (a := 1) (tgt := 49) hx hb (by decide) dX6_unlike_29 (by decide) (fun c29 => absurd c29 (by decide)) (fun c29 => ?_)
            refine lv_aload_n hx hb dX6_unlike_32 rfl (lv_at hl 1 rfl) ?_
            refine va_get (D := G) (ci := 6) (v := .ref (a 11)) (C := RX6) (T := TX6) (N := 25) hx hb hts hin6 hown hK hP 0 rfl rfl 11 (by decide) (hts (Cond.fieldLink RX6 37 "IndentRulesModel" "columnOf" "[I") (List.mem_of_getElem? (i := 2) rfl)) (fun _ h9 => h9) rfl dX6_unlike_33 ?_
            refine lv_iload_n hx hb dX6_unlike_36 rfl (lv_at hl 0 rfl) ?_
            refine k_iald (D := G) (tys := TYS E) (j := i) (f := colO'_11) (n := 20) hx hb hK hP 10 0 rfl rfl (by omega) (by decide) dX6_unlike_37 ?_
            rw [(hRa.2.1 i (by omega)).1]
            refine lv_aload_n hx hb dX6_unlike_38 rfl (lv_at hl 1 rfl) ?_
            refine va_get (D := G) (ci := 6) (v := .ref (a 2)) (C := RX6) (T := TX6) (N := 25) hx hb hts hin6 hown hK hP 0 rfl rfl 2 (by decide) (hts (Cond.fieldLink RX6 13 "IndentRulesModel" "seen" "[I") (List.mem_of_getElem? (i := 3) rfl)) (fun _ h9 => h9) rfl dX6_unlike_39 ?_
            refine lv_iload_n hx hb dX6_unlike_42 rfl (lv_at hl 0 rfl) ?_
            refine k_iald (D := G) (tys := TYS E) (j := i) (f := seen) (n := 20) hx hb hK hP 2 0 rfl rfl (by omega) (by decide) dX6_unlike_43 ?_
            rw [hsn i (by omega)]
            refine lv_icmp_eq (x := (aCol ab i)) (y := (aS ab i)) (tgt := 49) hx hb dX6_unlike_44 (by decide) (fun c44 => ?_) (fun c44 => ?_)
            · refine lv_iinc (v := (nI (i + 1))) (lv' := [(2, .int (nI (i + 1))), (0, .ref (a 0)), (1, .int (nI j))]) hx hb dX6_unlike_49 hl (k := 0) rfl (k_inc i) (by decide) rfl (fun ls hl => ?_)
              refine lv_goto (tgt := 16) hx hb dX6_unlike_52 (by decide) ?_
              exact ih16 (i + 1) _ _ ⟨by omega, by omega⟩ (by rw [← hsc, show ln - i = ln - (i + 1) + 1 by omega, scan_s, if_neg (fun q => q.2 c44)]) (by omega) hP hD hS ls (lv_sub hl [0, 1, 2] rfl)
            · refine lv_iload_n hx hb dX6_unlike_47 rfl (lv_at hl 0 rfl) ?_
              exact W.iret (v := (nI i)) hx hb hr (fun tZ htZ hWZ => ⟨⟨_, (nO (nAll (aR ab) ln), nD (nAll (aR ab) ln), nL (nAll (aR ab) ln), lineO'_11, tokO'_11, atO'_11, baseO'_11, kindO'_11, partO'_11, colO'_11, openO'_11, strayO'_11, stk'_11, bys'_11, was, gsd), rfl, by unfold fUnlike; rw [if_pos (ixP_n (by omega) (by omega)), ix_n (by omega), ← hN, ← hsc, show ln - i = ln - (i + 1) + 1 by omega, scan_s, if_pos ⟨hcn, c44⟩], by show va_P G vwCl _ tZ.heap; rw [htZ]; exact hP⟩, hS.F htZ⟩) hS.2.2 dX6_unlike_48
          · have hcn : ¬ cnt ab i := fun q => h26 ⟨fun z => q.1 (by rw [← hsn i (by omega)]; exact z), fun z => q.2 (by rw [(hrn i (by omega)).1, ← nI_0] at z; exact (nI_eq (by have := (hrn i (by omega)).2.1; omega) (by decide)).mp z)⟩
            refine n_if_eq (a := 0) (tgt := 49) hx hb (by decide) dX6_unlike_29 (by decide) (fun c29 => ?_) (fun c29 => absurd c29 (by decide))
            refine lv_iinc (v := (nI (i + 1))) (lv' := [(2, .int (nI (i + 1))), (0, .ref (a 0)), (1, .int (nI j))]) hx hb dX6_unlike_49 hl (k := 0) rfl (k_inc i) (by decide) rfl (fun ls hl => ?_)
            refine lv_goto (tgt := 16) hx hb dX6_unlike_52 (by decide) ?_
            exact ih16 (i + 1) _ _ ⟨by omega, by omega⟩ (by rw [← hsc, show ln - i = ln - (i + 1) + 1 by omega, scan_s, if_neg (fun q => hcn q.1)]) (by omega) hP hD hS ls (lv_sub hl [0, 1, 2] rfl)
    exact lp16 (ln - j + 1) j _ _ ⟨Nat.le_refl _, by omega⟩ rfl (Nat.lt_succ_self _) hP hD hS ls (lv_sub hl [0, 1, 2] rfl)
  · have hx1 : ¬ ixP x (aN ab) := fun q => h2 (by rw [hN]; exact (ixP_iff (by omega)).mp q)
    refine n_if_ne (a := 0) (tgt := 10) hx hb (by decide) dX6_unlike_5 (by decide) (fun c5 => absurd c5 (by decide)) (fun c5 => ?_)
    refine lv_iconst (v := (-1)) hx hb dX6_unlike_8 (by decide) ?_
    exact W.iret (v := (-1)) hx hb hr (fun tZ htZ hWZ => ⟨⟨_, (op, dp, la, lineO, tokO, atO, baseO, kindO, partO, colO, openO, strayO, stk, bys, was, gsd), rfl, by unfold fUnlike; rw [if_neg hx1], by show va_P G vwCl _ tZ.heap; rw [htZ]; exact hP⟩, hS.F htZ⟩) hS.2.2 dX6_unlike_9

set_option maxHeartbeats 4000000 in
set_option maxRecDepth 100000 in
theorem c_X6_fits (l : Launch) (G : va_G) (E : cEnv) (a : Nat → Nat) (ln op dp la : Nat) (row seen sty lineO tokO atO baseO kindO partO colO openO strayO stk bys was gsd cellsO sortO kLine kAt kKind : Nat → Int32) (x0 x1 x2 x3 : Int32) (ab : ABS) (hab : RefOk ab ln row seen sty cellsO sortO kLine kAt kKind) (sz : Nat) : Met l yX6_fits wsX6_fits ({ frames := 5, cells := 0, slots := 0, locals := 120 }) (va_Pc [.ref (a 0), .int x0, .int x1, .int x2, .int x3] (PW G E (rW E a ln op dp la row seen sty lineO tokO atO baseO kindO partO colO openO strayO stk bys was gsd cellsO sortO kLine kAt kKind) sz)) (va_Qi (fun (r : Int32) (u : (Nat) × (Nat) × (Nat) × (Nat → Int32) × (Nat → Int32) × (Nat → Int32) × (Nat → Int32) × (Nat → Int32) × (Nat → Int32) × (Nat → Int32) × (Nat → Int32) × (Nat → Int32) × (Nat → Int32) × (Nat → Int32) × (Nat → Int32) × (Nat → Int32)) => r = fFits ab x0 x1 x2 x3) (fun (u : (Nat) × (Nat) × (Nat) × (Nat → Int32) × (Nat → Int32) × (Nat → Int32) × (Nat → Int32) × (Nat → Int32) × (Nat → Int32) × (Nat → Int32) × (Nat → Int32) × (Nat → Int32) × (Nat → Int32) × (Nat → Int32) × (Nat → Int32) × (Nat → Int32)) tQ => va_P G vwCl (rW E a ln u.1 u.2.1 u.2.2.1 row seen sty u.2.2.2.1 u.2.2.2.2.1 u.2.2.2.2.2.1 u.2.2.2.2.2.2.1 u.2.2.2.2.2.2.2.1 u.2.2.2.2.2.2.2.2.1 u.2.2.2.2.2.2.2.2.2.1 u.2.2.2.2.2.2.2.2.2.2.1 u.2.2.2.2.2.2.2.2.2.2.2.1 u.2.2.2.2.2.2.2.2.2.2.2.2.1 u.2.2.2.2.2.2.2.2.2.2.2.2.2.1 u.2.2.2.2.2.2.2.2.2.2.2.2.2.2.1 u.2.2.2.2.2.2.2.2.2.2.2.2.2.2.2 cellsO sortO kLine kAt kKind) tQ.heap) (va_A (rW E a ln op dp la row seen sty lineO tokO atO baseO kindO partO colO openO strayO stk bys was gsd cellsO sortO kLine kAt kKind) sz)) 0 0 (va_A (rW E a ln op dp la row seen sty lineO tokO atO baseO kindO partO colO openO strayO stk bys was gsd cellsO sortO kLine kAt kKind) sz) := by
  refine Met.ofW (cc := cX6_fits) (maxL := 7) (ret := (some .int)) (by decide) rfl ?_
  intro p e s m args below meth c s₁ B hml hv
  obtain ⟨rfl, hsz, hP, hK, hD0, hZ⟩ := hv
  have hx := B.exec
  have hb := B.bytes
  have hr := B.returns
  have hts := atoms_spec (ws := wsX6_fits) B.pre
  have hown : s.vm.findClass RX6 = some m.cls := findClass_of_methodNamed B.named
  have hlocks := B.notSynchronized
  have hin6 : ∀ w ∈ u_ws RX6 TX6 25, w ∈ wsX6_fits := mem_pl [69, 70, 71, 72, 73, 74, 75, 76, 77, 78, 79, 80, 81, 82, 83, 84, 85, 86, 87, 88, 89, 90, 91, 92, 93] (by rfl)
  subst hsz
  have hD := hD0.self (sz := s.heap.size)
  generalize hAe : va_A (rW E a ln op dp la row seen sty lineO tokO atO baseO kindO partO colO openO strayO stk bys was gsd cellsO sortO kLine kAt kKind) s.heap.size = A at hD hZ ⊢
  have hA : ∀ q : Nat, s.heap.size ≤ q → A q := fun q h => by rw [← hAe]; exact Or.inr h
  have hS : va_S A s.heap s.heap [] := va_S.rf
  have hl := lv_entry ([.ref (a 0), .int x0, .int x1, .int x2, .int x3]) (n := 7) (Nat.le_of_ble_eq_true rfl)
  rw [lg_entry_eq]
  generalize (lg_sl ([.ref (a 0), .int x0, .int x1, .int x2, .int x3]) ++ List.replicate (7 - (lg_sl ([.ref (a 0), .int x0, .int x1, .int x2, .int x3])).length) Slot.unset).toArray = ls at hl ⊢
  have hl : lv_has ls 7 [(0, .ref (a 0)), (1, .int x0), (2, .int x1), (3, .int x2), (4, .int x3)] := hl
  obtain ⟨hN, hok, hrn, hsn, hsg, hpk⟩ := id hab
  have hln : ln ≤ 20 := by rw [hN]; exact hok.1
  refine lv_iload_n hx hb dX6_fits_0 rfl (lv_at hl 1 rfl) ?_
  refine lv_iload_n hx hb dX6_fits_1 rfl (lv_at hl 2 rfl) ?_
  refine lv_iload_n hx hb dX6_fits_2 rfl (lv_at hl 3 rfl) ?_
  refine lv_iload hx hb dX6_fits_3 (lv_at hl 4 rfl) ?_
  refine rs_i (n := 4) (G := G) (E := E) (As := [.int x0, .int x1, .int x2, .int x3]) (rest := []) ⟨hx, hb, hml, hown, hts⟩ hK hZ hS (c_X6_isStyle l G E x0 x1 x2 x3) gX6_fits_X6_isStyle rfl rfl rfl (by decide +kernel) ⟨Nat.le_of_ble_eq_true rfl, Nat.le_of_ble_eq_true rfl⟩ (fun k q h => by simp at h) hl.1 rfl rfl (Nat.le_of_ble_eq_true rfl) dX6_fits_5 ⟨Nat.zero_le _, Nat.zero_le _⟩ (fun r5 p5 => ?_)
  rcases p5 with ⟨h5, rfl⟩ | ⟨h5, rfl⟩
  · refine n_if_ne (a := 1) (tgt := 14) hx hb (by decide) dX6_fits_8 (by decide) (fun c8 => ?_) (fun c8 => absurd c8 (by decide))
    refine lv_aload_n hx hb dX6_fits_14 rfl (lv_at hl 0 rfl) ?_
    refine lv_iload_n hx hb dX6_fits_15 rfl (lv_at hl 1 rfl) ?_
    refine lv_iload_n hx hb dX6_fits_16 rfl (lv_at hl 2 rfl) ?_
    refine lv_iload_n hx hb dX6_fits_17 rfl (lv_at hl 3 rfl) ?_
    refine lv_iload hx hb dX6_fits_18 (lv_at hl 4 rfl) ?_
    refine wf_v (n := 4) (G := G) (E := E) (As := [.int x0, .int x1, .int x2, .int x3]) (rest := []) (ci := 6) (q0 := 0) (wn := fun (u : (Nat → Int32) × (Nat → Int32) × (Nat → Int32) × (Nat → Int32) × (Nat → Int32) × (Nat → Int32) × (Nat → Int32) × (Nat → Int32) × (Nat → Int32) × (Nat → Int32) × (Nat → Int32)) => rW E a ln (nO (nAll (aR ab) ln)) (nD (nAll (aR ab) ln)) (nL (nAll (aR ab) ln)) row seen sty u.1 u.2.1 u.2.2.1 u.2.2.2.1 u.2.2.2.2.1 u.2.2.2.2.2.1 u.2.2.2.2.2.2.1 u.2.2.2.2.2.2.2.1 u.2.2.2.2.2.2.2.2.1 u.2.2.2.2.2.2.2.2.2.1 u.2.2.2.2.2.2.2.2.2.2 was gsd cellsO sortO kLine kAt kKind) ⟨hx, hb, hml, hown, hts⟩ hK hZ hS hA (fun sz => c_X6_goesBy l G E a ln op dp la row seen sty lineO tokO atO baseO kindO partO colO openO strayO stk bys was gsd cellsO sortO kLine kAt kKind x0 x1 x2 x3 (aR ab) (by first | assumption | omega) (by first | assumption | omega) sz) gX6_fits_X6_goesBy rfl rfl rfl (by decide +kernel) ⟨Nat.le_of_ble_eq_true rfl, Nat.le_of_ble_eq_true rfl⟩ hP hD (fun _ => rfl) rfl rfl hl.1 rfl rfl (Nat.le_of_ble_eq_true rfl) dX6_fits_20 ⟨Nat.zero_le _, Nat.zero_le _⟩ (fun u20 H locs p20 hP hD hS => ?_)
    obtain ⟨lineO'_20, tokO'_20, atO'_20, baseO'_20, kindO'_20, partO'_20, colO'_20, openO'_20, strayO'_20, stk'_20, bys'_20⟩ := u20
    try dsimp only at p20 hP hD
    have hP : va_P G vwCl (rW E a ln (nO (nAll (aR ab) ln)) (nD (nAll (aR ab) ln)) (nL (nAll (aR ab) ln)) row seen sty lineO'_20 tokO'_20 atO'_20 baseO'_20 kindO'_20 partO'_20 colO'_20 openO'_20 strayO'_20 stk'_20 bys'_20 was gsd cellsO sortO kLine kAt kKind) H := hP
    have hD : va_D A (rW E a ln (nO (nAll (aR ab) ln)) (nD (nAll (aR ab) ln)) (nL (nAll (aR ab) ln)) row seen sty lineO'_20 tokO'_20 atO'_20 baseO'_20 kindO'_20 partO'_20 colO'_20 openO'_20 strayO'_20 stk'_20 bys'_20 was gsd cellsO sortO kLine kAt kKind) := hD
    have hRc : ∀ j, j < ln → colO'_20 j = (cols (st4 x0 x1 x2 x3) (aR ab) (aN ab)) j ∧ openO'_20 j = nI (nF (aNest ab) 9 j) := fun j hj => by have q := p20.2.1 j hj; rw [hN] at q; exact ⟨q.1, q.2.1⟩
    refine lv_iconst (v := (nI 0)) hx hb dX6_fits_23 (by decide) ?_
    refine lv_istore (lv' := [(5, .int (nI 0)), (0, .ref (a 0)), (1, .int x0), (2, .int x1), (3, .int x2), (4, .int x3)]) hx hb dX6_fits_24 hl (by decide) rfl (fun ls hl => ?_)
    refine lv_iconst (v := (nI 0)) hx hb dX6_fits_26 (by decide) ?_
    refine lv_istore (lv' := [(6, .int (nI 0)), (5, .int (nI 0)), (0, .ref (a 0)), (1, .int x0), (2, .int x1), (3, .int x2), (4, .int x3)]) hx hb dX6_fits_27 hl (by decide) rfl (fun ls hl => ?_)
    have lp29 : ∀ (kk : Nat) (nn : Nat) (i : Nat) (H : Heap) (locs : List Loc), (i ≤ ln) → (nn = fitc ab (cols (st4 x0 x1 x2 x3) (aR ab) (aN ab)) i) → ln - i < kk → va_P G vwCl (rW E a ln (nO (nAll (aR ab) ln)) (nD (nAll (aR ab) ln)) (nL (nAll (aR ab) ln)) row seen sty lineO'_20 tokO'_20 atO'_20 baseO'_20 kindO'_20 partO'_20 colO'_20 openO'_20 strayO'_20 stk'_20 bys'_20 was gsd cellsO sortO kLine kAt kKind) H → va_D A (rW E a ln (nO (nAll (aR ab) ln)) (nD (nAll (aR ab) ln)) (nL (nAll (aR ab) ln)) row seen sty lineO'_20 tokO'_20 atO'_20 baseO'_20 kindO'_20 partO'_20 colO'_20 openO'_20 strayO'_20 stk'_20 bys'_20 was gsd cellsO sortO kLine kAt kKind) → va_S A s.heap H locs → ∀ ls : Array Slot, lv_has ls 7 [(6, .int (nI i)), (5, .int (nI nn)), (0, .ref (a 0)), (1, .int x0), (2, .int x1), (3, .int x2), (4, .int x3)] → W p l e (headSpec wsX6_fits ({ frames := 5, cells := 0, slots := 0, locals := 120 } : Room)).room s m ([.ref (a 0), .int x0, .int x1, .int x2, .int x3] : List Value).toArray below meth c H locs 0 0 (MQ below (va_Qi (fun (r : Int32) (u : (Nat) × (Nat) × (Nat) × (Nat → Int32) × (Nat → Int32) × (Nat → Int32) × (Nat → Int32) × (Nat → Int32) × (Nat → Int32) × (Nat → Int32) × (Nat → Int32) × (Nat → Int32) × (Nat → Int32) × (Nat → Int32) × (Nat → Int32) × (Nat → Int32)) => r = fFits ab x0 x1 x2 x3) (fun (u : (Nat) × (Nat) × (Nat) × (Nat → Int32) × (Nat → Int32) × (Nat → Int32) × (Nat → Int32) × (Nat → Int32) × (Nat → Int32) × (Nat → Int32) × (Nat → Int32) × (Nat → Int32) × (Nat → Int32) × (Nat → Int32) × (Nat → Int32) × (Nat → Int32)) tQ => va_P G vwCl (rW E a ln u.1 u.2.1 u.2.2.1 row seen sty u.2.2.2.1 u.2.2.2.2.1 u.2.2.2.2.2.1 u.2.2.2.2.2.2.1 u.2.2.2.2.2.2.2.1 u.2.2.2.2.2.2.2.2.1 u.2.2.2.2.2.2.2.2.2.1 u.2.2.2.2.2.2.2.2.2.2.1 u.2.2.2.2.2.2.2.2.2.2.2.1 u.2.2.2.2.2.2.2.2.2.2.2.2.1 u.2.2.2.2.2.2.2.2.2.2.2.2.2.1 u.2.2.2.2.2.2.2.2.2.2.2.2.2.2.1 u.2.2.2.2.2.2.2.2.2.2.2.2.2.2.2 cellsO sortO kLine kAt kKind) tQ.heap) A) ([.ref (a 0), .int x0, .int x1, .int x2, .int x3] : List Value).toArray s 0 0 A) (F0 m 29 ls []) := by
      intro kk
      induction kk with
      | zero => intro nn i H locs hi hnn hkk; exact absurd hkk (Nat.not_lt_zero _)
      | succ kk ih29 =>
        intro nn i H locs hi hnn hkk hP hD hS ls hl
        refine lv_iload hx hb dX6_fits_29 (lv_at hl 0 rfl) ?_
        refine lv_aload_n hx hb dX6_fits_31 rfl (lv_at hl 2 rfl) ?_
        refine va_get (D := G) (ci := 6) (v := .int (nI ln)) (C := RX6) (T := TX6) (N := 25) hx hb hts hin6 hown hK hP 0 rfl rfl 0 (by decide) (hts (Cond.fieldLink RX6 73 "IndentRulesModel" "lines" "I") (List.mem_of_getElem? (i := 1) rfl)) (fun _ h9 => h9) rfl dX6_fits_32 ?_
        refine n_icmp_ge (a := i) (b := ln) (tgt := 80) hx hb (by omega) (by omega) dX6_fits_35 (by decide) (fun c35 => ?_) (fun c35 => ?_)
        · refine lv_iload hx hb dX6_fits_80 (lv_at hl 1 rfl) ?_
          exact W.iret (v := (nI nn)) hx hb hr (fun tZ htZ hWZ => ⟨⟨_, (nO (nAll (aR ab) ln), nD (nAll (aR ab) ln), nL (nAll (aR ab) ln), lineO'_20, tokO'_20, atO'_20, baseO'_20, kindO'_20, partO'_20, colO'_20, openO'_20, strayO'_20, stk'_20, bys'_20, was, gsd), rfl, by rw [fFits_ok h5, hnn, show i = aN ab by omega], by show va_P G vwCl _ tZ.heap; rw [htZ]; exact hP⟩, hS.F htZ⟩) hS.2.2 dX6_fits_82
        · refine lv_iload hx hb dX6_fits_38 (lv_at hl 1 rfl) ?_
          refine lv_aload_n hx hb dX6_fits_40 rfl (lv_at hl 2 rfl) ?_
          refine lv_iload hx hb dX6_fits_41 (lv_at hl 0 rfl) ?_
          refine rv_i (n := 1) (G := G) (E := E) (As := [.int (nI i)]) (rest := [.int (nI nn)]) (ci := 6) (q0 := 0) ⟨hx, hb, hml, hown, hts⟩ hK hZ hS (c_X6_counts l G E a ln (nO (nAll (aR ab) ln)) (nD (nAll (aR ab) ln)) (nL (nAll (aR ab) ln)) row seen sty lineO'_20 tokO'_20 atO'_20 baseO'_20 kindO'_20 partO'_20 colO'_20 openO'_20 strayO'_20 stk'_20 bys'_20 was gsd cellsO sortO kLine kAt kKind i (by first | assumption | omega)) gX6_fits_X6_counts rfl rfl rfl (by decide +kernel) ⟨Nat.le_of_ble_eq_true rfl, Nat.le_of_ble_eq_true rfl⟩ hP rfl rfl hl.1 rfl rfl (Nat.le_of_ble_eq_true rfl) dX6_fits_43 ⟨Nat.zero_le _, Nat.zero_le _⟩ (fun r43 p43 => ?_)
          rcases p43 with ⟨h43, rfl⟩ | ⟨h43, rfl⟩
          · have hcn : cnt ab i := ⟨fun q => h43.1 (by rw [hsn i (by omega)]; exact q), fun q => h43.2 (by rw [(hrn i (by omega)).1, q, nI_0])⟩
            refine n_if_eq (a := 1) (tgt := 70) hx hb (by decide) dX6_fits_46 (by decide) (fun c46 => absurd c46 (by decide)) (fun c46 => ?_)
            refine lv_aload_n hx hb dX6_fits_49 rfl (lv_at hl 2 rfl) ?_
            refine va_get (D := G) (ci := 6) (v := .ref (a 11)) (C := RX6) (T := TX6) (N := 25) hx hb hts hin6 hown hK hP 0 rfl rfl 11 (by decide) (hts (Cond.fieldLink RX6 37 "IndentRulesModel" "columnOf" "[I") (List.mem_of_getElem? (i := 2) rfl)) (fun _ h9 => h9) rfl dX6_fits_50 ?_
            refine lv_iload hx hb dX6_fits_53 (lv_at hl 0 rfl) ?_
            refine k_iald (D := G) (tys := TYS E) (j := i) (f := colO'_20) (n := 20) hx hb hK hP 10 0 rfl rfl (by omega) (by decide) dX6_fits_55 ?_
            rw [(hRc i (by omega)).1]
            refine lv_aload_n hx hb dX6_fits_56 rfl (lv_at hl 2 rfl) ?_
            refine va_get (D := G) (ci := 6) (v := .ref (a 2)) (C := RX6) (T := TX6) (N := 25) hx hb hts hin6 hown hK hP 0 rfl rfl 2 (by decide) (hts (Cond.fieldLink RX6 13 "IndentRulesModel" "seen" "[I") (List.mem_of_getElem? (i := 3) rfl)) (fun _ h9 => h9) rfl dX6_fits_57 ?_
            refine lv_iload hx hb dX6_fits_60 (lv_at hl 0 rfl) ?_
            refine k_iald (D := G) (tys := TYS E) (j := i) (f := seen) (n := 20) hx hb hK hP 2 0 rfl rfl (by omega) (by decide) dX6_fits_62 ?_
            rw [hsn i (by omega)]
            refine lv_icmp_ne (x := ((cols (st4 x0 x1 x2 x3) (aR ab) (aN ab)) i)) (y := (aS ab i)) (tgt := 70) hx hb dX6_fits_63 (by decide) (fun c63 => ?_) (fun c63 => ?_)
            · refine lv_iconst (v := (nI 0)) hx hb dX6_fits_70 (by decide) ?_
              refine k_iadd (a := nn) (b := 0) hx hb dX6_fits_71 ?_
              refine lv_istore (lv' := [(5, .int (nI (nn + 0))), (6, .int (nI i)), (0, .ref (a 0)), (1, .int x0), (2, .int x1), (3, .int x2), (4, .int x3)]) hx hb dX6_fits_72 hl (by decide) rfl (fun ls hl => ?_)
              refine lv_iinc (v := (nI (i + 1))) (lv' := [(6, .int (nI (i + 1))), (5, .int (nI (nn + 0))), (0, .ref (a 0)), (1, .int x0), (2, .int x1), (3, .int x2), (4, .int x3)]) hx hb dX6_fits_74 hl (k := 1) rfl (k_inc i) (by decide) rfl (fun ls hl => ?_)
              refine lv_goto (tgt := 29) hx hb dX6_fits_77 (by decide) ?_
              exact ih29 (nn + 0) (i + 1) _ _ (by omega) (by rw [hnn]; show _ = fitc ab _ i + _; rw [if_neg (fun q => c63 q.2)]) (by omega) hP hD hS ls (lv_sub hl [0, 1, 2, 3, 4, 5, 6] rfl)
            · refine lv_iconst (v := (nI 1)) hx hb dX6_fits_66 (by decide) ?_
              refine lv_goto (tgt := 71) hx hb dX6_fits_67 (by decide) ?_
              refine k_iadd (a := nn) (b := 1) hx hb dX6_fits_71 ?_
              refine lv_istore (lv' := [(5, .int (nI (nn + 1))), (6, .int (nI i)), (0, .ref (a 0)), (1, .int x0), (2, .int x1), (3, .int x2), (4, .int x3)]) hx hb dX6_fits_72 hl (by decide) rfl (fun ls hl => ?_)
              refine lv_iinc (v := (nI (i + 1))) (lv' := [(6, .int (nI (i + 1))), (5, .int (nI (nn + 1))), (0, .ref (a 0)), (1, .int x0), (2, .int x1), (3, .int x2), (4, .int x3)]) hx hb dX6_fits_74 hl (k := 1) rfl (k_inc i) (by decide) rfl (fun ls hl => ?_)
              refine lv_goto (tgt := 29) hx hb dX6_fits_77 (by decide) ?_
              exact ih29 (nn + 1) (i + 1) _ _ (by omega) (by rw [hnn]; show _ = fitc ab _ i + _; rw [if_pos ⟨hcn, c63⟩]) (by omega) hP hD hS ls (lv_sub hl [0, 1, 2, 3, 4, 5, 6] rfl)
          · have hcn : ¬ cnt ab i := fun q => h43 ⟨fun z => q.1 (by rw [← hsn i (by omega)]; exact z), fun z => q.2 (by rw [(hrn i (by omega)).1, ← nI_0] at z; exact (nI_eq (by have := (hrn i (by omega)).2.1; omega) (by decide)).mp z)⟩
            refine n_if_eq (a := 0) (tgt := 70) hx hb (by decide) dX6_fits_46 (by decide) (fun c46 => ?_) (fun c46 => absurd c46 (by decide))
            refine lv_iconst (v := (nI 0)) hx hb dX6_fits_70 (by decide) ?_
            refine k_iadd (a := nn) (b := 0) hx hb dX6_fits_71 ?_
            refine lv_istore (lv' := [(5, .int (nI (nn + 0))), (6, .int (nI i)), (0, .ref (a 0)), (1, .int x0), (2, .int x1), (3, .int x2), (4, .int x3)]) hx hb dX6_fits_72 hl (by decide) rfl (fun ls hl => ?_)
            refine lv_iinc (v := (nI (i + 1))) (lv' := [(6, .int (nI (i + 1))), (5, .int (nI (nn + 0))), (0, .ref (a 0)), (1, .int x0), (2, .int x1), (3, .int x2), (4, .int x3)]) hx hb dX6_fits_74 hl (k := 1) rfl (k_inc i) (by decide) rfl (fun ls hl => ?_)
            refine lv_goto (tgt := 29) hx hb dX6_fits_77 (by decide) ?_
            exact ih29 (nn + 0) (i + 1) _ _ (by omega) (by rw [hnn]; show _ = fitc ab _ i + _; rw [if_neg (fun q => hcn q.1)]) (by omega) hP hD hS ls (lv_sub hl [0, 1, 2, 3, 4, 5, 6] rfl)
    exact lp29 (ln - 0 + 1) 0 0 _ _ (Nat.zero_le _) rfl (Nat.lt_succ_self _) hP hD hS ls (lv_sub hl [0, 1, 2, 3, 4, 5, 6] rfl)
  · refine n_if_ne (a := 0) (tgt := 14) hx hb (by decide) dX6_fits_8 (by decide) (fun c8 => absurd c8 (by decide)) (fun c8 => ?_)
    refine lv_bipush (v := (-2)) hx hb dX6_fits_11 (by decide) ?_
    exact W.iret (v := (-2)) hx hb hr (fun tZ htZ hWZ => ⟨⟨_, (op, dp, la, lineO, tokO, atO, baseO, kindO, partO, colO, openO, strayO, stk, bys, was, gsd), rfl, (fFits_1 h5).symm, by show va_P G vwCl _ tZ.heap; rw [htZ]; exact hP⟩, hS.F htZ⟩) hS.2.2 dX6_fits_13

set_option maxHeartbeats 4000000 in
set_option maxRecDepth 100000 in
theorem c_X6_scoreBy (l : Launch) (G : va_G) (E : cEnv) (a : Nat → Nat) (ln op dp la : Nat) (row seen sty lineO tokO atO baseO kindO partO colO openO strayO stk bys was gsd cellsO sortO kLine kAt kKind : Nat → Int32) (x0 x1 x2 x3 : Int32) (ab : ABS) (hab : RefOk ab ln row seen sty cellsO sortO kLine kAt kKind) (sz : Nat) : Met l yX6_scoreBy wsX6_scoreBy ({ frames := 5, cells := 0, slots := 0, locals := 120 }) (va_Pc [.ref (a 0), .int x0, .int x1, .int x2, .int x3] (PW G E (rW E a ln op dp la row seen sty lineO tokO atO baseO kindO partO colO openO strayO stk bys was gsd cellsO sortO kLine kAt kKind) sz)) (va_Qi (fun (r : Int32) (u : (Nat) × (Nat) × (Nat) × (Nat → Int32) × (Nat → Int32) × (Nat → Int32) × (Nat → Int32) × (Nat → Int32) × (Nat → Int32) × (Nat → Int32) × (Nat → Int32) × (Nat → Int32) × (Nat → Int32) × (Nat → Int32)) => r = nI (scoreBy ab x0 x1 x2 x3)) (fun (u : (Nat) × (Nat) × (Nat) × (Nat → Int32) × (Nat → Int32) × (Nat → Int32) × (Nat → Int32) × (Nat → Int32) × (Nat → Int32) × (Nat → Int32) × (Nat → Int32) × (Nat → Int32) × (Nat → Int32) × (Nat → Int32)) tQ => va_P G vwCl (rW E a ln u.1 u.2.1 u.2.2.1 row seen sty u.2.2.2.1 u.2.2.2.2.1 u.2.2.2.2.2.1 u.2.2.2.2.2.2.1 u.2.2.2.2.2.2.2.1 u.2.2.2.2.2.2.2.2.1 u.2.2.2.2.2.2.2.2.2.1 u.2.2.2.2.2.2.2.2.2.2.1 u.2.2.2.2.2.2.2.2.2.2.2.1 u.2.2.2.2.2.2.2.2.2.2.2.2.1 u.2.2.2.2.2.2.2.2.2.2.2.2.2 was gsd cellsO sortO kLine kAt kKind) tQ.heap) (va_A (rW E a ln op dp la row seen sty lineO tokO atO baseO kindO partO colO openO strayO stk bys was gsd cellsO sortO kLine kAt kKind) sz)) 0 0 (va_A (rW E a ln op dp la row seen sty lineO tokO atO baseO kindO partO colO openO strayO stk bys was gsd cellsO sortO kLine kAt kKind) sz) := by
  refine Met.ofW (cc := cX6_scoreBy) (maxL := 8) (ret := (some .int)) (by decide) rfl ?_
  intro p e s m args below meth c s₁ B hml hv
  obtain ⟨rfl, hsz, hP, hK, hD0, hZ⟩ := hv
  have hx := B.exec
  have hb := B.bytes
  have hr := B.returns
  have hts := atoms_spec (ws := wsX6_scoreBy) B.pre
  have hown : s.vm.findClass RX6 = some m.cls := findClass_of_methodNamed B.named
  have hlocks := B.notSynchronized
  have hin6 : ∀ w ∈ u_ws RX6 TX6 25, w ∈ wsX6_scoreBy := mem_pl [60, 61, 62, 63, 64, 65, 66, 67, 68, 69, 70, 71, 72, 73, 74, 75, 76, 77, 78, 79, 80, 81, 82, 83, 84] (by rfl)
  subst hsz
  have hD := hD0.self (sz := s.heap.size)
  generalize hAe : va_A (rW E a ln op dp la row seen sty lineO tokO atO baseO kindO partO colO openO strayO stk bys was gsd cellsO sortO kLine kAt kKind) s.heap.size = A at hD hZ ⊢
  have hA : ∀ q : Nat, s.heap.size ≤ q → A q := fun q h => by rw [← hAe]; exact Or.inr h
  have hS : va_S A s.heap s.heap [] := va_S.rf
  have hl := lv_entry ([.ref (a 0), .int x0, .int x1, .int x2, .int x3]) (n := 8) (Nat.le_of_ble_eq_true rfl)
  rw [lg_entry_eq]
  generalize (lg_sl ([.ref (a 0), .int x0, .int x1, .int x2, .int x3]) ++ List.replicate (8 - (lg_sl ([.ref (a 0), .int x0, .int x1, .int x2, .int x3])).length) Slot.unset).toArray = ls at hl ⊢
  have hl : lv_has ls 8 [(0, .ref (a 0)), (1, .int x0), (2, .int x1), (3, .int x2), (4, .int x3)] := hl
  obtain ⟨hN, hok, hrn, hsn, hsg, hpk⟩ := id hab
  have hln : ln ≤ 20 := by rw [hN]; exact hok.1
  have hrb : ∀ i, i < aN ab → aR ab i < 1000000000 := fun i hi => (hok.2.1 i hi).1
  have hwN := wfN_all (row := aR ab) (aN ab) hrb
  refine lv_aload_n hx hb dX6_scoreBy_0 rfl (lv_at hl 0 rfl) ?_
  refine lv_iload_n hx hb dX6_scoreBy_1 rfl (lv_at hl 1 rfl) ?_
  refine lv_iload_n hx hb dX6_scoreBy_2 rfl (lv_at hl 2 rfl) ?_
  refine lv_iload_n hx hb dX6_scoreBy_3 rfl (lv_at hl 3 rfl) ?_
  refine lv_iload hx hb dX6_scoreBy_4 (lv_at hl 4 rfl) ?_
  refine wf_v (n := 4) (G := G) (E := E) (As := [.int x0, .int x1, .int x2, .int x3]) (rest := []) (ci := 6) (q0 := 0) (wn := fun (u : (Nat → Int32) × (Nat → Int32) × (Nat → Int32) × (Nat → Int32) × (Nat → Int32) × (Nat → Int32) × (Nat → Int32) × (Nat → Int32) × (Nat → Int32) × (Nat → Int32) × (Nat → Int32)) => rW E a ln (nO (nAll (aR ab) ln)) (nD (nAll (aR ab) ln)) (nL (nAll (aR ab) ln)) row seen sty u.1 u.2.1 u.2.2.1 u.2.2.2.1 u.2.2.2.2.1 u.2.2.2.2.2.1 u.2.2.2.2.2.2.1 u.2.2.2.2.2.2.2.1 u.2.2.2.2.2.2.2.2.1 u.2.2.2.2.2.2.2.2.2.1 u.2.2.2.2.2.2.2.2.2.2 was gsd cellsO sortO kLine kAt kKind) ⟨hx, hb, hml, hown, hts⟩ hK hZ hS hA (fun sz => c_X6_goesBy l G E a ln op dp la row seen sty lineO tokO atO baseO kindO partO colO openO strayO stk bys was gsd cellsO sortO kLine kAt kKind x0 x1 x2 x3 (aR ab) (by first | assumption | omega) (by first | assumption | omega) sz) gX6_scoreBy_X6_goesBy rfl rfl rfl (by decide +kernel) ⟨Nat.le_of_ble_eq_true rfl, Nat.le_of_ble_eq_true rfl⟩ hP hD (fun _ => rfl) rfl rfl hl.1 rfl rfl (Nat.le_of_ble_eq_true rfl) dX6_scoreBy_6 ⟨Nat.zero_le _, Nat.zero_le _⟩ (fun u6 H locs p6 hP hD hS => ?_)
  obtain ⟨lineO'_6, tokO'_6, atO'_6, baseO'_6, kindO'_6, partO'_6, colO'_6, openO'_6, strayO'_6, stk'_6, bys'_6⟩ := u6
  try dsimp only at p6 hP hD
  have hP : va_P G vwCl (rW E a ln (nO (nAll (aR ab) ln)) (nD (nAll (aR ab) ln)) (nL (nAll (aR ab) ln)) row seen sty lineO'_6 tokO'_6 atO'_6 baseO'_6 kindO'_6 partO'_6 colO'_6 openO'_6 strayO'_6 stk'_6 bys'_6 was gsd cellsO sortO kLine kAt kKind) H := hP
  have hD : va_D A (rW E a ln (nO (nAll (aR ab) ln)) (nD (nAll (aR ab) ln)) (nL (nAll (aR ab) ln)) row seen sty lineO'_6 tokO'_6 atO'_6 baseO'_6 kindO'_6 partO'_6 colO'_6 openO'_6 strayO'_6 stk'_6 bys'_6 was gsd cellsO sortO kLine kAt kKind) := hD
  have hRc : ∀ j, j < ln → colO'_6 j = (cols (st4 x0 x1 x2 x3) (aR ab) (aN ab)) j ∧ openO'_6 j = nI (nF (aNest ab) 9 j) := fun j hj => by have q := p6.2.1 j hj; rw [hN] at q; exact ⟨q.1, q.2.1⟩
  refine lv_iconst (v := (nI 0)) hx hb dX6_scoreBy_9 (by decide) ?_
  refine lv_istore (lv' := [(5, .int (nI 0)), (0, .ref (a 0)), (1, .int x0), (2, .int x1), (3, .int x2), (4, .int x3)]) hx hb dX6_scoreBy_10 hl (by decide) rfl (fun ls hl => ?_)
  refine lv_iconst (v := (nI 0)) hx hb dX6_scoreBy_12 (by decide) ?_
  refine lv_istore (lv' := [(6, .int (nI 0)), (5, .int (nI 0)), (0, .ref (a 0)), (1, .int x0), (2, .int x1), (3, .int x2), (4, .int x3)]) hx hb dX6_scoreBy_13 hl (by decide) rfl (fun ls hl => ?_)
  have lp15 : ∀ (kk : Nat) (nn : Nat) (i : Nat) (H : Heap) (locs : List Loc), (i ≤ ln) → (nn = scr ab (cols (st4 x0 x1 x2 x3) (aR ab) (aN ab)) i) → ln - i < kk → va_P G vwCl (rW E a ln (nO (nAll (aR ab) ln)) (nD (nAll (aR ab) ln)) (nL (nAll (aR ab) ln)) row seen sty lineO'_6 tokO'_6 atO'_6 baseO'_6 kindO'_6 partO'_6 colO'_6 openO'_6 strayO'_6 stk'_6 bys'_6 was gsd cellsO sortO kLine kAt kKind) H → va_D A (rW E a ln (nO (nAll (aR ab) ln)) (nD (nAll (aR ab) ln)) (nL (nAll (aR ab) ln)) row seen sty lineO'_6 tokO'_6 atO'_6 baseO'_6 kindO'_6 partO'_6 colO'_6 openO'_6 strayO'_6 stk'_6 bys'_6 was gsd cellsO sortO kLine kAt kKind) → va_S A s.heap H locs → ∀ ls : Array Slot, lv_has ls 8 [(6, .int (nI i)), (5, .int (nI nn)), (0, .ref (a 0)), (1, .int x0), (2, .int x1), (3, .int x2), (4, .int x3)] → W p l e (headSpec wsX6_scoreBy ({ frames := 5, cells := 0, slots := 0, locals := 120 } : Room)).room s m ([.ref (a 0), .int x0, .int x1, .int x2, .int x3] : List Value).toArray below meth c H locs 0 0 (MQ below (va_Qi (fun (r : Int32) (u : (Nat) × (Nat) × (Nat) × (Nat → Int32) × (Nat → Int32) × (Nat → Int32) × (Nat → Int32) × (Nat → Int32) × (Nat → Int32) × (Nat → Int32) × (Nat → Int32) × (Nat → Int32) × (Nat → Int32) × (Nat → Int32)) => r = nI (scoreBy ab x0 x1 x2 x3)) (fun (u : (Nat) × (Nat) × (Nat) × (Nat → Int32) × (Nat → Int32) × (Nat → Int32) × (Nat → Int32) × (Nat → Int32) × (Nat → Int32) × (Nat → Int32) × (Nat → Int32) × (Nat → Int32) × (Nat → Int32) × (Nat → Int32)) tQ => va_P G vwCl (rW E a ln u.1 u.2.1 u.2.2.1 row seen sty u.2.2.2.1 u.2.2.2.2.1 u.2.2.2.2.2.1 u.2.2.2.2.2.2.1 u.2.2.2.2.2.2.2.1 u.2.2.2.2.2.2.2.2.1 u.2.2.2.2.2.2.2.2.2.1 u.2.2.2.2.2.2.2.2.2.2.1 u.2.2.2.2.2.2.2.2.2.2.2.1 u.2.2.2.2.2.2.2.2.2.2.2.2.1 u.2.2.2.2.2.2.2.2.2.2.2.2.2 was gsd cellsO sortO kLine kAt kKind) tQ.heap) A) ([.ref (a 0), .int x0, .int x1, .int x2, .int x3] : List Value).toArray s 0 0 A) (F0 m 15 ls []) := by
    intro kk
    induction kk with
    | zero => intro nn i H locs hi hnn hkk; exact absurd hkk (Nat.not_lt_zero _)
    | succ kk ih15 =>
      intro nn i H locs hi hnn hkk hP hD hS ls hl
      refine lv_iload hx hb dX6_scoreBy_15 (lv_at hl 0 rfl) ?_
      refine lv_aload_n hx hb dX6_scoreBy_17 rfl (lv_at hl 2 rfl) ?_
      refine va_get (D := G) (ci := 6) (v := .int (nI ln)) (C := RX6) (T := TX6) (N := 25) hx hb hts hin6 hown hK hP 0 rfl rfl 0 (by decide) (hts (Cond.fieldLink RX6 73 "IndentRulesModel" "lines" "I") (List.mem_of_getElem? (i := 1) rfl)) (fun _ h9 => h9) rfl dX6_scoreBy_18 ?_
      refine n_icmp_ge (a := i) (b := ln) (tgt := 98) hx hb (by omega) (by omega) dX6_scoreBy_21 (by decide) (fun c21 => ?_) (fun c21 => ?_)
      · refine lv_iload hx hb dX6_scoreBy_98 (lv_at hl 1 rfl) ?_
        exact W.iret (v := (nI nn)) hx hb hr (fun tZ htZ hWZ => ⟨⟨_, (nO (nAll (aR ab) ln), nD (nAll (aR ab) ln), nL (nAll (aR ab) ln), lineO'_6, tokO'_6, atO'_6, baseO'_6, kindO'_6, partO'_6, colO'_6, openO'_6, strayO'_6, stk'_6, bys'_6), rfl, by rw [hnn, show i = aN ab by omega]; rfl, by show va_P G vwCl _ tZ.heap; rw [htZ]; exact hP⟩, hS.F htZ⟩) hS.2.2 dX6_scoreBy_100
      · refine lv_aload_n hx hb dX6_scoreBy_24 rfl (lv_at hl 2 rfl) ?_
        refine va_get (D := G) (ci := 6) (v := .ref (a 12)) (C := RX6) (T := TX6) (N := 25) hx hb hts hin6 hown hK hP 0 rfl rfl 12 (by decide) (hts (Cond.fieldLink RX6 40 "IndentRulesModel" "openOf" "[I") (List.mem_of_getElem? (i := 2) rfl)) (fun _ h9 => h9) rfl dX6_scoreBy_25 ?_
        refine lv_iload hx hb dX6_scoreBy_28 (lv_at hl 0 rfl) ?_
        refine k_iald (D := G) (tys := TYS E) (j := i) (f := openO'_6) (n := 20) hx hb hK hP 11 0 rfl rfl (by omega) (by decide) dX6_scoreBy_30 ?_
        rw [(hRc i (by omega)).2]
        refine lv_bipush (v := (nI 12)) hx hb dX6_scoreBy_31 (by decide) ?_
        refine n_icmp_ge (a := (nF (aNest ab) 9 i)) (b := 12) (tgt := 46) hx hb (by have q : nF (aNest ab) 9 i ≤ 9 * i := depth_le (aR ab) (n := aN ab) (j := i) (by omega) hrb; omega) (by decide) dX6_scoreBy_33 (by decide) (fun c33 => ?_) (fun c33 => ?_)
        · refine lv_bipush (v := (nI 12)) hx hb dX6_scoreBy_46 (by decide) ?_
          refine lv_istore (lv' := [(7, .int (nI 12)), (6, .int (nI i)), (5, .int (nI nn)), (0, .ref (a 0)), (1, .int x0), (2, .int x1), (3, .int x2), (4, .int x3)]) hx hb dX6_scoreBy_48 hl (by decide) rfl (fun ls hl => ?_)
          refine lv_iload hx hb dX6_scoreBy_50 (lv_at hl 2 rfl) ?_
          refine lv_aload_n hx hb dX6_scoreBy_52 rfl (lv_at hl 3 rfl) ?_
          refine lv_iload hx hb dX6_scoreBy_53 (lv_at hl 1 rfl) ?_
          refine rv_i (n := 1) (G := G) (E := E) (As := [.int (nI i)]) (rest := [.int (nI nn)]) (ci := 6) (q0 := 0) ⟨hx, hb, hml, hown, hts⟩ hK hZ hS (c_X6_counts l G E a ln (nO (nAll (aR ab) ln)) (nD (nAll (aR ab) ln)) (nL (nAll (aR ab) ln)) row seen sty lineO'_6 tokO'_6 atO'_6 baseO'_6 kindO'_6 partO'_6 colO'_6 openO'_6 strayO'_6 stk'_6 bys'_6 was gsd cellsO sortO kLine kAt kKind i (by first | assumption | omega)) gX6_scoreBy_X6_counts rfl rfl rfl (by decide +kernel) ⟨Nat.le_of_ble_eq_true rfl, Nat.le_of_ble_eq_true rfl⟩ hP rfl rfl hl.1 rfl rfl (Nat.le_of_ble_eq_true rfl) dX6_scoreBy_55 ⟨Nat.zero_le _, Nat.zero_le _⟩ (fun r55 p55 => ?_)
          rcases p55 with ⟨h55, rfl⟩ | ⟨h55, rfl⟩
          · have hcn : cnt ab i := ⟨fun q => h55.1 (by rw [hsn i (by omega)]; exact q), fun q => h55.2 (by rw [(hrn i (by omega)).1, q, nI_0])⟩
            refine n_if_eq (a := 1) (tgt := 88) hx hb (by decide) dX6_scoreBy_58 (by decide) (fun c58 => absurd c58 (by decide)) (fun c58 => ?_)
            refine lv_aload_n hx hb dX6_scoreBy_61 rfl (lv_at hl 3 rfl) ?_
            refine va_get (D := G) (ci := 6) (v := .ref (a 11)) (C := RX6) (T := TX6) (N := 25) hx hb hts hin6 hown hK hP 0 rfl rfl 11 (by decide) (hts (Cond.fieldLink RX6 37 "IndentRulesModel" "columnOf" "[I") (List.mem_of_getElem? (i := 3) rfl)) (fun _ h9 => h9) rfl dX6_scoreBy_62 ?_
            refine lv_iload hx hb dX6_scoreBy_65 (lv_at hl 1 rfl) ?_
            refine k_iald (D := G) (tys := TYS E) (j := i) (f := colO'_6) (n := 20) hx hb hK hP 10 0 rfl rfl (by omega) (by decide) dX6_scoreBy_67 ?_
            rw [(hRc i (by omega)).1]
            refine lv_aload_n hx hb dX6_scoreBy_68 rfl (lv_at hl 3 rfl) ?_
            refine va_get (D := G) (ci := 6) (v := .ref (a 2)) (C := RX6) (T := TX6) (N := 25) hx hb hts hin6 hown hK hP 0 rfl rfl 2 (by decide) (hts (Cond.fieldLink RX6 13 "IndentRulesModel" "seen" "[I") (List.mem_of_getElem? (i := 4) rfl)) (fun _ h9 => h9) rfl dX6_scoreBy_69 ?_
            refine lv_iload hx hb dX6_scoreBy_72 (lv_at hl 1 rfl) ?_
            refine k_iald (D := G) (tys := TYS E) (j := i) (f := seen) (n := 20) hx hb hK hP 2 0 rfl rfl (by omega) (by decide) dX6_scoreBy_74 ?_
            rw [hsn i (by omega)]
            refine lv_icmp_ne (x := ((cols (st4 x0 x1 x2 x3) (aR ab) (aN ab)) i)) (y := (aS ab i)) (tgt := 88) hx hb dX6_scoreBy_75 (by decide) (fun c75 => ?_) (fun c75 => ?_)
            · refine lv_iconst (v := (nI 0)) hx hb dX6_scoreBy_88 (by decide) ?_
              refine k_iadd (a := nn) (b := 0) hx hb dX6_scoreBy_89 ?_
              refine lv_istore (lv' := [(5, .int (nI (nn + 0))), (7, .int (nI 12)), (6, .int (nI i)), (0, .ref (a 0)), (1, .int x0), (2, .int x1), (3, .int x2), (4, .int x3)]) hx hb dX6_scoreBy_90 hl (by decide) rfl (fun ls hl => ?_)
              refine lv_iinc (v := (nI (i + 1))) (lv' := [(6, .int (nI (i + 1))), (5, .int (nI (nn + 0))), (7, .int (nI 12)), (0, .ref (a 0)), (1, .int x0), (2, .int x1), (3, .int x2), (4, .int x3)]) hx hb dX6_scoreBy_92 hl (k := 2) rfl (k_inc i) (by decide) rfl (fun ls hl => ?_)
              refine lv_goto (tgt := 15) hx hb dX6_scoreBy_95 (by decide) ?_
              exact ih15 (nn + 0) (i + 1) _ _ (by omega) (by rw [hnn]; show _ = scr ab _ i + _; rw [if_neg (fun q => c75 q.2)]) (by omega) hP hD hS ls (lv_sub hl [0, 1, 3, 4, 5, 6, 7] rfl)
            · refine lv_iconst (v := (nI 1)) hx hb dX6_scoreBy_78 (by decide) ?_
              refine lv_bipush (v := (nI 12)) hx hb dX6_scoreBy_79 (by decide) ?_
              refine lv_iload hx hb dX6_scoreBy_81 (lv_at hl 0 rfl) ?_
              refine k_isub (a := 12) (b := 12) hx hb (by omega) dX6_scoreBy_83 ?_
              refine lv_ishl hx hb dX6_scoreBy_84 ?_
              rw [show (nI 1) <<< ((nI 0) &&& 31) = (nI (2 ^ (12 - 12))) from by rw [show nI 0 = nI (12 - 12) from rfl, n_shl (by decide) (by decide), Nat.one_mul]]
              refine lv_goto (tgt := 89) hx hb dX6_scoreBy_85 (by decide) ?_
              refine k_iadd (a := nn) (b := (2 ^ (12 - 12))) hx hb dX6_scoreBy_89 ?_
              refine lv_istore (lv' := [(5, .int (nI (nn + (2 ^ (12 - 12))))), (7, .int (nI 12)), (6, .int (nI i)), (0, .ref (a 0)), (1, .int x0), (2, .int x1), (3, .int x2), (4, .int x3)]) hx hb dX6_scoreBy_90 hl (by decide) rfl (fun ls hl => ?_)
              refine lv_iinc (v := (nI (i + 1))) (lv' := [(6, .int (nI (i + 1))), (5, .int (nI (nn + (2 ^ (12 - 12))))), (7, .int (nI 12)), (0, .ref (a 0)), (1, .int x0), (2, .int x1), (3, .int x2), (4, .int x3)]) hx hb dX6_scoreBy_92 hl (k := 2) rfl (k_inc i) (by decide) rfl (fun ls hl => ?_)
              refine lv_goto (tgt := 15) hx hb dX6_scoreBy_95 (by decide) ?_
              exact ih15 (nn + (2 ^ (12 - 12))) (i + 1) _ _ (by omega) (by rw [hnn]; show _ = scr ab _ i + _; rw [if_pos ⟨hcn, c75⟩, show min (nF (aNest ab) 9 i) 12 = 12 by omega]) (by omega) hP hD hS ls (lv_sub hl [0, 1, 3, 4, 5, 6, 7] rfl)
          · have hcn : ¬ cnt ab i := fun q => h55 ⟨fun z => q.1 (by rw [← hsn i (by omega)]; exact z), fun z => q.2 (by rw [(hrn i (by omega)).1, ← nI_0] at z; exact (nI_eq (by have := (hrn i (by omega)).2.1; omega) (by decide)).mp z)⟩
            refine n_if_eq (a := 0) (tgt := 88) hx hb (by decide) dX6_scoreBy_58 (by decide) (fun c58 => ?_) (fun c58 => absurd c58 (by decide))
            refine lv_iconst (v := (nI 0)) hx hb dX6_scoreBy_88 (by decide) ?_
            refine k_iadd (a := nn) (b := 0) hx hb dX6_scoreBy_89 ?_
            refine lv_istore (lv' := [(5, .int (nI (nn + 0))), (7, .int (nI 12)), (6, .int (nI i)), (0, .ref (a 0)), (1, .int x0), (2, .int x1), (3, .int x2), (4, .int x3)]) hx hb dX6_scoreBy_90 hl (by decide) rfl (fun ls hl => ?_)
            refine lv_iinc (v := (nI (i + 1))) (lv' := [(6, .int (nI (i + 1))), (5, .int (nI (nn + 0))), (7, .int (nI 12)), (0, .ref (a 0)), (1, .int x0), (2, .int x1), (3, .int x2), (4, .int x3)]) hx hb dX6_scoreBy_92 hl (k := 2) rfl (k_inc i) (by decide) rfl (fun ls hl => ?_)
            refine lv_goto (tgt := 15) hx hb dX6_scoreBy_95 (by decide) ?_
            exact ih15 (nn + 0) (i + 1) _ _ (by omega) (by rw [hnn]; show _ = scr ab _ i + _; rw [if_neg (fun q => hcn q.1)]) (by omega) hP hD hS ls (lv_sub hl [0, 1, 3, 4, 5, 6, 7] rfl)
        · refine lv_aload_n hx hb dX6_scoreBy_36 rfl (lv_at hl 2 rfl) ?_
          refine va_get (D := G) (ci := 6) (v := .ref (a 12)) (C := RX6) (T := TX6) (N := 25) hx hb hts hin6 hown hK hP 0 rfl rfl 12 (by decide) (hts (Cond.fieldLink RX6 40 "IndentRulesModel" "openOf" "[I") (List.mem_of_getElem? (i := 2) rfl)) (fun _ h9 => h9) rfl dX6_scoreBy_37 ?_
          refine lv_iload hx hb dX6_scoreBy_40 (lv_at hl 0 rfl) ?_
          refine k_iald (D := G) (tys := TYS E) (j := i) (f := openO'_6) (n := 20) hx hb hK hP 11 0 rfl rfl (by omega) (by decide) dX6_scoreBy_42 ?_
          rw [(hRc i (by omega)).2]
          refine lv_goto (tgt := 48) hx hb dX6_scoreBy_43 (by decide) ?_
          refine lv_istore (lv' := [(7, .int (nI (nF (aNest ab) 9 i))), (6, .int (nI i)), (5, .int (nI nn)), (0, .ref (a 0)), (1, .int x0), (2, .int x1), (3, .int x2), (4, .int x3)]) hx hb dX6_scoreBy_48 hl (by decide) rfl (fun ls hl => ?_)
          refine lv_iload hx hb dX6_scoreBy_50 (lv_at hl 2 rfl) ?_
          refine lv_aload_n hx hb dX6_scoreBy_52 rfl (lv_at hl 3 rfl) ?_
          refine lv_iload hx hb dX6_scoreBy_53 (lv_at hl 1 rfl) ?_
          refine rv_i (n := 1) (G := G) (E := E) (As := [.int (nI i)]) (rest := [.int (nI nn)]) (ci := 6) (q0 := 0) ⟨hx, hb, hml, hown, hts⟩ hK hZ hS (c_X6_counts l G E a ln (nO (nAll (aR ab) ln)) (nD (nAll (aR ab) ln)) (nL (nAll (aR ab) ln)) row seen sty lineO'_6 tokO'_6 atO'_6 baseO'_6 kindO'_6 partO'_6 colO'_6 openO'_6 strayO'_6 stk'_6 bys'_6 was gsd cellsO sortO kLine kAt kKind i (by first | assumption | omega)) gX6_scoreBy_X6_counts rfl rfl rfl (by decide +kernel) ⟨Nat.le_of_ble_eq_true rfl, Nat.le_of_ble_eq_true rfl⟩ hP rfl rfl hl.1 rfl rfl (Nat.le_of_ble_eq_true rfl) dX6_scoreBy_55 ⟨Nat.zero_le _, Nat.zero_le _⟩ (fun r55 p55 => ?_)
          rcases p55 with ⟨h55, rfl⟩ | ⟨h55, rfl⟩
          · have hcn : cnt ab i := ⟨fun q => h55.1 (by rw [hsn i (by omega)]; exact q), fun q => h55.2 (by rw [(hrn i (by omega)).1, q, nI_0])⟩
            refine n_if_eq (a := 1) (tgt := 88) hx hb (by decide) dX6_scoreBy_58 (by decide) (fun c58 => absurd c58 (by decide)) (fun c58 => ?_)
            refine lv_aload_n hx hb dX6_scoreBy_61 rfl (lv_at hl 3 rfl) ?_
            refine va_get (D := G) (ci := 6) (v := .ref (a 11)) (C := RX6) (T := TX6) (N := 25) hx hb hts hin6 hown hK hP 0 rfl rfl 11 (by decide) (hts (Cond.fieldLink RX6 37 "IndentRulesModel" "columnOf" "[I") (List.mem_of_getElem? (i := 3) rfl)) (fun _ h9 => h9) rfl dX6_scoreBy_62 ?_
            refine lv_iload hx hb dX6_scoreBy_65 (lv_at hl 1 rfl) ?_
            refine k_iald (D := G) (tys := TYS E) (j := i) (f := colO'_6) (n := 20) hx hb hK hP 10 0 rfl rfl (by omega) (by decide) dX6_scoreBy_67 ?_
            rw [(hRc i (by omega)).1]
            refine lv_aload_n hx hb dX6_scoreBy_68 rfl (lv_at hl 3 rfl) ?_
            refine va_get (D := G) (ci := 6) (v := .ref (a 2)) (C := RX6) (T := TX6) (N := 25) hx hb hts hin6 hown hK hP 0 rfl rfl 2 (by decide) (hts (Cond.fieldLink RX6 13 "IndentRulesModel" "seen" "[I") (List.mem_of_getElem? (i := 4) rfl)) (fun _ h9 => h9) rfl dX6_scoreBy_69 ?_
            refine lv_iload hx hb dX6_scoreBy_72 (lv_at hl 1 rfl) ?_
            refine k_iald (D := G) (tys := TYS E) (j := i) (f := seen) (n := 20) hx hb hK hP 2 0 rfl rfl (by omega) (by decide) dX6_scoreBy_74 ?_
            rw [hsn i (by omega)]
            refine lv_icmp_ne (x := ((cols (st4 x0 x1 x2 x3) (aR ab) (aN ab)) i)) (y := (aS ab i)) (tgt := 88) hx hb dX6_scoreBy_75 (by decide) (fun c75 => ?_) (fun c75 => ?_)
            · refine lv_iconst (v := (nI 0)) hx hb dX6_scoreBy_88 (by decide) ?_
              refine k_iadd (a := nn) (b := 0) hx hb dX6_scoreBy_89 ?_
              refine lv_istore (lv' := [(5, .int (nI (nn + 0))), (7, .int (nI (nF (aNest ab) 9 i))), (6, .int (nI i)), (0, .ref (a 0)), (1, .int x0), (2, .int x1), (3, .int x2), (4, .int x3)]) hx hb dX6_scoreBy_90 hl (by decide) rfl (fun ls hl => ?_)
              refine lv_iinc (v := (nI (i + 1))) (lv' := [(6, .int (nI (i + 1))), (5, .int (nI (nn + 0))), (7, .int (nI (nF (aNest ab) 9 i))), (0, .ref (a 0)), (1, .int x0), (2, .int x1), (3, .int x2), (4, .int x3)]) hx hb dX6_scoreBy_92 hl (k := 2) rfl (k_inc i) (by decide) rfl (fun ls hl => ?_)
              refine lv_goto (tgt := 15) hx hb dX6_scoreBy_95 (by decide) ?_
              exact ih15 (nn + 0) (i + 1) _ _ (by omega) (by rw [hnn]; show _ = scr ab _ i + _; rw [if_neg (fun q => c75 q.2)]) (by omega) hP hD hS ls (lv_sub hl [0, 1, 3, 4, 5, 6, 7] rfl)
            · refine lv_iconst (v := (nI 1)) hx hb dX6_scoreBy_78 (by decide) ?_
              refine lv_bipush (v := (nI 12)) hx hb dX6_scoreBy_79 (by decide) ?_
              refine lv_iload hx hb dX6_scoreBy_81 (lv_at hl 0 rfl) ?_
              refine k_isub (a := 12) (b := (nF (aNest ab) 9 i)) hx hb (by omega) dX6_scoreBy_83 ?_
              refine lv_ishl hx hb dX6_scoreBy_84 ?_
              rw [show (nI 1) <<< ((nI (12 - (nF (aNest ab) 9 i))) &&& 31) = (nI (2 ^ (12 - nF (aNest ab) 9 i))) from by rw [n_shl (by omega) (by rw [Nat.one_mul]; exact Nat.lt_of_le_of_lt (Nat.pow_le_pow_right (by decide) (show 12 - nF (aNest ab) 9 i ≤ 12 by omega)) (by decide)), Nat.one_mul]]
              refine lv_goto (tgt := 89) hx hb dX6_scoreBy_85 (by decide) ?_
              refine k_iadd (a := nn) (b := (2 ^ (12 - nF (aNest ab) 9 i))) hx hb dX6_scoreBy_89 ?_
              refine lv_istore (lv' := [(5, .int (nI (nn + (2 ^ (12 - nF (aNest ab) 9 i))))), (7, .int (nI (nF (aNest ab) 9 i))), (6, .int (nI i)), (0, .ref (a 0)), (1, .int x0), (2, .int x1), (3, .int x2), (4, .int x3)]) hx hb dX6_scoreBy_90 hl (by decide) rfl (fun ls hl => ?_)
              refine lv_iinc (v := (nI (i + 1))) (lv' := [(6, .int (nI (i + 1))), (5, .int (nI (nn + (2 ^ (12 - nF (aNest ab) 9 i))))), (7, .int (nI (nF (aNest ab) 9 i))), (0, .ref (a 0)), (1, .int x0), (2, .int x1), (3, .int x2), (4, .int x3)]) hx hb dX6_scoreBy_92 hl (k := 2) rfl (k_inc i) (by decide) rfl (fun ls hl => ?_)
              refine lv_goto (tgt := 15) hx hb dX6_scoreBy_95 (by decide) ?_
              exact ih15 (nn + (2 ^ (12 - nF (aNest ab) 9 i))) (i + 1) _ _ (by omega) (by rw [hnn]; show _ = scr ab _ i + _; rw [if_pos ⟨hcn, c75⟩, show min (nF (aNest ab) 9 i) 12 = nF (aNest ab) 9 i by omega]) (by omega) hP hD hS ls (lv_sub hl [0, 1, 3, 4, 5, 6, 7] rfl)
          · have hcn : ¬ cnt ab i := fun q => h55 ⟨fun z => q.1 (by rw [← hsn i (by omega)]; exact z), fun z => q.2 (by rw [(hrn i (by omega)).1, ← nI_0] at z; exact (nI_eq (by have := (hrn i (by omega)).2.1; omega) (by decide)).mp z)⟩
            refine n_if_eq (a := 0) (tgt := 88) hx hb (by decide) dX6_scoreBy_58 (by decide) (fun c58 => ?_) (fun c58 => absurd c58 (by decide))
            refine lv_iconst (v := (nI 0)) hx hb dX6_scoreBy_88 (by decide) ?_
            refine k_iadd (a := nn) (b := 0) hx hb dX6_scoreBy_89 ?_
            refine lv_istore (lv' := [(5, .int (nI (nn + 0))), (7, .int (nI (nF (aNest ab) 9 i))), (6, .int (nI i)), (0, .ref (a 0)), (1, .int x0), (2, .int x1), (3, .int x2), (4, .int x3)]) hx hb dX6_scoreBy_90 hl (by decide) rfl (fun ls hl => ?_)
            refine lv_iinc (v := (nI (i + 1))) (lv' := [(6, .int (nI (i + 1))), (5, .int (nI (nn + 0))), (7, .int (nI (nF (aNest ab) 9 i))), (0, .ref (a 0)), (1, .int x0), (2, .int x1), (3, .int x2), (4, .int x3)]) hx hb dX6_scoreBy_92 hl (k := 2) rfl (k_inc i) (by decide) rfl (fun ls hl => ?_)
            refine lv_goto (tgt := 15) hx hb dX6_scoreBy_95 (by decide) ?_
            exact ih15 (nn + 0) (i + 1) _ _ (by omega) (by rw [hnn]; show _ = scr ab _ i + _; rw [if_neg (fun q => hcn q.1)]) (by omega) hP hD hS ls (lv_sub hl [0, 1, 3, 4, 5, 6, 7] rfl)
  exact lp15 (ln - 0 + 1) 0 0 _ _ (Nat.zero_le _) rfl (Nat.lt_succ_self _) hP hD hS ls (lv_sub hl [0, 1, 2, 3, 4, 5, 6] rfl)

set_option maxHeartbeats 4000000 in
set_option maxRecDepth 100000 in
theorem c_X6_bitsOf (l : Launch) (G : va_G) (E : cEnv) (q : Nat) (hq : q ≤ 81920) : Met l yX6_bitsOf wsX6_bitsOf ({ frames := 0, cells := 0, slots := 0, locals := 0 }) (va_Pc [.int (nI q)] (PR G E ([]))) (vp_Si (fun r => r = nI (bitN q))) 0 0 (fun _ => False) := by
  refine Met.ofW (cc := cX6_bitsOf) (maxL := 2) (ret := (some .int)) (by decide) rfl ?_
  intro p e s m args below meth c s₁ B hml hv
  obtain ⟨rfl, hP, hK, hZ⟩ := hv
  have hx := B.exec
  have hb := B.bytes
  have hr := B.returns
  have hts := atoms_spec (ws := wsX6_bitsOf) B.pre
  have hown : s.vm.findClass RX6 = some m.cls := findClass_of_methodNamed B.named
  have hlocks := B.notSynchronized
  have hS : va_S (fun _ => False) s.heap s.heap [] := va_S.rf
  have hl := lv_entry ([.int (nI q)]) (n := 2) (Nat.le_of_ble_eq_true rfl)
  rw [lg_entry_eq]
  generalize (lg_sl ([.int (nI q)]) ++ List.replicate (2 - (lg_sl ([.int (nI q)])).length) Slot.unset).toArray = ls at hl ⊢
  have hl : lv_has ls 2 [(0, .int (nI q))] := hl
  refine lv_iload_n hx hb dX6_bitsOf_0 rfl (lv_at hl 0 rfl) ?_
  refine n_if_ne (a := q) (tgt := 6) hx hb (by omega) dX6_bitsOf_1 (by decide) (fun c1 => ?_) (fun c1 => ?_)
  · refine lv_iconst (v := (nI 0)) hx hb dX6_bitsOf_6 (by decide) ?_
    refine lv_istore_n (lv' := [(1, .int (nI 0)), (0, .int (nI q))]) hx hb dX6_bitsOf_7 rfl hl (by decide) rfl (fun ls hl => ?_)
    have lp8 : ∀ (kk : Nat) (h : Nat), (h ≤ 16 ∧ 2 ^ h ≤ q) → 17 - h < kk → ∀ ls : Array Slot, lv_has ls 2 [(1, .int (nI h)), (0, .int (nI q))] → W p l e (headSpec wsX6_bitsOf ({ frames := 0, cells := 0, slots := 0, locals := 0 } : Room)).room s m ([.int (nI q)] : List Value).toArray below meth c s.heap [] 0 0 (MQ below (vp_Si (fun r => r = nI (bitN q))) ([.int (nI q)] : List Value).toArray s 0 0 (fun _ => False)) (F0 m 8 ls []) := by
      intro kk
      induction kk with
      | zero => intro h  hh hkk; exact absurd hkk (Nat.not_lt_zero _)
      | succ kk ih8 =>
        intro h hh hkk ls hl
        refine lv_iload_n hx hb dX6_bitsOf_8 rfl (lv_at hl 1 rfl) ?_
        refine lv_iload_n hx hb dX6_bitsOf_9 rfl (lv_at hl 0 rfl) ?_
        refine lv_iconst (v := (nI 1)) hx hb dX6_bitsOf_10 (by decide) ?_
        refine k_iadd (a := h) (b := 1) hx hb dX6_bitsOf_11 ?_
        refine lv_ishr hx hb dX6_bitsOf_12 ?_
        rw [show (nI q) >>> ((nI (h + 1)) &&& 31) = (nI (q / 2 ^ (h + 1))) from n_shr (by omega) (by omega)]
        refine n_if_le (a := (q / 2 ^ (h + 1))) (tgt := 22) hx hb (Nat.lt_of_le_of_lt (Nat.div_le_self _ _) (by omega)) dX6_bitsOf_13 (by decide) (fun c13 => ?_) (fun c13 => ?_)
        · refine lv_bipush (v := (nI 127)) hx hb dX6_bitsOf_22 (by decide) ?_
          refine lv_iload_n hx hb dX6_bitsOf_24 rfl (lv_at hl 0 rfl) ?_
          refine k_iadd (a := 127) (b := h) hx hb dX6_bitsOf_25 ?_
          refine lv_bipush (v := (nI 12)) hx hb dX6_bitsOf_26 (by decide) ?_
          refine k_isub (a := (127 + h)) (b := 12) hx hb (by omega) dX6_bitsOf_28 ?_
          rw [show (127 + h) - 12 = 115 + h from by omega]
          refine lv_bipush (v := (nI 23)) hx hb dX6_bitsOf_29 (by decide) ?_
          refine lv_ishl hx hb dX6_bitsOf_31 ?_
          refine lv_topi (fun z1 ez1 => ?_)
          refine lv_iload_n hx hb dX6_bitsOf_32 rfl (lv_at hl 1 rfl) ?_
          refine lv_bipush (v := (nI 23)) hx hb dX6_bitsOf_33 (by decide) ?_
          refine lv_iload_n hx hb dX6_bitsOf_35 rfl (lv_at hl 0 rfl) ?_
          refine k_isub (a := 23) (b := h) hx hb (by omega) dX6_bitsOf_36 ?_
          refine lv_ishl hx hb dX6_bitsOf_37 ?_
          refine lv_topi (fun z2 ez2 => ?_)
          refine lv_ldc (v := (nI 8388607)) hx hb hown (hts (Cond.constant RX6 156 (nI 8388607)) (List.mem_of_getElem? (i := 1) rfl)) dX6_bitsOf_38 ?_
          refine lv_iand hx hb dX6_bitsOf_40 ?_
          refine lv_topi (fun z3 ez3 => ?_)
          refine lv_ior hx hb dX6_bitsOf_41 ?_
          refine lv_topi (fun z4 ez4 => ?_)
          exact W.iret (v := z4) hx hb hr (fun tZ htZ hWZ => ⟨_, rfl, by rw [ez4, ez3, ez2, ez1]; exact bitN_h hh.1 hh.2 (div_z.mp c13), htZ⟩) (fun _ h => by cases h) dX6_bitsOf_42
        · refine lv_iinc (v := (nI (h + 1))) (lv' := [(1, .int (nI (h + 1))), (0, .int (nI q))]) hx hb dX6_bitsOf_16 hl (k := 0) rfl (k_inc h) (by decide) rfl (fun ls hl => ?_)
          refine lv_goto (tgt := 8) hx hb dX6_bitsOf_19 (by decide) ?_
          exact ih8 (h + 1) (by have e : 2 ^ (h + 1) ≤ q := Nat.le_of_not_lt (fun z => by rw [div_z.mpr z] at c13; omega); exact ⟨Nat.le_of_not_lt (fun z => by have : 2 ^ 17 ≤ 2 ^ (h + 1) := Nat.pow_le_pow_right (by decide) (by omega); omega), e⟩) (by omega) ls (lv_sub hl [0, 1] rfl)
    exact lp8 (17 - 0 + 1) 0 ⟨by decide, by omega⟩ (Nat.lt_succ_self _) ls (lv_sub hl [0, 1] rfl)
  · refine lv_iconst (v := (nI 0)) hx hb dX6_bitsOf_4 (by decide) ?_
    exact W.iret (v := (nI 0)) hx hb hr (fun tZ htZ hWZ => ⟨_, rfl, by rw [c1]; rfl, htZ⟩) (fun _ h => by cases h) dX6_bitsOf_5

set_option maxHeartbeats 4000000 in
set_option maxRecDepth 100000 in
theorem c_X6_score (l : Launch) (G : va_G) (E : cEnv) (a : Nat → Nat) (ln op dp la : Nat) (row seen sty lineO tokO atO baseO kindO partO colO openO strayO stk bys was gsd cellsO sortO kLine kAt kKind : Nat → Int32) (x0 x1 x2 x3 y : Int32) (ab : ABS) (hab : RefOk ab ln row seen sty cellsO sortO kLine kAt kKind) (sz : Nat) : Met l yX6_score wsX6_score ({ frames := 6, cells := 0, slots := 0, locals := 147 }) (va_Pc [.ref (a 0), .int x0, .int x1, .int x2, .int x3, .int y] (PW G E (rW E a ln op dp la row seen sty lineO tokO atO baseO kindO partO colO openO strayO stk bys was gsd cellsO sortO kLine kAt kKind) sz)) (va_Qi (fun (r : Int32) (u : (Nat) × (Nat) × (Nat) × (Nat → Int32) × (Nat → Int32) × (Nat → Int32) × (Nat → Int32) × (Nat → Int32) × (Nat → Int32) × (Nat → Int32) × (Nat → Int32) × (Nat → Int32) × (Nat → Int32) × (Nat → Int32) × (Nat → Int32) × (Nat → Int32)) => r = fScore ab x0 x1 x2 x3 y) (fun (u : (Nat) × (Nat) × (Nat) × (Nat → Int32) × (Nat → Int32) × (Nat → Int32) × (Nat → Int32) × (Nat → Int32) × (Nat → Int32) × (Nat → Int32) × (Nat → Int32) × (Nat → Int32) × (Nat → Int32) × (Nat → Int32) × (Nat → Int32) × (Nat → Int32)) tQ => va_P G vwCl (rW E a ln u.1 u.2.1 u.2.2.1 row seen sty u.2.2.2.1 u.2.2.2.2.1 u.2.2.2.2.2.1 u.2.2.2.2.2.2.1 u.2.2.2.2.2.2.2.1 u.2.2.2.2.2.2.2.2.1 u.2.2.2.2.2.2.2.2.2.1 u.2.2.2.2.2.2.2.2.2.2.1 u.2.2.2.2.2.2.2.2.2.2.2.1 u.2.2.2.2.2.2.2.2.2.2.2.2.1 u.2.2.2.2.2.2.2.2.2.2.2.2.2.1 u.2.2.2.2.2.2.2.2.2.2.2.2.2.2.1 u.2.2.2.2.2.2.2.2.2.2.2.2.2.2.2 cellsO sortO kLine kAt kKind) tQ.heap) (va_A (rW E a ln op dp la row seen sty lineO tokO atO baseO kindO partO colO openO strayO stk bys was gsd cellsO sortO kLine kAt kKind) sz)) 0 0 (va_A (rW E a ln op dp la row seen sty lineO tokO atO baseO kindO partO colO openO strayO stk bys was gsd cellsO sortO kLine kAt kKind) sz) := by
  refine Met.ofW (cc := cX6_score) (maxL := 7) (ret := (some .int)) (by decide) rfl ?_
  intro p e s m args below meth c s₁ B hml hv
  obtain ⟨rfl, hsz, hP, hK, hD0, hZ⟩ := hv
  have hx := B.exec
  have hb := B.bytes
  have hr := B.returns
  have hts := atoms_spec (ws := wsX6_score) B.pre
  have hown : s.vm.findClass RX6 = some m.cls := findClass_of_methodNamed B.named
  have hlocks := B.notSynchronized
  subst hsz
  have hD := hD0.self (sz := s.heap.size)
  generalize hAe : va_A (rW E a ln op dp la row seen sty lineO tokO atO baseO kindO partO colO openO strayO stk bys was gsd cellsO sortO kLine kAt kKind) s.heap.size = A at hD hZ ⊢
  have hA : ∀ q : Nat, s.heap.size ≤ q → A q := fun q h => by rw [← hAe]; exact Or.inr h
  have hS : va_S A s.heap s.heap [] := va_S.rf
  have hl := lv_entry ([.ref (a 0), .int x0, .int x1, .int x2, .int x3, .int y]) (n := 7) (Nat.le_of_ble_eq_true rfl)
  rw [lg_entry_eq]
  generalize (lg_sl ([.ref (a 0), .int x0, .int x1, .int x2, .int x3, .int y]) ++ List.replicate (7 - (lg_sl ([.ref (a 0), .int x0, .int x1, .int x2, .int x3, .int y])).length) Slot.unset).toArray = ls at hl ⊢
  have hl : lv_has ls 7 [(0, .ref (a 0)), (1, .int x0), (2, .int x1), (3, .int x2), (4, .int x3), (5, .int y)] := hl
  obtain ⟨hN, hok, hrn, hsn, hsg, hpk⟩ := id hab
  have hln : ln ≤ 20 := by rw [hN]; exact hok.1
  refine lv_iload_n hx hb dX6_score_0 rfl (lv_at hl 1 rfl) ?_
  refine lv_iload_n hx hb dX6_score_1 rfl (lv_at hl 2 rfl) ?_
  refine lv_iload_n hx hb dX6_score_2 rfl (lv_at hl 3 rfl) ?_
  refine lv_iload hx hb dX6_score_3 (lv_at hl 4 rfl) ?_
  refine rs_i (n := 4) (G := G) (E := E) (As := [.int x0, .int x1, .int x2, .int x3]) (rest := []) ⟨hx, hb, hml, hown, hts⟩ hK hZ hS (c_X6_isStyle l G E x0 x1 x2 x3) gX6_score_X6_isStyle rfl rfl rfl (by decide +kernel) ⟨Nat.le_of_ble_eq_true rfl, Nat.le_of_ble_eq_true rfl⟩ (fun k q h => by simp at h) hl.1 rfl rfl (Nat.le_of_ble_eq_true rfl) dX6_score_5 ⟨Nat.zero_le _, Nat.zero_le _⟩ (fun r5 p5 => ?_)
  rcases p5 with ⟨h5, rfl⟩ | ⟨h5, rfl⟩
  · refine n_if_eq (a := 1) (tgt := 21) hx hb (by decide) dX6_score_8 (by decide) (fun c8 => absurd c8 (by decide)) (fun c8 => ?_)
    refine lv_iload hx hb dX6_score_11 (lv_at hl 5 rfl) ?_
    refine lv_iconst (v := (nI 0)) hx hb dX6_score_13 (by decide) ?_
    refine lv_iconst (v := (nI 1)) hx hb dX6_score_14 (by decide) ?_
    refine rs_i (n := 3) (G := G) (E := E) (As := [.int y, .int (nI 0), .int (nI 1)]) (rest := []) ⟨hx, hb, hml, hown, hts⟩ hK hZ hS (c_X6_within l G E y (nI 0) (nI 1)) gX6_score_X6_within rfl rfl rfl (by decide +kernel) ⟨Nat.le_of_ble_eq_true rfl, Nat.le_of_ble_eq_true rfl⟩ (fun k q h => by simp at h) hl.1 rfl rfl (Nat.le_of_ble_eq_true rfl) dX6_score_15 ⟨Nat.zero_le _, Nat.zero_le _⟩ (fun r15 p15 => ?_)
    rcases p15 with ⟨h15, rfl⟩ | ⟨h15, rfl⟩
    · obtain ⟨w, _, hw, rfl⟩ := (w_rg (by decide) (by decide)).mp h15
      have hsl := sco_le (A := ab) (by omega) x0 x1 x2 x3
      refine n_if_ne (a := 1) (tgt := 24) hx hb (by decide) dX6_score_18 (by decide) (fun c18 => ?_) (fun c18 => absurd c18 (by decide))
      refine lv_aload_n hx hb dX6_score_24 rfl (lv_at hl 0 rfl) ?_
      refine lv_iload_n hx hb dX6_score_25 rfl (lv_at hl 1 rfl) ?_
      refine lv_iload_n hx hb dX6_score_26 rfl (lv_at hl 2 rfl) ?_
      refine lv_iload_n hx hb dX6_score_27 rfl (lv_at hl 3 rfl) ?_
      refine lv_iload hx hb dX6_score_28 (lv_at hl 4 rfl) ?_
      refine wf_i (n := 4) (G := G) (E := E) (As := [.int x0, .int x1, .int x2, .int x3]) (rest := []) (ci := 6) (q0 := 0) (wn := fun (u : (Nat) × (Nat) × (Nat) × (Nat → Int32) × (Nat → Int32) × (Nat → Int32) × (Nat → Int32) × (Nat → Int32) × (Nat → Int32) × (Nat → Int32) × (Nat → Int32) × (Nat → Int32) × (Nat → Int32) × (Nat → Int32)) => rW E a ln u.1 u.2.1 u.2.2.1 row seen sty u.2.2.2.1 u.2.2.2.2.1 u.2.2.2.2.2.1 u.2.2.2.2.2.2.1 u.2.2.2.2.2.2.2.1 u.2.2.2.2.2.2.2.2.1 u.2.2.2.2.2.2.2.2.2.1 u.2.2.2.2.2.2.2.2.2.2.1 u.2.2.2.2.2.2.2.2.2.2.2.1 u.2.2.2.2.2.2.2.2.2.2.2.2.1 u.2.2.2.2.2.2.2.2.2.2.2.2.2 was gsd cellsO sortO kLine kAt kKind) ⟨hx, hb, hml, hown, hts⟩ hK hZ hS hA (fun sz => c_X6_scoreBy l G E a ln op dp la row seen sty lineO tokO atO baseO kindO partO colO openO strayO stk bys was gsd cellsO sortO kLine kAt kKind x0 x1 x2 x3 ab (by first | assumption | omega) sz) gX6_score_X6_scoreBy rfl rfl rfl (by decide +kernel) ⟨Nat.le_of_ble_eq_true rfl, Nat.le_of_ble_eq_true rfl⟩ hP hD (fun _ => rfl) rfl rfl hl.1 rfl rfl (Nat.le_of_ble_eq_true rfl) dX6_score_30 ⟨Nat.zero_le _, Nat.zero_le _⟩ (fun r30 u30 H locs p30 hP hD hS => ?_)
      obtain ⟨op'_30, dp'_30, la'_30, lineO'_30, tokO'_30, atO'_30, baseO'_30, kindO'_30, partO'_30, colO'_30, openO'_30, strayO'_30, stk'_30, bys'_30⟩ := u30
      try dsimp only at p30 hP hD
      have hP : va_P G vwCl (rW E a ln op'_30 dp'_30 la'_30 row seen sty lineO'_30 tokO'_30 atO'_30 baseO'_30 kindO'_30 partO'_30 colO'_30 openO'_30 strayO'_30 stk'_30 bys'_30 was gsd cellsO sortO kLine kAt kKind) H := hP
      have hD : va_D A (rW E a ln op'_30 dp'_30 la'_30 row seen sty lineO'_30 tokO'_30 atO'_30 baseO'_30 kindO'_30 partO'_30 colO'_30 openO'_30 strayO'_30 stk'_30 bys'_30 was gsd cellsO sortO kLine kAt kKind) := hD
      rw [p30]
      refine lv_istore (lv' := [(6, .int (nI (scoreBy ab x0 x1 x2 x3))), (0, .ref (a 0)), (1, .int x0), (2, .int x1), (3, .int x2), (4, .int x3), (5, .int (nI w))]) hx hb dX6_score_33 hl (by decide) rfl (fun ls hl => ?_)
      refine lv_iload hx hb dX6_score_35 (lv_at hl 6 rfl) ?_
      refine n_if_ne (a := w) (tgt := 48) hx hb (by omega) dX6_score_37 (by decide) (fun c37 => ?_) (fun c37 => ?_)
      · refine lv_iload hx hb dX6_score_48 (lv_at hl 0 rfl) ?_
        refine lv_sipush (v := (nI 1000)) hx hb dX6_score_50 (by decide) ?_
        refine k_imul (a := (scoreBy ab x0 x1 x2 x3)) (b := 1000) hx hb dX6_score_53 ?_
        refine lv_sipush (v := (nI 4096)) hx hb dX6_score_54 (by decide) ?_
        refine k_idiv (a := ((scoreBy ab x0 x1 x2 x3) * 1000)) (b := 4096) hx hb (by omega) (by decide) (by decide) dX6_score_57 ?_
        exact W.iret (v := (nI (((scoreBy ab x0 x1 x2 x3) * 1000) / 4096))) hx hb hr (fun tZ htZ hWZ => ⟨⟨_, (op'_30, dp'_30, la'_30, lineO'_30, tokO'_30, atO'_30, baseO'_30, kindO'_30, partO'_30, colO'_30, openO'_30, strayO'_30, stk'_30, bys'_30, was, gsd), rfl, by rw [show w = 1 by omega, fScore_2 h5], by show va_P G vwCl _ tZ.heap; rw [htZ]; exact hP⟩, hS.F htZ⟩) hS.2.2 dX6_score_58
      · refine lv_iload hx hb dX6_score_40 (lv_at hl 0 rfl) ?_
        refine rs_i (n := 1) (G := G) (E := E) (As := [.int (nI (scoreBy ab x0 x1 x2 x3))]) (rest := []) ⟨hx, hb, hml, hown, hts⟩ hK hZ hS (c_X6_bitsOf l G E (scoreBy ab x0 x1 x2 x3) (by first | assumption | omega)) gX6_score_X6_bitsOf rfl rfl rfl (by decide +kernel) ⟨Nat.le_of_ble_eq_true rfl, Nat.le_of_ble_eq_true rfl⟩ (fun k q h => by simp at h) hl.1 rfl rfl (Nat.le_of_ble_eq_true rfl) dX6_score_42 ⟨Nat.zero_le _, Nat.zero_le _⟩ (fun r42 p42 => ?_)
        subst p42
        refine lv_goto (tgt := 58) hx hb dX6_score_45 (by decide) ?_
        exact W.iret (v := (nI (bitN (scoreBy ab x0 x1 x2 x3)))) hx hb hr (fun tZ htZ hWZ => ⟨⟨_, (op'_30, dp'_30, la'_30, lineO'_30, tokO'_30, atO'_30, baseO'_30, kindO'_30, partO'_30, colO'_30, openO'_30, strayO'_30, stk'_30, bys'_30, was, gsd), rfl, by rw [show w = 0 by omega, fScore_0 h5], by show va_P G vwCl _ tZ.heap; rw [htZ]; exact hP⟩, hS.F htZ⟩) hS.2.2 dX6_score_58
    · refine n_if_ne (a := 0) (tgt := 24) hx hb (by decide) dX6_score_18 (by decide) (fun c18 => absurd c18 (by decide)) (fun c18 => ?_)
      refine lv_bipush (v := (-2)) hx hb dX6_score_21 (by decide) ?_
      exact W.iret (v := (-2)) hx hb hr (fun tZ htZ hWZ => ⟨⟨_, (op, dp, la, lineO, tokO, atO, baseO, kindO, partO, colO, openO, strayO, stk, bys, was, gsd), rfl, (fScore_1 (fun q => h15 ((w_rgx (n := 1) (by decide)).mpr q.2))).symm, by show va_P G vwCl _ tZ.heap; rw [htZ]; exact hP⟩, hS.F htZ⟩) hS.2.2 dX6_score_23
  · refine n_if_eq (a := 0) (tgt := 21) hx hb (by decide) dX6_score_8 (by decide) (fun c8 => ?_) (fun c8 => absurd c8 (by decide))
    refine lv_bipush (v := (-2)) hx hb dX6_score_21 (by decide) ?_
    exact W.iret (v := (-2)) hx hb hr (fun tZ htZ hWZ => ⟨⟨_, (op, dp, la, lineO, tokO, atO, baseO, kindO, partO, colO, openO, strayO, stk, bys, was, gsd), rfl, (fScore_1 (fun q => h5 q.1)).symm, by show va_P G vwCl _ tZ.heap; rw [htZ]; exact hP⟩, hS.F htZ⟩) hS.2.2 dX6_score_23

set_option maxHeartbeats 4000000 in
set_option maxRecDepth 100000 in
theorem c_X6_guesses (l : Launch) (G : va_G) (E : cEnv) (a : Nat → Nat) (ln op dp la : Nat) (row seen sty lineO tokO atO baseO kindO partO colO openO strayO stk bys was gsd cellsO sortO kLine kAt kKind : Nat → Int32) (ab : ABS) (hab : RefOk ab ln row seen sty cellsO sortO kLine kAt kKind) (sz : Nat) : Met l yX6_guesses wsX6_guesses ({ frames := 6, cells := 0, slots := 0, locals := 147 }) (va_Pc [.ref (a 0)] (PW G E (rW E a ln op dp la row seen sty lineO tokO atO baseO kindO partO colO openO strayO stk bys was gsd cellsO sortO kLine kAt kKind) sz)) (va_Qi (fun (r : Int32) (u : (Nat) × (Nat) × (Nat) × (Nat → Int32) × (Nat → Int32) × (Nat → Int32) × (Nat → Int32) × (Nat → Int32) × (Nat → Int32) × (Nat → Int32) × (Nat → Int32) × (Nat → Int32) × (Nat → Int32) × (Nat → Int32) × (Nat → Int32) × (Nat → Int32)) => ((anyS ab (aN ab) = true ∧ r = nI 1) ∨ (¬ anyS ab (aN ab) = true ∧ r = nI 0)) ∧ (∀ k, k < 4 → u.2.2.2.2.2.2.2.2.2.2.2.2.2.2.2 k = stx (gbest ab 256).2 k) ∧ u.2.2.2.2.2.2.2.2.2.2.2.2.2.2.2 4 = nI ((gbest ab 256).1 - 1)) (fun (u : (Nat) × (Nat) × (Nat) × (Nat → Int32) × (Nat → Int32) × (Nat → Int32) × (Nat → Int32) × (Nat → Int32) × (Nat → Int32) × (Nat → Int32) × (Nat → Int32) × (Nat → Int32) × (Nat → Int32) × (Nat → Int32) × (Nat → Int32) × (Nat → Int32)) tQ => va_P G vwCl (rW E a ln u.1 u.2.1 u.2.2.1 row seen sty u.2.2.2.1 u.2.2.2.2.1 u.2.2.2.2.2.1 u.2.2.2.2.2.2.1 u.2.2.2.2.2.2.2.1 u.2.2.2.2.2.2.2.2.1 u.2.2.2.2.2.2.2.2.2.1 u.2.2.2.2.2.2.2.2.2.2.1 u.2.2.2.2.2.2.2.2.2.2.2.1 u.2.2.2.2.2.2.2.2.2.2.2.2.1 u.2.2.2.2.2.2.2.2.2.2.2.2.2.1 u.2.2.2.2.2.2.2.2.2.2.2.2.2.2.1 u.2.2.2.2.2.2.2.2.2.2.2.2.2.2.2 cellsO sortO kLine kAt kKind) tQ.heap) (va_A (rW E a ln op dp la row seen sty lineO tokO atO baseO kindO partO colO openO strayO stk bys was gsd cellsO sortO kLine kAt kKind) sz)) 0 0 (va_A (rW E a ln op dp la row seen sty lineO tokO atO baseO kindO partO colO openO strayO stk bys was gsd cellsO sortO kLine kAt kKind) sz) := by
  refine Met.ofW (cc := cX6_guesses) (maxL := 4) (ret := (some .boolean)) (by decide) rfl ?_
  intro p e s m args below meth c s₁ B hml hv
  obtain ⟨rfl, hsz, hP, hK, hD0, hZ⟩ := hv
  have hx := B.exec
  have hb := B.bytes
  have hr := B.returns
  have hts := atoms_spec (ws := wsX6_guesses) B.pre
  have hown : s.vm.findClass RX6 = some m.cls := findClass_of_methodNamed B.named
  have hlocks := B.notSynchronized
  have hin6 : ∀ w ∈ u_ws RX6 TX6 25, w ∈ wsX6_guesses := mem_pl [65, 66, 67, 68, 69, 70, 71, 72, 73, 74, 75, 76, 77, 78, 79, 80, 81, 82, 83, 84, 85, 86, 87, 88, 89] (by rfl)
  subst hsz
  have hD := hD0.self (sz := s.heap.size)
  generalize hAe : va_A (rW E a ln op dp la row seen sty lineO tokO atO baseO kindO partO colO openO strayO stk bys was gsd cellsO sortO kLine kAt kKind) s.heap.size = A at hD hZ ⊢
  have hA : ∀ q : Nat, s.heap.size ≤ q → A q := fun q h => by rw [← hAe]; exact Or.inr h
  have hS : va_S A s.heap s.heap [] := va_S.rf
  have hl := lv_entry ([.ref (a 0)]) (n := 4) (Nat.le_of_ble_eq_true rfl)
  rw [lg_entry_eq]
  generalize (lg_sl ([.ref (a 0)]) ++ List.replicate (4 - (lg_sl ([.ref (a 0)])).length) Slot.unset).toArray = ls at hl ⊢
  have hl : lv_has ls 4 [(0, .ref (a 0))] := hl
  obtain ⟨hN, hok, hrn, hsn, hsg, hpk⟩ := id hab
  have hln : ln ≤ 20 := by rw [hN]; exact hok.1
  refine lv_iconst (v := (nI 0)) hx hb dX6_guesses_0 (by decide) ?_
  refine lv_istore_n (lv' := [(1, .int (nI 0)), (0, .ref (a 0))]) hx hb dX6_guesses_1 rfl hl (by decide) rfl (fun ls hl => ?_)
  refine lv_iconst (v := (nI 0)) hx hb dX6_guesses_2 (by decide) ?_
  refine lv_istore_n (lv' := [(2, .int (nI 0)), (1, .int (nI 0)), (0, .ref (a 0))]) hx hb dX6_guesses_3 rfl hl (by decide) rfl (fun ls hl => ?_)
  have lp4 : ∀ (kk : Nat) (so : Nat) (i : Nat) (H : Heap) (locs : List Loc), (i ≤ ln) → (so ≤ 1 ∧ (so = 1 ↔ anyS ab i = true)) → ln - i < kk → va_P G vwCl (rW E a ln op dp la row seen sty lineO tokO atO baseO kindO partO colO openO strayO stk bys was gsd cellsO sortO kLine kAt kKind) H → va_D A (rW E a ln op dp la row seen sty lineO tokO atO baseO kindO partO colO openO strayO stk bys was gsd cellsO sortO kLine kAt kKind) → va_S A s.heap H locs → ∀ ls : Array Slot, lv_has ls 4 [(2, .int (nI i)), (1, .int (nI so)), (0, .ref (a 0))] → W p l e (headSpec wsX6_guesses ({ frames := 6, cells := 0, slots := 0, locals := 147 } : Room)).room s m ([.ref (a 0)] : List Value).toArray below meth c H locs 0 0 (MQ below (va_Qi (fun (r : Int32) (u : (Nat) × (Nat) × (Nat) × (Nat → Int32) × (Nat → Int32) × (Nat → Int32) × (Nat → Int32) × (Nat → Int32) × (Nat → Int32) × (Nat → Int32) × (Nat → Int32) × (Nat → Int32) × (Nat → Int32) × (Nat → Int32) × (Nat → Int32) × (Nat → Int32)) => ((anyS ab (aN ab) = true ∧ r = nI 1) ∨ (¬ anyS ab (aN ab) = true ∧ r = nI 0)) ∧ (∀ k, k < 4 → u.2.2.2.2.2.2.2.2.2.2.2.2.2.2.2 k = stx (gbest ab 256).2 k) ∧ u.2.2.2.2.2.2.2.2.2.2.2.2.2.2.2 4 = nI ((gbest ab 256).1 - 1)) (fun (u : (Nat) × (Nat) × (Nat) × (Nat → Int32) × (Nat → Int32) × (Nat → Int32) × (Nat → Int32) × (Nat → Int32) × (Nat → Int32) × (Nat → Int32) × (Nat → Int32) × (Nat → Int32) × (Nat → Int32) × (Nat → Int32) × (Nat → Int32) × (Nat → Int32)) tQ => va_P G vwCl (rW E a ln u.1 u.2.1 u.2.2.1 row seen sty u.2.2.2.1 u.2.2.2.2.1 u.2.2.2.2.2.1 u.2.2.2.2.2.2.1 u.2.2.2.2.2.2.2.1 u.2.2.2.2.2.2.2.2.1 u.2.2.2.2.2.2.2.2.2.1 u.2.2.2.2.2.2.2.2.2.2.1 u.2.2.2.2.2.2.2.2.2.2.2.1 u.2.2.2.2.2.2.2.2.2.2.2.2.1 u.2.2.2.2.2.2.2.2.2.2.2.2.2.1 u.2.2.2.2.2.2.2.2.2.2.2.2.2.2.1 u.2.2.2.2.2.2.2.2.2.2.2.2.2.2.2 cellsO sortO kLine kAt kKind) tQ.heap) A) ([.ref (a 0)] : List Value).toArray s 0 0 A) (F0 m 4 ls []) := by
    intro kk
    induction kk with
    | zero => intro so i H locs hi hso hkk; exact absurd hkk (Nat.not_lt_zero _)
    | succ kk ih4 =>
      intro so i H locs hi hso hkk hP hD hS ls hl
      refine lv_iload_n hx hb dX6_guesses_4 rfl (lv_at hl 0 rfl) ?_
      refine lv_aload_n hx hb dX6_guesses_5 rfl (lv_at hl 2 rfl) ?_
      refine va_get (D := G) (ci := 6) (v := .int (nI ln)) (C := RX6) (T := TX6) (N := 25) hx hb hts hin6 hown hK hP 0 rfl rfl 0 (by decide) (hts (Cond.fieldLink RX6 73 "IndentRulesModel" "lines" "I") (List.mem_of_getElem? (i := 1) rfl)) (fun _ h9 => h9) rfl dX6_guesses_6 ?_
      refine n_icmp_ge (a := i) (b := ln) (tgt := 36) hx hb (by omega) (by omega) dX6_guesses_9 (by decide) (fun c9 => ?_) (fun c9 => ?_)
      · refine lv_aload_n hx hb dX6_guesses_36 rfl (lv_at hl 2 rfl) ?_
        refine va_get (D := G) (ci := 6) (v := .ref (a 19)) (C := RX6) (T := TX6) (N := 25) hx hb hts hin6 hown hK hP 0 rfl rfl 19 (by decide) (hts (Cond.fieldLink RX6 55 "IndentRulesModel" "guessed" "[I") (List.mem_of_getElem? (i := 2) rfl)) (fun _ h9 => h9) rfl dX6_guesses_37 ?_
        refine lv_iconst (v := (nI 4)) hx hb dX6_guesses_40 (by decide) ?_
        refine lv_iconst (v := (-1)) hx hb dX6_guesses_41 (by decide) ?_
        refine k_iast (D := G) (tys := TYS E) (j := 4) (x := (-1)) (f := gsd) (n := 5) hx hb hK hP hD hS 16 0 rfl rfl (by decide) (by decide) dX6_guesses_42 (fun H locs hP hD hS => ?_)
        have hP : va_P G vwCl (rW E a ln op dp la row seen sty lineO tokO atO baseO kindO partO colO openO strayO stk bys was (upd gsd 4 (-1)) cellsO sortO kLine kAt kKind) H := hP
        have hD : va_D A (rW E a ln op dp la row seen sty lineO tokO atO baseO kindO partO colO openO strayO stk bys was (upd gsd 4 (-1)) cellsO sortO kLine kAt kKind) := hD
        obtain ⟨f42, ef42⟩ : ∃ z : Nat → Int32, z = upd gsd 4 (-1) := ⟨_, rfl⟩
        rw [← ef42] at hP hD
        refine lv_iconst (v := (nI 0)) hx hb dX6_guesses_43 (by decide) ?_
        refine lv_istore_n (lv' := [(2, .int (nI 0)), (1, .int (nI so)), (0, .ref (a 0))]) hx hb dX6_guesses_44 rfl hl (by decide) rfl (fun ls hl => ?_)
        have lp45 : ∀ (kk : Nat) (x : Nat) (opX : Nat) (dpX : Nat) (laX : Nat) (lineX : Nat → Int32) (tokX : Nat → Int32) (atX : Nat → Int32) (baseX : Nat → Int32) (kindX : Nat → Int32) (partX : Nat → Int32) (colX : Nat → Int32) (openX : Nat → Int32) (strayX : Nat → Int32) (stkX : Nat → Int32) (bysX : Nat → Int32) (gsdX : Nat → Int32) (H : Heap) (locs : List Loc), (x ≤ 256) → (gsdX 4 = gv (gbest ab x).1 ∧ (0 < x → ∀ k, k < 4 → gsdX k = stx (gbest ab x).2 k)) → 256 - x < kk → va_P G vwCl (rW E a ln opX dpX laX row seen sty lineX tokX atX baseX kindX partX colX openX strayX stkX bysX was gsdX cellsO sortO kLine kAt kKind) H → va_D A (rW E a ln opX dpX laX row seen sty lineX tokX atX baseX kindX partX colX openX strayX stkX bysX was gsdX cellsO sortO kLine kAt kKind) → va_S A s.heap H locs → ∀ ls : Array Slot, lv_has ls 4 [(2, .int (nI x)), (1, .int (nI so)), (0, .ref (a 0))] → W p l e (headSpec wsX6_guesses ({ frames := 6, cells := 0, slots := 0, locals := 147 } : Room)).room s m ([.ref (a 0)] : List Value).toArray below meth c H locs 0 0 (MQ below (va_Qi (fun (r : Int32) (u : (Nat) × (Nat) × (Nat) × (Nat → Int32) × (Nat → Int32) × (Nat → Int32) × (Nat → Int32) × (Nat → Int32) × (Nat → Int32) × (Nat → Int32) × (Nat → Int32) × (Nat → Int32) × (Nat → Int32) × (Nat → Int32) × (Nat → Int32) × (Nat → Int32)) => ((anyS ab (aN ab) = true ∧ r = nI 1) ∨ (¬ anyS ab (aN ab) = true ∧ r = nI 0)) ∧ (∀ k, k < 4 → u.2.2.2.2.2.2.2.2.2.2.2.2.2.2.2 k = stx (gbest ab 256).2 k) ∧ u.2.2.2.2.2.2.2.2.2.2.2.2.2.2.2 4 = nI ((gbest ab 256).1 - 1)) (fun (u : (Nat) × (Nat) × (Nat) × (Nat → Int32) × (Nat → Int32) × (Nat → Int32) × (Nat → Int32) × (Nat → Int32) × (Nat → Int32) × (Nat → Int32) × (Nat → Int32) × (Nat → Int32) × (Nat → Int32) × (Nat → Int32) × (Nat → Int32) × (Nat → Int32)) tQ => va_P G vwCl (rW E a ln u.1 u.2.1 u.2.2.1 row seen sty u.2.2.2.1 u.2.2.2.2.1 u.2.2.2.2.2.1 u.2.2.2.2.2.2.1 u.2.2.2.2.2.2.2.1 u.2.2.2.2.2.2.2.2.1 u.2.2.2.2.2.2.2.2.2.1 u.2.2.2.2.2.2.2.2.2.2.1 u.2.2.2.2.2.2.2.2.2.2.2.1 u.2.2.2.2.2.2.2.2.2.2.2.2.1 u.2.2.2.2.2.2.2.2.2.2.2.2.2.1 u.2.2.2.2.2.2.2.2.2.2.2.2.2.2.1 u.2.2.2.2.2.2.2.2.2.2.2.2.2.2.2 cellsO sortO kLine kAt kKind) tQ.heap) A) ([.ref (a 0)] : List Value).toArray s 0 0 A) (F0 m 45 ls []) := by
          intro kk
          induction kk with
          | zero => intro x opX dpX laX lineX tokX atX baseX kindX partX colX openX strayX stkX bysX gsdX H locs hx9 hg hkk; exact absurd hkk (Nat.not_lt_zero _)
          | succ kk ih45 =>
            intro x opX dpX laX lineX tokX atX baseX kindX partX colX openX strayX stkX bysX gsdX H locs hx9 hg hkk hP hD hS ls hl
            refine lv_iload_n hx hb dX6_guesses_45 rfl (lv_at hl 0 rfl) ?_
            refine lv_sipush (v := (nI 256)) hx hb dX6_guesses_46 (by decide) ?_
            refine n_icmp_ge (a := x) (b := 256) (tgt := 148) hx hb (by omega) (by decide) dX6_guesses_49 (by decide) (fun c49 => ?_) (fun c49 => ?_)
            · refine lv_iload_n hx hb dX6_guesses_148 rfl (lv_at hl 1 rfl) ?_
              have hfin : (anyS ab (aN ab) = true ∧ nI so = nI 1) ∨ (¬ anyS ab (aN ab) = true ∧ nI so = nI 0) := by
                rcases (show so = 0 ∨ so = 1 by omega) with q | q
                · exact Or.inr ⟨fun z => by have := hso.2.mpr (by rw [show i = aN ab by omega]; exact z); omega, by rw [q]⟩
                · exact Or.inl ⟨by rw [← show i = aN ab by omega]; exact hso.2.mp q, by rw [q]⟩
              exact W.zret (v := (nI so)) hx hb hr (nar_b (by rcases (show so = 0 ∨ so = 1 by omega) with q | q <;> rw [q] <;> simp)) (fun tZ htZ hWZ => ⟨⟨_, (opX, dpX, laX, lineX, tokX, atX, baseX, kindX, partX, colX, openX, strayX, stkX, bysX, was, gsdX), rfl, ⟨hfin, fun k hk => by show gsdX k = _; rw [hg.2 (by omega) k hk, show x = 256 by omega], by show gsdX 4 = _; rw [hg.1, show x = 256 by omega]; unfold gv; rw [if_neg (by have q : 0 < (gbest ab 256).1 := gb_pos 255; omega)]⟩, by show va_P G vwCl _ tZ.heap; rw [htZ]; exact hP⟩, hS.F htZ⟩) hS.2.2 dX6_guesses_149
            · refine lv_aload_n hx hb dX6_guesses_52 rfl (lv_at hl 2 rfl) ?_
              refine lv_iconst (v := (nI 1)) hx hb dX6_guesses_53 (by decide) ?_
              refine lv_iload_n hx hb dX6_guesses_54 rfl (lv_at hl 0 rfl) ?_
              refine lv_bipush (v := (nI 32)) hx hb dX6_guesses_55 (by decide) ?_
              refine k_idiv (a := x) (b := 32) hx hb (by omega) (by decide) (by decide) dX6_guesses_57 ?_
              refine k_iadd (a := 1) (b := (x / 32)) hx hb dX6_guesses_58 ?_
              refine lv_iconst (v := (nI 1)) hx hb dX6_guesses_59 (by decide) ?_
              refine lv_iload_n hx hb dX6_guesses_60 rfl (lv_at hl 0 rfl) ?_
              refine lv_iconst (v := (nI 4)) hx hb dX6_guesses_61 (by decide) ?_
              refine k_idiv (a := x) (b := 4) hx hb (by omega) (by decide) (by decide) dX6_guesses_62 ?_
              refine lv_bipush (v := (nI 8)) hx hb dX6_guesses_63 (by decide) ?_
              refine k_irem (a := (x / 4)) (b := 8) hx hb (Nat.lt_of_le_of_lt (Nat.div_le_self _ _) (by omega)) (by decide) (by decide) dX6_guesses_65 ?_
              refine k_iadd (a := 1) (b := ((x / 4) % 8)) hx hb dX6_guesses_66 ?_
              refine lv_iload_n hx hb dX6_guesses_67 rfl (lv_at hl 0 rfl) ?_
              refine lv_iconst (v := (nI 2)) hx hb dX6_guesses_68 (by decide) ?_
              refine k_idiv (a := x) (b := 2) hx hb (by omega) (by decide) (by decide) dX6_guesses_69 ?_
              refine lv_iconst (v := (nI 2)) hx hb dX6_guesses_70 (by decide) ?_
              refine k_irem (a := (x / 2)) (b := 2) hx hb (Nat.lt_of_le_of_lt (Nat.div_le_self _ _) (by omega)) (by decide) (by decide) dX6_guesses_71 ?_
              refine lv_iload_n hx hb dX6_guesses_72 rfl (lv_at hl 0 rfl) ?_
              refine lv_iconst (v := (nI 2)) hx hb dX6_guesses_73 (by decide) ?_
              refine k_irem (a := x) (b := 2) hx hb (by omega) (by decide) (by decide) dX6_guesses_74 ?_
              refine wf_i (n := 4) (G := G) (E := E) (As := [.int (nI (1 + (x / 32))), .int (nI (1 + ((x / 4) % 8))), .int (nI ((x / 2) % 2)), .int (nI (x % 2))]) (rest := []) (ci := 6) (q0 := 0) (wn := fun (u : (Nat) × (Nat) × (Nat) × (Nat → Int32) × (Nat → Int32) × (Nat → Int32) × (Nat → Int32) × (Nat → Int32) × (Nat → Int32) × (Nat → Int32) × (Nat → Int32) × (Nat → Int32) × (Nat → Int32) × (Nat → Int32)) => rW E a ln u.1 u.2.1 u.2.2.1 row seen sty u.2.2.2.1 u.2.2.2.2.1 u.2.2.2.2.2.1 u.2.2.2.2.2.2.1 u.2.2.2.2.2.2.2.1 u.2.2.2.2.2.2.2.2.1 u.2.2.2.2.2.2.2.2.2.1 u.2.2.2.2.2.2.2.2.2.2.1 u.2.2.2.2.2.2.2.2.2.2.2.1 u.2.2.2.2.2.2.2.2.2.2.2.2.1 u.2.2.2.2.2.2.2.2.2.2.2.2.2 was gsdX cellsO sortO kLine kAt kKind) ⟨hx, hb, hml, hown, hts⟩ hK hZ hS hA (fun sz => c_X6_scoreBy l G E a ln opX dpX laX row seen sty lineX tokX atX baseX kindX partX colX openX strayX stkX bysX was gsdX cellsO sortO kLine kAt kKind (nI (1 + (x / 32))) (nI (1 + ((x / 4) % 8))) (nI ((x / 2) % 2)) (nI (x % 2)) ab (by first | assumption | omega) sz) gX6_guesses_X6_scoreBy rfl rfl rfl (by decide +kernel) ⟨Nat.le_of_ble_eq_true rfl, Nat.le_of_ble_eq_true rfl⟩ hP hD (fun _ => rfl) rfl rfl hl.1 rfl rfl (Nat.le_of_ble_eq_true rfl) dX6_guesses_75 ⟨Nat.zero_le _, Nat.zero_le _⟩ (fun r75 u75 H locs p75 hP hD hS => ?_)
              obtain ⟨op'_75, dp'_75, la'_75, lineO'_75, tokO'_75, atO'_75, baseO'_75, kindO'_75, partO'_75, colO'_75, openO'_75, strayO'_75, stk'_75, bys'_75⟩ := u75
              try dsimp only at p75 hP hD
              have hP : va_P G vwCl (rW E a ln op'_75 dp'_75 la'_75 row seen sty lineO'_75 tokO'_75 atO'_75 baseO'_75 kindO'_75 partO'_75 colO'_75 openO'_75 strayO'_75 stk'_75 bys'_75 was gsdX cellsO sortO kLine kAt kKind) H := hP
              have hD : va_D A (rW E a ln op'_75 dp'_75 la'_75 row seen sty lineO'_75 tokO'_75 atO'_75 baseO'_75 kindO'_75 partO'_75 colO'_75 openO'_75 strayO'_75 stk'_75 bys'_75 was gsdX cellsO sortO kLine kAt kKind) := hD
              have hp75 : r75 = nI (gsc ab x) := p75
              rw [hp75]
              refine lv_istore_n (lv' := [(3, .int (nI (gsc ab x))), (2, .int (nI x)), (1, .int (nI so)), (0, .ref (a 0))]) hx hb dX6_guesses_78 rfl hl (by decide) rfl (fun ls hl => ?_)
              refine lv_iload_n hx hb dX6_guesses_79 rfl (lv_at hl 0 rfl) ?_
              refine lv_aload_n hx hb dX6_guesses_80 rfl (lv_at hl 3 rfl) ?_
              refine va_get (D := G) (ci := 6) (v := .ref (a 19)) (C := RX6) (T := TX6) (N := 25) hx hb hts hin6 hown hK hP 0 rfl rfl 19 (by decide) (hts (Cond.fieldLink RX6 55 "IndentRulesModel" "guessed" "[I") (List.mem_of_getElem? (i := 2) rfl)) (fun _ h9 => h9) rfl dX6_guesses_81 ?_
              refine lv_iconst (v := (nI 4)) hx hb dX6_guesses_84 (by decide) ?_
              refine k_iald (D := G) (tys := TYS E) (j := 4) (f := gsdX) (n := 5) hx hb hK hP 16 0 rfl rfl (by decide) (by decide) dX6_guesses_85 ?_
              rw [hg.1]
              refine lv_icmp_le (x := (nI (gsc ab x))) (y := (gv (gbest ab x).1)) (tgt := 142) hx hb dX6_guesses_86 (by decide) (fun c86 => ?_) (fun c86 => ?_)
              · have c86b := (gv_le (by have := gsc_le (A := ab) (by omega) x; omega) (by have := gb_le (A := ab) (by omega) x; omega)).mp c86
                refine lv_iinc (v := (nI (x + 1))) (lv' := [(2, .int (nI (x + 1))), (3, .int (nI (gsc ab x))), (1, .int (nI so)), (0, .ref (a 0))]) hx hb dX6_guesses_142 hl (k := 1) rfl (k_inc x) (by decide) rfl (fun ls hl => ?_)
                refine lv_goto (tgt := 45) hx hb dX6_guesses_145 (by decide) ?_
                exact ih45 (x + 1) op'_75 dp'_75 la'_75 lineO'_75 tokO'_75 atO'_75 baseO'_75 kindO'_75 partO'_75 colO'_75 openO'_75 strayO'_75 stk'_75 bys'_75 gsdX _ _ (by omega) (by rw [gb_s, if_neg c86b]; exact ⟨hg.1, fun _ => hg.2 (Nat.pos_of_ne_zero (fun z => by rw [z] at c86b; exact c86b (Nat.succ_pos _)))⟩) (by omega) hP hD hS ls (lv_sub hl [0, 2, 3] rfl)
              · have c86b : (gbest ab x).1 < gsc ab x + 1 := Classical.not_not.mp (fun z => c86 ((gv_le (by have := gsc_le (A := ab) (by omega) x; omega) (by have := gb_le (A := ab) (by omega) x; omega)).mpr z))
                refine lv_aload_n hx hb dX6_guesses_89 rfl (lv_at hl 3 rfl) ?_
                refine va_get (D := G) (ci := 6) (v := .ref (a 19)) (C := RX6) (T := TX6) (N := 25) hx hb hts hin6 hown hK hP 0 rfl rfl 19 (by decide) (hts (Cond.fieldLink RX6 55 "IndentRulesModel" "guessed" "[I") (List.mem_of_getElem? (i := 2) rfl)) (fun _ h9 => h9) rfl dX6_guesses_90 ?_
                refine lv_iconst (v := (nI 0)) hx hb dX6_guesses_93 (by decide) ?_
                refine lv_iconst (v := (nI 1)) hx hb dX6_guesses_94 (by decide) ?_
                refine lv_iload_n hx hb dX6_guesses_95 rfl (lv_at hl 1 rfl) ?_
                refine lv_bipush (v := (nI 32)) hx hb dX6_guesses_96 (by decide) ?_
                refine k_idiv (a := x) (b := 32) hx hb (by omega) (by decide) (by decide) dX6_guesses_98 ?_
                refine k_iadd (a := 1) (b := (x / 32)) hx hb dX6_guesses_99 ?_
                refine k_iast (D := G) (tys := TYS E) (j := 0) (x := (nI (1 + (x / 32)))) (f := gsdX) (n := 5) hx hb hK hP hD hS 16 0 rfl rfl (by decide) (by decide) dX6_guesses_100 (fun H locs hP hD hS => ?_)
                have hP : va_P G vwCl (rW E a ln op'_75 dp'_75 la'_75 row seen sty lineO'_75 tokO'_75 atO'_75 baseO'_75 kindO'_75 partO'_75 colO'_75 openO'_75 strayO'_75 stk'_75 bys'_75 was (upd gsdX 0 (nI (1 + (x / 32)))) cellsO sortO kLine kAt kKind) H := hP
                have hD : va_D A (rW E a ln op'_75 dp'_75 la'_75 row seen sty lineO'_75 tokO'_75 atO'_75 baseO'_75 kindO'_75 partO'_75 colO'_75 openO'_75 strayO'_75 stk'_75 bys'_75 was (upd gsdX 0 (nI (1 + (x / 32)))) cellsO sortO kLine kAt kKind) := hD
                obtain ⟨f100, ef100⟩ : ∃ z : Nat → Int32, z = upd gsdX 0 (nI (1 + (x / 32))) := ⟨_, rfl⟩
                rw [← ef100] at hP hD
                refine lv_aload_n hx hb dX6_guesses_101 rfl (lv_at hl 3 rfl) ?_
                refine va_get (D := G) (ci := 6) (v := .ref (a 19)) (C := RX6) (T := TX6) (N := 25) hx hb hts hin6 hown hK hP 0 rfl rfl 19 (by decide) (hts (Cond.fieldLink RX6 55 "IndentRulesModel" "guessed" "[I") (List.mem_of_getElem? (i := 2) rfl)) (fun _ h9 => h9) rfl dX6_guesses_102 ?_
                refine lv_iconst (v := (nI 1)) hx hb dX6_guesses_105 (by decide) ?_
                refine lv_iconst (v := (nI 1)) hx hb dX6_guesses_106 (by decide) ?_
                refine lv_iload_n hx hb dX6_guesses_107 rfl (lv_at hl 1 rfl) ?_
                refine lv_iconst (v := (nI 4)) hx hb dX6_guesses_108 (by decide) ?_
                refine k_idiv (a := x) (b := 4) hx hb (by omega) (by decide) (by decide) dX6_guesses_109 ?_
                refine lv_bipush (v := (nI 8)) hx hb dX6_guesses_110 (by decide) ?_
                refine k_irem (a := (x / 4)) (b := 8) hx hb (Nat.lt_of_le_of_lt (Nat.div_le_self _ _) (by omega)) (by decide) (by decide) dX6_guesses_112 ?_
                refine k_iadd (a := 1) (b := ((x / 4) % 8)) hx hb dX6_guesses_113 ?_
                refine k_iast (D := G) (tys := TYS E) (j := 1) (x := (nI (1 + ((x / 4) % 8)))) (f := f100) (n := 5) hx hb hK hP hD hS 16 0 rfl rfl (by decide) (by decide) dX6_guesses_114 (fun H locs hP hD hS => ?_)
                have hP : va_P G vwCl (rW E a ln op'_75 dp'_75 la'_75 row seen sty lineO'_75 tokO'_75 atO'_75 baseO'_75 kindO'_75 partO'_75 colO'_75 openO'_75 strayO'_75 stk'_75 bys'_75 was (upd f100 1 (nI (1 + ((x / 4) % 8)))) cellsO sortO kLine kAt kKind) H := hP
                have hD : va_D A (rW E a ln op'_75 dp'_75 la'_75 row seen sty lineO'_75 tokO'_75 atO'_75 baseO'_75 kindO'_75 partO'_75 colO'_75 openO'_75 strayO'_75 stk'_75 bys'_75 was (upd f100 1 (nI (1 + ((x / 4) % 8)))) cellsO sortO kLine kAt kKind) := hD
                obtain ⟨f114, ef114⟩ : ∃ z : Nat → Int32, z = upd f100 1 (nI (1 + ((x / 4) % 8))) := ⟨_, rfl⟩
                rw [← ef114] at hP hD
                refine lv_aload_n hx hb dX6_guesses_115 rfl (lv_at hl 3 rfl) ?_
                refine va_get (D := G) (ci := 6) (v := .ref (a 19)) (C := RX6) (T := TX6) (N := 25) hx hb hts hin6 hown hK hP 0 rfl rfl 19 (by decide) (hts (Cond.fieldLink RX6 55 "IndentRulesModel" "guessed" "[I") (List.mem_of_getElem? (i := 2) rfl)) (fun _ h9 => h9) rfl dX6_guesses_116 ?_
                refine lv_iconst (v := (nI 2)) hx hb dX6_guesses_119 (by decide) ?_
                refine lv_iload_n hx hb dX6_guesses_120 rfl (lv_at hl 1 rfl) ?_
                refine lv_iconst (v := (nI 2)) hx hb dX6_guesses_121 (by decide) ?_
                refine k_idiv (a := x) (b := 2) hx hb (by omega) (by decide) (by decide) dX6_guesses_122 ?_
                refine lv_iconst (v := (nI 2)) hx hb dX6_guesses_123 (by decide) ?_
                refine k_irem (a := (x / 2)) (b := 2) hx hb (Nat.lt_of_le_of_lt (Nat.div_le_self _ _) (by omega)) (by decide) (by decide) dX6_guesses_124 ?_
                refine k_iast (D := G) (tys := TYS E) (j := 2) (x := (nI ((x / 2) % 2))) (f := f114) (n := 5) hx hb hK hP hD hS 16 0 rfl rfl (by decide) (by decide) dX6_guesses_125 (fun H locs hP hD hS => ?_)
                have hP : va_P G vwCl (rW E a ln op'_75 dp'_75 la'_75 row seen sty lineO'_75 tokO'_75 atO'_75 baseO'_75 kindO'_75 partO'_75 colO'_75 openO'_75 strayO'_75 stk'_75 bys'_75 was (upd f114 2 (nI ((x / 2) % 2))) cellsO sortO kLine kAt kKind) H := hP
                have hD : va_D A (rW E a ln op'_75 dp'_75 la'_75 row seen sty lineO'_75 tokO'_75 atO'_75 baseO'_75 kindO'_75 partO'_75 colO'_75 openO'_75 strayO'_75 stk'_75 bys'_75 was (upd f114 2 (nI ((x / 2) % 2))) cellsO sortO kLine kAt kKind) := hD
                obtain ⟨f125, ef125⟩ : ∃ z : Nat → Int32, z = upd f114 2 (nI ((x / 2) % 2)) := ⟨_, rfl⟩
                rw [← ef125] at hP hD
                refine lv_aload_n hx hb dX6_guesses_126 rfl (lv_at hl 3 rfl) ?_
                refine va_get (D := G) (ci := 6) (v := .ref (a 19)) (C := RX6) (T := TX6) (N := 25) hx hb hts hin6 hown hK hP 0 rfl rfl 19 (by decide) (hts (Cond.fieldLink RX6 55 "IndentRulesModel" "guessed" "[I") (List.mem_of_getElem? (i := 2) rfl)) (fun _ h9 => h9) rfl dX6_guesses_127 ?_
                refine lv_iconst (v := (nI 3)) hx hb dX6_guesses_130 (by decide) ?_
                refine lv_iload_n hx hb dX6_guesses_131 rfl (lv_at hl 1 rfl) ?_
                refine lv_iconst (v := (nI 2)) hx hb dX6_guesses_132 (by decide) ?_
                refine k_irem (a := x) (b := 2) hx hb (by omega) (by decide) (by decide) dX6_guesses_133 ?_
                refine k_iast (D := G) (tys := TYS E) (j := 3) (x := (nI (x % 2))) (f := f125) (n := 5) hx hb hK hP hD hS 16 0 rfl rfl (by decide) (by decide) dX6_guesses_134 (fun H locs hP hD hS => ?_)
                have hP : va_P G vwCl (rW E a ln op'_75 dp'_75 la'_75 row seen sty lineO'_75 tokO'_75 atO'_75 baseO'_75 kindO'_75 partO'_75 colO'_75 openO'_75 strayO'_75 stk'_75 bys'_75 was (upd f125 3 (nI (x % 2))) cellsO sortO kLine kAt kKind) H := hP
                have hD : va_D A (rW E a ln op'_75 dp'_75 la'_75 row seen sty lineO'_75 tokO'_75 atO'_75 baseO'_75 kindO'_75 partO'_75 colO'_75 openO'_75 strayO'_75 stk'_75 bys'_75 was (upd f125 3 (nI (x % 2))) cellsO sortO kLine kAt kKind) := hD
                obtain ⟨f134, ef134⟩ : ∃ z : Nat → Int32, z = upd f125 3 (nI (x % 2)) := ⟨_, rfl⟩
                rw [← ef134] at hP hD
                refine lv_aload_n hx hb dX6_guesses_135 rfl (lv_at hl 3 rfl) ?_
                refine va_get (D := G) (ci := 6) (v := .ref (a 19)) (C := RX6) (T := TX6) (N := 25) hx hb hts hin6 hown hK hP 0 rfl rfl 19 (by decide) (hts (Cond.fieldLink RX6 55 "IndentRulesModel" "guessed" "[I") (List.mem_of_getElem? (i := 2) rfl)) (fun _ h9 => h9) rfl dX6_guesses_136 ?_
                refine lv_iconst (v := (nI 4)) hx hb dX6_guesses_139 (by decide) ?_
                refine lv_iload_n hx hb dX6_guesses_140 rfl (lv_at hl 0 rfl) ?_
                refine k_iast (D := G) (tys := TYS E) (j := 4) (x := (nI (gsc ab x))) (f := f134) (n := 5) hx hb hK hP hD hS 16 0 rfl rfl (by decide) (by decide) dX6_guesses_141 (fun H locs hP hD hS => ?_)
                have hP : va_P G vwCl (rW E a ln op'_75 dp'_75 la'_75 row seen sty lineO'_75 tokO'_75 atO'_75 baseO'_75 kindO'_75 partO'_75 colO'_75 openO'_75 strayO'_75 stk'_75 bys'_75 was (upd f134 4 (nI (gsc ab x))) cellsO sortO kLine kAt kKind) H := hP
                have hD : va_D A (rW E a ln op'_75 dp'_75 la'_75 row seen sty lineO'_75 tokO'_75 atO'_75 baseO'_75 kindO'_75 partO'_75 colO'_75 openO'_75 strayO'_75 stk'_75 bys'_75 was (upd f134 4 (nI (gsc ab x))) cellsO sortO kLine kAt kKind) := hD
                obtain ⟨f141, ef141⟩ : ∃ z : Nat → Int32, z = upd f134 4 (nI (gsc ab x)) := ⟨_, rfl⟩
                rw [← ef141] at hP hD
                refine lv_iinc (v := (nI (x + 1))) (lv' := [(2, .int (nI (x + 1))), (3, .int (nI (gsc ab x))), (1, .int (nI so)), (0, .ref (a 0))]) hx hb dX6_guesses_142 hl (k := 1) rfl (k_inc x) (by decide) rfl (fun ls hl => ?_)
                refine lv_goto (tgt := 45) hx hb dX6_guesses_145 (by decide) ?_
                exact ih45 (x + 1) op'_75 dp'_75 la'_75 lineO'_75 tokO'_75 atO'_75 baseO'_75 kindO'_75 partO'_75 colO'_75 openO'_75 strayO'_75 stk'_75 bys'_75 f141 _ _ (by omega) (by rw [gb_s, if_pos c86b]; exact ⟨by rw [ef141, upd_s]; rfl, fun _ k hk => by rw [ef141, upd_n (by omega), ef134, ef125, ef114, ef100]; rcases (show k = 0 ∨ k = 1 ∨ k = 2 ∨ k = 3 by omega) with rfl | rfl | rfl | rfl <;> simp [upd, stx, st4]⟩) (by omega) hP hD hS ls (lv_sub hl [0, 2, 3] rfl)
        exact lp45 (256 - 0 + 1) 0 op dp la lineO tokO atO baseO kindO partO colO openO strayO stk bys f42 _ _ (by decide) ⟨by rw [ef42]; rfl, fun q => absurd q (by decide)⟩ (Nat.lt_succ_self _) hP hD hS ls (lv_sub hl [0, 1, 2] rfl)
      · refine lv_iload_n hx hb dX6_guesses_12 rfl (lv_at hl 1 rfl) ?_
        refine n_if_ne (a := so) (tgt := 24) hx hb (by omega) dX6_guesses_13 (by decide) (fun c13 => ?_) (fun c13 => ?_)
        · refine lv_iconst (v := (nI 1)) hx hb dX6_guesses_24 (by decide) ?_
          refine lv_goto (tgt := 29) hx hb dX6_guesses_25 (by decide) ?_
          refine lv_istore_n (lv' := [(1, .int (nI 1)), (2, .int (nI i)), (0, .ref (a 0))]) hx hb dX6_guesses_29 rfl hl (by decide) rfl (fun ls hl => ?_)
          refine lv_iinc (v := (nI (i + 1))) (lv' := [(2, .int (nI (i + 1))), (1, .int (nI 1)), (0, .ref (a 0))]) hx hb dX6_guesses_30 hl (k := 1) rfl (k_inc i) (by decide) rfl (fun ls hl => ?_)
          refine lv_goto (tgt := 4) hx hb dX6_guesses_33 (by decide) ?_
          exact ih4 1 (i + 1) _ _ (by omega) (by refine ⟨by decide, ?_⟩; show _ ↔ (anyS ab i || decide (cnt ab i)) = true; rw [(hso.2).mp (by omega)]; simp) (by omega) hP hD hS ls (lv_sub hl [0, 1, 2] rfl)
        · refine lv_aload_n hx hb dX6_guesses_16 rfl (lv_at hl 2 rfl) ?_
          refine lv_iload_n hx hb dX6_guesses_17 rfl (lv_at hl 0 rfl) ?_
          refine rv_i (n := 1) (G := G) (E := E) (As := [.int (nI i)]) (rest := []) (ci := 6) (q0 := 0) ⟨hx, hb, hml, hown, hts⟩ hK hZ hS (c_X6_counts l G E a ln op dp la row seen sty lineO tokO atO baseO kindO partO colO openO strayO stk bys was gsd cellsO sortO kLine kAt kKind i (by first | assumption | omega)) gX6_guesses_X6_counts rfl rfl rfl (by decide +kernel) ⟨Nat.le_of_ble_eq_true rfl, Nat.le_of_ble_eq_true rfl⟩ hP rfl rfl hl.1 rfl rfl (Nat.le_of_ble_eq_true rfl) dX6_guesses_18 ⟨Nat.zero_le _, Nat.zero_le _⟩ (fun r18 p18 => ?_)
          rcases p18 with ⟨h18, rfl⟩ | ⟨h18, rfl⟩
          · have hcn : cnt ab i := ⟨fun q => h18.1 (by rw [hsn i (by omega)]; exact q), fun q => h18.2 (by rw [(hrn i (by omega)).1, q, nI_0])⟩
            refine n_if_eq (a := 1) (tgt := 28) hx hb (by decide) dX6_guesses_21 (by decide) (fun c21 => absurd c21 (by decide)) (fun c21 => ?_)
            refine lv_iconst (v := (nI 1)) hx hb dX6_guesses_24 (by decide) ?_
            refine lv_goto (tgt := 29) hx hb dX6_guesses_25 (by decide) ?_
            refine lv_istore_n (lv' := [(1, .int (nI 1)), (2, .int (nI i)), (0, .ref (a 0))]) hx hb dX6_guesses_29 rfl hl (by decide) rfl (fun ls hl => ?_)
            refine lv_iinc (v := (nI (i + 1))) (lv' := [(2, .int (nI (i + 1))), (1, .int (nI 1)), (0, .ref (a 0))]) hx hb dX6_guesses_30 hl (k := 1) rfl (k_inc i) (by decide) rfl (fun ls hl => ?_)
            refine lv_goto (tgt := 4) hx hb dX6_guesses_33 (by decide) ?_
            exact ih4 1 (i + 1) _ _ (by omega) (by refine ⟨by decide, ?_⟩; show _ ↔ (anyS ab i || decide (cnt ab i)) = true; rw [show anyS ab i = false from Bool.eq_false_iff.mpr (fun q => by have := hso.2.mpr q; omega)]; simp [hcn]) (by omega) hP hD hS ls (lv_sub hl [0, 1, 2] rfl)
          · have hcn : ¬ cnt ab i := fun q => h18 ⟨fun z => q.1 (by rw [← hsn i (by omega)]; exact z), fun z => q.2 (by rw [(hrn i (by omega)).1, ← nI_0] at z; exact (nI_eq (by have := (hrn i (by omega)).2.1; omega) (by decide)).mp z)⟩
            refine n_if_eq (a := 0) (tgt := 28) hx hb (by decide) dX6_guesses_21 (by decide) (fun c21 => ?_) (fun c21 => absurd c21 (by decide))
            refine lv_iconst (v := (nI 0)) hx hb dX6_guesses_28 (by decide) ?_
            refine lv_istore_n (lv' := [(1, .int (nI 0)), (2, .int (nI i)), (0, .ref (a 0))]) hx hb dX6_guesses_29 rfl hl (by decide) rfl (fun ls hl => ?_)
            refine lv_iinc (v := (nI (i + 1))) (lv' := [(2, .int (nI (i + 1))), (1, .int (nI 0)), (0, .ref (a 0))]) hx hb dX6_guesses_30 hl (k := 1) rfl (k_inc i) (by decide) rfl (fun ls hl => ?_)
            refine lv_goto (tgt := 4) hx hb dX6_guesses_33 (by decide) ?_
            exact ih4 0 (i + 1) _ _ (by omega) (by refine ⟨by decide, ?_⟩; show _ ↔ (anyS ab i || decide (cnt ab i)) = true; rw [show anyS ab i = false from Bool.eq_false_iff.mpr (fun q => by have := hso.2.mpr q; omega)]; simp [hcn]) (by omega) hP hD hS ls (lv_sub hl [0, 1, 2] rfl)
  exact lp4 (ln - 0 + 1) 0 0 _ _ (Nat.zero_le _) ⟨by decide, by constructor <;> intro q <;> cases q⟩ (Nat.lt_succ_self _) hP hD hS ls (lv_sub hl [0, 1, 2] rfl)

set_option maxHeartbeats 4000000 in
set_option maxRecDepth 100000 in
theorem c_X6_guess (l : Launch) (G : va_G) (E : cEnv) (a : Nat → Nat) (ln op dp la : Nat) (row seen sty lineO tokO atO baseO kindO partO colO openO strayO stk bys was gsd cellsO sortO kLine kAt kKind : Nat → Int32) (y : Int32) (ab : ABS) (hab : RefOk ab ln row seen sty cellsO sortO kLine kAt kKind) (sz : Nat) : Met l yX6_guess wsX6_guess ({ frames := 7, cells := 0, slots := 0, locals := 170 }) (va_Pc [.ref (a 0), .int y] (PW G E (rW E a ln op dp la row seen sty lineO tokO atO baseO kindO partO colO openO strayO stk bys was gsd cellsO sortO kLine kAt kKind) sz)) (va_Qi (fun (r : Int32) (u : (Nat) × (Nat) × (Nat) × (Nat → Int32) × (Nat → Int32) × (Nat → Int32) × (Nat → Int32) × (Nat → Int32) × (Nat → Int32) × (Nat → Int32) × (Nat → Int32) × (Nat → Int32) × (Nat → Int32) × (Nat → Int32) × (Nat → Int32) × (Nat → Int32)) => r = fGuess ab y) (fun (u : (Nat) × (Nat) × (Nat) × (Nat → Int32) × (Nat → Int32) × (Nat → Int32) × (Nat → Int32) × (Nat → Int32) × (Nat → Int32) × (Nat → Int32) × (Nat → Int32) × (Nat → Int32) × (Nat → Int32) × (Nat → Int32) × (Nat → Int32) × (Nat → Int32)) tQ => va_P G vwCl (rW E a ln u.1 u.2.1 u.2.2.1 row seen sty u.2.2.2.1 u.2.2.2.2.1 u.2.2.2.2.2.1 u.2.2.2.2.2.2.1 u.2.2.2.2.2.2.2.1 u.2.2.2.2.2.2.2.2.1 u.2.2.2.2.2.2.2.2.2.1 u.2.2.2.2.2.2.2.2.2.2.1 u.2.2.2.2.2.2.2.2.2.2.2.1 u.2.2.2.2.2.2.2.2.2.2.2.2.1 u.2.2.2.2.2.2.2.2.2.2.2.2.2.1 u.2.2.2.2.2.2.2.2.2.2.2.2.2.2.1 u.2.2.2.2.2.2.2.2.2.2.2.2.2.2.2 cellsO sortO kLine kAt kKind) tQ.heap) (va_A (rW E a ln op dp la row seen sty lineO tokO atO baseO kindO partO colO openO strayO stk bys was gsd cellsO sortO kLine kAt kKind) sz)) 0 0 (va_A (rW E a ln op dp la row seen sty lineO tokO atO baseO kindO partO colO openO strayO stk bys was gsd cellsO sortO kLine kAt kKind) sz) := by
  refine Met.ofW (cc := cX6_guess) (maxL := 2) (ret := (some .int)) (by decide) rfl ?_
  intro p e s m args below meth c s₁ B hml hv
  obtain ⟨rfl, hsz, hP, hK, hD0, hZ⟩ := hv
  have hx := B.exec
  have hb := B.bytes
  have hr := B.returns
  have hts := atoms_spec (ws := wsX6_guess) B.pre
  have hown : s.vm.findClass RX6 = some m.cls := findClass_of_methodNamed B.named
  have hlocks := B.notSynchronized
  have hin6 : ∀ w ∈ u_ws RX6 TX6 25, w ∈ wsX6_guess := mem_pl [76, 77, 78, 79, 80, 81, 82, 83, 84, 85, 86, 87, 88, 89, 90, 91, 92, 93, 94, 95, 96, 97, 98, 99, 100] (by rfl)
  subst hsz
  have hD := hD0.self (sz := s.heap.size)
  generalize hAe : va_A (rW E a ln op dp la row seen sty lineO tokO atO baseO kindO partO colO openO strayO stk bys was gsd cellsO sortO kLine kAt kKind) s.heap.size = A at hD hZ ⊢
  have hA : ∀ q : Nat, s.heap.size ≤ q → A q := fun q h => by rw [← hAe]; exact Or.inr h
  have hS : va_S A s.heap s.heap [] := va_S.rf
  have hl := lv_entry ([.ref (a 0), .int y]) (n := 2) (Nat.le_of_ble_eq_true rfl)
  rw [lg_entry_eq]
  generalize (lg_sl ([.ref (a 0), .int y]) ++ List.replicate (2 - (lg_sl ([.ref (a 0), .int y])).length) Slot.unset).toArray = ls at hl ⊢
  have hl : lv_has ls 2 [(0, .ref (a 0)), (1, .int y)] := hl
  obtain ⟨hN, hok, hrn, hsn, hsg, hpk⟩ := id hab
  have hln : ln ≤ 20 := by rw [hN]; exact hok.1
  refine lv_iload_n hx hb dX6_guess_0 rfl (lv_at hl 1 rfl) ?_
  refine lv_iconst (v := (nI 0)) hx hb dX6_guess_1 (by decide) ?_
  refine lv_iconst (v := (nI 4)) hx hb dX6_guess_2 (by decide) ?_
  refine rs_i (n := 3) (G := G) (E := E) (As := [.int y, .int (nI 0), .int (nI 4)]) (rest := []) ⟨hx, hb, hml, hown, hts⟩ hK hZ hS (c_X6_within l G E y (nI 0) (nI 4)) gX6_guess_X6_within rfl rfl rfl (by decide +kernel) ⟨Nat.le_of_ble_eq_true rfl, Nat.le_of_ble_eq_true rfl⟩ (fun k q h => by simp at h) hl.1 rfl rfl (Nat.le_of_ble_eq_true rfl) dX6_guess_3 ⟨Nat.zero_le _, Nat.zero_le _⟩ (fun r3 p3 => ?_)
  rcases p3 with ⟨h3, rfl⟩ | ⟨h3, rfl⟩
  · obtain ⟨w, _, hw, rfl⟩ := (w_rg (by decide) (by decide)).mp h3
    refine n_if_ne (a := 1) (tgt := 12) hx hb (by decide) dX6_guess_6 (by decide) (fun c6 => ?_) (fun c6 => absurd c6 (by decide))
    refine lv_aload_n hx hb dX6_guess_12 rfl (lv_at hl 0 rfl) ?_
    refine wf_i (n := 0) (G := G) (E := E) (As := []) (rest := []) (ci := 6) (q0 := 0) (wn := fun (u : (Nat) × (Nat) × (Nat) × (Nat → Int32) × (Nat → Int32) × (Nat → Int32) × (Nat → Int32) × (Nat → Int32) × (Nat → Int32) × (Nat → Int32) × (Nat → Int32) × (Nat → Int32) × (Nat → Int32) × (Nat → Int32) × (Nat → Int32) × (Nat → Int32)) => rW E a ln u.1 u.2.1 u.2.2.1 row seen sty u.2.2.2.1 u.2.2.2.2.1 u.2.2.2.2.2.1 u.2.2.2.2.2.2.1 u.2.2.2.2.2.2.2.1 u.2.2.2.2.2.2.2.2.1 u.2.2.2.2.2.2.2.2.2.1 u.2.2.2.2.2.2.2.2.2.2.1 u.2.2.2.2.2.2.2.2.2.2.2.1 u.2.2.2.2.2.2.2.2.2.2.2.2.1 u.2.2.2.2.2.2.2.2.2.2.2.2.2.1 u.2.2.2.2.2.2.2.2.2.2.2.2.2.2.1 u.2.2.2.2.2.2.2.2.2.2.2.2.2.2.2 cellsO sortO kLine kAt kKind) ⟨hx, hb, hml, hown, hts⟩ hK hZ hS hA (fun sz => c_X6_guesses l G E a ln op dp la row seen sty lineO tokO atO baseO kindO partO colO openO strayO stk bys was gsd cellsO sortO kLine kAt kKind ab (by first | assumption | omega) sz) gX6_guess_X6_guesses rfl rfl rfl (by decide +kernel) ⟨Nat.le_of_ble_eq_true rfl, Nat.le_of_ble_eq_true rfl⟩ hP hD (fun _ => rfl) rfl rfl hl.1 rfl rfl (Nat.le_of_ble_eq_true rfl) dX6_guess_13 ⟨Nat.zero_le _, Nat.zero_le _⟩ (fun r13 u13 H locs p13 hP hD hS => ?_)
    obtain ⟨op'_13, dp'_13, la'_13, lineO'_13, tokO'_13, atO'_13, baseO'_13, kindO'_13, partO'_13, colO'_13, openO'_13, strayO'_13, stk'_13, bys'_13, was'_13, gsd'_13⟩ := u13
    try dsimp only at p13 hP hD
    have hP : va_P G vwCl (rW E a ln op'_13 dp'_13 la'_13 row seen sty lineO'_13 tokO'_13 atO'_13 baseO'_13 kindO'_13 partO'_13 colO'_13 openO'_13 strayO'_13 stk'_13 bys'_13 was'_13 gsd'_13 cellsO sortO kLine kAt kKind) H := hP
    have hD : va_D A (rW E a ln op'_13 dp'_13 la'_13 row seen sty lineO'_13 tokO'_13 atO'_13 baseO'_13 kindO'_13 partO'_13 colO'_13 openO'_13 strayO'_13 stk'_13 bys'_13 was'_13 gsd'_13 cellsO sortO kLine kAt kKind) := hD
    rcases p13.1 with ⟨hany, rfl⟩ | ⟨hany, rfl⟩
    · refine n_if_ne (a := 1) (tgt := 22) hx hb (by decide) dX6_guess_16 (by decide) (fun c16 => ?_) (fun c16 => absurd c16 (by decide))
      refine lv_iload_n hx hb dX6_guess_22 rfl (lv_at hl 1 rfl) ?_
      refine lv_iconst (v := (nI 4)) hx hb dX6_guess_23 (by decide) ?_
      refine n_icmp_ge (a := w) (b := 4) (tgt := 36) hx hb (by omega) (by decide) dX6_guess_24 (by decide) (fun c24 => ?_) (fun c24 => ?_)
      · refine lv_aload_n hx hb dX6_guess_36 rfl (lv_at hl 0 rfl) ?_
        refine va_get (D := G) (ci := 6) (v := .ref (a 19)) (C := RX6) (T := TX6) (N := 25) hx hb hts hin6 hown hK hP 0 rfl rfl 19 (by decide) (hts (Cond.fieldLink RX6 55 "IndentRulesModel" "guessed" "[I") (List.mem_of_getElem? (i := 1) rfl)) (fun _ h9 => h9) rfl dX6_guess_37 ?_
        refine lv_iconst (v := (nI 4)) hx hb dX6_guess_40 (by decide) ?_
        refine k_iald (D := G) (tys := TYS E) (j := 4) (f := gsd'_13) (n := 5) hx hb hK hP 16 0 rfl rfl (by decide) (by decide) dX6_guess_41 ?_
        rw [p13.2.2]
        refine rs_i (n := 1) (G := G) (E := E) (As := [.int (nI ((gbest ab 256).1 - 1))]) (rest := []) ⟨hx, hb, hml, hown, hts⟩ hK hZ hS (c_X6_bitsOf l G E ((gbest ab 256).1 - 1) (by have := gb_le (A := ab) (by omega) 256; omega)) gX6_guess_X6_bitsOf rfl rfl rfl (by decide +kernel) ⟨Nat.le_of_ble_eq_true rfl, Nat.le_of_ble_eq_true rfl⟩ (fun k q h => by simp at h) hl.1 rfl rfl (Nat.le_of_ble_eq_true rfl) dX6_guess_42 ⟨Nat.zero_le _, Nat.zero_le _⟩ (fun r42 p42 => ?_)
        subst p42
        exact W.iret (v := (nI (bitN ((gbest ab 256).1 - 1)))) hx hb hr (fun tZ htZ hWZ => ⟨⟨_, (op'_13, dp'_13, la'_13, lineO'_13, tokO'_13, atO'_13, baseO'_13, kindO'_13, partO'_13, colO'_13, openO'_13, strayO'_13, stk'_13, bys'_13, was'_13, gsd'_13), rfl, by unfold fGuess; rw [if_pos (ixP_n (by omega) (by decide)), if_pos hany, ix_n (by omega), if_neg (by omega)], by show va_P G vwCl _ tZ.heap; rw [htZ]; exact hP⟩, hS.F htZ⟩) hS.2.2 dX6_guess_45
      · refine lv_aload_n hx hb dX6_guess_27 rfl (lv_at hl 0 rfl) ?_
        refine va_get (D := G) (ci := 6) (v := .ref (a 19)) (C := RX6) (T := TX6) (N := 25) hx hb hts hin6 hown hK hP 0 rfl rfl 19 (by decide) (hts (Cond.fieldLink RX6 55 "IndentRulesModel" "guessed" "[I") (List.mem_of_getElem? (i := 1) rfl)) (fun _ h9 => h9) rfl dX6_guess_28 ?_
        refine lv_iload_n hx hb dX6_guess_31 rfl (lv_at hl 1 rfl) ?_
        refine k_iald (D := G) (tys := TYS E) (j := w) (f := gsd'_13) (n := 5) hx hb hK hP 16 0 rfl rfl (by omega) (by decide) dX6_guess_32 ?_
        rw [p13.2.1 w (by omega)]
        refine lv_goto (tgt := 45) hx hb dX6_guess_33 (by decide) ?_
        exact W.iret (v := (stx (gbest ab 256).2 w)) hx hb hr (fun tZ htZ hWZ => ⟨⟨_, (op'_13, dp'_13, la'_13, lineO'_13, tokO'_13, atO'_13, baseO'_13, kindO'_13, partO'_13, colO'_13, openO'_13, strayO'_13, stk'_13, bys'_13, was'_13, gsd'_13), rfl, by unfold fGuess; rw [if_pos (ixP_n (by omega) (by decide)), if_pos hany, ix_n (by omega), if_pos (by omega)], by show va_P G vwCl _ tZ.heap; rw [htZ]; exact hP⟩, hS.F htZ⟩) hS.2.2 dX6_guess_45
    · refine n_if_ne (a := 0) (tgt := 22) hx hb (by decide) dX6_guess_16 (by decide) (fun c16 => absurd c16 (by decide)) (fun c16 => ?_)
      refine lv_bipush (v := (-3)) hx hb dX6_guess_19 (by decide) ?_
      exact W.iret (v := (-3)) hx hb hr (fun tZ htZ hWZ => ⟨⟨_, (op'_13, dp'_13, la'_13, lineO'_13, tokO'_13, atO'_13, baseO'_13, kindO'_13, partO'_13, colO'_13, openO'_13, strayO'_13, stk'_13, bys'_13, was'_13, gsd'_13), rfl, by unfold fGuess; rw [if_pos (ixP_n (by omega) (by decide)), if_neg hany], by show va_P G vwCl _ tZ.heap; rw [htZ]; exact hP⟩, hS.F htZ⟩) hS.2.2 dX6_guess_21
  · have hx1 : ¬ ixP y 5 := fun q => h3 ((w_rgx (n := 4) (by decide)).mpr q)
    refine n_if_ne (a := 0) (tgt := 12) hx hb (by decide) dX6_guess_6 (by decide) (fun c6 => absurd c6 (by decide)) (fun c6 => ?_)
    refine lv_bipush (v := (-2)) hx hb dX6_guess_9 (by decide) ?_
    exact W.iret (v := (-2)) hx hb hr (fun tZ htZ hWZ => ⟨⟨_, (op, dp, la, lineO, tokO, atO, baseO, kindO, partO, colO, openO, strayO, stk, bys, was, gsd), rfl, by unfold fGuess; rw [if_neg hx1], by show va_P G vwCl _ tZ.heap; rw [htZ]; exact hP⟩, hS.F htZ⟩) hS.2.2 dX6_guess_11

set_option maxHeartbeats 4000000 in
set_option maxRecDepth 100000 in
theorem c_X6_follow (l : Launch) (G : va_G) (E : cEnv) (a : Nat → Nat) (ln op dp la : Nat) (row seen sty lineO tokO atO baseO kindO partO colO openO strayO stk bys was gsd cellsO sortO kLine kAt kKind : Nat → Int32) (ab : ABS) (hab : RefOk ab ln row seen sty cellsO sortO kLine kAt kKind) (sz : Nat) : Met l yX6_follow wsX6_follow ({ frames := 7, cells := 0, slots := 0, locals := 170 }) (va_Pc [.ref (a 0)] (PW G E (rW E a ln op dp la row seen sty lineO tokO atO baseO kindO partO colO openO strayO stk bys was gsd cellsO sortO kLine kAt kKind) sz)) (va_Qi (fun (r : Int32) (u : (Nat) × (Nat) × (Nat) × (Nat → Int32) × (Nat → Int32) × (Nat → Int32) × (Nat → Int32) × (Nat → Int32) × (Nat → Int32) × (Nat → Int32) × (Nat → Int32) × (Nat → Int32) × (Nat → Int32) × (Nat → Int32) × (Nat → Int32) × (Nat → Int32) × (Nat → Int32)) => r = (fFollow ab).1 ∧ RefOk ((fFollow ab).2) ln row seen u.2.2.2.2.2.2.2.2.2.2.2.2.2.2.2.2 cellsO sortO kLine kAt kKind) (fun (u : (Nat) × (Nat) × (Nat) × (Nat → Int32) × (Nat → Int32) × (Nat → Int32) × (Nat → Int32) × (Nat → Int32) × (Nat → Int32) × (Nat → Int32) × (Nat → Int32) × (Nat → Int32) × (Nat → Int32) × (Nat → Int32) × (Nat → Int32) × (Nat → Int32) × (Nat → Int32)) tQ => va_P G vwCl (rW E a ln u.1 u.2.1 u.2.2.1 row seen u.2.2.2.2.2.2.2.2.2.2.2.2.2.2.2.2 u.2.2.2.1 u.2.2.2.2.1 u.2.2.2.2.2.1 u.2.2.2.2.2.2.1 u.2.2.2.2.2.2.2.1 u.2.2.2.2.2.2.2.2.1 u.2.2.2.2.2.2.2.2.2.1 u.2.2.2.2.2.2.2.2.2.2.1 u.2.2.2.2.2.2.2.2.2.2.2.1 u.2.2.2.2.2.2.2.2.2.2.2.2.1 u.2.2.2.2.2.2.2.2.2.2.2.2.2.1 u.2.2.2.2.2.2.2.2.2.2.2.2.2.2.1 u.2.2.2.2.2.2.2.2.2.2.2.2.2.2.2.1 cellsO sortO kLine kAt kKind) tQ.heap) (va_A (rW E a ln op dp la row seen sty lineO tokO atO baseO kindO partO colO openO strayO stk bys was gsd cellsO sortO kLine kAt kKind) sz)) 0 0 (va_A (rW E a ln op dp la row seen sty lineO tokO atO baseO kindO partO colO openO strayO stk bys was gsd cellsO sortO kLine kAt kKind) sz) := by
  refine Met.ofW (cc := cX6_follow) (maxL := 2) (ret := (some .int)) (by decide) rfl ?_
  intro p e s m args below meth c s₁ B hml hv
  obtain ⟨rfl, hsz, hP, hK, hD0, hZ⟩ := hv
  have hx := B.exec
  have hb := B.bytes
  have hr := B.returns
  have hts := atoms_spec (ws := wsX6_follow) B.pre
  have hown : s.vm.findClass RX6 = some m.cls := findClass_of_methodNamed B.named
  have hlocks := B.notSynchronized
  have hin6 : ∀ w ∈ u_ws RX6 TX6 25, w ∈ wsX6_follow := mem_pl [83, 84, 85, 86, 87, 88, 89, 90, 91, 92, 93, 94, 95, 96, 97, 98, 99, 100, 101, 102, 103, 104, 105, 106, 107] (by rfl)
  subst hsz
  have hD := hD0.self (sz := s.heap.size)
  generalize hAe : va_A (rW E a ln op dp la row seen sty lineO tokO atO baseO kindO partO colO openO strayO stk bys was gsd cellsO sortO kLine kAt kKind) s.heap.size = A at hD hZ ⊢
  have hA : ∀ q : Nat, s.heap.size ≤ q → A q := fun q h => by rw [← hAe]; exact Or.inr h
  have hS : va_S A s.heap s.heap [] := va_S.rf
  have hl := lv_entry ([.ref (a 0)]) (n := 2) (Nat.le_of_ble_eq_true rfl)
  rw [lg_entry_eq]
  generalize (lg_sl ([.ref (a 0)]) ++ List.replicate (2 - (lg_sl ([.ref (a 0)])).length) Slot.unset).toArray = ls at hl ⊢
  have hl : lv_has ls 2 [(0, .ref (a 0))] := hl
  obtain ⟨hN, hok, hrn, hsn, hsg, hpk⟩ := id hab
  have hln : ln ≤ 20 := by rw [hN]; exact hok.1
  refine lv_aload_n hx hb dX6_follow_0 rfl (lv_at hl 0 rfl) ?_
  refine wf_i (n := 0) (G := G) (E := E) (As := []) (rest := []) (ci := 6) (q0 := 0) (wn := fun (u : (Nat) × (Nat) × (Nat) × (Nat → Int32) × (Nat → Int32) × (Nat → Int32) × (Nat → Int32) × (Nat → Int32) × (Nat → Int32) × (Nat → Int32) × (Nat → Int32) × (Nat → Int32) × (Nat → Int32) × (Nat → Int32) × (Nat → Int32) × (Nat → Int32)) => rW E a ln u.1 u.2.1 u.2.2.1 row seen sty u.2.2.2.1 u.2.2.2.2.1 u.2.2.2.2.2.1 u.2.2.2.2.2.2.1 u.2.2.2.2.2.2.2.1 u.2.2.2.2.2.2.2.2.1 u.2.2.2.2.2.2.2.2.2.1 u.2.2.2.2.2.2.2.2.2.2.1 u.2.2.2.2.2.2.2.2.2.2.2.1 u.2.2.2.2.2.2.2.2.2.2.2.2.1 u.2.2.2.2.2.2.2.2.2.2.2.2.2.1 u.2.2.2.2.2.2.2.2.2.2.2.2.2.2.1 u.2.2.2.2.2.2.2.2.2.2.2.2.2.2.2 cellsO sortO kLine kAt kKind) ⟨hx, hb, hml, hown, hts⟩ hK hZ hS hA (fun sz => c_X6_guesses l G E a ln op dp la row seen sty lineO tokO atO baseO kindO partO colO openO strayO stk bys was gsd cellsO sortO kLine kAt kKind ab (by first | assumption | omega) sz) gX6_follow_X6_guesses rfl rfl rfl (by decide +kernel) ⟨Nat.le_of_ble_eq_true rfl, Nat.le_of_ble_eq_true rfl⟩ hP hD (fun _ => rfl) rfl rfl hl.1 rfl rfl (Nat.le_of_ble_eq_true rfl) dX6_follow_1 ⟨Nat.zero_le _, Nat.zero_le _⟩ (fun r1 u1 H locs p1 hP hD hS => ?_)
  obtain ⟨op'_1, dp'_1, la'_1, lineO'_1, tokO'_1, atO'_1, baseO'_1, kindO'_1, partO'_1, colO'_1, openO'_1, strayO'_1, stk'_1, bys'_1, was'_1, gsd'_1⟩ := u1
  try dsimp only at p1 hP hD
  have hP : va_P G vwCl (rW E a ln op'_1 dp'_1 la'_1 row seen sty lineO'_1 tokO'_1 atO'_1 baseO'_1 kindO'_1 partO'_1 colO'_1 openO'_1 strayO'_1 stk'_1 bys'_1 was'_1 gsd'_1 cellsO sortO kLine kAt kKind) H := hP
  have hD : va_D A (rW E a ln op'_1 dp'_1 la'_1 row seen sty lineO'_1 tokO'_1 atO'_1 baseO'_1 kindO'_1 partO'_1 colO'_1 openO'_1 strayO'_1 stk'_1 bys'_1 was'_1 gsd'_1 cellsO sortO kLine kAt kKind) := hD
  rcases p1.1 with ⟨hany, rfl⟩ | ⟨hany, rfl⟩
  · refine n_if_ne (a := 1) (tgt := 10) hx hb (by decide) dX6_follow_4 (by decide) (fun c4 => ?_) (fun c4 => absurd c4 (by decide))
    refine lv_aload_n hx hb dX6_follow_10 rfl (lv_at hl 0 rfl) ?_
    refine wf_v (n := 0) (G := G) (E := E) (As := []) (rest := []) (ci := 6) (q0 := 0) (wn := fun (u : (Nat → Int32) × (Nat → Int32) × (Nat → Int32) × (Nat → Int32) × (Nat → Int32) × (Nat → Int32) × (Nat → Int32) × (Nat → Int32) × (Nat → Int32) × (Nat → Int32) × (Nat → Int32) × (Nat → Int32)) => rW E a ln (nO (nAll (aR ab) ln)) (nD (nAll (aR ab) ln)) (nL (nAll (aR ab) ln)) row seen sty u.1 u.2.1 u.2.2.1 u.2.2.2.1 u.2.2.2.2.1 u.2.2.2.2.2.1 u.2.2.2.2.2.2.1 u.2.2.2.2.2.2.2.1 u.2.2.2.2.2.2.2.2.1 u.2.2.2.2.2.2.2.2.2.1 u.2.2.2.2.2.2.2.2.2.2.1 u.2.2.2.2.2.2.2.2.2.2.2 gsd'_1 cellsO sortO kLine kAt kKind) ⟨hx, hb, hml, hown, hts⟩ hK hZ hS hA (fun sz => c_X6_notes l G E a ln op'_1 dp'_1 la'_1 row seen sty lineO'_1 tokO'_1 atO'_1 baseO'_1 kindO'_1 partO'_1 colO'_1 openO'_1 strayO'_1 stk'_1 bys'_1 was'_1 gsd'_1 cellsO sortO kLine kAt kKind (aR ab) (by first | assumption | omega) (by first | assumption | omega) sz) gX6_follow_X6_notes rfl rfl rfl (by decide +kernel) ⟨Nat.le_of_ble_eq_true rfl, Nat.le_of_ble_eq_true rfl⟩ hP hD (fun _ => rfl) rfl rfl hl.1 rfl rfl (Nat.le_of_ble_eq_true rfl) dX6_follow_11 ⟨Nat.zero_le _, Nat.zero_le _⟩ (fun u11 H locs p11 hP hD hS => ?_)
    obtain ⟨lineO'_11, tokO'_11, atO'_11, baseO'_11, kindO'_11, partO'_11, colO'_11, openO'_11, strayO'_11, stk'_11, bys'_11, was'_11⟩ := u11
    try dsimp only at p11 hP hD
    have hP : va_P G vwCl (rW E a ln (nO (nAll (aR ab) ln)) (nD (nAll (aR ab) ln)) (nL (nAll (aR ab) ln)) row seen sty lineO'_11 tokO'_11 atO'_11 baseO'_11 kindO'_11 partO'_11 colO'_11 openO'_11 strayO'_11 stk'_11 bys'_11 was'_11 gsd'_1 cellsO sortO kLine kAt kKind) H := hP
    have hD : va_D A (rW E a ln (nO (nAll (aR ab) ln)) (nD (nAll (aR ab) ln)) (nL (nAll (aR ab) ln)) row seen sty lineO'_11 tokO'_11 atO'_11 baseO'_11 kindO'_11 partO'_11 colO'_11 openO'_11 strayO'_11 stk'_11 bys'_11 was'_11 gsd'_1 cellsO sortO kLine kAt kKind) := hD
    refine lv_iconst (v := (nI 0)) hx hb dX6_follow_14 (by decide) ?_
    refine lv_istore_n (lv' := [(1, .int (nI 0)), (0, .ref (a 0))]) hx hb dX6_follow_15 rfl hl (by decide) rfl (fun ls hl => ?_)
    have lp16 : ∀ (kk : Nat) (k : Nat) (styX : Nat → Int32) (H : Heap) (locs : List Loc), (k ≤ 4) → (∀ i, i < k → styX i = stx (gbest ab 256).2 i) → 4 - k < kk → va_P G vwCl (rW E a ln (nO (nAll (aR ab) ln)) (nD (nAll (aR ab) ln)) (nL (nAll (aR ab) ln)) row seen styX lineO'_11 tokO'_11 atO'_11 baseO'_11 kindO'_11 partO'_11 colO'_11 openO'_11 strayO'_11 stk'_11 bys'_11 was'_11 gsd'_1 cellsO sortO kLine kAt kKind) H → va_D A (rW E a ln (nO (nAll (aR ab) ln)) (nD (nAll (aR ab) ln)) (nL (nAll (aR ab) ln)) row seen styX lineO'_11 tokO'_11 atO'_11 baseO'_11 kindO'_11 partO'_11 colO'_11 openO'_11 strayO'_11 stk'_11 bys'_11 was'_11 gsd'_1 cellsO sortO kLine kAt kKind) → va_S A s.heap H locs → ∀ ls : Array Slot, lv_has ls 2 [(1, .int (nI k)), (0, .ref (a 0))] → W p l e (headSpec wsX6_follow ({ frames := 7, cells := 0, slots := 0, locals := 170 } : Room)).room s m ([.ref (a 0)] : List Value).toArray below meth c H locs 0 0 (MQ below (va_Qi (fun (r : Int32) (u : (Nat) × (Nat) × (Nat) × (Nat → Int32) × (Nat → Int32) × (Nat → Int32) × (Nat → Int32) × (Nat → Int32) × (Nat → Int32) × (Nat → Int32) × (Nat → Int32) × (Nat → Int32) × (Nat → Int32) × (Nat → Int32) × (Nat → Int32) × (Nat → Int32) × (Nat → Int32)) => r = (fFollow ab).1 ∧ RefOk ((fFollow ab).2) ln row seen u.2.2.2.2.2.2.2.2.2.2.2.2.2.2.2.2 cellsO sortO kLine kAt kKind) (fun (u : (Nat) × (Nat) × (Nat) × (Nat → Int32) × (Nat → Int32) × (Nat → Int32) × (Nat → Int32) × (Nat → Int32) × (Nat → Int32) × (Nat → Int32) × (Nat → Int32) × (Nat → Int32) × (Nat → Int32) × (Nat → Int32) × (Nat → Int32) × (Nat → Int32) × (Nat → Int32)) tQ => va_P G vwCl (rW E a ln u.1 u.2.1 u.2.2.1 row seen u.2.2.2.2.2.2.2.2.2.2.2.2.2.2.2.2 u.2.2.2.1 u.2.2.2.2.1 u.2.2.2.2.2.1 u.2.2.2.2.2.2.1 u.2.2.2.2.2.2.2.1 u.2.2.2.2.2.2.2.2.1 u.2.2.2.2.2.2.2.2.2.1 u.2.2.2.2.2.2.2.2.2.2.1 u.2.2.2.2.2.2.2.2.2.2.2.1 u.2.2.2.2.2.2.2.2.2.2.2.2.1 u.2.2.2.2.2.2.2.2.2.2.2.2.2.1 u.2.2.2.2.2.2.2.2.2.2.2.2.2.2.1 u.2.2.2.2.2.2.2.2.2.2.2.2.2.2.2.1 cellsO sortO kLine kAt kKind) tQ.heap) A) ([.ref (a 0)] : List Value).toArray s 0 0 A) (F0 m 16 ls []) := by
      intro kk
      induction kk with
      | zero => intro k styX H locs hk hst hkk; exact absurd hkk (Nat.not_lt_zero _)
      | succ kk ih16 =>
        intro k styX H locs hk hst hkk hP hD hS ls hl
        refine lv_iload_n hx hb dX6_follow_16 rfl (lv_at hl 0 rfl) ?_
        refine lv_iconst (v := (nI 4)) hx hb dX6_follow_17 (by decide) ?_
        refine n_icmp_ge (a := k) (b := 4) (tgt := 39) hx hb (by omega) (by decide) dX6_follow_18 (by decide) (fun c18 => ?_) (fun c18 => ?_)
        · refine lv_aload_n hx hb dX6_follow_39 rfl (lv_at hl 1 rfl) ?_
          refine lv_bipush (v := (-9)) hx hb dX6_follow_40 (by decide) ?_
          refine wf_i (n := 1) (G := G) (E := E) (As := [.int (-9)]) (rest := []) (ci := 6) (q0 := 0) (wn := fun (u : (Nat → Int32) × (Nat → Int32) × (Nat → Int32) × (Nat → Int32) × (Nat → Int32) × (Nat → Int32) × (Nat → Int32) × (Nat → Int32) × (Nat → Int32) × (Nat → Int32) × (Nat → Int32)) => rW E a ln (nO (nAll (aR ab) ln)) (nD (nAll (aR ab) ln)) (nL (nAll (aR ab) ln)) row seen styX u.1 u.2.1 u.2.2.1 u.2.2.2.1 u.2.2.2.2.1 u.2.2.2.2.2.1 u.2.2.2.2.2.2.1 u.2.2.2.2.2.2.2.1 u.2.2.2.2.2.2.2.2.1 u.2.2.2.2.2.2.2.2.2.1 u.2.2.2.2.2.2.2.2.2.2 was'_11 gsd'_1 cellsO sortO kLine kAt kKind) ⟨hx, hb, hml, hown, hts⟩ hK hZ hS hA (fun sz => c_X6_moved l G E a ln (nO (nAll (aR ab) ln)) (nD (nAll (aR ab) ln)) (nL (nAll (aR ab) ln)) row seen styX lineO'_11 tokO'_11 atO'_11 baseO'_11 kindO'_11 partO'_11 colO'_11 openO'_11 strayO'_11 stk'_11 bys'_11 was'_11 gsd'_1 cellsO sortO kLine kAt kKind (-9) (aR ab) (by first | assumption | omega) (by first | assumption | omega) sz) gX6_follow_X6_moved rfl rfl rfl (by decide +kernel) ⟨Nat.le_of_ble_eq_true rfl, Nat.le_of_ble_eq_true rfl⟩ hP hD (fun _ => rfl) rfl rfl hl.1 rfl rfl (Nat.le_of_ble_eq_true rfl) dX6_follow_42 ⟨Nat.zero_le _, Nat.zero_le _⟩ (fun r42 u42 H locs p42 hP hD hS => ?_)
          obtain ⟨lineO'_42, tokO'_42, atO'_42, baseO'_42, kindO'_42, partO'_42, colO'_42, openO'_42, strayO'_42, stk'_42, bys'_42⟩ := u42
          try dsimp only at p42 hP hD
          have hP : va_P G vwCl (rW E a ln (nO (nAll (aR ab) ln)) (nD (nAll (aR ab) ln)) (nL (nAll (aR ab) ln)) row seen styX lineO'_42 tokO'_42 atO'_42 baseO'_42 kindO'_42 partO'_42 colO'_42 openO'_42 strayO'_42 stk'_42 bys'_42 was'_11 gsd'_1 cellsO sortO kLine kAt kKind) H := hP
          have hD : va_D A (rW E a ln (nO (nAll (aR ab) ln)) (nD (nAll (aR ab) ln)) (nL (nAll (aR ab) ln)) row seen styX lineO'_42 tokO'_42 atO'_42 baseO'_42 kindO'_42 partO'_42 colO'_42 openO'_42 strayO'_42 stk'_42 bys'_42 was'_11 gsd'_1 cellsO sortO kLine kAt kKind) := hD
          exact W.iret (v := r42) hx hb hr (fun tZ htZ hWZ => ⟨⟨_, (nO (nAll (aR ab) ln), nD (nAll (aR ab) ln), nL (nAll (aR ab) ln), lineO'_42, tokO'_42, atO'_42, baseO'_42, kindO'_42, partO'_42, colO'_42, openO'_42, strayO'_42, stk'_42, bys'_42, was'_11, gsd'_1, styX), rfl, by unfold fFollow; rw [if_pos hany]; exact ⟨by rw [p42.2, cols_congr (fun i hi => hst i (by omega)), hN, mvc_congr (fun j hj _ => ⟨rfl, by rw [p11.2 j (by omega), cols_congr hsg, hN]⟩)], hN, okA_style hok, hrn, hsn, fun i hi => hst i (by omega), hpk⟩, by show va_P G vwCl _ tZ.heap; rw [htZ]; exact hP⟩, hS.F htZ⟩) hS.2.2 dX6_follow_45
        · refine lv_aload_n hx hb dX6_follow_21 rfl (lv_at hl 1 rfl) ?_
          refine va_get (D := G) (ci := 6) (v := .ref (a 3)) (C := RX6) (T := TX6) (N := 25) hx hb hts hin6 hown hK hP 0 rfl rfl 3 (by decide) (hts (Cond.fieldLink RX6 16 "IndentRulesModel" "style" "[I") (List.mem_of_getElem? (i := 1) rfl)) (fun _ h9 => h9) rfl dX6_follow_22 ?_
          refine lv_iload_n hx hb dX6_follow_25 rfl (lv_at hl 0 rfl) ?_
          refine lv_aload_n hx hb dX6_follow_26 rfl (lv_at hl 1 rfl) ?_
          refine va_get (D := G) (ci := 6) (v := .ref (a 19)) (C := RX6) (T := TX6) (N := 25) hx hb hts hin6 hown hK hP 0 rfl rfl 19 (by decide) (hts (Cond.fieldLink RX6 55 "IndentRulesModel" "guessed" "[I") (List.mem_of_getElem? (i := 2) rfl)) (fun _ h9 => h9) rfl dX6_follow_27 ?_
          refine lv_iload_n hx hb dX6_follow_30 rfl (lv_at hl 0 rfl) ?_
          refine k_iald (D := G) (tys := TYS E) (j := k) (f := gsd'_1) (n := 5) hx hb hK hP 16 0 rfl rfl (by omega) (by decide) dX6_follow_31 ?_
          refine k_iast (D := G) (tys := TYS E) (j := k) (x := (gsd'_1 k)) (f := styX) (n := 4) hx hb hK hP hD hS 3 0 rfl rfl (by omega) (by decide) dX6_follow_32 (fun H locs hP hD hS => ?_)
          have hP : va_P G vwCl (rW E a ln (nO (nAll (aR ab) ln)) (nD (nAll (aR ab) ln)) (nL (nAll (aR ab) ln)) row seen (upd styX k (gsd'_1 k)) lineO'_11 tokO'_11 atO'_11 baseO'_11 kindO'_11 partO'_11 colO'_11 openO'_11 strayO'_11 stk'_11 bys'_11 was'_11 gsd'_1 cellsO sortO kLine kAt kKind) H := hP
          have hD : va_D A (rW E a ln (nO (nAll (aR ab) ln)) (nD (nAll (aR ab) ln)) (nL (nAll (aR ab) ln)) row seen (upd styX k (gsd'_1 k)) lineO'_11 tokO'_11 atO'_11 baseO'_11 kindO'_11 partO'_11 colO'_11 openO'_11 strayO'_11 stk'_11 bys'_11 was'_11 gsd'_1 cellsO sortO kLine kAt kKind) := hD
          obtain ⟨f32, ef32⟩ : ∃ z : Nat → Int32, z = upd styX k (gsd'_1 k) := ⟨_, rfl⟩
          rw [← ef32] at hP hD
          refine lv_iinc (v := (nI (k + 1))) (lv' := [(1, .int (nI (k + 1))), (0, .ref (a 0))]) hx hb dX6_follow_33 hl (k := 0) rfl (k_inc k) (by decide) rfl (fun ls hl => ?_)
          refine lv_goto (tgt := 16) hx hb dX6_follow_36 (by decide) ?_
          exact ih16 (k + 1) f32 _ _ (by omega) (upd_all ef32 (p1.2.1 k (by omega)) hst) (by omega) hP hD hS ls (lv_sub hl [0, 1] rfl)
    exact lp16 (4 - 0 + 1) 0 sty _ _ (by decide) (fun i hi => absurd hi (Nat.not_lt_zero _)) (Nat.lt_succ_self _) hP hD hS ls (lv_sub hl [0, 1] rfl)
  · refine n_if_ne (a := 0) (tgt := 10) hx hb (by decide) dX6_follow_4 (by decide) (fun c4 => absurd c4 (by decide)) (fun c4 => ?_)
    refine lv_bipush (v := (-3)) hx hb dX6_follow_7 (by decide) ?_
    exact W.iret (v := (-3)) hx hb hr (fun tZ htZ hWZ => ⟨⟨_, (op'_1, dp'_1, la'_1, lineO'_1, tokO'_1, atO'_1, baseO'_1, kindO'_1, partO'_1, colO'_1, openO'_1, strayO'_1, stk'_1, bys'_1, was'_1, gsd'_1, sty), rfl, by unfold fFollow; rw [if_neg hany]; exact ⟨rfl, hab⟩, by show va_P G vwCl _ tZ.heap; rw [htZ]; exact hP⟩, hS.F htZ⟩) hS.2.2 dX6_follow_9
