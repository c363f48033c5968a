set_option maxHeartbeats 4000000 in
set_option maxRecDepth 100000 in
theorem c_X6_goesToken (l : Launch) (G : va_G) (E : cEnv) (a : Nat → Nat) (ln : Nat) (row seen sty lineO tokO atO baseO kindO partO colO openO strayO stk bys was gsd cellsO sortO kLine kAt kKind : Nat → Int32) (li k t : Nat) (x : Int32) (S : NS) (C : Nat → Int32) (mm L bb : Nat) (hli : li < 20) (hlm : li < mm) (hlL : li < L) (hrow : row li = nI t) (ht : t < 1000000000) (hz : nzb t = true) (hk : k < pres t) (hxx : x = C li + nI (wsum t k)) (hRR : RR (bys 2) S C mm lineO tokO atO baseO kindO partO colO openO strayO stk) (hwf : wfN S L bb) (hbb : bb < 180) (sz : Nat) : Met l yX6_goesToken wsX6_goesToken ({ frames := 2, cells := 0, slots := 0, locals := 45 }) (va_Pc [.ref (a 0), .int (nI li), .int (nI k), .int (nI (len t)), .int x] (PW G E (rW E a ln (nO S) (nD S) (nL S) row seen sty lineO tokO atO baseO kindO partO colO openO strayO stk bys was gsd cellsO sortO kLine kAt kKind) sz)) (va_Qv (fun (u : (Nat → Int32) × (Nat → Int32) × (Nat → Int32) × (Nat → Int32) × (Nat → Int32) × (Nat → Int32) × (Nat → Int32) × (Nat → Int32)) => RR (bys 2) (nTok t li k S) (C) (mm) u.1 u.2.1 u.2.2.1 u.2.2.2.1 u.2.2.2.2.1 u.2.2.2.2.2.1 colO openO u.2.2.2.2.2.2.1 u.2.2.2.2.2.2.2) (fun (u : (Nat → Int32) × (Nat → Int32) × (Nat → Int32) × (Nat → Int32) × (Nat → Int32) × (Nat → Int32) × (Nat → Int32) × (Nat → Int32)) tQ => va_P G vwCl (rW E a ln (nO (nTok t li k S)) (nD (nTok t li k S)) (nL (nTok t li k S)) row seen sty u.1 u.2.1 u.2.2.1 u.2.2.2.1 u.2.2.2.2.1 u.2.2.2.2.2.1 colO openO u.2.2.2.2.2.2.1 u.2.2.2.2.2.2.2 bys was gsd cellsO sortO kLine kAt kKind) tQ.heap) (va_A (rW E a ln (nO S) (nD S) (nL S) row seen sty lineO tokO atO baseO kindO partO colO openO strayO stk bys was gsd cellsO sortO kLine kAt kKind) sz)) 0 0 (va_A (rW E a ln (nO S) (nD S) (nL S) row seen sty lineO tokO atO baseO kindO partO colO openO strayO stk bys was gsd cellsO sortO kLine kAt kKind) sz) := by
  refine Met.ofW (cc := cX6_goesToken) (maxL := 6) (ret := none) (by decide) rfl ?_
  intro p e s m args below meth c s₁ B hml hv
  obtain ⟨rfl, hsz, hP, hK, hD0, hZ⟩ := hv
  have hx := B.exec
  have hb := B.bytes
  have hr := B.returns
  have hts := atoms_spec (ws := wsX6_goesToken) B.pre
  have hown : s.vm.findClass RX6 = some m.cls := findClass_of_methodNamed B.named
  have hlocks := B.notSynchronized
  have hin6 : ∀ w ∈ u_ws RX6 TX6 25, w ∈ wsX6_goesToken := mem_pl [34, 35, 36, 37, 38, 39, 40, 41, 42, 43, 44, 45, 46, 47, 48, 49, 50, 51, 52, 53, 54, 55, 56, 57, 58] (by rfl)
  subst hsz
  have hD := hD0.self (sz := s.heap.size)
  generalize hAe : va_A (rW E a ln (nO S) (nD S) (nL S) row seen sty lineO tokO atO baseO kindO partO colO openO strayO stk bys was gsd cellsO sortO kLine kAt kKind) s.heap.size = A at hD hZ ⊢
  have hA : ∀ q : Nat, s.heap.size ≤ q → A q := fun q h => by rw [← hAe]; exact Or.inr h
  have hS : va_S A s.heap s.heap [] := va_S.rf
  have hl := lv_entry ([.ref (a 0), .int (nI li), .int (nI k), .int (nI (len t)), .int x]) (n := 6) (Nat.le_of_ble_eq_true rfl)
  rw [lg_entry_eq]
  generalize (lg_sl ([.ref (a 0), .int (nI li), .int (nI k), .int (nI (len t)), .int x]) ++ List.replicate (6 - (lg_sl ([.ref (a 0), .int (nI li), .int (nI k), .int (nI (len t)), .int x])).length) Slot.unset).toArray = ls at hl ⊢
  have hl : lv_has ls 6 [(0, .ref (a 0)), (1, .int (nI li)), (2, .int (nI k)), (3, .int (nI (len t))), (4, .int x)] := hl
  have hlt := pres_le t
  have hl9 := (len_lt 9 t).mp ht
  have htk := tok_lt t k
  have hwo := hwf.2.1
  have hwd := hwf.1
  refine lv_aload_n hx hb dX6_goesToken_0 rfl (lv_at hl 0 rfl) ?_
  refine va_get (D := G) (ci := 6) (v := .ref (a 1)) (C := RX6) (T := TX6) (N := 25) hx hb hts hin6 hown hK hP 0 rfl rfl 1 (by decide) (hts (Cond.fieldLink RX6 7 "IndentRulesModel" "row" "[I") (List.mem_of_getElem? (i := 1) rfl)) (fun _ h9 => h9) rfl dX6_goesToken_1 ?_
  refine lv_iload_n hx hb dX6_goesToken_4 rfl (lv_at hl 1 rfl) ?_
  refine k_iald (D := G) (tys := TYS E) (j := li) (f := row) (n := 20) hx hb hK hP 1 0 rfl rfl (by omega) (by decide) dX6_goesToken_5 ?_
  rw [hrow]
  refine lv_iload_n hx hb dX6_goesToken_6 rfl (lv_at hl 2 rfl) ?_
  refine rs_i (n := 2) (G := G) (E := E) (As := [.int (nI t), .int (nI k)]) (rest := []) ⟨hx, hb, hml, hown, hts⟩ hK hZ hS (c_X6_tokenAt l G E t k (by first | assumption | omega) (by first | assumption | omega)) gX6_goesToken_X6_tokenAt rfl rfl rfl (by decide +kernel) ⟨Nat.le_of_ble_eq_true rfl, Nat.le_of_ble_eq_true rfl⟩ (fun k q h => by simp at h) hl.1 rfl rfl (Nat.le_of_ble_eq_true rfl) dX6_goesToken_7 ⟨Nat.zero_le _, Nat.zero_le _⟩ (fun r7 p7 => ?_)
  subst p7
  refine lv_istore (lv' := [(5, .int (nI (tok t k))), (0, .ref (a 0)), (1, .int (nI li)), (2, .int (nI k)), (3, .int (nI (len t))), (4, .int x)]) hx hb dX6_goesToken_10 hl (by decide) rfl (fun ls hl => ?_)
  refine lv_iload hx hb dX6_goesToken_12 (lv_at hl 0 rfl) ?_
  by_cases h14_2 : tok t k = 2
  · refine lv_tableIn (off := 30) (tgt := 44) hx hb dX6_goesToken_14 (by rw [h14_2]; decide) (by rw [h14_2]; decide) (by rw [h14_2]; decide) (by decide) ?_
    refine lv_aload_n hx hb dX6_goesToken_44 rfl (lv_at hl 1 rfl) ?_
    refine lv_iload_n hx hb dX6_goesToken_45 rfl (lv_at hl 2 rfl) ?_
    refine lv_iload_n hx hb dX6_goesToken_46 rfl (lv_at hl 3 rfl) ?_
    refine lv_iload hx hb dX6_goesToken_47 (lv_at hl 5 rfl) ?_
    refine lv_iconst (v := (nI 1)) hx hb dX6_goesToken_49 (by decide) ?_
    refine wf_v (n := 4) (G := G) (E := E) (As := [.int (nI li), .int (nI k), .int x, .int (nI 1)]) (rest := []) (ci := 6) (q0 := 0) (wn := fun (_ : Unit) => rW E a ln ((nO S) + 1) ((nD S) + 1) (nL S) row seen sty (upd lineO (nO S) (nI li)) (upd tokO (nO S) (nI k)) (upd atO (nO S) x) (upd baseO (nO S) (colO li)) (upd kindO (nO S) (nI 1)) (upd partO (nO S) (-9)) colO openO strayO (upd stk (nD S) (nI (nO S))) bys was gsd cellsO sortO kLine kAt kKind) ⟨hx, hb, hml, hown, hts⟩ hK hZ hS hA (fun sz => c_X6_comes l G E a ln (nO S) (nD S) (nL S) row seen sty lineO tokO atO baseO kindO partO colO openO strayO stk bys was gsd cellsO sortO kLine kAt kKind li k x 1 (by first | assumption | omega) (by first | assumption | omega) (by first | assumption | omega) sz) gX6_goesToken_X6_comes rfl rfl rfl (by decide +kernel) ⟨Nat.le_of_ble_eq_true rfl, Nat.le_of_ble_eq_true rfl⟩ hP hD (fun _ => rfl) rfl rfl hl.1 rfl rfl (Nat.le_of_ble_eq_true rfl) dX6_goesToken_50 ⟨Nat.zero_le _, Nat.zero_le _⟩ (fun u50 H locs p50 hP hD hS => ?_)
    have hP : va_P G vwCl (rW E a ln ((nO S) + 1) ((nD S) + 1) (nL S) row seen sty (upd lineO (nO S) (nI li)) (upd tokO (nO S) (nI k)) (upd atO (nO S) x) (upd baseO (nO S) (colO li)) (upd kindO (nO S) (nI 1)) (upd partO (nO S) (-9)) colO openO strayO (upd stk (nD S) (nI (nO S))) bys was gsd cellsO sortO kLine kAt kKind) H := hP
    have hD : va_D A (rW E a ln ((nO S) + 1) ((nD S) + 1) (nL S) row seen sty (upd lineO (nO S) (nI li)) (upd tokO (nO S) (nI k)) (upd atO (nO S) x) (upd baseO (nO S) (colO li)) (upd kindO (nO S) (nI 1)) (upd partO (nO S) (-9)) colO openO strayO (upd stk (nD S) (nI (nO S))) bys was gsd cellsO sortO kLine kAt kKind) := hD
    refine lv_goto (tgt := 124) hx hb dX6_goesToken_53 (by decide) ?_
    refine lv_aload_n hx hb dX6_goesToken_124 rfl (lv_at hl 1 rfl) ?_
    refine lv_iload hx hb dX6_goesToken_125 (lv_at hl 0 rfl) ?_
    refine lv_bipush (v := (nI 9)) hx hb dX6_goesToken_127 (by decide) ?_
    refine n_icmp_ne (a := (tok t k)) (b := 9) (tgt := 139) hx hb (by omega) (by decide) dX6_goesToken_129 (by decide) (fun c129 => ?_) (fun c129 => absurd c129 (by omega))
    refine lv_iload hx hb dX6_goesToken_139 (lv_at hl 0 rfl) ?_
    refine va_put (D := G) (ci := 6) (v := .int (nI (tok t k))) (ty := .int) (C := RX6) (T := TX6) (N := 25) hx hb hts hin6 tyX6 tyX6_ok nmX6 hown hK hP hD hS 0 rfl rfl 16 (by decide) (hts (Cond.fieldLink RX6 92 "IndentRulesModel" "last" "I") (List.mem_of_getElem? (i := 3) rfl)) (fun _ h9 => h9) rfl (by decide +kernel) rfl rfl (Nat.le_of_ble_eq_true rfl) dX6_goesToken_141 (fun H locs hP hD hS => ?_)
    have hP : va_P G vwCl (rW E a ln ((nO S) + 1) ((nD S) + 1) (tok t k) row seen sty (upd lineO (nO S) (nI li)) (upd tokO (nO S) (nI k)) (upd atO (nO S) x) (upd baseO (nO S) (colO li)) (upd kindO (nO S) (nI 1)) (upd partO (nO S) (-9)) colO openO strayO (upd stk (nD S) (nI (nO S))) bys was gsd cellsO sortO kLine kAt kKind) H := hP
    have hD : va_D A (rW E a ln ((nO S) + 1) ((nD S) + 1) (tok t k) row seen sty (upd lineO (nO S) (nI li)) (upd tokO (nO S) (nI k)) (upd atO (nO S) x) (upd baseO (nO S) (colO li)) (upd kindO (nO S) (nI 1)) (upd partO (nO S) (-9)) colO openO strayO (upd stk (nD S) (nI (nO S))) bys was gsd cellsO sortO kLine kAt kKind) := hD
    exact W.vret hx hb hr (fun tZ htZ hWZ => ⟨⟨((upd lineO (nO S) (nI li)), (upd tokO (nO S) (nI k)), (upd atO (nO S) x), (upd baseO (nO S) (colO li)), (upd kindO (nO S) (nI 1)), (upd partO (nO S) (-9)), strayO, (upd stk (nD S) (nI (nO S)))), rfl, by rw [nTok_2 (by omega)]; rw [hxx]; exact RR_last (RR_open (t := t) (i := k) hRR hwf (by rw [if_pos h14_2]) (hRR.2.1 li hlm).1.symm) rfl rfl rfl, by show va_P G vwCl _ tZ.heap; rw [htZ, nTok_2 (by omega)]; exact hP⟩, hS.F htZ⟩) hS.2.2 dX6_goesToken_144
  by_cases h14_3 : tok t k = 3
  · refine lv_tableIn (off := 42) (tgt := 56) hx hb dX6_goesToken_14 (by rw [h14_3]; decide) (by rw [h14_3]; decide) (by rw [h14_3]; decide) (by decide) ?_
    refine lv_aload_n hx hb dX6_goesToken_56 rfl (lv_at hl 1 rfl) ?_
    refine lv_iload_n hx hb dX6_goesToken_57 rfl (lv_at hl 2 rfl) ?_
    refine lv_iconst (v := (nI 1)) hx hb dX6_goesToken_58 (by decide) ?_
    refine wf_v (n := 2) (G := G) (E := E) (As := [.int (nI li), .int (nI 1)]) (rest := []) (ci := 6) (q0 := 0) (wn := fun (u : (Nat → Int32) × (Nat → Int32)) => rW E a ln (nO S) (nD (nClose (if 1 = 1 then 2 else 4) li S)) (nL S) row seen sty lineO tokO atO baseO kindO u.1 colO openO u.2 stk bys was gsd cellsO sortO kLine kAt kKind) ⟨hx, hb, hml, hown, hts⟩ hK hZ hS hA (fun sz => c_X6_closes l G E a ln row seen sty lineO tokO atO baseO kindO partO colO openO strayO stk bys was gsd cellsO sortO kLine kAt kKind li 1 S C mm L bb (by first | assumption | omega) (by first | assumption | omega) (by first | assumption | omega) (by first | assumption | omega) (by first | assumption | omega) (by first | assumption | omega) sz) gX6_goesToken_X6_closes rfl rfl rfl (by decide +kernel) ⟨Nat.le_of_ble_eq_true rfl, Nat.le_of_ble_eq_true rfl⟩ hP hD (fun _ => rfl) rfl rfl hl.1 rfl rfl (Nat.le_of_ble_eq_true rfl) dX6_goesToken_59 ⟨Nat.zero_le _, Nat.zero_le _⟩ (fun u59 H locs p59 hP hD hS => ?_)
    obtain ⟨partO'_59, strayO'_59⟩ := u59
    try dsimp only at p59 hP hD
    have hP : va_P G vwCl (rW E a ln (nO S) (nD (nClose (if 1 = 1 then 2 else 4) li S)) (nL S) row seen sty lineO tokO atO baseO kindO partO'_59 colO openO strayO'_59 stk bys was gsd cellsO sortO kLine kAt kKind) H := hP
    have hD : va_D A (rW E a ln (nO S) (nD (nClose (if 1 = 1 then 2 else 4) li S)) (nL S) row seen sty lineO tokO atO baseO kindO partO'_59 colO openO strayO'_59 stk bys was gsd cellsO sortO kLine kAt kKind) := hD
    refine lv_goto (tgt := 124) hx hb dX6_goesToken_62 (by decide) ?_
    refine lv_aload_n hx hb dX6_goesToken_124 rfl (lv_at hl 1 rfl) ?_
    refine lv_iload hx hb dX6_goesToken_125 (lv_at hl 0 rfl) ?_
    refine lv_bipush (v := (nI 9)) hx hb dX6_goesToken_127 (by decide) ?_
    refine n_icmp_ne (a := (tok t k)) (b := 9) (tgt := 139) hx hb (by omega) (by decide) dX6_goesToken_129 (by decide) (fun c129 => ?_) (fun c129 => absurd c129 (by omega))
    refine lv_iload hx hb dX6_goesToken_139 (lv_at hl 0 rfl) ?_
    refine va_put (D := G) (ci := 6) (v := .int (nI (tok t k))) (ty := .int) (C := RX6) (T := TX6) (N := 25) hx hb hts hin6 tyX6 tyX6_ok nmX6 hown hK hP hD hS 0 rfl rfl 16 (by decide) (hts (Cond.fieldLink RX6 92 "IndentRulesModel" "last" "I") (List.mem_of_getElem? (i := 3) rfl)) (fun _ h9 => h9) rfl (by decide +kernel) rfl rfl (Nat.le_of_ble_eq_true rfl) dX6_goesToken_141 (fun H locs hP hD hS => ?_)
    have hP : va_P G vwCl (rW E a ln (nO S) (nD (nClose (if 1 = 1 then 2 else 4) li S)) (tok t k) row seen sty lineO tokO atO baseO kindO partO'_59 colO openO strayO'_59 stk bys was gsd cellsO sortO kLine kAt kKind) H := hP
    have hD : va_D A (rW E a ln (nO S) (nD (nClose (if 1 = 1 then 2 else 4) li S)) (tok t k) row seen sty lineO tokO atO baseO kindO partO'_59 colO openO strayO'_59 stk bys was gsd cellsO sortO kLine kAt kKind) := hD
    exact W.vret hx hb hr (fun tZ htZ hWZ => ⟨⟨(lineO, tokO, atO, baseO, kindO, partO'_59, strayO'_59, stk), rfl, by rw [nTok_3 h14_3]; exact RR_last p59 (by rw [nClose_O]) rfl rfl, by show va_P G vwCl _ tZ.heap; rw [htZ, nTok_3 h14_3]; exact hP⟩, hS.F htZ⟩) hS.2.2 dX6_goesToken_144
  by_cases h14_4 : tok t k = 4
  · refine lv_tableIn (off := 51) (tgt := 65) hx hb dX6_goesToken_14 (by rw [h14_4]; decide) (by rw [h14_4]; decide) (by rw [h14_4]; decide) (by decide) ?_
    refine lv_aload_n hx hb dX6_goesToken_65 rfl (lv_at hl 1 rfl) ?_
    refine lv_iload_n hx hb dX6_goesToken_66 rfl (lv_at hl 2 rfl) ?_
    refine lv_iload_n hx hb dX6_goesToken_67 rfl (lv_at hl 3 rfl) ?_
    refine lv_iload hx hb dX6_goesToken_68 (lv_at hl 5 rfl) ?_
    refine lv_aload_n hx hb dX6_goesToken_70 rfl (lv_at hl 1 rfl) ?_
    refine va_get (D := G) (ci := 6) (v := .ref (a 17)) (C := RX6) (T := TX6) (N := 25) hx hb hts hin6 hown hK hP 0 rfl rfl 17 (by decide) (hts (Cond.fieldLink RX6 49 "IndentRulesModel" "by" "[I") (List.mem_of_getElem? (i := 2) rfl)) (fun _ h9 => h9) rfl dX6_goesToken_71 ?_
    refine lv_iconst (v := (nI 2)) hx hb dX6_goesToken_74 (by decide) ?_
    refine k_iald (D := G) (tys := TYS E) (j := 2) (f := bys) (n := 4) hx hb hK hP 14 0 rfl rfl (by decide) (by decide) dX6_goesToken_75 ?_
    refine lv_iconst (v := (nI 1)) hx hb dX6_goesToken_76 (by decide) ?_
    refine lv_icmp_ne (x := (bys 2)) (y := (nI 1)) (tgt := 108) hx hb dX6_goesToken_77 (by decide) (fun c77 => ?_) (fun c77 => ?_)
    · refine lv_iconst (v := (nI 2)) hx hb dX6_goesToken_108 (by decide) ?_
      refine wf_v (n := 4) (G := G) (E := E) (As := [.int (nI li), .int (nI k), .int x, .int (nI 2)]) (rest := []) (ci := 6) (q0 := 0) (wn := fun (_ : Unit) => rW E a ln ((nO S) + 1) ((nD S) + 1) (nL S) row seen sty (upd lineO (nO S) (nI li)) (upd tokO (nO S) (nI k)) (upd atO (nO S) x) (upd baseO (nO S) (colO li)) (upd kindO (nO S) (nI 2)) (upd partO (nO S) (-9)) colO openO strayO (upd stk (nD S) (nI (nO S))) bys was gsd cellsO sortO kLine kAt kKind) ⟨hx, hb, hml, hown, hts⟩ hK hZ hS hA (fun sz => c_X6_comes l G E a ln (nO S) (nD S) (nL S) row seen sty lineO tokO atO baseO kindO partO colO openO strayO stk bys was gsd cellsO sortO kLine kAt kKind li k x 2 (by first | assumption | omega) (by first | assumption | omega) (by first | assumption | omega) sz) gX6_goesToken_X6_comes rfl rfl rfl (by decide +kernel) ⟨Nat.le_of_ble_eq_true rfl, Nat.le_of_ble_eq_true rfl⟩ hP hD (fun _ => rfl) rfl rfl hl.1 rfl rfl (Nat.le_of_ble_eq_true rfl) dX6_goesToken_109 ⟨Nat.zero_le _, Nat.zero_le _⟩ (fun u109 H locs p109 hP hD hS => ?_)
      have hP : va_P G vwCl (rW E a ln ((nO S) + 1) ((nD S) + 1) (nL S) row seen sty (upd lineO (nO S) (nI li)) (upd tokO (nO S) (nI k)) (upd atO (nO S) x) (upd baseO (nO S) (colO li)) (upd kindO (nO S) (nI 2)) (upd partO (nO S) (-9)) colO openO strayO (upd stk (nD S) (nI (nO S))) bys was gsd cellsO sortO kLine kAt kKind) H := hP
      have hD : va_D A (rW E a ln ((nO S) + 1) ((nD S) + 1) (nL S) row seen sty (upd lineO (nO S) (nI li)) (upd tokO (nO S) (nI k)) (upd atO (nO S) x) (upd baseO (nO S) (colO li)) (upd kindO (nO S) (nI 2)) (upd partO (nO S) (-9)) colO openO strayO (upd stk (nD S) (nI (nO S))) bys was gsd cellsO sortO kLine kAt kKind) := hD
      refine lv_goto (tgt := 124) hx hb dX6_goesToken_112 (by decide) ?_
      refine lv_aload_n hx hb dX6_goesToken_124 rfl (lv_at hl 1 rfl) ?_
      refine lv_iload hx hb dX6_goesToken_125 (lv_at hl 0 rfl) ?_
      refine lv_bipush (v := (nI 9)) hx hb dX6_goesToken_127 (by decide) ?_
      refine n_icmp_ne (a := (tok t k)) (b := 9) (tgt := 139) hx hb (by omega) (by decide) dX6_goesToken_129 (by decide) (fun c129 => ?_) (fun c129 => absurd c129 (by omega))
      refine lv_iload hx hb dX6_goesToken_139 (lv_at hl 0 rfl) ?_
      refine va_put (D := G) (ci := 6) (v := .int (nI (tok t k))) (ty := .int) (C := RX6) (T := TX6) (N := 25) hx hb hts hin6 tyX6 tyX6_ok nmX6 hown hK hP hD hS 0 rfl rfl 16 (by decide) (hts (Cond.fieldLink RX6 92 "IndentRulesModel" "last" "I") (List.mem_of_getElem? (i := 3) rfl)) (fun _ h9 => h9) rfl (by decide +kernel) rfl rfl (Nat.le_of_ble_eq_true rfl) dX6_goesToken_141 (fun H locs hP hD hS => ?_)
      have hP : va_P G vwCl (rW E a ln ((nO S) + 1) ((nD S) + 1) (tok t k) row seen sty (upd lineO (nO S) (nI li)) (upd tokO (nO S) (nI k)) (upd atO (nO S) x) (upd baseO (nO S) (colO li)) (upd kindO (nO S) (nI 2)) (upd partO (nO S) (-9)) colO openO strayO (upd stk (nD S) (nI (nO S))) bys was gsd cellsO sortO kLine kAt kKind) H := hP
      have hD : va_D A (rW E a ln ((nO S) + 1) ((nD S) + 1) (tok t k) row seen sty (upd lineO (nO S) (nI li)) (upd tokO (nO S) (nI k)) (upd atO (nO S) x) (upd baseO (nO S) (colO li)) (upd kindO (nO S) (nI 2)) (upd partO (nO S) (-9)) colO openO strayO (upd stk (nD S) (nI (nO S))) bys was gsd cellsO sortO kLine kAt kKind) := hD
      exact W.vret hx hb hr (fun tZ htZ hWZ => ⟨⟨((upd lineO (nO S) (nI li)), (upd tokO (nO S) (nI k)), (upd atO (nO S) x), (upd baseO (nO S) (colO li)), (upd kindO (nO S) (nI 2)), (upd partO (nO S) (-9)), strayO, (upd stk (nD S) (nI (nO S)))), rfl, by rw [nTok_2 (by omega)]; rw [hxx]; exact RR_last (RR_open (t := t) (i := k) hRR hwf (by rw [if_neg (by omega), if_neg (fun q => c77 q.1)]) (hRR.2.1 li hlm).1.symm) rfl rfl rfl, by show va_P G vwCl _ tZ.heap; rw [htZ, nTok_2 (by omega)]; exact hP⟩, hS.F htZ⟩) hS.2.2 dX6_goesToken_144
    · refine lv_iload_n hx hb dX6_goesToken_80 rfl (lv_at hl 3 rfl) ?_
      refine lv_iconst (v := (nI 1)) hx hb dX6_goesToken_81 (by decide) ?_
      refine k_iadd (a := k) (b := 1) hx hb dX6_goesToken_82 ?_
      refine lv_iload_n hx hb dX6_goesToken_83 rfl (lv_at hl 4 rfl) ?_
      refine n_icmp_ge (a := (k + 1)) (b := (len t)) (tgt := 108) hx hb (by omega) (by omega) dX6_goesToken_84 (by decide) (fun c84 => ?_) (fun c84 => ?_)
      · refine lv_iconst (v := (nI 2)) hx hb dX6_goesToken_108 (by decide) ?_
        refine wf_v (n := 4) (G := G) (E := E) (As := [.int (nI li), .int (nI k), .int x, .int (nI 2)]) (rest := []) (ci := 6) (q0 := 0) (wn := fun (_ : Unit) => rW E a ln ((nO S) + 1) ((nD S) + 1) (nL S) row seen sty (upd lineO (nO S) (nI li)) (upd tokO (nO S) (nI k)) (upd atO (nO S) x) (upd baseO (nO S) (colO li)) (upd kindO (nO S) (nI 2)) (upd partO (nO S) (-9)) colO openO strayO (upd stk (nD S) (nI (nO S))) bys was gsd cellsO sortO kLine kAt kKind) ⟨hx, hb, hml, hown, hts⟩ hK hZ hS hA (fun sz => c_X6_comes l G E a ln (nO S) (nD S) (nL S) row seen sty lineO tokO atO baseO kindO partO colO openO strayO stk bys was gsd cellsO sortO kLine kAt kKind li k x 2 (by first | assumption | omega) (by first | assumption | omega) (by first | assumption | omega) sz) gX6_goesToken_X6_comes rfl rfl rfl (by decide +kernel) ⟨Nat.le_of_ble_eq_true rfl, Nat.le_of_ble_eq_true rfl⟩ hP hD (fun _ => rfl) rfl rfl hl.1 rfl rfl (Nat.le_of_ble_eq_true rfl) dX6_goesToken_109 ⟨Nat.zero_le _, Nat.zero_le _⟩ (fun u109 H locs p109 hP hD hS => ?_)
        have hP : va_P G vwCl (rW E a ln ((nO S) + 1) ((nD S) + 1) (nL S) row seen sty (upd lineO (nO S) (nI li)) (upd tokO (nO S) (nI k)) (upd atO (nO S) x) (upd baseO (nO S) (colO li)) (upd kindO (nO S) (nI 2)) (upd partO (nO S) (-9)) colO openO strayO (upd stk (nD S) (nI (nO S))) bys was gsd cellsO sortO kLine kAt kKind) H := hP
        have hD : va_D A (rW E a ln ((nO S) + 1) ((nD S) + 1) (nL S) row seen sty (upd lineO (nO S) (nI li)) (upd tokO (nO S) (nI k)) (upd atO (nO S) x) (upd baseO (nO S) (colO li)) (upd kindO (nO S) (nI 2)) (upd partO (nO S) (-9)) colO openO strayO (upd stk (nD S) (nI (nO S))) bys was gsd cellsO sortO kLine kAt kKind) := hD
        refine lv_goto (tgt := 124) hx hb dX6_goesToken_112 (by decide) ?_
        refine lv_aload_n hx hb dX6_goesToken_124 rfl (lv_at hl 1 rfl) ?_
        refine lv_iload hx hb dX6_goesToken_125 (lv_at hl 0 rfl) ?_
        refine lv_bipush (v := (nI 9)) hx hb dX6_goesToken_127 (by decide) ?_
        refine n_icmp_ne (a := (tok t k)) (b := 9) (tgt := 139) hx hb (by omega) (by decide) dX6_goesToken_129 (by decide) (fun c129 => ?_) (fun c129 => absurd c129 (by omega))
        refine lv_iload hx hb dX6_goesToken_139 (lv_at hl 0 rfl) ?_
        refine va_put (D := G) (ci := 6) (v := .int (nI (tok t k))) (ty := .int) (C := RX6) (T := TX6) (N := 25) hx hb hts hin6 tyX6 tyX6_ok nmX6 hown hK hP hD hS 0 rfl rfl 16 (by decide) (hts (Cond.fieldLink RX6 92 "IndentRulesModel" "last" "I") (List.mem_of_getElem? (i := 3) rfl)) (fun _ h9 => h9) rfl (by decide +kernel) rfl rfl (Nat.le_of_ble_eq_true rfl) dX6_goesToken_141 (fun H locs hP hD hS => ?_)
        have hP : va_P G vwCl (rW E a ln ((nO S) + 1) ((nD S) + 1) (tok t k) row seen sty (upd lineO (nO S) (nI li)) (upd tokO (nO S) (nI k)) (upd atO (nO S) x) (upd baseO (nO S) (colO li)) (upd kindO (nO S) (nI 2)) (upd partO (nO S) (-9)) colO openO strayO (upd stk (nD S) (nI (nO S))) bys was gsd cellsO sortO kLine kAt kKind) H := hP
        have hD : va_D A (rW E a ln ((nO S) + 1) ((nD S) + 1) (tok t k) row seen sty (upd lineO (nO S) (nI li)) (upd tokO (nO S) (nI k)) (upd atO (nO S) x) (upd baseO (nO S) (colO li)) (upd kindO (nO S) (nI 2)) (upd partO (nO S) (-9)) colO openO strayO (upd stk (nD S) (nI (nO S))) bys was gsd cellsO sortO kLine kAt kKind) := hD
        exact W.vret hx hb hr (fun tZ htZ hWZ => ⟨⟨((upd lineO (nO S) (nI li)), (upd tokO (nO S) (nI k)), (upd atO (nO S) x), (upd baseO (nO S) (colO li)), (upd kindO (nO S) (nI 2)), (upd partO (nO S) (-9)), strayO, (upd stk (nD S) (nI (nO S)))), rfl, by rw [nTok_2 (by omega)]; rw [hxx]; exact RR_last (RR_open (t := t) (i := k) hRR hwf (by rw [if_neg (by omega), if_neg (fun q => absurd ((folw_n hk (by omega)).mp q.2).1 (by omega))]) (hRR.2.1 li hlm).1.symm) rfl rfl rfl, by show va_P G vwCl _ tZ.heap; rw [htZ, nTok_2 (by omega)]; exact hP⟩, hS.F htZ⟩) hS.2.2 dX6_goesToken_144
      · refine lv_aload_n hx hb dX6_goesToken_87 rfl (lv_at hl 1 rfl) ?_
        refine va_get (D := G) (ci := 6) (v := .ref (a 1)) (C := RX6) (T := TX6) (N := 25) hx hb hts hin6 hown hK hP 0 rfl rfl 1 (by decide) (hts (Cond.fieldLink RX6 7 "IndentRulesModel" "row" "[I") (List.mem_of_getElem? (i := 1) rfl)) (fun _ h9 => h9) rfl dX6_goesToken_88 ?_
        refine lv_iload_n hx hb dX6_goesToken_91 rfl (lv_at hl 2 rfl) ?_
        refine k_iald (D := G) (tys := TYS E) (j := li) (f := row) (n := 20) hx hb hK hP 1 0 rfl rfl (by omega) (by decide) dX6_goesToken_92 ?_
        rw [hrow]
        refine lv_iload_n hx hb dX6_goesToken_93 rfl (lv_at hl 3 rfl) ?_
        refine lv_iconst (v := (nI 1)) hx hb dX6_goesToken_94 (by decide) ?_
        refine k_iadd (a := k) (b := 1) hx hb dX6_goesToken_95 ?_
        refine rs_i (n := 2) (G := G) (E := E) (As := [.int (nI t), .int (nI (k + 1))]) (rest := [.int x, .int (nI k), .int (nI li), .ref (a 0)]) ⟨hx, hb, hml, hown, hts⟩ hK hZ hS (c_X6_tokenAt l G E t (k + 1) (by first | assumption | omega) (by first | assumption | omega)) gX6_goesToken_X6_tokenAt rfl rfl rfl (by decide +kernel) ⟨Nat.le_of_ble_eq_true rfl, Nat.le_of_ble_eq_true rfl⟩ (fun k q h => by simp at h) hl.1 rfl rfl (Nat.le_of_ble_eq_true rfl) dX6_goesToken_96 ⟨Nat.zero_le _, Nat.zero_le _⟩ (fun r96 p96 => ?_)
        subst p96
        refine lv_bipush (v := (nI 9)) hx hb dX6_goesToken_99 (by decide) ?_
        refine n_icmp_eq (a := (tok t (k + 1))) (b := 9) (tgt := 108) hx hb (by have := tok_lt t (k + 1); omega) (by decide) dX6_goesToken_101 (by decide) (fun c101 => ?_) (fun c101 => ?_)
        · refine lv_iconst (v := (nI 2)) hx hb dX6_goesToken_108 (by decide) ?_
          refine wf_v (n := 4) (G := G) (E := E) (As := [.int (nI li), .int (nI k), .int x, .int (nI 2)]) (rest := []) (ci := 6) (q0 := 0) (wn := fun (_ : Unit) => rW E a ln ((nO S) + 1) ((nD S) + 1) (nL S) row seen sty (upd lineO (nO S) (nI li)) (upd tokO (nO S) (nI k)) (upd atO (nO S) x) (upd baseO (nO S) (colO li)) (upd kindO (nO S) (nI 2)) (upd partO (nO S) (-9)) colO openO strayO (upd stk (nD S) (nI (nO S))) bys was gsd cellsO sortO kLine kAt kKind) ⟨hx, hb, hml, hown, hts⟩ hK hZ hS hA (fun sz => c_X6_comes l G E a ln (nO S) (nD S) (nL S) row seen sty lineO tokO atO baseO kindO partO colO openO strayO stk bys was gsd cellsO sortO kLine kAt kKind li k x 2 (by first | assumption | omega) (by first | assumption | omega) (by first | assumption | omega) sz) gX6_goesToken_X6_comes rfl rfl rfl (by decide +kernel) ⟨Nat.le_of_ble_eq_true rfl, Nat.le_of_ble_eq_true rfl⟩ hP hD (fun _ => rfl) rfl rfl hl.1 rfl rfl (Nat.le_of_ble_eq_true rfl) dX6_goesToken_109 ⟨Nat.zero_le _, Nat.zero_le _⟩ (fun u109 H locs p109 hP hD hS => ?_)
          have hP : va_P G vwCl (rW E a ln ((nO S) + 1) ((nD S) + 1) (nL S) row seen sty (upd lineO (nO S) (nI li)) (upd tokO (nO S) (nI k)) (upd atO (nO S) x) (upd baseO (nO S) (colO li)) (upd kindO (nO S) (nI 2)) (upd partO (nO S) (-9)) colO openO strayO (upd stk (nD S) (nI (nO S))) bys was gsd cellsO sortO kLine kAt kKind) H := hP
          have hD : va_D A (rW E a ln ((nO S) + 1) ((nD S) + 1) (nL S) row seen sty (upd lineO (nO S) (nI li)) (upd tokO (nO S) (nI k)) (upd atO (nO S) x) (upd baseO (nO S) (colO li)) (upd kindO (nO S) (nI 2)) (upd partO (nO S) (-9)) colO openO strayO (upd stk (nD S) (nI (nO S))) bys was gsd cellsO sortO kLine kAt kKind) := hD
          refine lv_goto (tgt := 124) hx hb dX6_goesToken_112 (by decide) ?_
          refine lv_aload_n hx hb dX6_goesToken_124 rfl (lv_at hl 1 rfl) ?_
          refine lv_iload hx hb dX6_goesToken_125 (lv_at hl 0 rfl) ?_
          refine lv_bipush (v := (nI 9)) hx hb dX6_goesToken_127 (by decide) ?_
          refine n_icmp_ne (a := (tok t k)) (b := 9) (tgt := 139) hx hb (by omega) (by decide) dX6_goesToken_129 (by decide) (fun c129 => ?_) (fun c129 => absurd c129 (by omega))
          refine lv_iload hx hb dX6_goesToken_139 (lv_at hl 0 rfl) ?_
          refine va_put (D := G) (ci := 6) (v := .int (nI (tok t k))) (ty := .int) (C := RX6) (T := TX6) (N := 25) hx hb hts hin6 tyX6 tyX6_ok nmX6 hown hK hP hD hS 0 rfl rfl 16 (by decide) (hts (Cond.fieldLink RX6 92 "IndentRulesModel" "last" "I") (List.mem_of_getElem? (i := 3) rfl)) (fun _ h9 => h9) rfl (by decide +kernel) rfl rfl (Nat.le_of_ble_eq_true rfl) dX6_goesToken_141 (fun H locs hP hD hS => ?_)
          have hP : va_P G vwCl (rW E a ln ((nO S) + 1) ((nD S) + 1) (tok t k) row seen sty (upd lineO (nO S) (nI li)) (upd tokO (nO S) (nI k)) (upd atO (nO S) x) (upd baseO (nO S) (colO li)) (upd kindO (nO S) (nI 2)) (upd partO (nO S) (-9)) colO openO strayO (upd stk (nD S) (nI (nO S))) bys was gsd cellsO sortO kLine kAt kKind) H := hP
          have hD : va_D A (rW E a ln ((nO S) + 1) ((nD S) + 1) (tok t k) row seen sty (upd lineO (nO S) (nI li)) (upd tokO (nO S) (nI k)) (upd atO (nO S) x) (upd baseO (nO S) (colO li)) (upd kindO (nO S) (nI 2)) (upd partO (nO S) (-9)) colO openO strayO (upd stk (nD S) (nI (nO S))) bys was gsd cellsO sortO kLine kAt kKind) := hD
          exact W.vret hx hb hr (fun tZ htZ hWZ => ⟨⟨((upd lineO (nO S) (nI li)), (upd tokO (nO S) (nI k)), (upd atO (nO S) x), (upd baseO (nO S) (colO li)), (upd kindO (nO S) (nI 2)), (upd partO (nO S) (-9)), strayO, (upd stk (nD S) (nI (nO S)))), rfl, by rw [nTok_2 (by omega)]; rw [hxx]; exact RR_last (RR_open (t := t) (i := k) hRR hwf (by rw [if_neg (by omega), if_neg (fun q => ((folw_n hk (by omega)).mp q.2).2 c101)]) (hRR.2.1 li hlm).1.symm) rfl rfl rfl, by show va_P G vwCl _ tZ.heap; rw [htZ, nTok_2 (by omega)]; exact hP⟩, hS.F htZ⟩) hS.2.2 dX6_goesToken_144
        · refine lv_iconst (v := (nI 3)) hx hb dX6_goesToken_104 (by decide) ?_
          refine lv_goto (tgt := 109) hx hb dX6_goesToken_105 (by decide) ?_
          refine wf_v (n := 4) (G := G) (E := E) (As := [.int (nI li), .int (nI k), .int x, .int (nI 3)]) (rest := []) (ci := 6) (q0 := 0) (wn := fun (_ : Unit) => rW E a ln ((nO S) + 1) ((nD S) + 1) (nL S) row seen sty (upd lineO (nO S) (nI li)) (upd tokO (nO S) (nI k)) (upd atO (nO S) x) (upd baseO (nO S) (colO li)) (upd kindO (nO S) (nI 3)) (upd partO (nO S) (-9)) colO openO strayO (upd stk (nD S) (nI (nO S))) bys was gsd cellsO sortO kLine kAt kKind) ⟨hx, hb, hml, hown, hts⟩ hK hZ hS hA (fun sz => c_X6_comes l G E a ln (nO S) (nD S) (nL S) row seen sty lineO tokO atO baseO kindO partO colO openO strayO stk bys was gsd cellsO sortO kLine kAt kKind li k x 3 (by first | assumption | omega) (by first | assumption | omega) (by first | assumption | omega) sz) gX6_goesToken_X6_comes rfl rfl rfl (by decide +kernel) ⟨Nat.le_of_ble_eq_true rfl, Nat.le_of_ble_eq_true rfl⟩ hP hD (fun _ => rfl) rfl rfl hl.1 rfl rfl (Nat.le_of_ble_eq_true rfl) dX6_goesToken_109 ⟨Nat.zero_le _, Nat.zero_le _⟩ (fun u109 H locs p109 hP hD hS => ?_)
          have hP : va_P G vwCl (rW E a ln ((nO S) + 1) ((nD S) + 1) (nL S) row seen sty (upd lineO (nO S) (nI li)) (upd tokO (nO S) (nI k)) (upd atO (nO S) x) (upd baseO (nO S) (colO li)) (upd kindO (nO S) (nI 3)) (upd partO (nO S) (-9)) colO openO strayO (upd stk (nD S) (nI (nO S))) bys was gsd cellsO sortO kLine kAt kKind) H := hP
          have hD : va_D A (rW E a ln ((nO S) + 1) ((nD S) + 1) (nL S) row seen sty (upd lineO (nO S) (nI li)) (upd tokO (nO S) (nI k)) (upd atO (nO S) x) (upd baseO (nO S) (colO li)) (upd kindO (nO S) (nI 3)) (upd partO (nO S) (-9)) colO openO strayO (upd stk (nD S) (nI (nO S))) bys was gsd cellsO sortO kLine kAt kKind) := hD
          refine lv_goto (tgt := 124) hx hb dX6_goesToken_112 (by decide) ?_
          refine lv_aload_n hx hb dX6_goesToken_124 rfl (lv_at hl 1 rfl) ?_
          refine lv_iload hx hb dX6_goesToken_125 (lv_at hl 0 rfl) ?_
          refine lv_bipush (v := (nI 9)) hx hb dX6_goesToken_127 (by decide) ?_
          refine n_icmp_ne (a := (tok t k)) (b := 9) (tgt := 139) hx hb (by omega) (by decide) dX6_goesToken_129 (by decide) (fun c129 => ?_) (fun c129 => absurd c129 (by omega))
          refine lv_iload hx hb dX6_goesToken_139 (lv_at hl 0 rfl) ?_
          refine va_put (D := G) (ci := 6) (v := .int (nI (tok t k))) (ty := .int) (C := RX6) (T := TX6) (N := 25) hx hb hts hin6 tyX6 tyX6_ok nmX6 hown hK hP hD hS 0 rfl rfl 16 (by decide) (hts (Cond.fieldLink RX6 92 "IndentRulesModel" "last" "I") (List.mem_of_getElem? (i := 3) rfl)) (fun _ h9 => h9) rfl (by decide +kernel) rfl rfl (Nat.le_of_ble_eq_true rfl) dX6_goesToken_141 (fun H locs hP hD hS => ?_)
          have hP : va_P G vwCl (rW E a ln ((nO S) + 1) ((nD S) + 1) (tok t k) row seen sty (upd lineO (nO S) (nI li)) (upd tokO (nO S) (nI k)) (upd atO (nO S) x) (upd baseO (nO S) (colO li)) (upd kindO (nO S) (nI 3)) (upd partO (nO S) (-9)) colO openO strayO (upd stk (nD S) (nI (nO S))) bys was gsd cellsO sortO kLine kAt kKind) H := hP
          have hD : va_D A (rW E a ln ((nO S) + 1) ((nD S) + 1) (tok t k) row seen sty (upd lineO (nO S) (nI li)) (upd tokO (nO S) (nI k)) (upd atO (nO S) x) (upd baseO (nO S) (colO li)) (upd kindO (nO S) (nI 3)) (upd partO (nO S) (-9)) colO openO strayO (upd stk (nD S) (nI (nO S))) bys was gsd cellsO sortO kLine kAt kKind) := hD
          exact W.vret hx hb hr (fun tZ htZ hWZ => ⟨⟨((upd lineO (nO S) (nI li)), (upd tokO (nO S) (nI k)), (upd atO (nO S) x), (upd baseO (nO S) (colO li)), (upd kindO (nO S) (nI 3)), (upd partO (nO S) (-9)), strayO, (upd stk (nD S) (nI (nO S)))), rfl, by rw [nTok_2 (by omega)]; rw [hxx]; exact RR_last (RR_open (t := t) (i := k) hRR hwf (by rw [if_neg (by omega), if_pos ⟨c77, (folw_n hk (by omega)).mpr ⟨c84, c101⟩⟩]) (hRR.2.1 li hlm).1.symm) rfl rfl rfl, by show va_P G vwCl _ tZ.heap; rw [htZ, nTok_2 (by omega)]; exact hP⟩, hS.F htZ⟩) hS.2.2 dX6_goesToken_144
  by_cases h14_5 : tok t k = 5
  · refine lv_tableIn (off := 101) (tgt := 115) hx hb dX6_goesToken_14 (by rw [h14_5]; decide) (by rw [h14_5]; decide) (by rw [h14_5]; decide) (by decide) ?_
    refine lv_aload_n hx hb dX6_goesToken_115 rfl (lv_at hl 1 rfl) ?_
    refine lv_iload_n hx hb dX6_goesToken_116 rfl (lv_at hl 2 rfl) ?_
    refine lv_iconst (v := (nI 0)) hx hb dX6_goesToken_117 (by decide) ?_
    refine wf_v (n := 2) (G := G) (E := E) (As := [.int (nI li), .int (nI 0)]) (rest := []) (ci := 6) (q0 := 0) (wn := fun (u : (Nat → Int32) × (Nat → Int32)) => rW E a ln (nO S) (nD (nClose (if 0 = 1 then 2 else 4) li S)) (nL S) row seen sty lineO tokO atO baseO kindO u.1 colO openO u.2 stk bys was gsd cellsO sortO kLine kAt kKind) ⟨hx, hb, hml, hown, hts⟩ hK hZ hS hA (fun sz => c_X6_closes l G E a ln row seen sty lineO tokO atO baseO kindO partO colO openO strayO stk bys was gsd cellsO sortO kLine kAt kKind li 0 S C mm L bb (by first | assumption | omega) (by first | assumption | omega) (by first | assumption | omega) (by first | assumption | omega) (by first | assumption | omega) (by first | assumption | omega) sz) gX6_goesToken_X6_closes rfl rfl rfl (by decide +kernel) ⟨Nat.le_of_ble_eq_true rfl, Nat.le_of_ble_eq_true rfl⟩ hP hD (fun _ => rfl) rfl rfl hl.1 rfl rfl (Nat.le_of_ble_eq_true rfl) dX6_goesToken_118 ⟨Nat.zero_le _, Nat.zero_le _⟩ (fun u118 H locs p118 hP hD hS => ?_)
    obtain ⟨partO'_118, strayO'_118⟩ := u118
    try dsimp only at p118 hP hD
    have hP : va_P G vwCl (rW E a ln (nO S) (nD (nClose (if 0 = 1 then 2 else 4) li S)) (nL S) row seen sty lineO tokO atO baseO kindO partO'_118 colO openO strayO'_118 stk bys was gsd cellsO sortO kLine kAt kKind) H := hP
    have hD : va_D A (rW E a ln (nO S) (nD (nClose (if 0 = 1 then 2 else 4) li S)) (nL S) row seen sty lineO tokO atO baseO kindO partO'_118 colO openO strayO'_118 stk bys was gsd cellsO sortO kLine kAt kKind) := hD
    refine lv_goto (tgt := 124) hx hb dX6_goesToken_121 (by decide) ?_
    refine lv_aload_n hx hb dX6_goesToken_124 rfl (lv_at hl 1 rfl) ?_
    refine lv_iload hx hb dX6_goesToken_125 (lv_at hl 0 rfl) ?_
    refine lv_bipush (v := (nI 9)) hx hb dX6_goesToken_127 (by decide) ?_
    refine n_icmp_ne (a := (tok t k)) (b := 9) (tgt := 139) hx hb (by omega) (by decide) dX6_goesToken_129 (by decide) (fun c129 => ?_) (fun c129 => absurd c129 (by omega))
    refine lv_iload hx hb dX6_goesToken_139 (lv_at hl 0 rfl) ?_
    refine va_put (D := G) (ci := 6) (v := .int (nI (tok t k))) (ty := .int) (C := RX6) (T := TX6) (N := 25) hx hb hts hin6 tyX6 tyX6_ok nmX6 hown hK hP hD hS 0 rfl rfl 16 (by decide) (hts (Cond.fieldLink RX6 92 "IndentRulesModel" "last" "I") (List.mem_of_getElem? (i := 3) rfl)) (fun _ h9 => h9) rfl (by decide +kernel) rfl rfl (Nat.le_of_ble_eq_true rfl) dX6_goesToken_141 (fun H locs hP hD hS => ?_)
    have hP : va_P G vwCl (rW E a ln (nO S) (nD (nClose (if 0 = 1 then 2 else 4) li S)) (tok t k) row seen sty lineO tokO atO baseO kindO partO'_118 colO openO strayO'_118 stk bys was gsd cellsO sortO kLine kAt kKind) H := hP
    have hD : va_D A (rW E a ln (nO S) (nD (nClose (if 0 = 1 then 2 else 4) li S)) (tok t k) row seen sty lineO tokO atO baseO kindO partO'_118 colO openO strayO'_118 stk bys was gsd cellsO sortO kLine kAt kKind) := hD
    exact W.vret hx hb hr (fun tZ htZ hWZ => ⟨⟨(lineO, tokO, atO, baseO, kindO, partO'_118, strayO'_118, stk), rfl, by rw [nTok_5 h14_5]; exact RR_last p118 (by rw [nClose_O]) rfl rfl, by show va_P G vwCl _ tZ.heap; rw [htZ, nTok_5 h14_5]; exact hP⟩, hS.F htZ⟩) hS.2.2 dX6_goesToken_144
  refine lv_tableOut (tgt := 124) hx hb dX6_goesToken_14 (by have e : (nI (tok t k)).toInt = (tok t k : Int) := nI_toInt (by omega); rw [e]; omega) (by decide) ?_
  refine lv_aload_n hx hb dX6_goesToken_124 rfl (lv_at hl 1 rfl) ?_
  refine lv_iload hx hb dX6_goesToken_125 (lv_at hl 0 rfl) ?_
  refine lv_bipush (v := (nI 9)) hx hb dX6_goesToken_127 (by decide) ?_
  refine n_icmp_ne (a := (tok t k)) (b := 9) (tgt := 139) hx hb (by omega) (by decide) dX6_goesToken_129 (by decide) (fun c129 => ?_) (fun c129 => ?_)
  · refine lv_iload hx hb dX6_goesToken_139 (lv_at hl 0 rfl) ?_
    refine va_put (D := G) (ci := 6) (v := .int (nI (tok t k))) (ty := .int) (C := RX6) (T := TX6) (N := 25) hx hb hts hin6 tyX6 tyX6_ok nmX6 hown hK hP hD hS 0 rfl rfl 16 (by decide) (hts (Cond.fieldLink RX6 92 "IndentRulesModel" "last" "I") (List.mem_of_getElem? (i := 3) rfl)) (fun _ h9 => h9) rfl (by decide +kernel) rfl rfl (Nat.le_of_ble_eq_true rfl) dX6_goesToken_141 (fun H locs hP hD hS => ?_)
    have hP : va_P G vwCl (rW E a ln (nO S) (nD S) (tok t k) row seen sty lineO tokO atO baseO kindO partO colO openO strayO stk bys was gsd cellsO sortO kLine kAt kKind) H := hP
    have hD : va_D A (rW E a ln (nO S) (nD S) (tok t k) row seen sty lineO tokO atO baseO kindO partO colO openO strayO stk bys was gsd cellsO sortO kLine kAt kKind) := hD
    exact W.vret hx hb hr (fun tZ htZ hWZ => ⟨⟨(lineO, tokO, atO, baseO, kindO, partO, strayO, stk), rfl, by rw [nTok_o h14_2 h14_3 h14_4 h14_5 c129]; exact RR_last hRR rfl rfl rfl, by show va_P G vwCl _ tZ.heap; rw [htZ, nTok_o h14_2 h14_3 h14_4 h14_5 c129]; exact hP⟩, hS.F htZ⟩) hS.2.2 dX6_goesToken_144
  · refine lv_aload_n hx hb dX6_goesToken_132 rfl (lv_at hl 1 rfl) ?_
    refine va_get (D := G) (ci := 6) (v := .int (nI (nL S))) (C := RX6) (T := TX6) (N := 25) hx hb hts hin6 hown hK hP 0 rfl rfl 16 (by decide) (hts (Cond.fieldLink RX6 92 "IndentRulesModel" "last" "I") (List.mem_of_getElem? (i := 3) rfl)) (fun _ h9 => h9) rfl dX6_goesToken_133 ?_
    refine lv_goto (tgt := 141) hx hb dX6_goesToken_136 (by decide) ?_
    refine va_put (D := G) (ci := 6) (v := .int (nI (nL S))) (ty := .int) (C := RX6) (T := TX6) (N := 25) hx hb hts hin6 tyX6 tyX6_ok nmX6 hown hK hP hD hS 0 rfl rfl 16 (by decide) (hts (Cond.fieldLink RX6 92 "IndentRulesModel" "last" "I") (List.mem_of_getElem? (i := 3) rfl)) (fun _ h9 => h9) rfl (by decide +kernel) rfl rfl (Nat.le_of_ble_eq_true rfl) dX6_goesToken_141 (fun H locs hP hD hS => ?_)
    have hP : va_P G vwCl (rW E a ln (nO S) (nD S) (nL S) row seen sty lineO tokO atO baseO kindO partO colO openO strayO stk bys was gsd cellsO sortO kLine kAt kKind) H := hP
    have hD : va_D A (rW E a ln (nO S) (nD S) (nL S) row seen sty lineO tokO atO baseO kindO partO colO openO strayO stk bys was gsd cellsO sortO kLine kAt kKind) := hD
    exact W.vret hx hb hr (fun tZ htZ hWZ => ⟨⟨(lineO, tokO, atO, baseO, kindO, partO, strayO, stk), rfl, by rw [nTok_eq9 _ _ _ _ c129]; exact hRR, by show va_P G vwCl _ tZ.heap; rw [htZ, nTok_eq9 _ _ _ _ c129]; exact hP⟩, hS.F htZ⟩) hS.2.2 dX6_goesToken_144

set_option maxHeartbeats 4000000 in
set_option maxRecDepth 100000 in
theorem c_X6_goesLine (l : Launch) (G : va_G) (E : cEnv) (a : Nat → Nat) (ln : Nat) (row seen sty lineO tokO atO baseO kindO partO colO openO strayO stk bys was gsd cellsO sortO kLine kAt kKind : Nat → Int32) (li : Nat) (rn : Nat → Nat) (hln : ln ≤ 20) (hli : li < ln) (hrn : rowsOk ln row rn) (hRR : RR (bys 2) (nAll rn li) (cols bys rn li) (li) lineO tokO atO baseO kindO partO colO openO strayO stk) (sz : Nat) : Met l yX6_goesLine wsX6_goesLine ({ frames := 3, cells := 0, slots := 0, locals := 70 }) (va_Pc [.ref (a 0), .int (nI li)] (PW G E (rW E a ln (nO (nAll rn li)) (nD (nAll rn li)) (nL (nAll rn li)) row seen sty lineO tokO atO baseO kindO partO colO openO strayO stk bys was gsd cellsO sortO kLine kAt kKind) sz)) (va_Qv (fun (u : (Nat → Int32) × (Nat → Int32) × (Nat → Int32) × (Nat → Int32) × (Nat → Int32) × (Nat → Int32) × (Nat → Int32) × (Nat → Int32) × (Nat → Int32) × (Nat → Int32)) => RR (bys 2) (nAll rn (li + 1)) (cols bys rn (li + 1)) (li + 1) u.1 u.2.1 u.2.2.1 u.2.2.2.1 u.2.2.2.2.1 u.2.2.2.2.2.1 u.2.2.2.2.2.2.1 u.2.2.2.2.2.2.2.1 u.2.2.2.2.2.2.2.2.1 u.2.2.2.2.2.2.2.2.2) (fun (u : (Nat → Int32) × (Nat → Int32) × (Nat → Int32) × (Nat → Int32) × (Nat → Int32) × (Nat → Int32) × (Nat → Int32) × (Nat → Int32) × (Nat → Int32) × (Nat → Int32)) tQ => va_P G vwCl (rW E a ln (nO (nAll rn (li + 1))) (nD (nAll rn (li + 1))) (nL (nAll rn (li + 1))) row seen sty u.1 u.2.1 u.2.2.1 u.2.2.2.1 u.2.2.2.2.1 u.2.2.2.2.2.1 u.2.2.2.2.2.2.1 u.2.2.2.2.2.2.2.1 u.2.2.2.2.2.2.2.2.1 u.2.2.2.2.2.2.2.2.2 bys was gsd cellsO sortO kLine kAt kKind) tQ.heap) (va_A (rW E a ln (nO (nAll rn li)) (nD (nAll rn li)) (nL (nAll rn li)) row seen sty lineO tokO atO baseO kindO partO colO openO strayO stk bys was gsd cellsO sortO kLine kAt kKind) sz)) 0 0 (va_A (rW E a ln (nO (nAll rn li)) (nD (nAll rn li)) (nL (nAll rn li)) row seen sty lineO tokO atO baseO kindO partO colO openO strayO stk bys was gsd cellsO sortO kLine kAt kKind) sz) := by
  refine Met.ofW (cc := cX6_goesLine) (maxL := 6) (ret := none) (by decide) rfl ?_
  intro p e s m args below meth c s₁ B hml hv
  obtain ⟨rfl, hsz, hP, hK, hD0, hZ⟩ := hv
  have hx := B.exec
  have hb := B.bytes
  have hr := B.returns
  have hts := atoms_spec (ws := wsX6_goesLine) B.pre
  have hown : s.vm.findClass RX6 = some m.cls := findClass_of_methodNamed B.named
  have hlocks := B.notSynchronized
  have hin6 : ∀ w ∈ u_ws RX6 TX6 25, w ∈ wsX6_goesLine := mem_pl [46, 47, 48, 49, 50, 51, 52, 53, 54, 55, 56, 57, 58, 59, 60, 61, 62, 63, 64, 65, 66, 67, 68, 69, 70] (by rfl)
  subst hsz
  have hD := hD0.self (sz := s.heap.size)
  generalize hAe : va_A (rW E a ln (nO (nAll rn li)) (nD (nAll rn li)) (nL (nAll rn li)) row seen sty lineO tokO atO baseO kindO partO colO openO strayO stk bys was gsd cellsO sortO kLine kAt kKind) s.heap.size = A at hD hZ ⊢
  have hA : ∀ q : Nat, s.heap.size ≤ q → A q := fun q h => by rw [← hAe]; exact Or.inr h
  have hS : va_S A s.heap s.heap [] := va_S.rf
  have hl := lv_entry ([.ref (a 0), .int (nI li)]) (n := 6) (Nat.le_of_ble_eq_true rfl)
  rw [lg_entry_eq]
  generalize (lg_sl ([.ref (a 0), .int (nI li)]) ++ List.replicate (6 - (lg_sl ([.ref (a 0), .int (nI li)])).length) Slot.unset).toArray = ls at hl ⊢
  have hl : lv_has ls 6 [(0, .ref (a 0)), (1, .int (nI li))] := hl
  obtain ⟨hrw, hlt, hzi⟩ := hrn li hli
  have hl9 := (len_lt 9 (rn li)).mp hlt
  have hwf := hrn.wf (j := li) (by omega)
  have hwf1 := wfN_start (li := li) (hwf.up (Nat.le_succ li) (Nat.le_refl _))
  refine lv_aload_n hx hb dX6_goesLine_0 rfl (lv_at hl 0 rfl) ?_
  refine va_get (D := G) (ci := 6) (v := .ref (a 1)) (C := RX6) (T := TX6) (N := 25) hx hb hts hin6 hown hK hP 0 rfl rfl 1 (by decide) (hts (Cond.fieldLink RX6 7 "IndentRulesModel" "row" "[I") (List.mem_of_getElem? (i := 1) rfl)) (fun _ h9 => h9) rfl dX6_goesLine_1 ?_
  refine lv_iload_n hx hb dX6_goesLine_4 rfl (lv_at hl 1 rfl) ?_
  refine k_iald (D := G) (tys := TYS E) (j := li) (f := row) (n := 20) hx hb hK hP 1 0 rfl rfl (by omega) (by decide) dX6_goesLine_5 ?_
  rw [hrw]
  refine rs_i (n := 1) (G := G) (E := E) (As := [.int (nI (rn li))]) (rest := []) ⟨hx, hb, hml, hown, hts⟩ hK hZ hS (c_X6_lengthOf l G E (rn li) (by first | assumption | omega)) gX6_goesLine_X6_lengthOf rfl rfl rfl (by decide +kernel) ⟨Nat.le_of_ble_eq_true rfl, Nat.le_of_ble_eq_true rfl⟩ (fun k q h => by simp at h) hl.1 rfl rfl (Nat.le_of_ble_eq_true rfl) dX6_goesLine_6 ⟨Nat.zero_le _, Nat.zero_le _⟩ (fun r6 p6 => ?_)
  subst p6
  refine lv_istore_n (lv' := [(2, .int (nI (len (rn li)))), (0, .ref (a 0)), (1, .int (nI li))]) hx hb dX6_goesLine_9 rfl hl (by decide) rfl (fun ls hl => ?_)
  refine lv_aload_n hx hb dX6_goesLine_10 rfl (lv_at hl 1 rfl) ?_
  refine va_get (D := G) (ci := 6) (v := .ref (a 12)) (C := RX6) (T := TX6) (N := 25) hx hb hts hin6 hown hK hP 0 rfl rfl 12 (by decide) (hts (Cond.fieldLink RX6 40 "IndentRulesModel" "openOf" "[I") (List.mem_of_getElem? (i := 2) rfl)) (fun _ h9 => h9) rfl dX6_goesLine_11 ?_
  refine lv_iload_n hx hb dX6_goesLine_14 rfl (lv_at hl 2 rfl) ?_
  refine lv_aload_n hx hb dX6_goesLine_15 rfl (lv_at hl 1 rfl) ?_
  refine va_get (D := G) (ci := 6) (v := .int (nI (nD (nAll rn li)))) (C := RX6) (T := TX6) (N := 25) hx hb hts hin6 hown hK hP 0 rfl rfl 14 (by decide) (hts (Cond.fieldLink RX6 85 "IndentRulesModel" "deep" "I") (List.mem_of_getElem? (i := 3) rfl)) (fun _ h9 => h9) rfl dX6_goesLine_16 ?_
  refine k_iast (D := G) (tys := TYS E) (j := li) (x := (nI (nD (nAll rn li)))) (f := openO) (n := 20) hx hb hK hP hD hS 11 0 rfl rfl (by omega) (by decide) dX6_goesLine_19 (fun H locs hP hD hS => ?_)
  have hP : va_P G vwCl (rW E a ln (nO (nAll rn li)) (nD (nAll rn li)) (nL (nAll rn li)) row seen sty lineO tokO atO baseO kindO partO colO (upd openO li (nI (nD (nAll rn li)))) strayO stk bys was gsd cellsO sortO kLine kAt kKind) H := hP
  have hD : va_D A (rW E a ln (nO (nAll rn li)) (nD (nAll rn li)) (nL (nAll rn li)) row seen sty lineO tokO atO baseO kindO partO colO (upd openO li (nI (nD (nAll rn li)))) strayO stk bys was gsd cellsO sortO kLine kAt kKind) := hD
  obtain ⟨f19, ef19⟩ : ∃ z : Nat → Int32, z = upd openO li (nI (nD (nAll rn li))) := ⟨_, rfl⟩
  rw [← ef19] at hP hD
  refine lv_aload_n hx hb dX6_goesLine_20 rfl (lv_at hl 1 rfl) ?_
  refine va_get (D := G) (ci := 6) (v := .ref (a 13)) (C := RX6) (T := TX6) (N := 25) hx hb hts hin6 hown hK hP 0 rfl rfl 13 (by decide) (hts (Cond.fieldLink RX6 43 "IndentRulesModel" "strayOf" "[I") (List.mem_of_getElem? (i := 4) rfl)) (fun _ h9 => h9) rfl dX6_goesLine_21 ?_
  refine lv_iload_n hx hb dX6_goesLine_24 rfl (lv_at hl 2 rfl) ?_
  refine lv_iconst (v := (nI 0)) hx hb dX6_goesLine_25 (by decide) ?_
  refine k_iast (D := G) (tys := TYS E) (j := li) (x := (nI 0)) (f := strayO) (n := 20) hx hb hK hP hD hS 12 0 rfl rfl (by omega) (by decide) dX6_goesLine_26 (fun H locs hP hD hS => ?_)
  have hP : va_P G vwCl (rW E a ln (nO (nAll rn li)) (nD (nAll rn li)) (nL (nAll rn li)) row seen sty lineO tokO atO baseO kindO partO colO f19 (upd strayO li (nI 0)) stk bys was gsd cellsO sortO kLine kAt kKind) H := hP
  have hD : va_D A (rW E a ln (nO (nAll rn li)) (nD (nAll rn li)) (nL (nAll rn li)) row seen sty lineO tokO atO baseO kindO partO colO f19 (upd strayO li (nI 0)) stk bys was gsd cellsO sortO kLine kAt kKind) := hD
  obtain ⟨f26, ef26⟩ : ∃ z : Nat → Int32, z = upd strayO li (nI 0) := ⟨_, rfl⟩
  rw [← ef26] at hP hD
  have hRRb : RR (bys 2) (nAll rn li) (cols bys rn li) li lineO tokO atO baseO kindO partO colO f19 f26 stk := by rw [ef19, ef26]; exact ⟨hRR.1, fun j hj => by rw [upd_n (by omega), upd_n (by omega)]; exact hRR.2.1 j hj, hRR.2.2⟩
  refine lv_aload_n hx hb dX6_goesLine_27 rfl (lv_at hl 1 rfl) ?_
  refine va_get (D := G) (ci := 6) (v := .ref (a 11)) (C := RX6) (T := TX6) (N := 25) hx hb hts hin6 hown hK hP 0 rfl rfl 11 (by decide) (hts (Cond.fieldLink RX6 37 "IndentRulesModel" "columnOf" "[I") (List.mem_of_getElem? (i := 5) rfl)) (fun _ h9 => h9) rfl dX6_goesLine_28 ?_
  refine lv_iload_n hx hb dX6_goesLine_31 rfl (lv_at hl 2 rfl) ?_
  refine lv_iload_n hx hb dX6_goesLine_32 rfl (lv_at hl 0 rfl) ?_
  refine n_if_ne (a := (len (rn li))) (tgt := 40) hx hb (by omega) dX6_goesLine_33 (by decide) (fun c33 => ?_) (fun c33 => ?_)
  · refine lv_aload_n hx hb dX6_goesLine_40 rfl (lv_at hl 1 rfl) ?_
    refine lv_aload_n hx hb dX6_goesLine_41 rfl (lv_at hl 1 rfl) ?_
    refine va_get (D := G) (ci := 6) (v := .ref (a 1)) (C := RX6) (T := TX6) (N := 25) hx hb hts hin6 hown hK hP 0 rfl rfl 1 (by decide) (hts (Cond.fieldLink RX6 7 "IndentRulesModel" "row" "[I") (List.mem_of_getElem? (i := 1) rfl)) (fun _ h9 => h9) rfl dX6_goesLine_42 ?_
    refine lv_iload_n hx hb dX6_goesLine_45 rfl (lv_at hl 2 rfl) ?_
    refine k_iald (D := G) (tys := TYS E) (j := li) (f := row) (n := 20) hx hb hK hP 1 0 rfl rfl (by omega) (by decide) dX6_goesLine_46 ?_
    rw [hrw]
    refine lv_iconst (v := (nI 0)) hx hb dX6_goesLine_47 (by decide) ?_
    refine rs_i (n := 2) (G := G) (E := E) (As := [.int (nI (rn li)), .int (nI 0)]) (rest := [.ref (a 0), .int (nI li), .ref (a 11)]) ⟨hx, hb, hml, hown, hts⟩ hK hZ hS (c_X6_tokenAt l G E (rn li) 0 (by first | assumption | omega) (by first | assumption | omega)) gX6_goesLine_X6_tokenAt rfl rfl rfl (by decide +kernel) ⟨Nat.le_of_ble_eq_true rfl, Nat.le_of_ble_eq_true rfl⟩ (fun k q h => by simp at h) hl.1 rfl rfl (Nat.le_of_ble_eq_true rfl) dX6_goesLine_48 ⟨Nat.zero_le _, Nat.zero_le _⟩ (fun r48 p48 => ?_)
    subst p48
    refine rv_i (n := 1) (G := G) (E := E) (As := [.int (nI (tok (rn li) 0))]) (rest := [.int (nI li), .ref (a 11)]) (ci := 6) (q0 := 0) ⟨hx, hb, hml, hown, hts⟩ hK hZ hS (c_X6_columnFor l G E a ln row seen sty lineO tokO atO baseO kindO partO colO f19 f26 stk bys was gsd cellsO sortO kLine kAt kKind (tok (rn li) 0) (nAll rn li) (cols bys rn li) li li (9 * li) (tok_lt _ _) hRRb hwf (by omega)) gX6_goesLine_X6_columnFor rfl rfl rfl (by decide +kernel) ⟨Nat.le_of_ble_eq_true rfl, Nat.le_of_ble_eq_true rfl⟩ hP rfl rfl hl.1 rfl rfl (Nat.le_of_ble_eq_true rfl) dX6_goesLine_51 ⟨Nat.zero_le _, Nat.zero_le _⟩ (fun r51 p51 => ?_)
    subst p51
    refine k_iast (D := G) (tys := TYS E) (j := li) (x := (cvt bys (nF (nAll rn li)) (cols bys rn li) (topN (nAll rn li)) (nL (nAll rn li)) (tok (rn li) 0))) (f := colO) (n := 20) hx hb hK hP hD hS 10 0 rfl rfl (by omega) (by decide) dX6_goesLine_54 (fun H locs hP hD hS => ?_)
    have hP : va_P G vwCl (rW E a ln (nO (nAll rn li)) (nD (nAll rn li)) (nL (nAll rn li)) row seen sty lineO tokO atO baseO kindO partO (upd colO li (cvt bys (nF (nAll rn li)) (cols bys rn li) (topN (nAll rn li)) (nL (nAll rn li)) (tok (rn li) 0))) f19 f26 stk bys was gsd cellsO sortO kLine kAt kKind) H := hP
    have hD : va_D A (rW E a ln (nO (nAll rn li)) (nD (nAll rn li)) (nL (nAll rn li)) row seen sty lineO tokO atO baseO kindO partO (upd colO li (cvt bys (nF (nAll rn li)) (cols bys rn li) (topN (nAll rn li)) (nL (nAll rn li)) (tok (rn li) 0))) f19 f26 stk bys was gsd cellsO sortO kLine kAt kKind) := hD
    obtain ⟨f54, ef54⟩ : ∃ z : Nat → Int32, z = upd colO li (cvt bys (nF (nAll rn li)) (cols bys rn li) (topN (nAll rn li)) (nL (nAll rn li)) (tok (rn li) 0)) := ⟨_, rfl⟩
    rw [← ef54] at hP hD
    have hca : (cvt bys (nF (nAll rn li)) (cols bys rn li) (topN (nAll rn li)) (nL (nAll rn li)) (tok (rn li) 0)) = colAt bys rn li (cols bys rn li) := by unfold colAt; rw [if_neg (fun q => by rw [q, len_0] at c33; omega)]
    have hcc : cols bys rn (li + 1) = upd (cols bys rn li) li ((cvt bys (nF (nAll rn li)) (cols bys rn li) (topN (nAll rn li)) (nL (nAll rn li)) (tok (rn li) 0))) := by rw [hca]; rfl
    have hR0 : RR (bys 2) (nLine (rn li) li (nStart li (nAll rn li)) 0) (cols bys rn (li + 1)) (li + 1) lineO tokO atO baseO kindO partO f54 f19 f26 stk := by rw [hcc, ef54, ef19, ef26]; exact RR_start hRR hwf
    have hv : f54 li = cols bys rn (li + 1) li := (hR0.2.1 li (by omega)).1
    refine lv_aload_n hx hb dX6_goesLine_55 rfl (lv_at hl 1 rfl) ?_
    refine va_get (D := G) (ci := 6) (v := .ref (a 11)) (C := RX6) (T := TX6) (N := 25) hx hb hts hin6 hown hK hP 0 rfl rfl 11 (by decide) (hts (Cond.fieldLink RX6 37 "IndentRulesModel" "columnOf" "[I") (List.mem_of_getElem? (i := 5) rfl)) (fun _ h9 => h9) rfl dX6_goesLine_56 ?_
    refine lv_iload_n hx hb dX6_goesLine_59 rfl (lv_at hl 2 rfl) ?_
    refine k_iald (D := G) (tys := TYS E) (j := li) (f := f54) (n := 20) hx hb hK hP 10 0 rfl rfl (by omega) (by decide) dX6_goesLine_60 ?_
    rw [hv]
    refine lv_istore_n (lv' := [(3, .int (cols bys rn (li + 1) li)), (2, .int (nI (len (rn li)))), (0, .ref (a 0)), (1, .int (nI li))]) hx hb dX6_goesLine_61 rfl hl (by decide) rfl (fun ls hl => ?_)
    refine lv_iconst (v := (nI 1)) hx hb dX6_goesLine_62 (by decide) ?_
    refine lv_istore (lv' := [(4, .int (nI 1)), (3, .int (cols bys rn (li + 1) li)), (2, .int (nI (len (rn li)))), (0, .ref (a 0)), (1, .int (nI li))]) hx hb dX6_goesLine_63 hl (by decide) rfl (fun ls hl => ?_)
    refine lv_iconst (v := (nI 0)) hx hb dX6_goesLine_65 (by decide) ?_
    refine lv_istore (lv' := [(5, .int (nI 0)), (4, .int (nI 1)), (3, .int (cols bys rn (li + 1) li)), (2, .int (nI (len (rn li)))), (0, .ref (a 0)), (1, .int (nI li))]) hx hb dX6_goesLine_66 hl (by decide) rfl (fun ls hl => ?_)
    have lp68 : ∀ (kk : Nat) (x : Int32) (th : Nat) (k : Nat) (lineX : Nat → Int32) (tokX : Nat → Int32) (atX : Nat → Int32) (baseX : Nat → Int32) (kindX : Nat → Int32) (partX : Nat → Int32) (strayX : Nat → Int32) (stkX : Nat → Int32) (H : Heap) (locs : List Loc), (RR (bys 2) (nLine (rn li) li (nStart li (nAll rn li)) k) (cols bys rn (li + 1)) (li + 1) lineX tokX atX baseX kindX partX f54 f19 strayX stkX) → (x = (cols bys rn (li + 1)) li + nI (wsum (rn li) k)) → (k ≤ len (rn li)) → ((th = 1 ∧ ∀ i, i < k → tok (rn li) i ≠ 9) ∨ (th = 0 ∧ 0 < k ∧ tok (rn li) (k - 1) = 9 ∧ ∀ i, i + 1 < k → tok (rn li) i ≠ 9)) → len (rn li) - k < kk → va_P G vwCl (rW E a ln (nO (nLine (rn li) li (nStart li (nAll rn li)) k)) (nD (nLine (rn li) li (nStart li (nAll rn li)) k)) (nL (nLine (rn li) li (nStart li (nAll rn li)) k)) row seen sty lineX tokX atX baseX kindX partX f54 f19 strayX stkX bys was gsd cellsO sortO kLine kAt kKind) H → va_D A (rW E a ln (nO (nLine (rn li) li (nStart li (nAll rn li)) k)) (nD (nLine (rn li) li (nStart li (nAll rn li)) k)) (nL (nLine (rn li) li (nStart li (nAll rn li)) k)) row seen sty lineX tokX atX baseX kindX partX f54 f19 strayX stkX bys was gsd cellsO sortO kLine kAt kKind) → va_S A s.heap H locs → ∀ ls : Array Slot, lv_has ls 6 [(5, .int (nI k)), (4, .int (nI th)), (3, .int x), (2, .int (nI (len (rn li)))), (0, .ref (a 0)), (1, .int (nI li))] → W p l e (headSpec wsX6_goesLine ({ frames := 3, cells := 0, slots := 0, locals := 70 } : Room)).room s m ([.ref (a 0), .int (nI li)] : List Value).toArray below meth c H locs 0 0 (MQ below (va_Qv (fun (u : (Nat → Int32) × (Nat → Int32) × (Nat → Int32) × (Nat → Int32) × (Nat → Int32) × (Nat → Int32) × (Nat → Int32) × (Nat → Int32) × (Nat → Int32) × (Nat → Int32)) => RR (bys 2) (nAll rn (li + 1)) (cols bys rn (li + 1)) (li + 1) u.1 u.2.1 u.2.2.1 u.2.2.2.1 u.2.2.2.2.1 u.2.2.2.2.2.1 u.2.2.2.2.2.2.1 u.2.2.2.2.2.2.2.1 u.2.2.2.2.2.2.2.2.1 u.2.2.2.2.2.2.2.2.2) (fun (u : (Nat → Int32) × (Nat → Int32) × (Nat → Int32) × (Nat → Int32) × (Nat → Int32) × (Nat → Int32) × (Nat → Int32) × (Nat → Int32) × (Nat → Int32) × (Nat → Int32)) tQ => va_P G vwCl (rW E a ln (nO (nAll rn (li + 1))) (nD (nAll rn (li + 1))) (nL (nAll rn (li + 1))) row seen sty u.1 u.2.1 u.2.2.1 u.2.2.2.1 u.2.2.2.2.1 u.2.2.2.2.2.1 u.2.2.2.2.2.2.1 u.2.2.2.2.2.2.2.1 u.2.2.2.2.2.2.2.2.1 u.2.2.2.2.2.2.2.2.2 bys was gsd cellsO sortO kLine kAt kKind) tQ.heap) A) ([.ref (a 0), .int (nI li)] : List Value).toArray s 0 0 A) (F0 m 68 ls []) := by
      intro kk
      induction kk with
      | zero => intro x th k lineX tokX atX baseX kindX partX strayX stkX H locs hR2 hx2 hk2 hth hkk; exact absurd hkk (Nat.not_lt_zero _)
      | succ kk ih68 =>
        intro x th k lineX tokX atX baseX kindX partX strayX stkX H locs hR2 hx2 hk2 hth hkk hP hD hS ls hl
        refine lv_iload hx hb dX6_goesLine_68 (lv_at hl 0 rfl) ?_
        refine lv_iload_n hx hb dX6_goesLine_70 rfl (lv_at hl 3 rfl) ?_
        refine n_icmp_ge (a := k) (b := (len (rn li))) (tgt := 134) hx hb (by omega) (by omega) dX6_goesLine_71 (by decide) (fun c71 => ?_) (fun c71 => ?_)
        · exact W.vret hx hb hr (fun tZ htZ hWZ => ⟨⟨(lineX, tokX, atX, baseX, kindX, partX, f54, f19, strayX, stkX), rfl, by have e : k = pres (rn li) := hth.elim (fun q => pres_all q.2 (by omega)) (fun q => pres_note q.2.1 q.2.2.1 q.2.2.2 hk2); rw [e] at hR2; exact hR2, by have e : k = pres (rn li) := hth.elim (fun q => pres_all q.2 (by omega)) (fun q => pres_note q.2.1 q.2.2.1 q.2.2.2 hk2); rw [e] at hP; show va_P G vwCl _ tZ.heap; rw [htZ]; exact hP⟩, hS.F htZ⟩) hS.2.2 dX6_goesLine_134
        · refine lv_iload hx hb dX6_goesLine_74 (lv_at hl 1 rfl) ?_
          refine n_if_eq (a := th) (tgt := 134) hx hb (by rcases hth with q | q <;> omega) dX6_goesLine_76 (by decide) (fun c76 => ?_) (fun c76 => ?_)
          · exact W.vret hx hb hr (fun tZ htZ hWZ => ⟨⟨(lineX, tokX, atX, baseX, kindX, partX, f54, f19, strayX, stkX), rfl, by have e : k = pres (rn li) := hth.elim (fun q => absurd q.1 (by omega)) (fun q => pres_note q.2.1 q.2.2.1 q.2.2.2 hk2); rw [e] at hR2; exact hR2, by have e : k = pres (rn li) := hth.elim (fun q => absurd q.1 (by omega)) (fun q => pres_note q.2.1 q.2.2.1 q.2.2.2 hk2); rw [e] at hP; show va_P G vwCl _ tZ.heap; rw [htZ]; exact hP⟩, hS.F htZ⟩) hS.2.2 dX6_goesLine_134
          · have hall : ∀ i, i < k → tok (rn li) i ≠ 9 := hth.elim (fun q => q.2) (fun q => absurd q.1 (by omega))
            have hkp := pres_gt hall c71
            have hwk := wfN_line (t := rn li) (li := li) hwf1 (Nat.lt_succ_self li) k
            refine lv_aload_n hx hb dX6_goesLine_79 rfl (lv_at hl 4 rfl) ?_
            refine lv_iload_n hx hb dX6_goesLine_80 rfl (lv_at hl 5 rfl) ?_
            refine lv_iload hx hb dX6_goesLine_81 (lv_at hl 0 rfl) ?_
            refine lv_iload_n hx hb dX6_goesLine_83 rfl (lv_at hl 3 rfl) ?_
            refine lv_iload_n hx hb dX6_goesLine_84 rfl (lv_at hl 2 rfl) ?_
            refine wf_v (n := 4) (G := G) (E := E) (As := [.int (nI li), .int (nI k), .int (nI (len (rn li))), .int x]) (rest := []) (ci := 6) (q0 := 0) (wn := fun (u : (Nat → Int32) × (Nat → Int32) × (Nat → Int32) × (Nat → Int32) × (Nat → Int32) × (Nat → Int32) × (Nat → Int32) × (Nat → Int32)) => rW E a ln (nO (nTok (rn li) li k (nLine (rn li) li (nStart li (nAll rn li)) k))) (nD (nTok (rn li) li k (nLine (rn li) li (nStart li (nAll rn li)) k))) (nL (nTok (rn li) li k (nLine (rn li) li (nStart li (nAll rn li)) k))) row seen sty u.1 u.2.1 u.2.2.1 u.2.2.2.1 u.2.2.2.2.1 u.2.2.2.2.2.1 f54 f19 u.2.2.2.2.2.2.1 u.2.2.2.2.2.2.2 bys was gsd cellsO sortO kLine kAt kKind) ⟨hx, hb, hml, hown, hts⟩ hK hZ hS hA (fun sz => c_X6_goesToken l G E a ln row seen sty lineX tokX atX baseX kindX partX f54 f19 strayX stkX bys was gsd cellsO sortO kLine kAt kKind li k (rn li) x (nLine (rn li) li (nStart li (nAll rn li)) k) (cols bys rn (li + 1)) (li + 1) (li + 1) (9 * li + k) (by first | assumption | omega) (by first | assumption | omega) (by first | assumption | omega) hrw hlt hzi hkp hx2 hR2 hwk (by omega) sz) gX6_goesLine_X6_goesToken rfl rfl rfl (by decide +kernel) ⟨Nat.le_of_ble_eq_true rfl, Nat.le_of_ble_eq_true rfl⟩ hP hD (fun _ => rfl) rfl rfl hl.1 rfl rfl (Nat.le_of_ble_eq_true rfl) dX6_goesLine_85 ⟨Nat.zero_le _, Nat.zero_le _⟩ (fun u85 H locs p85 hP hD hS => ?_)
            obtain ⟨lineO'_85, tokO'_85, atO'_85, baseO'_85, kindO'_85, partO'_85, strayO'_85, stk'_85⟩ := u85
            try dsimp only at p85 hP hD
            have hP : va_P G vwCl (rW E a ln (nO (nTok (rn li) li k (nLine (rn li) li (nStart li (nAll rn li)) k))) (nD (nTok (rn li) li k (nLine (rn li) li (nStart li (nAll rn li)) k))) (nL (nTok (rn li) li k (nLine (rn li) li (nStart li (nAll rn li)) k))) row seen sty lineO'_85 tokO'_85 atO'_85 baseO'_85 kindO'_85 partO'_85 f54 f19 strayO'_85 stk'_85 bys was gsd cellsO sortO kLine kAt kKind) H := hP
            have hD : va_D A (rW E a ln (nO (nTok (rn li) li k (nLine (rn li) li (nStart li (nAll rn li)) k))) (nD (nTok (rn li) li k (nLine (rn li) li (nStart li (nAll rn li)) k))) (nL (nTok (rn li) li k (nLine (rn li) li (nStart li (nAll rn li)) k))) row seen sty lineO'_85 tokO'_85 atO'_85 baseO'_85 kindO'_85 partO'_85 f54 f19 strayO'_85 stk'_85 bys was gsd cellsO sortO kLine kAt kKind) := hD
            refine lv_iload_n hx hb dX6_goesLine_88 rfl (lv_at hl 2 rfl) ?_
            refine lv_aload_n hx hb dX6_goesLine_89 rfl (lv_at hl 4 rfl) ?_
            refine va_get (D := G) (ci := 6) (v := .ref (a 1)) (C := RX6) (T := TX6) (N := 25) hx hb hts hin6 hown hK hP 0 rfl rfl 1 (by decide) (hts (Cond.fieldLink RX6 7 "IndentRulesModel" "row" "[I") (List.mem_of_getElem? (i := 1) rfl)) (fun _ h9 => h9) rfl dX6_goesLine_90 ?_
            refine lv_iload_n hx hb dX6_goesLine_93 rfl (lv_at hl 5 rfl) ?_
            refine k_iald (D := G) (tys := TYS E) (j := li) (f := row) (n := 20) hx hb hK hP 1 0 rfl rfl (by omega) (by decide) dX6_goesLine_94 ?_
            rw [hrw]
            refine lv_iload hx hb dX6_goesLine_95 (lv_at hl 0 rfl) ?_
            refine rs_i (n := 2) (G := G) (E := E) (As := [.int (nI (rn li)), .int (nI k)]) (rest := [.int x]) ⟨hx, hb, hml, hown, hts⟩ hK hZ hS (c_X6_tokenAt l G E (rn li) k (by first | assumption | omega) (by first | assumption | omega)) gX6_goesLine_X6_tokenAt rfl rfl rfl (by decide +kernel) ⟨Nat.le_of_ble_eq_true rfl, Nat.le_of_ble_eq_true rfl⟩ (fun k q h => by simp at h) hl.1 rfl rfl (Nat.le_of_ble_eq_true rfl) dX6_goesLine_97 ⟨Nat.zero_le _, Nat.zero_le _⟩ (fun r97 p97 => ?_)
            subst p97
            refine rs_i (n := 1) (G := G) (E := E) (As := [.int (nI (tok (rn li) k))]) (rest := [.int x]) ⟨hx, hb, hml, hown, hts⟩ hK hZ hS (c_X6_widthOf l G E (tok (rn li) k) (tok_lt _ _)) gX6_goesLine_X6_widthOf rfl rfl rfl (by decide +kernel) ⟨Nat.le_of_ble_eq_true rfl, Nat.le_of_ble_eq_true rfl⟩ (fun k q h => by simp at h) hl.1 rfl rfl (Nat.le_of_ble_eq_true rfl) dX6_goesLine_100 ⟨Nat.zero_le _, Nat.zero_le _⟩ (fun r100 p100 => ?_)
            subst p100
            refine lv_iadd hx hb dX6_goesLine_103 ?_
            refine lv_topi (fun v103 ev103 => ?_)
            refine lv_istore_n (lv' := [(3, .int v103), (5, .int (nI k)), (4, .int (nI th)), (2, .int (nI (len (rn li)))), (0, .ref (a 0)), (1, .int (nI li))]) hx hb dX6_goesLine_104 rfl hl (by decide) rfl (fun ls hl => ?_)
            refine lv_aload_n hx hb dX6_goesLine_105 rfl (lv_at hl 4 rfl) ?_
            refine va_get (D := G) (ci := 6) (v := .ref (a 1)) (C := RX6) (T := TX6) (N := 25) hx hb hts hin6 hown hK hP 0 rfl rfl 1 (by decide) (hts (Cond.fieldLink RX6 7 "IndentRulesModel" "row" "[I") (List.mem_of_getElem? (i := 1) rfl)) (fun _ h9 => h9) rfl dX6_goesLine_106 ?_
            refine lv_iload_n hx hb dX6_goesLine_109 rfl (lv_at hl 5 rfl) ?_
            refine k_iald (D := G) (tys := TYS E) (j := li) (f := row) (n := 20) hx hb hK hP 1 0 rfl rfl (by omega) (by decide) dX6_goesLine_110 ?_
            rw [hrw]
            refine lv_iload hx hb dX6_goesLine_111 (lv_at hl 1 rfl) ?_
            refine rs_i (n := 2) (G := G) (E := E) (As := [.int (nI (rn li)), .int (nI k)]) (rest := []) ⟨hx, hb, hml, hown, hts⟩ hK hZ hS (c_X6_tokenAt l G E (rn li) k (by first | assumption | omega) (by first | assumption | omega)) gX6_goesLine_X6_tokenAt rfl rfl rfl (by decide +kernel) ⟨Nat.le_of_ble_eq_true rfl, Nat.le_of_ble_eq_true rfl⟩ (fun k q h => by simp at h) hl.1 rfl rfl (Nat.le_of_ble_eq_true rfl) dX6_goesLine_113 ⟨Nat.zero_le _, Nat.zero_le _⟩ (fun r113 p113 => ?_)
            subst p113
            refine lv_bipush (v := (nI 9)) hx hb dX6_goesLine_116 (by decide) ?_
            refine n_icmp_eq (a := (tok (rn li) k)) (b := 9) (tgt := 125) hx hb (by have := tok_lt (rn li) k; omega) (by decide) dX6_goesLine_118 (by decide) (fun c118 => ?_) (fun c118 => ?_)
            · refine lv_iconst (v := (nI 0)) hx hb dX6_goesLine_125 (by decide) ?_
              refine lv_istore (lv' := [(4, .int (nI 0)), (3, .int v103), (5, .int (nI k)), (2, .int (nI (len (rn li)))), (0, .ref (a 0)), (1, .int (nI li))]) hx hb dX6_goesLine_126 hl (by decide) rfl (fun ls hl => ?_)
              refine lv_iinc (v := (nI (k + 1))) (lv' := [(5, .int (nI (k + 1))), (4, .int (nI 0)), (3, .int v103), (2, .int (nI (len (rn li)))), (0, .ref (a 0)), (1, .int (nI li))]) hx hb dX6_goesLine_128 hl (k := 2) rfl (k_inc k) (by decide) rfl (fun ls hl => ?_)
              refine lv_goto (tgt := 68) hx hb dX6_goesLine_131 (by decide) ?_
              exact ih68 v103 0 (k + 1) lineO'_85 tokO'_85 atO'_85 baseO'_85 kindO'_85 partO'_85 strayO'_85 stk'_85 _ _ p85 (by rw [ev103, hx2, i_assoc, wd1_eq (tok_pos hzi c71)]; rfl) (by omega) (Or.inr ⟨rfl, by omega, c118, fun i hi => hall i (by omega)⟩) (by omega) hP hD hS ls (lv_sub hl [0, 1, 2, 3, 4, 5] rfl)
            · refine lv_iconst (v := (nI 1)) hx hb dX6_goesLine_121 (by decide) ?_
              refine lv_goto (tgt := 126) hx hb dX6_goesLine_122 (by decide) ?_
              refine lv_istore (lv' := [(4, .int (nI 1)), (3, .int v103), (5, .int (nI k)), (2, .int (nI (len (rn li)))), (0, .ref (a 0)), (1, .int (nI li))]) hx hb dX6_goesLine_126 hl (by decide) rfl (fun ls hl => ?_)
              refine lv_iinc (v := (nI (k + 1))) (lv' := [(5, .int (nI (k + 1))), (4, .int (nI 1)), (3, .int v103), (2, .int (nI (len (rn li)))), (0, .ref (a 0)), (1, .int (nI li))]) hx hb dX6_goesLine_128 hl (k := 2) rfl (k_inc k) (by decide) rfl (fun ls hl => ?_)
              refine lv_goto (tgt := 68) hx hb dX6_goesLine_131 (by decide) ?_
              exact ih68 v103 1 (k + 1) lineO'_85 tokO'_85 atO'_85 baseO'_85 kindO'_85 partO'_85 strayO'_85 stk'_85 _ _ p85 (by rw [ev103, hx2, i_assoc, wd1_eq (tok_pos hzi c71)]; rfl) (by omega) (Or.inl ⟨rfl, fun i hi => (Nat.lt_succ_iff_lt_or_eq.mp hi).elim (fun q => hall i q) (fun q => by rw [q]; exact c118)⟩) (by omega) hP hD hS ls (lv_sub hl [0, 1, 2, 3, 4, 5] rfl)
    exact lp68 (len (rn li) - 0 + 1) (cols bys rn (li + 1) li) 1 0 lineO tokO atO baseO kindO partO f26 stk _ _ hR0 (add_n0 _).symm (Nat.zero_le _) (Or.inl ⟨rfl, fun i hi => absurd hi (Nat.not_lt_zero _)⟩) (Nat.lt_succ_self _) hP hD hS ls (lv_sub hl [0, 1, 2, 3, 4, 5] rfl)
  · refine lv_iconst (v := (nI 0)) hx hb dX6_goesLine_36 (by decide) ?_
    refine lv_goto (tgt := 54) hx hb dX6_goesLine_37 (by decide) ?_
    refine k_iast (D := G) (tys := TYS E) (j := li) (x := (nI 0)) (f := colO) (n := 20) hx hb hK hP hD hS 10 0 rfl rfl (by omega) (by decide) dX6_goesLine_54 (fun H locs hP hD hS => ?_)
    have hP : va_P G vwCl (rW E a ln (nO (nAll rn li)) (nD (nAll rn li)) (nL (nAll rn li)) row seen sty lineO tokO atO baseO kindO partO (upd colO li (nI 0)) f19 f26 stk bys was gsd cellsO sortO kLine kAt kKind) H := hP
    have hD : va_D A (rW E a ln (nO (nAll rn li)) (nD (nAll rn li)) (nL (nAll rn li)) row seen sty lineO tokO atO baseO kindO partO (upd colO li (nI 0)) f19 f26 stk bys was gsd cellsO sortO kLine kAt kKind) := hD
    obtain ⟨f54, ef54⟩ : ∃ z : Nat → Int32, z = upd colO li (nI 0) := ⟨_, rfl⟩
    rw [← ef54] at hP hD
    have hca : (nI 0) = colAt bys rn li (cols bys rn li) := by unfold colAt; rw [if_pos (len_z.mp (by omega))]
    have hcc : cols bys rn (li + 1) = upd (cols bys rn li) li ((nI 0)) := by rw [hca]; rfl
    have hR0 : RR (bys 2) (nLine (rn li) li (nStart li (nAll rn li)) 0) (cols bys rn (li + 1)) (li + 1) lineO tokO atO baseO kindO partO f54 f19 f26 stk := by rw [hcc, ef54, ef19, ef26]; exact RR_start hRR hwf
    have hv : f54 li = cols bys rn (li + 1) li := (hR0.2.1 li (by omega)).1
    refine lv_aload_n hx hb dX6_goesLine_55 rfl (lv_at hl 1 rfl) ?_
    refine va_get (D := G) (ci := 6) (v := .ref (a 11)) (C := RX6) (T := TX6) (N := 25) hx hb hts hin6 hown hK hP 0 rfl rfl 11 (by decide) (hts (Cond.fieldLink RX6 37 "IndentRulesModel" "columnOf" "[I") (List.mem_of_getElem? (i := 5) rfl)) (fun _ h9 => h9) rfl dX6_goesLine_56 ?_
    refine lv_iload_n hx hb dX6_goesLine_59 rfl (lv_at hl 2 rfl) ?_
    refine k_iald (D := G) (tys := TYS E) (j := li) (f := f54) (n := 20) hx hb hK hP 10 0 rfl rfl (by omega) (by decide) dX6_goesLine_60 ?_
    rw [hv]
    refine lv_istore_n (lv' := [(3, .int (cols bys rn (li + 1) li)), (2, .int (nI (len (rn li)))), (0, .ref (a 0)), (1, .int (nI li))]) hx hb dX6_goesLine_61 rfl hl (by decide) rfl (fun ls hl => ?_)
    refine lv_iconst (v := (nI 1)) hx hb dX6_goesLine_62 (by decide) ?_
    refine lv_istore (lv' := [(4, .int (nI 1)), (3, .int (cols bys rn (li + 1) li)), (2, .int (nI (len (rn li)))), (0, .ref (a 0)), (1, .int (nI li))]) hx hb dX6_goesLine_63 hl (by decide) rfl (fun ls hl => ?_)
    refine lv_iconst (v := (nI 0)) hx hb dX6_goesLine_65 (by decide) ?_
    refine lv_istore (lv' := [(5, .int (nI 0)), (4, .int (nI 1)), (3, .int (cols bys rn (li + 1) li)), (2, .int (nI (len (rn li)))), (0, .ref (a 0)), (1, .int (nI li))]) hx hb dX6_goesLine_66 hl (by decide) rfl (fun ls hl => ?_)
    have lp68 : ∀ (kk : Nat) (x : Int32) (th : Nat) (k : Nat) (lineX : Nat → Int32) (tokX : Nat → Int32) (atX : Nat → Int32) (baseX : Nat → Int32) (kindX : Nat → Int32) (partX : Nat → Int32) (strayX : Nat → Int32) (stkX : Nat → Int32) (H : Heap) (locs : List Loc), (RR (bys 2) (nLine (rn li) li (nStart li (nAll rn li)) k) (cols bys rn (li + 1)) (li + 1) lineX tokX atX baseX kindX partX f54 f19 strayX stkX) → (x = (cols bys rn (li + 1)) li + nI (wsum (rn li) k)) → (k ≤ len (rn li)) → ((th = 1 ∧ ∀ i, i < k → tok (rn li) i ≠ 9) ∨ (th = 0 ∧ 0 < k ∧ tok (rn li) (k - 1) = 9 ∧ ∀ i, i + 1 < k → tok (rn li) i ≠ 9)) → len (rn li) - k < kk → va_P G vwCl (rW E a ln (nO (nLine (rn li) li (nStart li (nAll rn li)) k)) (nD (nLine (rn li) li (nStart li (nAll rn li)) k)) (nL (nLine (rn li) li (nStart li (nAll rn li)) k)) row seen sty lineX tokX atX baseX kindX partX f54 f19 strayX stkX bys was gsd cellsO sortO kLine kAt kKind) H → va_D A (rW E a ln (nO (nLine (rn li) li (nStart li (nAll rn li)) k)) (nD (nLine (rn li) li (nStart li (nAll rn li)) k)) (nL (nLine (rn li) li (nStart li (nAll rn li)) k)) row seen sty lineX tokX atX baseX kindX partX f54 f19 strayX stkX bys was gsd cellsO sortO kLine kAt kKind) → va_S A s.heap H locs → ∀ ls : Array Slot, lv_has ls 6 [(5, .int (nI k)), (4, .int (nI th)), (3, .int x), (2, .int (nI (len (rn li)))), (0, .ref (a 0)), (1, .int (nI li))] → W p l e (headSpec wsX6_goesLine ({ frames := 3, cells := 0, slots := 0, locals := 70 } : Room)).room s m ([.ref (a 0), .int (nI li)] : List Value).toArray below meth c H locs 0 0 (MQ below (va_Qv (fun (u : (Nat → Int32) × (Nat → Int32) × (Nat → Int32) × (Nat → Int32) × (Nat → Int32) × (Nat → Int32) × (Nat → Int32) × (Nat → Int32) × (Nat → Int32) × (Nat → Int32)) => RR (bys 2) (nAll rn (li + 1)) (cols bys rn (li + 1)) (li + 1) u.1 u.2.1 u.2.2.1 u.2.2.2.1 u.2.2.2.2.1 u.2.2.2.2.2.1 u.2.2.2.2.2.2.1 u.2.2.2.2.2.2.2.1 u.2.2.2.2.2.2.2.2.1 u.2.2.2.2.2.2.2.2.2) (fun (u : (Nat → Int32) × (Nat → Int32) × (Nat → Int32) × (Nat → Int32) × (Nat → Int32) × (Nat → Int32) × (Nat → Int32) × (Nat → Int32) × (Nat → Int32) × (Nat → Int32)) tQ => va_P G vwCl (rW E a ln (nO (nAll rn (li + 1))) (nD (nAll rn (li + 1))) (nL (nAll rn (li + 1))) row seen sty u.1 u.2.1 u.2.2.1 u.2.2.2.1 u.2.2.2.2.1 u.2.2.2.2.2.1 u.2.2.2.2.2.2.1 u.2.2.2.2.2.2.2.1 u.2.2.2.2.2.2.2.2.1 u.2.2.2.2.2.2.2.2.2 bys was gsd cellsO sortO kLine kAt kKind) tQ.heap) A) ([.ref (a 0), .int (nI li)] : List Value).toArray s 0 0 A) (F0 m 68 ls []) := by
      intro kk
      induction kk with
      | zero => intro x th k lineX tokX atX baseX kindX partX strayX stkX H locs hR2 hx2 hk2 hth hkk; exact absurd hkk (Nat.not_lt_zero _)
      | succ kk ih68 =>
        intro x th k lineX tokX atX baseX kindX partX strayX stkX H locs hR2 hx2 hk2 hth hkk hP hD hS ls hl
        refine lv_iload hx hb dX6_goesLine_68 (lv_at hl 0 rfl) ?_
        refine lv_iload_n hx hb dX6_goesLine_70 rfl (lv_at hl 3 rfl) ?_
        refine n_icmp_ge (a := k) (b := (len (rn li))) (tgt := 134) hx hb (by omega) (by omega) dX6_goesLine_71 (by decide) (fun c71 => ?_) (fun c71 => ?_)
        · exact W.vret hx hb hr (fun tZ htZ hWZ => ⟨⟨(lineX, tokX, atX, baseX, kindX, partX, f54, f19, strayX, stkX), rfl, by have e : k = pres (rn li) := hth.elim (fun q => pres_all q.2 (by omega)) (fun q => pres_note q.2.1 q.2.2.1 q.2.2.2 hk2); rw [e] at hR2; exact hR2, by have e : k = pres (rn li) := hth.elim (fun q => pres_all q.2 (by omega)) (fun q => pres_note q.2.1 q.2.2.1 q.2.2.2 hk2); rw [e] at hP; show va_P G vwCl _ tZ.heap; rw [htZ]; exact hP⟩, hS.F htZ⟩) hS.2.2 dX6_goesLine_134
        · refine lv_iload hx hb dX6_goesLine_74 (lv_at hl 1 rfl) ?_
          refine n_if_eq (a := th) (tgt := 134) hx hb (by rcases hth with q | q <;> omega) dX6_goesLine_76 (by decide) (fun c76 => ?_) (fun c76 => ?_)
          · exact W.vret hx hb hr (fun tZ htZ hWZ => ⟨⟨(lineX, tokX, atX, baseX, kindX, partX, f54, f19, strayX, stkX), rfl, by have e : k = pres (rn li) := hth.elim (fun q => absurd q.1 (by omega)) (fun q => pres_note q.2.1 q.2.2.1 q.2.2.2 hk2); rw [e] at hR2; exact hR2, by have e : k = pres (rn li) := hth.elim (fun q => absurd q.1 (by omega)) (fun q => pres_note q.2.1 q.2.2.1 q.2.2.2 hk2); rw [e] at hP; show va_P G vwCl _ tZ.heap; rw [htZ]; exact hP⟩, hS.F htZ⟩) hS.2.2 dX6_goesLine_134
          · have hall : ∀ i, i < k → tok (rn li) i ≠ 9 := hth.elim (fun q => q.2) (fun q => absurd q.1 (by omega))
            have hkp := pres_gt hall c71
            have hwk := wfN_line (t := rn li) (li := li) hwf1 (Nat.lt_succ_self li) k
            refine lv_aload_n hx hb dX6_goesLine_79 rfl (lv_at hl 4 rfl) ?_
            refine lv_iload_n hx hb dX6_goesLine_80 rfl (lv_at hl 5 rfl) ?_
            refine lv_iload hx hb dX6_goesLine_81 (lv_at hl 0 rfl) ?_
            refine lv_iload_n hx hb dX6_goesLine_83 rfl (lv_at hl 3 rfl) ?_
            refine lv_iload_n hx hb dX6_goesLine_84 rfl (lv_at hl 2 rfl) ?_
            refine wf_v (n := 4) (G := G) (E := E) (As := [.int (nI li), .int (nI k), .int (nI (len (rn li))), .int x]) (rest := []) (ci := 6) (q0 := 0) (wn := fun (u : (Nat → Int32) × (Nat → Int32) × (Nat → Int32) × (Nat → Int32) × (Nat → Int32) × (Nat → Int32) × (Nat → Int32) × (Nat → Int32)) => rW E a ln (nO (nTok (rn li) li k (nLine (rn li) li (nStart li (nAll rn li)) k))) (nD (nTok (rn li) li k (nLine (rn li) li (nStart li (nAll rn li)) k))) (nL (nTok (rn li) li k (nLine (rn li) li (nStart li (nAll rn li)) k))) row seen sty u.1 u.2.1 u.2.2.1 u.2.2.2.1 u.2.2.2.2.1 u.2.2.2.2.2.1 f54 f19 u.2.2.2.2.2.2.1 u.2.2.2.2.2.2.2 bys was gsd cellsO sortO kLine kAt kKind) ⟨hx, hb, hml, hown, hts⟩ hK hZ hS hA (fun sz => c_X6_goesToken l G E a ln row seen sty lineX tokX atX baseX kindX partX f54 f19 strayX stkX bys was gsd cellsO sortO kLine kAt kKind li k (rn li) x (nLine (rn li) li (nStart li (nAll rn li)) k) (cols bys rn (li + 1)) (li + 1) (li + 1) (9 * li + k) (by first | assumption | omega) (by first | assumption | omega) (by first | assumption | omega) hrw hlt hzi hkp hx2 hR2 hwk (by omega) sz) gX6_goesLine_X6_goesToken rfl rfl rfl (by decide +kernel) ⟨Nat.le_of_ble_eq_true rfl, Nat.le_of_ble_eq_true rfl⟩ hP hD (fun _ => rfl) rfl rfl hl.1 rfl rfl (Nat.le_of_ble_eq_true rfl) dX6_goesLine_85 ⟨Nat.zero_le _, Nat.zero_le _⟩ (fun u85 H locs p85 hP hD hS => ?_)
            obtain ⟨lineO'_85, tokO'_85, atO'_85, baseO'_85, kindO'_85, partO'_85, strayO'_85, stk'_85⟩ := u85
            try dsimp only at p85 hP hD
            have hP : va_P G vwCl (rW E a ln (nO (nTok (rn li) li k (nLine (rn li) li (nStart li (nAll rn li)) k))) (nD (nTok (rn li) li k (nLine (rn li) li (nStart li (nAll rn li)) k))) (nL (nTok (rn li) li k (nLine (rn li) li (nStart li (nAll rn li)) k))) row seen sty lineO'_85 tokO'_85 atO'_85 baseO'_85 kindO'_85 partO'_85 f54 f19 strayO'_85 stk'_85 bys was gsd cellsO sortO kLine kAt kKind) H := hP
            have hD : va_D A (rW E a ln (nO (nTok (rn li) li k (nLine (rn li) li (nStart li (nAll rn li)) k))) (nD (nTok (rn li) li k (nLine (rn li) li (nStart li (nAll rn li)) k))) (nL (nTok (rn li) li k (nLine (rn li) li (nStart li (nAll rn li)) k))) row seen sty lineO'_85 tokO'_85 atO'_85 baseO'_85 kindO'_85 partO'_85 f54 f19 strayO'_85 stk'_85 bys was gsd cellsO sortO kLine kAt kKind) := hD
            refine lv_iload_n hx hb dX6_goesLine_88 rfl (lv_at hl 2 rfl) ?_
            refine lv_aload_n hx hb dX6_goesLine_89 rfl (lv_at hl 4 rfl) ?_
            refine va_get (D := G) (ci := 6) (v := .ref (a 1)) (C := RX6) (T := TX6) (N := 25) hx hb hts hin6 hown hK hP 0 rfl rfl 1 (by decide) (hts (Cond.fieldLink RX6 7 "IndentRulesModel" "row" "[I") (List.mem_of_getElem? (i := 1) rfl)) (fun _ h9 => h9) rfl dX6_goesLine_90 ?_
            refine lv_iload_n hx hb dX6_goesLine_93 rfl (lv_at hl 5 rfl) ?_
            refine k_iald (D := G) (tys := TYS E) (j := li) (f := row) (n := 20) hx hb hK hP 1 0 rfl rfl (by omega) (by decide) dX6_goesLine_94 ?_
            rw [hrw]
            refine lv_iload hx hb dX6_goesLine_95 (lv_at hl 0 rfl) ?_
            refine rs_i (n := 2) (G := G) (E := E) (As := [.int (nI (rn li)), .int (nI k)]) (rest := [.int x]) ⟨hx, hb, hml, hown, hts⟩ hK hZ hS (c_X6_tokenAt l G E (rn li) k (by first | assumption | omega) (by first | assumption | omega)) gX6_goesLine_X6_tokenAt rfl rfl rfl (by decide +kernel) ⟨Nat.le_of_ble_eq_true rfl, Nat.le_of_ble_eq_true rfl⟩ (fun k q h => by simp at h) hl.1 rfl rfl (Nat.le_of_ble_eq_true rfl) dX6_goesLine_97 ⟨Nat.zero_le _, Nat.zero_le _⟩ (fun r97 p97 => ?_)
            subst p97
            refine rs_i (n := 1) (G := G) (E := E) (As := [.int (nI (tok (rn li) k))]) (rest := [.int x]) ⟨hx, hb, hml, hown, hts⟩ hK hZ hS (c_X6_widthOf l G E (tok (rn li) k) (tok_lt _ _)) gX6_goesLine_X6_widthOf rfl rfl rfl (by decide +kernel) ⟨Nat.le_of_ble_eq_true rfl, Nat.le_of_ble_eq_true rfl⟩ (fun k q h => by simp at h) hl.1 rfl rfl (Nat.le_of_ble_eq_true rfl) dX6_goesLine_100 ⟨Nat.zero_le _, Nat.zero_le _⟩ (fun r100 p100 => ?_)
            subst p100
            refine lv_iadd hx hb dX6_goesLine_103 ?_
            refine lv_topi (fun v103 ev103 => ?_)
            refine lv_istore_n (lv' := [(3, .int v103), (5, .int (nI k)), (4, .int (nI th)), (2, .int (nI (len (rn li)))), (0, .ref (a 0)), (1, .int (nI li))]) hx hb dX6_goesLine_104 rfl hl (by decide) rfl (fun ls hl => ?_)
            refine lv_aload_n hx hb dX6_goesLine_105 rfl (lv_at hl 4 rfl) ?_
            refine va_get (D := G) (ci := 6) (v := .ref (a 1)) (C := RX6) (T := TX6) (N := 25) hx hb hts hin6 hown hK hP 0 rfl rfl 1 (by decide) (hts (Cond.fieldLink RX6 7 "IndentRulesModel" "row" "[I") (List.mem_of_getElem? (i := 1) rfl)) (fun _ h9 => h9) rfl dX6_goesLine_106 ?_
            refine lv_iload_n hx hb dX6_goesLine_109 rfl (lv_at hl 5 rfl) ?_
            refine k_iald (D := G) (tys := TYS E) (j := li) (f := row) (n := 20) hx hb hK hP 1 0 rfl rfl (by omega) (by decide) dX6_goesLine_110 ?_
            rw [hrw]
            refine lv_iload hx hb dX6_goesLine_111 (lv_at hl 1 rfl) ?_
            refine rs_i (n := 2) (G := G) (E := E) (As := [.int (nI (rn li)), .int (nI k)]) (rest := []) ⟨hx, hb, hml, hown, hts⟩ hK hZ hS (c_X6_tokenAt l G E (rn li) k (by first | assumption | omega) (by first | assumption | omega)) gX6_goesLine_X6_tokenAt rfl rfl rfl (by decide +kernel) ⟨Nat.le_of_ble_eq_true rfl, Nat.le_of_ble_eq_true rfl⟩ (fun k q h => by simp at h) hl.1 rfl rfl (Nat.le_of_ble_eq_true rfl) dX6_goesLine_113 ⟨Nat.zero_le _, Nat.zero_le _⟩ (fun r113 p113 => ?_)
            subst p113
            refine lv_bipush (v := (nI 9)) hx hb dX6_goesLine_116 (by decide) ?_
            refine n_icmp_eq (a := (tok (rn li) k)) (b := 9) (tgt := 125) hx hb (by have := tok_lt (rn li) k; omega) (by decide) dX6_goesLine_118 (by decide) (fun c118 => ?_) (fun c118 => ?_)
            · refine lv_iconst (v := (nI 0)) hx hb dX6_goesLine_125 (by decide) ?_
              refine lv_istore (lv' := [(4, .int (nI 0)), (3, .int v103), (5, .int (nI k)), (2, .int (nI (len (rn li)))), (0, .ref (a 0)), (1, .int (nI li))]) hx hb dX6_goesLine_126 hl (by decide) rfl (fun ls hl => ?_)
              refine lv_iinc (v := (nI (k + 1))) (lv' := [(5, .int (nI (k + 1))), (4, .int (nI 0)), (3, .int v103), (2, .int (nI (len (rn li)))), (0, .ref (a 0)), (1, .int (nI li))]) hx hb dX6_goesLine_128 hl (k := 2) rfl (k_inc k) (by decide) rfl (fun ls hl => ?_)
              refine lv_goto (tgt := 68) hx hb dX6_goesLine_131 (by decide) ?_
              exact ih68 v103 0 (k + 1) lineO'_85 tokO'_85 atO'_85 baseO'_85 kindO'_85 partO'_85 strayO'_85 stk'_85 _ _ p85 (by rw [ev103, hx2, i_assoc, wd1_eq (tok_pos hzi c71)]; rfl) (by omega) (Or.inr ⟨rfl, by omega, c118, fun i hi => hall i (by omega)⟩) (by omega) hP hD hS ls (lv_sub hl [0, 1, 2, 3, 4, 5] rfl)
            · refine lv_iconst (v := (nI 1)) hx hb dX6_goesLine_121 (by decide) ?_
              refine lv_goto (tgt := 126) hx hb dX6_goesLine_122 (by decide) ?_
              refine lv_istore (lv' := [(4, .int (nI 1)), (3, .int v103), (5, .int (nI k)), (2, .int (nI (len (rn li)))), (0, .ref (a 0)), (1, .int (nI li))]) hx hb dX6_goesLine_126 hl (by decide) rfl (fun ls hl => ?_)
              refine lv_iinc (v := (nI (k + 1))) (lv' := [(5, .int (nI (k + 1))), (4, .int (nI 1)), (3, .int v103), (2, .int (nI (len (rn li)))), (0, .ref (a 0)), (1, .int (nI li))]) hx hb dX6_goesLine_128 hl (k := 2) rfl (k_inc k) (by decide) rfl (fun ls hl => ?_)
              refine lv_goto (tgt := 68) hx hb dX6_goesLine_131 (by decide) ?_
              exact ih68 v103 1 (k + 1) lineO'_85 tokO'_85 atO'_85 baseO'_85 kindO'_85 partO'_85 strayO'_85 stk'_85 _ _ p85 (by rw [ev103, hx2, i_assoc, wd1_eq (tok_pos hzi c71)]; rfl) (by omega) (Or.inl ⟨rfl, fun i hi => (Nat.lt_succ_iff_lt_or_eq.mp hi).elim (fun q => hall i q) (fun q => by rw [q]; exact c118)⟩) (by omega) hP hD hS ls (lv_sub hl [0, 1, 2, 3, 4, 5] rfl)
    exact lp68 (len (rn li) - 0 + 1) (cols bys rn (li + 1) li) 1 0 lineO tokO atO baseO kindO partO f26 stk _ _ hR0 (add_n0 _).symm (Nat.zero_le _) (Or.inl ⟨rfl, fun i hi => absurd hi (Nat.not_lt_zero _)⟩) (Nat.lt_succ_self _) hP hD hS ls (lv_sub hl [0, 1, 2, 3, 4, 5] rfl)
