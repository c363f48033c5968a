set_option maxHeartbeats 4000000 in
set_option maxRecDepth 100000 in
theorem c_X6_goesBy (l : Launch) (G : va_G) (E : cEnv) (a : Nat → Nat) (ln op dp la : Nat) (row seen sty lineO tokO atO baseO kindO partO colO openO strayO stk bys was gsd cellsO sortO kLine kAt kKind : Nat → Int32) (x0 x1 x2 x3 : Int32) (rn : Nat → Nat) (hln : ln ≤ 20) (hrn : rowsOk ln row rn) (sz : Nat) : Met l yX6_goesBy wsX6_goesBy ({ frames := 4, cells := 0, slots := 0, locals := 95 }) (va_Pc [.ref (a 0), .int x0, .int x1, .int x2, .int x3] (PW G E (rW E a ln op dp la row seen sty lineO tokO atO baseO kindO partO colO openO strayO stk bys was gsd cellsO sortO kLine kAt kKind) sz)) (va_Qv (fun (u : (Nat → Int32) × (Nat → Int32) × (Nat → Int32) × (Nat → Int32) × (Nat → Int32) × (Nat → Int32) × (Nat → Int32) × (Nat → Int32) × (Nat → Int32) × (Nat → Int32) × (Nat → Int32)) => RR (x2) (nAll rn ln) (cols (st4 x0 x1 x2 x3) rn ln) ln u.1 u.2.1 u.2.2.1 u.2.2.2.1 u.2.2.2.2.1 u.2.2.2.2.2.1 u.2.2.2.2.2.2.1 u.2.2.2.2.2.2.2.1 u.2.2.2.2.2.2.2.2.1 u.2.2.2.2.2.2.2.2.2.1) (fun (u : (Nat → Int32) × (Nat → Int32) × (Nat → Int32) × (Nat → Int32) × (Nat → Int32) × (Nat → Int32) × (Nat → Int32) × (Nat → Int32) × (Nat → Int32) × (Nat → Int32) × (Nat → Int32)) tQ => va_P G vwCl (rW E a ln (nO (nAll rn ln)) (nD (nAll rn ln)) (nL (nAll rn ln)) row seen sty u.1 u.2.1 u.2.2.1 u.2.2.2.1 u.2.2.2.2.1 u.2.2.2.2.2.1 u.2.2.2.2.2.2.1 u.2.2.2.2.2.2.2.1 u.2.2.2.2.2.2.2.2.1 u.2.2.2.2.2.2.2.2.2.1 u.2.2.2.2.2.2.2.2.2.2 was gsd cellsO sortO kLine kAt kKind) tQ.heap) (va_A (rW E a ln op dp la row seen sty lineO tokO atO baseO kindO partO colO openO strayO stk bys was gsd cellsO sortO kLine kAt kKind) sz)) 0 0 (va_A (rW E a ln op dp la row seen sty lineO tokO atO baseO kindO partO colO openO strayO stk bys was gsd cellsO sortO kLine kAt kKind) sz) := by
  refine Met.ofW (cc := cX6_goesBy) (maxL := 6) (ret := none) (by decide) rfl ?_
  intro p e s m args below meth c s₁ B hml hv
  obtain ⟨rfl, hsz, hP, hK, hD0, hZ⟩ := hv
  have hx := B.exec
  have hb := B.bytes
  have hr := B.returns
  have hts := atoms_spec (ws := wsX6_goesBy) B.pre
  have hown : s.vm.findClass RX6 = some m.cls := findClass_of_methodNamed B.named
  have hlocks := B.notSynchronized
  have hin6 : ∀ w ∈ u_ws RX6 TX6 25, w ∈ wsX6_goesBy := mem_pl [51, 52, 53, 54, 55, 56, 57, 58, 59, 60, 61, 62, 63, 64, 65, 66, 67, 68, 69, 70, 71, 72, 73, 74, 75] (by rfl)
  subst hsz
  have hD := hD0.self (sz := s.heap.size)
  generalize hAe : va_A (rW E a ln op dp la row seen sty lineO tokO atO baseO kindO partO colO openO strayO stk bys was gsd cellsO sortO kLine kAt kKind) s.heap.size = A at hD hZ ⊢
  have hA : ∀ q : Nat, s.heap.size ≤ q → A q := fun q h => by rw [← hAe]; exact Or.inr h
  have hS : va_S A s.heap s.heap [] := va_S.rf
  have hl := lv_entry ([.ref (a 0), .int x0, .int x1, .int x2, .int x3]) (n := 6) (Nat.le_of_ble_eq_true rfl)
  rw [lg_entry_eq]
  generalize (lg_sl ([.ref (a 0), .int x0, .int x1, .int x2, .int x3]) ++ List.replicate (6 - (lg_sl ([.ref (a 0), .int x0, .int x1, .int x2, .int x3])).length) Slot.unset).toArray = ls at hl ⊢
  have hl : lv_has ls 6 [(0, .ref (a 0)), (1, .int x0), (2, .int x1), (3, .int x2), (4, .int x3)] := hl
  refine lv_aload_n hx hb dX6_goesBy_0 rfl (lv_at hl 0 rfl) ?_
  refine va_get (D := G) (ci := 6) (v := .ref (a 17)) (C := RX6) (T := TX6) (N := 25) hx hb hts hin6 hown hK hP 0 rfl rfl 17 (by decide) (hts (Cond.fieldLink RX6 49 "IndentRulesModel" "by" "[I") (List.mem_of_getElem? (i := 1) rfl)) (fun _ h9 => h9) rfl dX6_goesBy_1 ?_
  refine lv_iconst (v := (nI 0)) hx hb dX6_goesBy_4 (by decide) ?_
  refine lv_iload_n hx hb dX6_goesBy_5 rfl (lv_at hl 1 rfl) ?_
  refine k_iast (D := G) (tys := TYS E) (j := 0) (x := x0) (f := bys) (n := 4) hx hb hK hP hD hS 14 0 rfl rfl (by decide) (by decide) dX6_goesBy_6 (fun H locs hP hD hS => ?_)
  have hP : va_P G vwCl (rW E a ln op dp la row seen sty lineO tokO atO baseO kindO partO colO openO strayO stk (upd bys 0 x0) was gsd cellsO sortO kLine kAt kKind) H := hP
  have hD : va_D A (rW E a ln op dp la row seen sty lineO tokO atO baseO kindO partO colO openO strayO stk (upd bys 0 x0) was gsd cellsO sortO kLine kAt kKind) := hD
  obtain ⟨f6, ef6⟩ : ∃ z : Nat → Int32, z = upd bys 0 x0 := ⟨_, rfl⟩
  rw [← ef6] at hP hD
  refine lv_aload_n hx hb dX6_goesBy_7 rfl (lv_at hl 0 rfl) ?_
  refine va_get (D := G) (ci := 6) (v := .ref (a 17)) (C := RX6) (T := TX6) (N := 25) hx hb hts hin6 hown hK hP 0 rfl rfl 17 (by decide) (hts (Cond.fieldLink RX6 49 "IndentRulesModel" "by" "[I") (List.mem_of_getElem? (i := 1) rfl)) (fun _ h9 => h9) rfl dX6_goesBy_8 ?_
  refine lv_iconst (v := (nI 1)) hx hb dX6_goesBy_11 (by decide) ?_
  refine lv_iload_n hx hb dX6_goesBy_12 rfl (lv_at hl 2 rfl) ?_
  refine k_iast (D := G) (tys := TYS E) (j := 1) (x := x1) (f := f6) (n := 4) hx hb hK hP hD hS 14 0 rfl rfl (by decide) (by decide) dX6_goesBy_13 (fun H locs hP hD hS => ?_)
  have hP : va_P G vwCl (rW E a ln op dp la row seen sty lineO tokO atO baseO kindO partO colO openO strayO stk (upd f6 1 x1) was gsd cellsO sortO kLine kAt kKind) H := hP
  have hD : va_D A (rW E a ln op dp la row seen sty lineO tokO atO baseO kindO partO colO openO strayO stk (upd f6 1 x1) was gsd cellsO sortO kLine kAt kKind) := hD
  obtain ⟨f13, ef13⟩ : ∃ z : Nat → Int32, z = upd f6 1 x1 := ⟨_, rfl⟩
  rw [← ef13] at hP hD
  refine lv_aload_n hx hb dX6_goesBy_14 rfl (lv_at hl 0 rfl) ?_
  refine va_get (D := G) (ci := 6) (v := .ref (a 17)) (C := RX6) (T := TX6) (N := 25) hx hb hts hin6 hown hK hP 0 rfl rfl 17 (by decide) (hts (Cond.fieldLink RX6 49 "IndentRulesModel" "by" "[I") (List.mem_of_getElem? (i := 1) rfl)) (fun _ h9 => h9) rfl dX6_goesBy_15 ?_
  refine lv_iconst (v := (nI 2)) hx hb dX6_goesBy_18 (by decide) ?_
  refine lv_iload_n hx hb dX6_goesBy_19 rfl (lv_at hl 3 rfl) ?_
  refine k_iast (D := G) (tys := TYS E) (j := 2) (x := x2) (f := f13) (n := 4) hx hb hK hP hD hS 14 0 rfl rfl (by decide) (by decide) dX6_goesBy_20 (fun H locs hP hD hS => ?_)
  have hP : va_P G vwCl (rW E a ln op dp la row seen sty lineO tokO atO baseO kindO partO colO openO strayO stk (upd f13 2 x2) was gsd cellsO sortO kLine kAt kKind) H := hP
  have hD : va_D A (rW E a ln op dp la row seen sty lineO tokO atO baseO kindO partO colO openO strayO stk (upd f13 2 x2) was gsd cellsO sortO kLine kAt kKind) := hD
  obtain ⟨f20, ef20⟩ : ∃ z : Nat → Int32, z = upd f13 2 x2 := ⟨_, rfl⟩
  rw [← ef20] at hP hD
  refine lv_aload_n hx hb dX6_goesBy_21 rfl (lv_at hl 0 rfl) ?_
  refine va_get (D := G) (ci := 6) (v := .ref (a 17)) (C := RX6) (T := TX6) (N := 25) hx hb hts hin6 hown hK hP 0 rfl rfl 17 (by decide) (hts (Cond.fieldLink RX6 49 "IndentRulesModel" "by" "[I") (List.mem_of_getElem? (i := 1) rfl)) (fun _ h9 => h9) rfl dX6_goesBy_22 ?_
  refine lv_iconst (v := (nI 3)) hx hb dX6_goesBy_25 (by decide) ?_
  refine lv_iload hx hb dX6_goesBy_26 (lv_at hl 4 rfl) ?_
  refine k_iast (D := G) (tys := TYS E) (j := 3) (x := x3) (f := f20) (n := 4) hx hb hK hP hD hS 14 0 rfl rfl (by decide) (by decide) dX6_goesBy_28 (fun H locs hP hD hS => ?_)
  have hP : va_P G vwCl (rW E a ln op dp la row seen sty lineO tokO atO baseO kindO partO colO openO strayO stk (upd f20 3 x3) was gsd cellsO sortO kLine kAt kKind) H := hP
  have hD : va_D A (rW E a ln op dp la row seen sty lineO tokO atO baseO kindO partO colO openO strayO stk (upd f20 3 x3) was gsd cellsO sortO kLine kAt kKind) := hD
  obtain ⟨f28, ef28⟩ : ∃ z : Nat → Int32, z = upd f20 3 x3 := ⟨_, rfl⟩
  rw [← ef28] at hP hD
  have hsg : ∀ k, k < 4 → f28 k = st4 x0 x1 x2 x3 k := by intro k hk; rcases (show k = 0 ∨ k = 1 ∨ k = 2 ∨ k = 3 by omega) with rfl | rfl | rfl | rfl <;> simp [ef28, ef20, ef13, ef6, upd, st4]
  refine lv_aload_n hx hb dX6_goesBy_29 rfl (lv_at hl 0 rfl) ?_
  refine lv_iconst (v := (nI 0)) hx hb dX6_goesBy_30 (by decide) ?_
  refine va_put (D := G) (ci := 6) (v := .int (nI 0)) (ty := .int) (C := RX6) (T := TX6) (N := 25) hx hb hts hin6 tyX6 tyX6_ok nmX6 hown hK hP hD hS 0 rfl rfl 4 (by decide) (hts (Cond.fieldLink RX6 95 "IndentRulesModel" "openers" "I") (List.mem_of_getElem? (i := 2) rfl)) (fun _ h9 => h9) rfl (by decide +kernel) rfl rfl (Nat.le_of_ble_eq_true rfl) dX6_goesBy_31 (fun H locs hP hD hS => ?_)
  have hP : va_P G vwCl (rW E a ln 0 dp la row seen sty lineO tokO atO baseO kindO partO colO openO strayO stk f28 was gsd cellsO sortO kLine kAt kKind) H := hP
  have hD : va_D A (rW E a ln 0 dp la row seen sty lineO tokO atO baseO kindO partO colO openO strayO stk f28 was gsd cellsO sortO kLine kAt kKind) := hD
  refine lv_aload_n hx hb dX6_goesBy_34 rfl (lv_at hl 0 rfl) ?_
  refine lv_iconst (v := (nI 0)) hx hb dX6_goesBy_35 (by decide) ?_
  refine va_put (D := G) (ci := 6) (v := .int (nI 0)) (ty := .int) (C := RX6) (T := TX6) (N := 25) hx hb hts hin6 tyX6 tyX6_ok nmX6 hown hK hP hD hS 0 rfl rfl 14 (by decide) (hts (Cond.fieldLink RX6 85 "IndentRulesModel" "deep" "I") (List.mem_of_getElem? (i := 3) rfl)) (fun _ h9 => h9) rfl (by decide +kernel) rfl rfl (Nat.le_of_ble_eq_true rfl) dX6_goesBy_36 (fun H locs hP hD hS => ?_)
  have hP : va_P G vwCl (rW E a ln 0 0 la row seen sty lineO tokO atO baseO kindO partO colO openO strayO stk f28 was gsd cellsO sortO kLine kAt kKind) H := hP
  have hD : va_D A (rW E a ln 0 0 la row seen sty lineO tokO atO baseO kindO partO colO openO strayO stk f28 was gsd cellsO sortO kLine kAt kKind) := hD
  refine lv_aload_n hx hb dX6_goesBy_39 rfl (lv_at hl 0 rfl) ?_
  refine lv_iconst (v := (nI 0)) hx hb dX6_goesBy_40 (by decide) ?_
  refine va_put (D := G) (ci := 6) (v := .int (nI 0)) (ty := .int) (C := RX6) (T := TX6) (N := 25) hx hb hts hin6 tyX6 tyX6_ok nmX6 hown hK hP hD hS 0 rfl rfl 16 (by decide) (hts (Cond.fieldLink RX6 92 "IndentRulesModel" "last" "I") (List.mem_of_getElem? (i := 4) rfl)) (fun _ h9 => h9) rfl (by decide +kernel) rfl rfl (Nat.le_of_ble_eq_true rfl) dX6_goesBy_41 (fun H locs hP hD hS => ?_)
  have hP : va_P G vwCl (rW E a ln 0 0 0 row seen sty lineO tokO atO baseO kindO partO colO openO strayO stk f28 was gsd cellsO sortO kLine kAt kKind) H := hP
  have hD : va_D A (rW E a ln 0 0 0 row seen sty lineO tokO atO baseO kindO partO colO openO strayO stk f28 was gsd cellsO sortO kLine kAt kKind) := hD
  refine lv_iconst (v := (nI 0)) hx hb dX6_goesBy_44 (by decide) ?_
  refine lv_istore (lv' := [(5, .int (nI 0)), (0, .ref (a 0)), (1, .int x0), (2, .int x1), (3, .int x2), (4, .int x3)]) hx hb dX6_goesBy_45 hl (by decide) rfl (fun ls hl => ?_)
  have lp47 : ∀ (kk : Nat) (i : Nat) (lineX : Nat → Int32) (tokX : Nat → Int32) (atX : Nat → Int32) (baseX : Nat → Int32) (kindX : Nat → Int32) (partX : Nat → Int32) (colX : Nat → Int32) (openX : Nat → Int32) (strayX : Nat → Int32) (stkX : Nat → Int32) (H : Heap) (locs : List Loc), (i ≤ ln) → (RR (f28 2) (nAll rn i) (cols f28 rn i) i lineX tokX atX baseX kindX partX colX openX strayX stkX) → ln - i < kk → va_P G vwCl (rW E a ln (nO (nAll rn i)) (nD (nAll rn i)) (nL (nAll rn i)) row seen sty lineX tokX atX baseX kindX partX colX openX strayX stkX f28 was gsd cellsO sortO kLine kAt kKind) H → va_D A (rW E a ln (nO (nAll rn i)) (nD (nAll rn i)) (nL (nAll rn i)) row seen sty lineX tokX atX baseX kindX partX colX openX strayX stkX f28 was gsd cellsO sortO kLine kAt kKind) → va_S A s.heap H locs → ∀ ls : Array Slot, lv_has ls 6 [(5, .int (nI i)), (0, .ref (a 0)), (1, .int x0), (2, .int x1), (3, .int x2), (4, .int x3)] → W p l e (headSpec wsX6_goesBy ({ frames := 4, cells := 0, slots := 0, locals := 95 } : Room)).room s m ([.ref (a 0), .int x0, .int x1, .int x2, .int x3] : List Value).toArray below meth c H locs 0 0 (MQ below (va_Qv (fun (u : (Nat → Int32) × (Nat → Int32) × (Nat → Int32) × (Nat → Int32) × (Nat → Int32) × (Nat → Int32) × (Nat → Int32) × (Nat → Int32) × (Nat → Int32) × (Nat → Int32) × (Nat → Int32)) => RR (x2) (nAll rn ln) (cols (st4 x0 x1 x2 x3) rn ln) ln u.1 u.2.1 u.2.2.1 u.2.2.2.1 u.2.2.2.2.1 u.2.2.2.2.2.1 u.2.2.2.2.2.2.1 u.2.2.2.2.2.2.2.1 u.2.2.2.2.2.2.2.2.1 u.2.2.2.2.2.2.2.2.2.1) (fun (u : (Nat → Int32) × (Nat → Int32) × (Nat → Int32) × (Nat → Int32) × (Nat → Int32) × (Nat → Int32) × (Nat → Int32) × (Nat → Int32) × (Nat → Int32) × (Nat → Int32) × (Nat → Int32)) tQ => va_P G vwCl (rW E a ln (nO (nAll rn ln)) (nD (nAll rn ln)) (nL (nAll rn ln)) row seen sty u.1 u.2.1 u.2.2.1 u.2.2.2.1 u.2.2.2.2.1 u.2.2.2.2.2.1 u.2.2.2.2.2.2.1 u.2.2.2.2.2.2.2.1 u.2.2.2.2.2.2.2.2.1 u.2.2.2.2.2.2.2.2.2.1 u.2.2.2.2.2.2.2.2.2.2 was gsd cellsO sortO kLine kAt kKind) tQ.heap) A) ([.ref (a 0), .int x0, .int x1, .int x2, .int x3] : List Value).toArray s 0 0 A) (F0 m 47 ls []) := by
    intro kk
    induction kk with
    | zero => intro i lineX tokX atX baseX kindX partX colX openX strayX stkX H locs hi hR2 hkk; exact absurd hkk (Nat.not_lt_zero _)
    | succ kk ih47 =>
      intro i lineX tokX atX baseX kindX partX colX openX strayX stkX H locs hi hR2 hkk hP hD hS ls hl
      refine lv_iload hx hb dX6_goesBy_47 (lv_at hl 0 rfl) ?_
      refine lv_aload_n hx hb dX6_goesBy_49 rfl (lv_at hl 1 rfl) ?_
      refine va_get (D := G) (ci := 6) (v := .int (nI ln)) (C := RX6) (T := TX6) (N := 25) hx hb hts hin6 hown hK hP 0 rfl rfl 0 (by decide) (hts (Cond.fieldLink RX6 73 "IndentRulesModel" "lines" "I") (List.mem_of_getElem? (i := 5) rfl)) (fun _ h9 => h9) rfl dX6_goesBy_50 ?_
      refine n_icmp_ge (a := i) (b := ln) (tgt := 68) hx hb (by omega) (by omega) dX6_goesBy_53 (by decide) (fun c53 => ?_) (fun c53 => ?_)
      · exact W.vret hx hb hr (fun tZ htZ hWZ => ⟨⟨(lineX, tokX, atX, baseX, kindX, partX, colX, openX, strayX, stkX, f28), rfl, by rw [show i = ln by omega, cols_congr hsg, show f28 2 = x2 from hsg 2 (by decide)] at hR2; exact hR2, by rw [show i = ln by omega] at hP; show va_P G vwCl _ tZ.heap; rw [htZ]; exact hP⟩, hS.F htZ⟩) hS.2.2 dX6_goesBy_68
      · refine lv_aload_n hx hb dX6_goesBy_56 rfl (lv_at hl 1 rfl) ?_
        refine lv_iload hx hb dX6_goesBy_57 (lv_at hl 0 rfl) ?_
        refine wf_v (n := 1) (G := G) (E := E) (As := [.int (nI i)]) (rest := []) (ci := 6) (q0 := 0) (wn := fun (u : (Nat → Int32) × (Nat → Int32) × (Nat → Int32) × (Nat → Int32) × (Nat → Int32) × (Nat → Int32) × (Nat → Int32) × (Nat → Int32) × (Nat → Int32) × (Nat → Int32)) => rW E a ln (nO (nAll rn (i + 1))) (nD (nAll rn (i + 1))) (nL (nAll rn (i + 1))) row seen sty u.1 u.2.1 u.2.2.1 u.2.2.2.1 u.2.2.2.2.1 u.2.2.2.2.2.1 u.2.2.2.2.2.2.1 u.2.2.2.2.2.2.2.1 u.2.2.2.2.2.2.2.2.1 u.2.2.2.2.2.2.2.2.2 f28 was gsd cellsO sortO kLine kAt kKind) ⟨hx, hb, hml, hown, hts⟩ hK hZ hS hA (fun sz => c_X6_goesLine l G E a ln row seen sty lineX tokX atX baseX kindX partX colX openX strayX stkX f28 was gsd cellsO sortO kLine kAt kKind i rn (by first | assumption | omega) (by first | assumption | omega) (by first | assumption | omega) hR2 sz) gX6_goesBy_X6_goesLine rfl rfl rfl (by decide +kernel) ⟨Nat.le_of_ble_eq_true rfl, Nat.le_of_ble_eq_true rfl⟩ hP hD (fun _ => rfl) rfl rfl hl.1 rfl rfl (Nat.le_of_ble_eq_true rfl) dX6_goesBy_59 ⟨Nat.zero_le _, Nat.zero_le _⟩ (fun u59 H locs p59 hP hD hS => ?_)
        obtain ⟨lineO'_59, tokO'_59, atO'_59, baseO'_59, kindO'_59, partO'_59, colO'_59, openO'_59, strayO'_59, stk'_59⟩ := u59
        try dsimp only at p59 hP hD
        have hP : va_P G vwCl (rW E a ln (nO (nAll rn (i + 1))) (nD (nAll rn (i + 1))) (nL (nAll rn (i + 1))) row seen sty lineO'_59 tokO'_59 atO'_59 baseO'_59 kindO'_59 partO'_59 colO'_59 openO'_59 strayO'_59 stk'_59 f28 was gsd cellsO sortO kLine kAt kKind) H := hP
        have hD : va_D A (rW E a ln (nO (nAll rn (i + 1))) (nD (nAll rn (i + 1))) (nL (nAll rn (i + 1))) row seen sty lineO'_59 tokO'_59 atO'_59 baseO'_59 kindO'_59 partO'_59 colO'_59 openO'_59 strayO'_59 stk'_59 f28 was gsd cellsO sortO kLine kAt kKind) := hD
        refine lv_iinc (v := (nI (i + 1))) (lv' := [(5, .int (nI (i + 1))), (0, .ref (a 0)), (1, .int x0), (2, .int x1), (3, .int x2), (4, .int x3)]) hx hb dX6_goesBy_62 hl (k := 0) rfl (k_inc i) (by decide) rfl (fun ls hl => ?_)
        refine lv_goto (tgt := 47) hx hb dX6_goesBy_65 (by decide) ?_
        exact ih47 (i + 1) lineO'_59 tokO'_59 atO'_59 baseO'_59 kindO'_59 partO'_59 colO'_59 openO'_59 strayO'_59 stk'_59 _ _ (by omega) p59 (by omega) hP hD hS ls (lv_sub hl [0, 1, 2, 3, 4, 5] rfl)
  exact lp47 (ln - 0 + 1) 0 lineO tokO atO baseO kindO partO colO openO strayO stk _ _ (Nat.zero_le _) ⟨fun k hk => absurd hk (Nat.not_lt_zero _), fun k hk => absurd hk (Nat.not_lt_zero _), fun k hk => absurd hk (Nat.not_lt_zero _)⟩ (Nat.lt_succ_self _) hP hD hS ls (lv_sub hl [0, 1, 2, 3, 4, 5] rfl)

set_option maxHeartbeats 4000000 in
set_option maxRecDepth 100000 in
theorem c_X6_goes (l : Launch) (G : va_G) (E : cEnv) (a : Nat → Nat) (ln op dp la : Nat) (row seen sty lineO tokO atO baseO kindO partO colO openO strayO stk bys was gsd cellsO sortO kLine kAt kKind : Nat → Int32) (rn : Nat → Nat) (hln : ln ≤ 20) (hrn : rowsOk ln row rn) (sz : Nat) : Met l yX6_goes wsX6_goes ({ frames := 5, cells := 0, slots := 0, locals := 120 }) (va_Pc [.ref (a 0)] (PW G E (rW E a ln op dp la row seen sty lineO tokO atO baseO kindO partO colO openO strayO stk bys was gsd cellsO sortO kLine kAt kKind) sz)) (va_Qv (fun (u : (Nat → Int32) × (Nat → Int32) × (Nat → Int32) × (Nat → Int32) × (Nat → Int32) × (Nat → Int32) × (Nat → Int32) × (Nat → Int32) × (Nat → Int32) × (Nat → Int32) × (Nat → Int32)) => RR (sty 2) (nAll rn ln) (cols (sty) rn ln) ln u.1 u.2.1 u.2.2.1 u.2.2.2.1 u.2.2.2.2.1 u.2.2.2.2.2.1 u.2.2.2.2.2.2.1 u.2.2.2.2.2.2.2.1 u.2.2.2.2.2.2.2.2.1 u.2.2.2.2.2.2.2.2.2.1) (fun (u : (Nat → Int32) × (Nat → Int32) × (Nat → Int32) × (Nat → Int32) × (Nat → Int32) × (Nat → Int32) × (Nat → Int32) × (Nat → Int32) × (Nat → Int32) × (Nat → Int32) × (Nat → Int32)) tQ => va_P G vwCl (rW E a ln (nO (nAll rn ln)) (nD (nAll rn ln)) (nL (nAll rn ln)) row seen sty u.1 u.2.1 u.2.2.1 u.2.2.2.1 u.2.2.2.2.1 u.2.2.2.2.2.1 u.2.2.2.2.2.2.1 u.2.2.2.2.2.2.2.1 u.2.2.2.2.2.2.2.2.1 u.2.2.2.2.2.2.2.2.2.1 u.2.2.2.2.2.2.2.2.2.2 was gsd cellsO sortO kLine kAt kKind) tQ.heap) (va_A (rW E a ln op dp la row seen sty lineO tokO atO baseO kindO partO colO openO strayO stk bys was gsd cellsO sortO kLine kAt kKind) sz)) 0 0 (va_A (rW E a ln op dp la row seen sty lineO tokO atO baseO kindO partO colO openO strayO stk bys was gsd cellsO sortO kLine kAt kKind) sz) := by
  refine Met.ofW (cc := cX6_goes) (maxL := 1) (ret := none) (by decide) rfl ?_
  intro p e s m args below meth c s₁ B hml hv
  obtain ⟨rfl, hsz, hP, hK, hD0, hZ⟩ := hv
  have hx := B.exec
  have hb := B.bytes
  have hr := B.returns
  have hts := atoms_spec (ws := wsX6_goes) B.pre
  have hown : s.vm.findClass RX6 = some m.cls := findClass_of_methodNamed B.named
  have hlocks := B.notSynchronized
  have hin6 : ∀ w ∈ u_ws RX6 TX6 25, w ∈ wsX6_goes := mem_pl [56, 57, 58, 59, 60, 61, 62, 63, 64, 65, 66, 67, 68, 69, 70, 71, 72, 73, 74, 75, 76, 77, 78, 79, 80] (by rfl)
  subst hsz
  have hD := hD0.self (sz := s.heap.size)
  generalize hAe : va_A (rW E a ln op dp la row seen sty lineO tokO atO baseO kindO partO colO openO strayO stk bys was gsd cellsO sortO kLine kAt kKind) s.heap.size = A at hD hZ ⊢
  have hA : ∀ q : Nat, s.heap.size ≤ q → A q := fun q h => by rw [← hAe]; exact Or.inr h
  have hS : va_S A s.heap s.heap [] := va_S.rf
  have hl := lv_entry ([.ref (a 0)]) (n := 1) (Nat.le_of_ble_eq_true rfl)
  rw [lg_entry_eq]
  generalize (lg_sl ([.ref (a 0)]) ++ List.replicate (1 - (lg_sl ([.ref (a 0)])).length) Slot.unset).toArray = ls at hl ⊢
  have hl : lv_has ls 1 [(0, .ref (a 0))] := hl
  refine lv_aload_n hx hb dX6_goes_0 rfl (lv_at hl 0 rfl) ?_
  refine lv_aload_n hx hb dX6_goes_1 rfl (lv_at hl 0 rfl) ?_
  refine va_get (D := G) (ci := 6) (v := .ref (a 3)) (C := RX6) (T := TX6) (N := 25) hx hb hts hin6 hown hK hP 0 rfl rfl 3 (by decide) (hts (Cond.fieldLink RX6 16 "IndentRulesModel" "style" "[I") (List.mem_of_getElem? (i := 1) rfl)) (fun _ h9 => h9) rfl dX6_goes_2 ?_
  refine lv_iconst (v := (nI 0)) hx hb dX6_goes_5 (by decide) ?_
  refine k_iald (D := G) (tys := TYS E) (j := 0) (f := sty) (n := 4) hx hb hK hP 3 0 rfl rfl (by decide) (by decide) dX6_goes_6 ?_
  refine lv_aload_n hx hb dX6_goes_7 rfl (lv_at hl 0 rfl) ?_
  refine va_get (D := G) (ci := 6) (v := .ref (a 3)) (C := RX6) (T := TX6) (N := 25) hx hb hts hin6 hown hK hP 0 rfl rfl 3 (by decide) (hts (Cond.fieldLink RX6 16 "IndentRulesModel" "style" "[I") (List.mem_of_getElem? (i := 1) rfl)) (fun _ h9 => h9) rfl dX6_goes_8 ?_
  refine lv_iconst (v := (nI 1)) hx hb dX6_goes_11 (by decide) ?_
  refine k_iald (D := G) (tys := TYS E) (j := 1) (f := sty) (n := 4) hx hb hK hP 3 0 rfl rfl (by decide) (by decide) dX6_goes_12 ?_
  refine lv_aload_n hx hb dX6_goes_13 rfl (lv_at hl 0 rfl) ?_
  refine va_get (D := G) (ci := 6) (v := .ref (a 3)) (C := RX6) (T := TX6) (N := 25) hx hb hts hin6 hown hK hP 0 rfl rfl 3 (by decide) (hts (Cond.fieldLink RX6 16 "IndentRulesModel" "style" "[I") (List.mem_of_getElem? (i := 1) rfl)) (fun _ h9 => h9) rfl dX6_goes_14 ?_
  refine lv_iconst (v := (nI 2)) hx hb dX6_goes_17 (by decide) ?_
  refine k_iald (D := G) (tys := TYS E) (j := 2) (f := sty) (n := 4) hx hb hK hP 3 0 rfl rfl (by decide) (by decide) dX6_goes_18 ?_
  refine lv_aload_n hx hb dX6_goes_19 rfl (lv_at hl 0 rfl) ?_
  refine va_get (D := G) (ci := 6) (v := .ref (a 3)) (C := RX6) (T := TX6) (N := 25) hx hb hts hin6 hown hK hP 0 rfl rfl 3 (by decide) (hts (Cond.fieldLink RX6 16 "IndentRulesModel" "style" "[I") (List.mem_of_getElem? (i := 1) rfl)) (fun _ h9 => h9) rfl dX6_goes_20 ?_
  refine lv_iconst (v := (nI 3)) hx hb dX6_goes_23 (by decide) ?_
  refine k_iald (D := G) (tys := TYS E) (j := 3) (f := sty) (n := 4) hx hb hK hP 3 0 rfl rfl (by decide) (by decide) dX6_goes_24 ?_
  refine wf_v (n := 4) (G := G) (E := E) (As := [.int (sty 0), .int (sty 1), .int (sty 2), .int (sty 3)]) (rest := []) (ci := 6) (q0 := 0) (wn := fun (u : (Nat → Int32) × (Nat → Int32) × (Nat → Int32) × (Nat → Int32) × (Nat → Int32) × (Nat → Int32) × (Nat → Int32) × (Nat → Int32) × (Nat → Int32) × (Nat → Int32) × (Nat → Int32)) => rW E a ln (nO (nAll rn ln)) (nD (nAll rn ln)) (nL (nAll rn ln)) row seen sty u.1 u.2.1 u.2.2.1 u.2.2.2.1 u.2.2.2.2.1 u.2.2.2.2.2.1 u.2.2.2.2.2.2.1 u.2.2.2.2.2.2.2.1 u.2.2.2.2.2.2.2.2.1 u.2.2.2.2.2.2.2.2.2.1 u.2.2.2.2.2.2.2.2.2.2 was gsd cellsO sortO kLine kAt kKind) ⟨hx, hb, hml, hown, hts⟩ hK hZ hS hA (fun sz => c_X6_goesBy l G E a ln op dp la row seen sty lineO tokO atO baseO kindO partO colO openO strayO stk bys was gsd cellsO sortO kLine kAt kKind (sty 0) (sty 1) (sty 2) (sty 3) rn (by first | assumption | omega) (by first | assumption | omega) sz) gX6_goes_X6_goesBy rfl rfl rfl (by decide +kernel) ⟨Nat.le_of_ble_eq_true rfl, Nat.le_of_ble_eq_true rfl⟩ hP hD (fun _ => rfl) rfl rfl hl.1 rfl rfl (Nat.le_of_ble_eq_true rfl) dX6_goes_25 ⟨Nat.zero_le _, Nat.zero_le _⟩ (fun u25 H locs p25 hP hD hS => ?_)
  obtain ⟨lineO'_25, tokO'_25, atO'_25, baseO'_25, kindO'_25, partO'_25, colO'_25, openO'_25, strayO'_25, stk'_25, bys'_25⟩ := u25
  try dsimp only at p25 hP hD
  have hP : va_P G vwCl (rW E a ln (nO (nAll rn ln)) (nD (nAll rn ln)) (nL (nAll rn ln)) row seen sty lineO'_25 tokO'_25 atO'_25 baseO'_25 kindO'_25 partO'_25 colO'_25 openO'_25 strayO'_25 stk'_25 bys'_25 was gsd cellsO sortO kLine kAt kKind) H := hP
  have hD : va_D A (rW E a ln (nO (nAll rn ln)) (nD (nAll rn ln)) (nL (nAll rn ln)) row seen sty lineO'_25 tokO'_25 atO'_25 baseO'_25 kindO'_25 partO'_25 colO'_25 openO'_25 strayO'_25 stk'_25 bys'_25 was gsd cellsO sortO kLine kAt kKind) := hD
  exact W.vret hx hb hr (fun tZ htZ hWZ => ⟨⟨(lineO'_25, tokO'_25, atO'_25, baseO'_25, kindO'_25, partO'_25, colO'_25, openO'_25, strayO'_25, stk'_25, bys'_25), rfl, by rw [cols_congr (s := sty) (s' := st4 (sty 0) (sty 1) (sty 2) (sty 3)) (fun k hk => by rcases (show k = 0 ∨ k = 1 ∨ k = 2 ∨ k = 3 by omega) with rfl | rfl | rfl | rfl <;> rfl)]; exact p25, by show va_P G vwCl _ tZ.heap; rw [htZ]; exact hP⟩, hS.F htZ⟩) hS.2.2 dX6_goes_28

set_option maxHeartbeats 4000000 in
set_option maxRecDepth 100000 in
theorem c_X6_notes (l : Launch) (G : va_G) (E : cEnv) (a : Nat → Nat) (ln op dp la : Nat) (row seen sty lineO tokO atO baseO kindO partO colO openO strayO stk bys was gsd cellsO sortO kLine kAt kKind : Nat → Int32) (rn : Nat → Nat) (hln : ln ≤ 20) (hrn : rowsOk ln row rn) (sz : Nat) : Met l yX6_notes wsX6_notes ({ frames := 6, cells := 0, slots := 0, locals := 140 }) (va_Pc [.ref (a 0)] (PW G E (rW E a ln op dp la row seen sty lineO tokO atO baseO kindO partO colO openO strayO stk bys was gsd cellsO sortO kLine kAt kKind) sz)) (va_Qv (fun (u : (Nat → Int32) × (Nat → Int32) × (Nat → Int32) × (Nat → Int32) × (Nat → Int32) × (Nat → Int32) × (Nat → Int32) × (Nat → Int32) × (Nat → Int32) × (Nat → Int32) × (Nat → Int32) × (Nat → Int32)) => (RR (sty 2) (nAll rn ln) (cols (sty) rn ln) ln u.1 u.2.1 u.2.2.1 u.2.2.2.1 u.2.2.2.2.1 u.2.2.2.2.2.1 u.2.2.2.2.2.2.1 u.2.2.2.2.2.2.2.1 u.2.2.2.2.2.2.2.2.1 u.2.2.2.2.2.2.2.2.2.1) ∧ ∀ j, j < ln → u.2.2.2.2.2.2.2.2.2.2.2 j = cols sty rn ln j) (fun (u : (Nat → Int32) × (Nat → Int32) × (Nat → Int32) × (Nat → Int32) × (Nat → Int32) × (Nat → Int32) × (Nat → Int32) × (Nat → Int32) × (Nat → Int32) × (Nat → Int32) × (Nat → Int32) × (Nat → Int32)) tQ => va_P G vwCl (rW E a ln (nO (nAll rn ln)) (nD (nAll rn ln)) (nL (nAll rn ln)) row seen sty u.1 u.2.1 u.2.2.1 u.2.2.2.1 u.2.2.2.2.1 u.2.2.2.2.2.1 u.2.2.2.2.2.2.1 u.2.2.2.2.2.2.2.1 u.2.2.2.2.2.2.2.2.1 u.2.2.2.2.2.2.2.2.2.1 u.2.2.2.2.2.2.2.2.2.2.1 u.2.2.2.2.2.2.2.2.2.2.2 gsd cellsO sortO kLine kAt kKind) tQ.heap) (va_A (rW E a ln op dp la row seen sty lineO tokO atO baseO kindO partO colO openO strayO stk bys was gsd cellsO sortO kLine kAt kKind) sz)) 0 0 (va_A (rW E a ln op dp la row seen sty lineO tokO atO baseO kindO partO colO openO strayO stk bys was gsd cellsO sortO kLine kAt kKind) sz) := by
  refine Met.ofW (cc := cX6_notes) (maxL := 2) (ret := none) (by decide) rfl ?_
  intro p e s m args below meth c s₁ B hml hv
  obtain ⟨rfl, hsz, hP, hK, hD0, hZ⟩ := hv
  have hx := B.exec
  have hb := B.bytes
  have hr := B.returns
  have hts := atoms_spec (ws := wsX6_notes) B.pre
  have hown : s.vm.findClass RX6 = some m.cls := findClass_of_methodNamed B.named
  have hlocks := B.notSynchronized
  have hin6 : ∀ w ∈ u_ws RX6 TX6 25, w ∈ wsX6_notes := mem_pl [61, 62, 63, 64, 65, 66, 67, 68, 69, 70, 71, 72, 73, 74, 75, 76, 77, 78, 79, 80, 81, 82, 83, 84, 85] (by rfl)
  subst hsz
  have hD := hD0.self (sz := s.heap.size)
  generalize hAe : va_A (rW E a ln op dp la row seen sty lineO tokO atO baseO kindO partO colO openO strayO stk bys was gsd cellsO sortO kLine kAt kKind) s.heap.size = A at hD hZ ⊢
  have hA : ∀ q : Nat, s.heap.size ≤ q → A q := fun q h => by rw [← hAe]; exact Or.inr h
  have hS : va_S A s.heap s.heap [] := va_S.rf
  have hl := lv_entry ([.ref (a 0)]) (n := 2) (Nat.le_of_ble_eq_true rfl)
  rw [lg_entry_eq]
  generalize (lg_sl ([.ref (a 0)]) ++ List.replicate (2 - (lg_sl ([.ref (a 0)])).length) Slot.unset).toArray = ls at hl ⊢
  have hl : lv_has ls 2 [(0, .ref (a 0))] := hl
  refine lv_aload_n hx hb dX6_notes_0 rfl (lv_at hl 0 rfl) ?_
  refine wf_v (n := 0) (G := G) (E := E) (As := []) (rest := []) (ci := 6) (q0 := 0) (wn := fun (u : (Nat → Int32) × (Nat → Int32) × (Nat → Int32) × (Nat → Int32) × (Nat → Int32) × (Nat → Int32) × (Nat → Int32) × (Nat → Int32) × (Nat → Int32) × (Nat → Int32) × (Nat → Int32)) => rW E a ln (nO (nAll rn ln)) (nD (nAll rn ln)) (nL (nAll rn ln)) row seen sty u.1 u.2.1 u.2.2.1 u.2.2.2.1 u.2.2.2.2.1 u.2.2.2.2.2.1 u.2.2.2.2.2.2.1 u.2.2.2.2.2.2.2.1 u.2.2.2.2.2.2.2.2.1 u.2.2.2.2.2.2.2.2.2.1 u.2.2.2.2.2.2.2.2.2.2 was gsd cellsO sortO kLine kAt kKind) ⟨hx, hb, hml, hown, hts⟩ hK hZ hS hA (fun sz => c_X6_goes l G E a ln op dp la row seen sty lineO tokO atO baseO kindO partO colO openO strayO stk bys was gsd cellsO sortO kLine kAt kKind rn (by first | assumption | omega) (by first | assumption | omega) sz) gX6_notes_X6_goes rfl rfl rfl (by decide +kernel) ⟨Nat.le_of_ble_eq_true rfl, Nat.le_of_ble_eq_true rfl⟩ hP hD (fun _ => rfl) rfl rfl hl.1 rfl rfl (Nat.le_of_ble_eq_true rfl) dX6_notes_1 ⟨Nat.zero_le _, Nat.zero_le _⟩ (fun u1 H locs p1 hP hD hS => ?_)
  obtain ⟨lineO'_1, tokO'_1, atO'_1, baseO'_1, kindO'_1, partO'_1, colO'_1, openO'_1, strayO'_1, stk'_1, bys'_1⟩ := u1
  try dsimp only at p1 hP hD
  have hP : va_P G vwCl (rW E a ln (nO (nAll rn ln)) (nD (nAll rn ln)) (nL (nAll rn ln)) row seen sty lineO'_1 tokO'_1 atO'_1 baseO'_1 kindO'_1 partO'_1 colO'_1 openO'_1 strayO'_1 stk'_1 bys'_1 was gsd cellsO sortO kLine kAt kKind) H := hP
  have hD : va_D A (rW E a ln (nO (nAll rn ln)) (nD (nAll rn ln)) (nL (nAll rn ln)) row seen sty lineO'_1 tokO'_1 atO'_1 baseO'_1 kindO'_1 partO'_1 colO'_1 openO'_1 strayO'_1 stk'_1 bys'_1 was gsd cellsO sortO kLine kAt kKind) := hD
  refine lv_iconst (v := (nI 0)) hx hb dX6_notes_4 (by decide) ?_
  refine lv_istore_n (lv' := [(1, .int (nI 0)), (0, .ref (a 0))]) hx hb dX6_notes_5 rfl hl (by decide) rfl (fun ls hl => ?_)
  have lp6 : ∀ (kk : Nat) (i : Nat) (wasX : Nat → Int32) (H : Heap) (locs : List Loc), (i ≤ ln) → (∀ j, j < i → wasX j = cols sty rn ln j) → ln - i < kk → va_P G vwCl (rW E a ln (nO (nAll rn ln)) (nD (nAll rn ln)) (nL (nAll rn ln)) row seen sty lineO'_1 tokO'_1 atO'_1 baseO'_1 kindO'_1 partO'_1 colO'_1 openO'_1 strayO'_1 stk'_1 bys'_1 wasX gsd cellsO sortO kLine kAt kKind) H → va_D A (rW E a ln (nO (nAll rn ln)) (nD (nAll rn ln)) (nL (nAll rn ln)) row seen sty lineO'_1 tokO'_1 atO'_1 baseO'_1 kindO'_1 partO'_1 colO'_1 openO'_1 strayO'_1 stk'_1 bys'_1 wasX gsd cellsO sortO kLine kAt kKind) → va_S A s.heap H locs → ∀ ls : Array Slot, lv_has ls 2 [(1, .int (nI i)), (0, .ref (a 0))] → W p l e (headSpec wsX6_notes ({ frames := 6, cells := 0, slots := 0, locals := 140 } : Room)).room s m ([.ref (a 0)] : List Value).toArray below meth c H locs 0 0 (MQ below (va_Qv (fun (u : (Nat → Int32) × (Nat → Int32) × (Nat → Int32) × (Nat → Int32) × (Nat → Int32) × (Nat → Int32) × (Nat → Int32) × (Nat → Int32) × (Nat → Int32) × (Nat → Int32) × (Nat → Int32) × (Nat → Int32)) => (RR (sty 2) (nAll rn ln) (cols (sty) rn ln) ln u.1 u.2.1 u.2.2.1 u.2.2.2.1 u.2.2.2.2.1 u.2.2.2.2.2.1 u.2.2.2.2.2.2.1 u.2.2.2.2.2.2.2.1 u.2.2.2.2.2.2.2.2.1 u.2.2.2.2.2.2.2.2.2.1) ∧ ∀ j, j < ln → u.2.2.2.2.2.2.2.2.2.2.2 j = cols sty rn ln j) (fun (u : (Nat → Int32) × (Nat → Int32) × (Nat → Int32) × (Nat → Int32) × (Nat → Int32) × (Nat → Int32) × (Nat → Int32) × (Nat → Int32) × (Nat → Int32) × (Nat → Int32) × (Nat → Int32) × (Nat → Int32)) tQ => va_P G vwCl (rW E a ln (nO (nAll rn ln)) (nD (nAll rn ln)) (nL (nAll rn ln)) row seen sty u.1 u.2.1 u.2.2.1 u.2.2.2.1 u.2.2.2.2.1 u.2.2.2.2.2.1 u.2.2.2.2.2.2.1 u.2.2.2.2.2.2.2.1 u.2.2.2.2.2.2.2.2.1 u.2.2.2.2.2.2.2.2.2.1 u.2.2.2.2.2.2.2.2.2.2.1 u.2.2.2.2.2.2.2.2.2.2.2 gsd cellsO sortO kLine kAt kKind) tQ.heap) A) ([.ref (a 0)] : List Value).toArray s 0 0 A) (F0 m 6 ls []) := by
    intro kk
    induction kk with
    | zero => intro i wasX H locs hi hw2 hkk; exact absurd hkk (Nat.not_lt_zero _)
    | succ kk ih6 =>
      intro i wasX H locs hi hw2 hkk hP hD hS ls hl
      refine lv_iload_n hx hb dX6_notes_6 rfl (lv_at hl 0 rfl) ?_
      refine lv_aload_n hx hb dX6_notes_7 rfl (lv_at hl 1 rfl) ?_
      refine va_get (D := G) (ci := 6) (v := .int (nI ln)) (C := RX6) (T := TX6) (N := 25) hx hb hts hin6 hown hK hP 0 rfl rfl 0 (by decide) (hts (Cond.fieldLink RX6 73 "IndentRulesModel" "lines" "I") (List.mem_of_getElem? (i := 1) rfl)) (fun _ h9 => h9) rfl dX6_notes_8 ?_
      refine n_icmp_ge (a := i) (b := ln) (tgt := 32) hx hb (by omega) (by omega) dX6_notes_11 (by decide) (fun c11 => ?_) (fun c11 => ?_)
      · exact W.vret hx hb hr (fun tZ htZ hWZ => ⟨⟨(lineO'_1, tokO'_1, atO'_1, baseO'_1, kindO'_1, partO'_1, colO'_1, openO'_1, strayO'_1, stk'_1, bys'_1, wasX), rfl, ⟨p1, fun j hj => hw2 j (by omega)⟩, by show va_P G vwCl _ tZ.heap; rw [htZ]; exact hP⟩, hS.F htZ⟩) hS.2.2 dX6_notes_32
      · refine lv_aload_n hx hb dX6_notes_14 rfl (lv_at hl 1 rfl) ?_
        refine va_get (D := G) (ci := 6) (v := .ref (a 18)) (C := RX6) (T := TX6) (N := 25) hx hb hts hin6 hown hK hP 0 rfl rfl 18 (by decide) (hts (Cond.fieldLink RX6 52 "IndentRulesModel" "columnWas" "[I") (List.mem_of_getElem? (i := 2) rfl)) (fun _ h9 => h9) rfl dX6_notes_15 ?_
        refine lv_iload_n hx hb dX6_notes_18 rfl (lv_at hl 0 rfl) ?_
        refine lv_aload_n hx hb dX6_notes_19 rfl (lv_at hl 1 rfl) ?_
        refine va_get (D := G) (ci := 6) (v := .ref (a 11)) (C := RX6) (T := TX6) (N := 25) hx hb hts hin6 hown hK hP 0 rfl rfl 11 (by decide) (hts (Cond.fieldLink RX6 37 "IndentRulesModel" "columnOf" "[I") (List.mem_of_getElem? (i := 3) rfl)) (fun _ h9 => h9) rfl dX6_notes_20 ?_
        refine lv_iload_n hx hb dX6_notes_23 rfl (lv_at hl 0 rfl) ?_
        refine k_iald (D := G) (tys := TYS E) (j := i) (f := colO'_1) (n := 20) hx hb hK hP 10 0 rfl rfl (by omega) (by decide) dX6_notes_24 ?_
        refine k_iast (D := G) (tys := TYS E) (j := i) (x := (colO'_1 i)) (f := wasX) (n := 20) hx hb hK hP hD hS 15 0 rfl rfl (by omega) (by decide) dX6_notes_25 (fun H locs hP hD hS => ?_)
        have hP : va_P G vwCl (rW E a ln (nO (nAll rn ln)) (nD (nAll rn ln)) (nL (nAll rn ln)) row seen sty lineO'_1 tokO'_1 atO'_1 baseO'_1 kindO'_1 partO'_1 colO'_1 openO'_1 strayO'_1 stk'_1 bys'_1 (upd wasX i (colO'_1 i)) gsd cellsO sortO kLine kAt kKind) H := hP
        have hD : va_D A (rW E a ln (nO (nAll rn ln)) (nD (nAll rn ln)) (nL (nAll rn ln)) row seen sty lineO'_1 tokO'_1 atO'_1 baseO'_1 kindO'_1 partO'_1 colO'_1 openO'_1 strayO'_1 stk'_1 bys'_1 (upd wasX i (colO'_1 i)) gsd cellsO sortO kLine kAt kKind) := hD
        obtain ⟨f25, ef25⟩ : ∃ z : Nat → Int32, z = upd wasX i (colO'_1 i) := ⟨_, rfl⟩
        rw [← ef25] at hP hD
        refine lv_iinc (v := (nI (i + 1))) (lv' := [(1, .int (nI (i + 1))), (0, .ref (a 0))]) hx hb dX6_notes_26 hl (k := 0) rfl (k_inc i) (by decide) rfl (fun ls hl => ?_)
        refine lv_goto (tgt := 6) hx hb dX6_notes_29 (by decide) ?_
        exact ih6 (i + 1) f25 _ _ (by omega) (upd_all ef25 (p1.2.1 i c11).1 hw2) (by omega) hP hD hS ls (lv_sub hl [0, 1] rfl)
  exact lp6 (ln - 0 + 1) 0 was _ _ (Nat.zero_le _) (fun j hj => absurd hj (Nat.not_lt_zero _)) (Nat.lt_succ_self _) hP hD hS ls (lv_sub hl [0, 1] rfl)

set_option maxHeartbeats 4000000 in
set_option maxRecDepth 100000 in
theorem c_X6_moved (l : Launch) (G : va_G) (E : cEnv) (a : Nat → Nat) (ln op dp la : Nat) (row seen sty lineO tokO atO baseO kindO partO colO openO strayO stk bys was gsd cellsO sortO kLine kAt kKind : Nat → Int32) (x : Int32) (rn : Nat → Nat) (hln : ln ≤ 20) (hrn : rowsOk ln row rn) (sz : Nat) : Met l yX6_moved wsX6_moved ({ frames := 6, cells := 0, slots := 0, locals := 140 }) (va_Pc [.ref (a 0), .int x] (PW G E (rW E a ln op dp la row seen sty lineO tokO atO baseO kindO partO colO openO strayO stk bys was gsd cellsO sortO kLine kAt kKind) sz)) (va_Qi (fun (r : Int32) (u : (Nat → Int32) × (Nat → Int32) × (Nat → Int32) × (Nat → Int32) × (Nat → Int32) × (Nat → Int32) × (Nat → Int32) × (Nat → Int32) × (Nat → Int32) × (Nat → Int32) × (Nat → Int32)) => (RR (sty 2) (nAll rn ln) (cols (sty) rn ln) ln u.1 u.2.1 u.2.2.1 u.2.2.2.1 u.2.2.2.2.1 u.2.2.2.2.2.1 u.2.2.2.2.2.2.1 u.2.2.2.2.2.2.2.1 u.2.2.2.2.2.2.2.2.1 u.2.2.2.2.2.2.2.2.2.1) ∧ r = nI (mvc x (cols sty rn ln) was ln)) (fun (u : (Nat → Int32) × (Nat → Int32) × (Nat → Int32) × (Nat → Int32) × (Nat → Int32) × (Nat → Int32) × (Nat → Int32) × (Nat → Int32) × (Nat → Int32) × (Nat → Int32) × (Nat → Int32)) tQ => va_P G vwCl (rW E a ln (nO (nAll rn ln)) (nD (nAll rn ln)) (nL (nAll rn ln)) row seen sty u.1 u.2.1 u.2.2.1 u.2.2.2.1 u.2.2.2.2.1 u.2.2.2.2.2.1 u.2.2.2.2.2.2.1 u.2.2.2.2.2.2.2.1 u.2.2.2.2.2.2.2.2.1 u.2.2.2.2.2.2.2.2.2.1 u.2.2.2.2.2.2.2.2.2.2 was gsd cellsO sortO kLine kAt kKind) tQ.heap) (va_A (rW E a ln op dp la row seen sty lineO tokO atO baseO kindO partO colO openO strayO stk bys was gsd cellsO sortO kLine kAt kKind) sz)) 0 0 (va_A (rW E a ln op dp la row seen sty lineO tokO atO baseO kindO partO colO openO strayO stk bys was gsd cellsO sortO kLine kAt kKind) sz) := by
  refine Met.ofW (cc := cX6_moved) (maxL := 4) (ret := (some .int)) (by decide) rfl ?_
  intro p e s m args below meth c s₁ B hml hv
  obtain ⟨rfl, hsz, hP, hK, hD0, hZ⟩ := hv
  have hx := B.exec
  have hb := B.bytes
  have hr := B.returns
  have hts := atoms_spec (ws := wsX6_moved) B.pre
  have hown : s.vm.findClass RX6 = some m.cls := findClass_of_methodNamed B.named
  have hlocks := B.notSynchronized
  have hin6 : ∀ w ∈ u_ws RX6 TX6 25, w ∈ wsX6_moved := mem_pl [61, 62, 63, 64, 65, 66, 67, 68, 69, 70, 71, 72, 73, 74, 75, 76, 77, 78, 79, 80, 81, 82, 83, 84, 85] (by rfl)
  subst hsz
  have hD := hD0.self (sz := s.heap.size)
  generalize hAe : va_A (rW E a ln op dp la row seen sty lineO tokO atO baseO kindO partO colO openO strayO stk bys was gsd cellsO sortO kLine kAt kKind) s.heap.size = A at hD hZ ⊢
  have hA : ∀ q : Nat, s.heap.size ≤ q → A q := fun q h => by rw [← hAe]; exact Or.inr h
  have hS : va_S A s.heap s.heap [] := va_S.rf
  have hl := lv_entry ([.ref (a 0), .int x]) (n := 4) (Nat.le_of_ble_eq_true rfl)
  rw [lg_entry_eq]
  generalize (lg_sl ([.ref (a 0), .int x]) ++ List.replicate (4 - (lg_sl ([.ref (a 0), .int x])).length) Slot.unset).toArray = ls at hl ⊢
  have hl : lv_has ls 4 [(0, .ref (a 0)), (1, .int x)] := hl
  refine lv_aload_n hx hb dX6_moved_0 rfl (lv_at hl 0 rfl) ?_
  refine wf_v (n := 0) (G := G) (E := E) (As := []) (rest := []) (ci := 6) (q0 := 0) (wn := fun (u : (Nat → Int32) × (Nat → Int32) × (Nat → Int32) × (Nat → Int32) × (Nat → Int32) × (Nat → Int32) × (Nat → Int32) × (Nat → Int32) × (Nat → Int32) × (Nat → Int32) × (Nat → Int32)) => rW E a ln (nO (nAll rn ln)) (nD (nAll rn ln)) (nL (nAll rn ln)) row seen sty u.1 u.2.1 u.2.2.1 u.2.2.2.1 u.2.2.2.2.1 u.2.2.2.2.2.1 u.2.2.2.2.2.2.1 u.2.2.2.2.2.2.2.1 u.2.2.2.2.2.2.2.2.1 u.2.2.2.2.2.2.2.2.2.1 u.2.2.2.2.2.2.2.2.2.2 was gsd cellsO sortO kLine kAt kKind) ⟨hx, hb, hml, hown, hts⟩ hK hZ hS hA (fun sz => c_X6_goes l G E a ln op dp la row seen sty lineO tokO atO baseO kindO partO colO openO strayO stk bys was gsd cellsO sortO kLine kAt kKind rn (by first | assumption | omega) (by first | assumption | omega) sz) gX6_moved_X6_goes rfl rfl rfl (by decide +kernel) ⟨Nat.le_of_ble_eq_true rfl, Nat.le_of_ble_eq_true rfl⟩ hP hD (fun _ => rfl) rfl rfl hl.1 rfl rfl (Nat.le_of_ble_eq_true rfl) dX6_moved_1 ⟨Nat.zero_le _, Nat.zero_le _⟩ (fun u1 H locs p1 hP hD hS => ?_)
  obtain ⟨lineO'_1, tokO'_1, atO'_1, baseO'_1, kindO'_1, partO'_1, colO'_1, openO'_1, strayO'_1, stk'_1, bys'_1⟩ := u1
  try dsimp only at p1 hP hD
  have hP : va_P G vwCl (rW E a ln (nO (nAll rn ln)) (nD (nAll rn ln)) (nL (nAll rn ln)) row seen sty lineO'_1 tokO'_1 atO'_1 baseO'_1 kindO'_1 partO'_1 colO'_1 openO'_1 strayO'_1 stk'_1 bys'_1 was gsd cellsO sortO kLine kAt kKind) H := hP
  have hD : va_D A (rW E a ln (nO (nAll rn ln)) (nD (nAll rn ln)) (nL (nAll rn ln)) row seen sty lineO'_1 tokO'_1 atO'_1 baseO'_1 kindO'_1 partO'_1 colO'_1 openO'_1 strayO'_1 stk'_1 bys'_1 was gsd cellsO sortO kLine kAt kKind) := hD
  refine lv_iconst (v := (nI 0)) hx hb dX6_moved_4 (by decide) ?_
  refine lv_istore_n (lv' := [(2, .int (nI 0)), (0, .ref (a 0)), (1, .int x)]) hx hb dX6_moved_5 rfl hl (by decide) rfl (fun ls hl => ?_)
  refine lv_iconst (v := (nI 0)) hx hb dX6_moved_6 (by decide) ?_
  refine lv_istore_n (lv' := [(3, .int (nI 0)), (2, .int (nI 0)), (0, .ref (a 0)), (1, .int x)]) hx hb dX6_moved_7 rfl hl (by decide) rfl (fun ls hl => ?_)
  have lp8 : ∀ (kk : Nat) (nn : Nat) (i : Nat) (H : Heap) (locs : List Loc), (i ≤ ln) → (nn = mvc x (cols sty rn ln) was i) → ln - i < kk → va_P G vwCl (rW E a ln (nO (nAll rn ln)) (nD (nAll rn ln)) (nL (nAll rn ln)) row seen sty lineO'_1 tokO'_1 atO'_1 baseO'_1 kindO'_1 partO'_1 colO'_1 openO'_1 strayO'_1 stk'_1 bys'_1 was gsd cellsO sortO kLine kAt kKind) H → va_D A (rW E a ln (nO (nAll rn ln)) (nD (nAll rn ln)) (nL (nAll rn ln)) row seen sty lineO'_1 tokO'_1 atO'_1 baseO'_1 kindO'_1 partO'_1 colO'_1 openO'_1 strayO'_1 stk'_1 bys'_1 was gsd cellsO sortO kLine kAt kKind) → va_S A s.heap H locs → ∀ ls : Array Slot, lv_has ls 4 [(3, .int (nI i)), (2, .int (nI nn)), (0, .ref (a 0)), (1, .int x)] → W p l e (headSpec wsX6_moved ({ frames := 6, cells := 0, slots := 0, locals := 140 } : Room)).room s m ([.ref (a 0), .int x] : List Value).toArray below meth c H locs 0 0 (MQ below (va_Qi (fun (r : Int32) (u : (Nat → Int32) × (Nat → Int32) × (Nat → Int32) × (Nat → Int32) × (Nat → Int32) × (Nat → Int32) × (Nat → Int32) × (Nat → Int32) × (Nat → Int32) × (Nat → Int32) × (Nat → Int32)) => (RR (sty 2) (nAll rn ln) (cols (sty) rn ln) ln u.1 u.2.1 u.2.2.1 u.2.2.2.1 u.2.2.2.2.1 u.2.2.2.2.2.1 u.2.2.2.2.2.2.1 u.2.2.2.2.2.2.2.1 u.2.2.2.2.2.2.2.2.1 u.2.2.2.2.2.2.2.2.2.1) ∧ r = nI (mvc x (cols sty rn ln) was ln)) (fun (u : (Nat → Int32) × (Nat → Int32) × (Nat → Int32) × (Nat → Int32) × (Nat → Int32) × (Nat → Int32) × (Nat → Int32) × (Nat → Int32) × (Nat → Int32) × (Nat → Int32) × (Nat → Int32)) tQ => va_P G vwCl (rW E a ln (nO (nAll rn ln)) (nD (nAll rn ln)) (nL (nAll rn ln)) row seen sty u.1 u.2.1 u.2.2.1 u.2.2.2.1 u.2.2.2.2.1 u.2.2.2.2.2.1 u.2.2.2.2.2.2.1 u.2.2.2.2.2.2.2.1 u.2.2.2.2.2.2.2.2.1 u.2.2.2.2.2.2.2.2.2.1 u.2.2.2.2.2.2.2.2.2.2 was gsd cellsO sortO kLine kAt kKind) tQ.heap) A) ([.ref (a 0), .int x] : List Value).toArray s 0 0 A) (F0 m 8 ls []) := by
    intro kk
    induction kk with
    | zero => intro nn i H locs hi hw2 hkk; exact absurd hkk (Nat.not_lt_zero _)
    | succ kk ih8 =>
      intro nn i H locs hi hw2 hkk hP hD hS ls hl
      refine lv_iload_n hx hb dX6_moved_8 rfl (lv_at hl 0 rfl) ?_
      refine lv_aload_n hx hb dX6_moved_9 rfl (lv_at hl 2 rfl) ?_
      refine va_get (D := G) (ci := 6) (v := .int (nI ln)) (C := RX6) (T := TX6) (N := 25) hx hb hts hin6 hown hK hP 0 rfl rfl 0 (by decide) (hts (Cond.fieldLink RX6 73 "IndentRulesModel" "lines" "I") (List.mem_of_getElem? (i := 1) rfl)) (fun _ h9 => h9) rfl dX6_moved_10 ?_
      refine n_icmp_ge (a := i) (b := ln) (tgt := 50) hx hb (by omega) (by omega) dX6_moved_13 (by decide) (fun c13 => ?_) (fun c13 => ?_)
      · refine lv_iload_n hx hb dX6_moved_50 rfl (lv_at hl 1 rfl) ?_
        exact W.iret (v := (nI nn)) hx hb hr (fun tZ htZ hWZ => ⟨⟨_, (lineO'_1, tokO'_1, atO'_1, baseO'_1, kindO'_1, partO'_1, colO'_1, openO'_1, strayO'_1, stk'_1, bys'_1), rfl, ⟨p1, by rw [hw2, show i = ln by omega]⟩, by show va_P G vwCl _ tZ.heap; rw [htZ]; exact hP⟩, hS.F htZ⟩) hS.2.2 dX6_moved_51
      · refine lv_iload_n hx hb dX6_moved_16 rfl (lv_at hl 1 rfl) ?_
        refine lv_iload_n hx hb dX6_moved_17 rfl (lv_at hl 0 rfl) ?_
        refine lv_iload_n hx hb dX6_moved_18 rfl (lv_at hl 3 rfl) ?_
        refine lv_icmp_eq (x := (nI i)) (y := x) (tgt := 41) hx hb dX6_moved_19 (by decide) (fun c19 => ?_) (fun c19 => ?_)
        · refine lv_iconst (v := (nI 0)) hx hb dX6_moved_41 (by decide) ?_
          refine k_iadd (a := nn) (b := 0) hx hb dX6_moved_42 ?_
          refine lv_istore_n (lv' := [(2, .int (nI (nn + 0))), (3, .int (nI i)), (0, .ref (a 0)), (1, .int x)]) hx hb dX6_moved_43 rfl hl (by decide) rfl (fun ls hl => ?_)
          refine lv_iinc (v := (nI (i + 1))) (lv' := [(3, .int (nI (i + 1))), (2, .int (nI (nn + 0))), (0, .ref (a 0)), (1, .int x)]) hx hb dX6_moved_44 hl (k := 1) rfl (k_inc i) (by decide) rfl (fun ls hl => ?_)
          refine lv_goto (tgt := 8) hx hb dX6_moved_47 (by decide) ?_
          exact ih8 (nn + 0) (i + 1) _ _ (by omega) (by rw [hw2]; show _ = mvc x (cols sty rn ln) was i + _; rw [if_neg (fun q => q.1 c19)]) (by omega) hP hD hS ls (lv_sub hl [0, 1, 2, 3] rfl)
        · refine lv_aload_n hx hb dX6_moved_22 rfl (lv_at hl 2 rfl) ?_
          refine va_get (D := G) (ci := 6) (v := .ref (a 11)) (C := RX6) (T := TX6) (N := 25) hx hb hts hin6 hown hK hP 0 rfl rfl 11 (by decide) (hts (Cond.fieldLink RX6 37 "IndentRulesModel" "columnOf" "[I") (List.mem_of_getElem? (i := 2) rfl)) (fun _ h9 => h9) rfl dX6_moved_23 ?_
          refine lv_iload_n hx hb dX6_moved_26 rfl (lv_at hl 0 rfl) ?_
          refine k_iald (D := G) (tys := TYS E) (j := i) (f := colO'_1) (n := 20) hx hb hK hP 10 0 rfl rfl (by omega) (by decide) dX6_moved_27 ?_
          rw [(p1.2.1 i c13).1]
          refine lv_aload_n hx hb dX6_moved_28 rfl (lv_at hl 2 rfl) ?_
          refine va_get (D := G) (ci := 6) (v := .ref (a 18)) (C := RX6) (T := TX6) (N := 25) hx hb hts hin6 hown hK hP 0 rfl rfl 18 (by decide) (hts (Cond.fieldLink RX6 52 "IndentRulesModel" "columnWas" "[I") (List.mem_of_getElem? (i := 3) rfl)) (fun _ h9 => h9) rfl dX6_moved_29 ?_
          refine lv_iload_n hx hb dX6_moved_32 rfl (lv_at hl 0 rfl) ?_
          refine k_iald (D := G) (tys := TYS E) (j := i) (f := was) (n := 20) hx hb hK hP 15 0 rfl rfl (by omega) (by decide) dX6_moved_33 ?_
          refine lv_icmp_eq (x := (cols sty rn ln i)) (y := (was i)) (tgt := 41) hx hb dX6_moved_34 (by decide) (fun c34 => ?_) (fun c34 => ?_)
          · refine lv_iconst (v := (nI 0)) hx hb dX6_moved_41 (by decide) ?_
            refine k_iadd (a := nn) (b := 0) hx hb dX6_moved_42 ?_
            refine lv_istore_n (lv' := [(2, .int (nI (nn + 0))), (3, .int (nI i)), (0, .ref (a 0)), (1, .int x)]) hx hb dX6_moved_43 rfl hl (by decide) rfl (fun ls hl => ?_)
            refine lv_iinc (v := (nI (i + 1))) (lv' := [(3, .int (nI (i + 1))), (2, .int (nI (nn + 0))), (0, .ref (a 0)), (1, .int x)]) hx hb dX6_moved_44 hl (k := 1) rfl (k_inc i) (by decide) rfl (fun ls hl => ?_)
            refine lv_goto (tgt := 8) hx hb dX6_moved_47 (by decide) ?_
            exact ih8 (nn + 0) (i + 1) _ _ (by omega) (by rw [hw2]; show _ = mvc x (cols sty rn ln) was i + _; rw [if_neg (fun q => q.2 c34)]) (by omega) hP hD hS ls (lv_sub hl [0, 1, 2, 3] rfl)
          · refine lv_iconst (v := (nI 1)) hx hb dX6_moved_37 (by decide) ?_
            refine lv_goto (tgt := 42) hx hb dX6_moved_38 (by decide) ?_
            refine k_iadd (a := nn) (b := 1) hx hb dX6_moved_42 ?_
            refine lv_istore_n (lv' := [(2, .int (nI (nn + 1))), (3, .int (nI i)), (0, .ref (a 0)), (1, .int x)]) hx hb dX6_moved_43 rfl hl (by decide) rfl (fun ls hl => ?_)
            refine lv_iinc (v := (nI (i + 1))) (lv' := [(3, .int (nI (i + 1))), (2, .int (nI (nn + 1))), (0, .ref (a 0)), (1, .int x)]) hx hb dX6_moved_44 hl (k := 1) rfl (k_inc i) (by decide) rfl (fun ls hl => ?_)
            refine lv_goto (tgt := 8) hx hb dX6_moved_47 (by decide) ?_
            exact ih8 (nn + 1) (i + 1) _ _ (by omega) (by rw [hw2]; show _ = mvc x (cols sty rn ln) was i + _; rw [if_pos ⟨c19, c34⟩]) (by omega) hP hD hS ls (lv_sub hl [0, 1, 2, 3] rfl)
  exact lp8 (ln - 0 + 1) 0 0 _ _ (Nat.zero_le _) rfl (Nat.lt_succ_self _) hP hD hS ls (lv_sub hl [0, 1, 2, 3] rfl)
