set_option maxHeartbeats 4000000 in
set_option maxRecDepth 100000 in
theorem c_X6_put (l : Launch) (G : va_G) (E : cEnv) (a : Nat → Nat) (ln op dp la : Nat) (row seen sty lineO tokO atO baseO kindO partO colO openO strayO stk bys was gsd cellsO sortO kLine kAt kKind : Nat → Int32) (x y : Int32) (ab : ABS) (hab : RefOk ab ln row seen sty cellsO sortO kLine kAt kKind) (sz : Nat) : Met l yX6_put wsX6_put ({ frames := 7, cells := 0, slots := 0, locals := 163 }) (va_Pc [.ref (a 0), .int x, .int y] (PW G E (rW E a ln op dp la row seen sty lineO tokO atO baseO kindO partO colO openO strayO stk bys was gsd cellsO sortO kLine kAt kKind) sz)) (va_Qi (fun (r : Int32) (u : (Nat) × (Nat) × (Nat) × (Nat → Int32) × (Nat → Int32) × (Nat → Int32) × (Nat → Int32) × (Nat → Int32) × (Nat → Int32) × (Nat → Int32) × (Nat → Int32) × (Nat → Int32) × (Nat → Int32) × (Nat → Int32) × (Nat → Int32) × (Nat → Int32) × (Nat) × (Nat → Int32) × (Nat → Int32)) => r = (fPut ab x y).1 ∧ RefOk ((fPut ab x y).2) u.2.2.2.2.2.2.2.2.2.2.2.2.2.2.2.2.1 u.2.2.2.2.2.2.2.2.2.2.2.2.2.2.2.2.2.1 u.2.2.2.2.2.2.2.2.2.2.2.2.2.2.2.2.2.2 sty cellsO sortO kLine kAt kKind) (fun (u : (Nat) × (Nat) × (Nat) × (Nat → Int32) × (Nat → Int32) × (Nat → Int32) × (Nat → Int32) × (Nat → Int32) × (Nat → Int32) × (Nat → Int32) × (Nat → Int32) × (Nat → Int32) × (Nat → Int32) × (Nat → Int32) × (Nat → Int32) × (Nat → Int32) × (Nat) × (Nat → Int32) × (Nat → Int32)) tQ => va_P G vwCl (rW E a u.2.2.2.2.2.2.2.2.2.2.2.2.2.2.2.2.1 u.1 u.2.1 u.2.2.1 u.2.2.2.2.2.2.2.2.2.2.2.2.2.2.2.2.2.1 u.2.2.2.2.2.2.2.2.2.2.2.2.2.2.2.2.2.2 sty u.2.2.2.1 u.2.2.2.2.1 u.2.2.2.2.2.1 u.2.2.2.2.2.2.1 u.2.2.2.2.2.2.2.1 u.2.2.2.2.2.2.2.2.1 u.2.2.2.2.2.2.2.2.2.1 u.2.2.2.2.2.2.2.2.2.2.1 u.2.2.2.2.2.2.2.2.2.2.2.1 u.2.2.2.2.2.2.2.2.2.2.2.2.1 u.2.2.2.2.2.2.2.2.2.2.2.2.2.1 u.2.2.2.2.2.2.2.2.2.2.2.2.2.2.1 u.2.2.2.2.2.2.2.2.2.2.2.2.2.2.2.1 cellsO sortO kLine kAt kKind) tQ.heap) (va_A (rW E a ln op dp la row seen sty lineO tokO atO baseO kindO partO colO openO strayO stk bys was gsd cellsO sortO kLine kAt kKind) sz)) 0 0 (va_A (rW E a ln op dp la row seen sty lineO tokO atO baseO kindO partO colO openO strayO stk bys was gsd cellsO sortO kLine kAt kKind) sz) := by
  refine Met.ofW (cc := cX6_put) (maxL := 4) (ret := (some .int)) (by decide) rfl ?_
  intro p e s m args below meth c s₁ B hml hv
  obtain ⟨rfl, hsz, hP, hK, hD0, hZ⟩ := hv
  have hx := B.exec
  have hb := B.bytes
  have hr := B.returns
  have hts := atoms_spec (ws := wsX6_put) B.pre
  have hown : s.vm.findClass RX6 = some m.cls := findClass_of_methodNamed B.named
  have hlocks := B.notSynchronized
  have hin6 : ∀ w ∈ u_ws RX6 TX6 25, w ∈ wsX6_put := mem_pl [76, 77, 78, 79, 80, 81, 82, 83, 84, 85, 86, 87, 88, 89, 90, 91, 92, 93, 94, 95, 96, 97, 98, 99, 100] (by rfl)
  subst hsz
  have hD := hD0.self (sz := s.heap.size)
  generalize hAe : va_A (rW E a ln op dp la row seen sty lineO tokO atO baseO kindO partO colO openO strayO stk bys was gsd cellsO sortO kLine kAt kKind) s.heap.size = A at hD hZ ⊢
  have hA : ∀ q : Nat, s.heap.size ≤ q → A q := fun q h => by rw [← hAe]; exact Or.inr h
  have hS : va_S A s.heap s.heap [] := va_S.rf
  have hl := lv_entry ([.ref (a 0), .int x, .int y]) (n := 4) (Nat.le_of_ble_eq_true rfl)
  rw [lg_entry_eq]
  generalize (lg_sl ([.ref (a 0), .int x, .int y]) ++ List.replicate (4 - (lg_sl ([.ref (a 0), .int x, .int y])).length) Slot.unset).toArray = ls at hl ⊢
  have hl : lv_has ls 4 [(0, .ref (a 0)), (1, .int x), (2, .int y)] := hl
  obtain ⟨hN, hok, hrn, hsn, hsg, hpk⟩ := id hab
  have hln : ln ≤ 20 := by rw [hN]; exact hok.1
  refine lv_iload_n hx hb dX6_put_0 rfl (lv_at hl 1 rfl) ?_
  refine lv_iconst (v := (nI 0)) hx hb dX6_put_1 (by decide) ?_
  refine lv_aload_n hx hb dX6_put_2 rfl (lv_at hl 0 rfl) ?_
  refine va_get (D := G) (ci := 6) (v := .int (nI ln)) (C := RX6) (T := TX6) (N := 25) hx hb hts hin6 hown hK hP 0 rfl rfl 0 (by decide) (hts (Cond.fieldLink RX6 73 "IndentRulesModel" "lines" "I") (List.mem_of_getElem? (i := 1) rfl)) (fun _ h9 => h9) rfl dX6_put_3 ?_
  refine rs_i (n := 3) (G := G) (E := E) (As := [.int x, .int (nI 0), .int (nI ln)]) (rest := []) ⟨hx, hb, hml, hown, hts⟩ hK hZ hS (c_X6_within l G E x (nI 0) (nI ln)) gX6_put_X6_within rfl rfl rfl (by decide +kernel) ⟨Nat.le_of_ble_eq_true rfl, Nat.le_of_ble_eq_true rfl⟩ (fun k q h => by simp at h) hl.1 rfl rfl (Nat.le_of_ble_eq_true rfl) dX6_put_6 ⟨Nat.zero_le _, Nat.zero_le _⟩ (fun r6 p6 => ?_)
  rcases p6 with ⟨h6, rfl⟩ | ⟨h6, rfl⟩
  · obtain ⟨j, _, hj, rfl⟩ := (w_rg (by decide) (by omega)).mp h6
    refine n_if_ne (a := 1) (tgt := 14) hx hb (by decide) dX6_put_9 (by decide) (fun c9 => ?_) (fun c9 => absurd c9 (by decide))
    refine lv_iload_n hx hb dX6_put_14 rfl (lv_at hl 2 rfl) ?_
    refine rs_i (n := 1) (G := G) (E := E) (As := [.int y]) (rest := []) ⟨hx, hb, hml, hown, hts⟩ hK hZ hS (c_X6_areTokens l G E y) gX6_put_X6_areTokens rfl rfl rfl (by decide +kernel) ⟨Nat.le_of_ble_eq_true rfl, Nat.le_of_ble_eq_true rfl⟩ (fun k q h => by simp at h) hl.1 rfl rfl (Nat.le_of_ble_eq_true rfl) dX6_put_15 ⟨Nat.zero_le _, Nat.zero_le _⟩ (fun r15 p15 => ?_)
    rcases p15 with ⟨⟨t, ht, hz, rfl⟩, rfl⟩ | ⟨h15, rfl⟩
    · refine n_if_ne (a := 1) (tgt := 24) hx hb (by decide) dX6_put_18 (by decide) (fun c18 => ?_) (fun c18 => absurd c18 (by decide))
      refine lv_aload_n hx hb dX6_put_24 rfl (lv_at hl 0 rfl) ?_
      refine va_get (D := G) (ci := 6) (v := .int (nI ln)) (C := RX6) (T := TX6) (N := 25) hx hb hts hin6 hown hK hP 0 rfl rfl 0 (by decide) (hts (Cond.fieldLink RX6 73 "IndentRulesModel" "lines" "I") (List.mem_of_getElem? (i := 1) rfl)) (fun _ h9 => h9) rfl dX6_put_25 ?_
      refine lv_bipush (v := (nI 20)) hx hb dX6_put_28 (by decide) ?_
      refine n_icmp_ne (a := ln) (b := 20) (tgt := 36) hx hb (by omega) (by decide) dX6_put_30 (by decide) (fun c30 => ?_) (fun c30 => ?_)
      · refine lv_aload_n hx hb dX6_put_36 rfl (lv_at hl 0 rfl) ?_
        refine wf_v (n := 0) (G := G) (E := E) (As := []) (rest := []) (ci := 6) (q0 := 0) (wn := fun (u : (Nat → Int32) × (Nat → Int32) × (Nat → Int32) × (Nat → Int32) × (Nat → Int32) × (Nat → Int32) × (Nat → Int32) × (Nat → Int32) × (Nat → Int32) × (Nat → Int32) × (Nat → Int32) × (Nat → Int32)) => rW E a ln (nO (nAll (aR ab) ln)) (nD (nAll (aR ab) ln)) (nL (nAll (aR ab) ln)) row seen sty u.1 u.2.1 u.2.2.1 u.2.2.2.1 u.2.2.2.2.1 u.2.2.2.2.2.1 u.2.2.2.2.2.2.1 u.2.2.2.2.2.2.2.1 u.2.2.2.2.2.2.2.2.1 u.2.2.2.2.2.2.2.2.2.1 u.2.2.2.2.2.2.2.2.2.2.1 u.2.2.2.2.2.2.2.2.2.2.2 gsd cellsO sortO kLine kAt kKind) ⟨hx, hb, hml, hown, hts⟩ hK hZ hS hA (fun sz => c_X6_notes l G E a ln op dp la row seen sty lineO tokO atO baseO kindO partO colO openO strayO stk bys was gsd cellsO sortO kLine kAt kKind (aR ab) (by first | assumption | omega) (by first | assumption | omega) sz) gX6_put_X6_notes rfl rfl rfl (by decide +kernel) ⟨Nat.le_of_ble_eq_true rfl, Nat.le_of_ble_eq_true rfl⟩ hP hD (fun _ => rfl) rfl rfl hl.1 rfl rfl (Nat.le_of_ble_eq_true rfl) dX6_put_37 ⟨Nat.zero_le _, Nat.zero_le _⟩ (fun u37 H locs p37 hP hD hS => ?_)
        obtain ⟨lineO'_37, tokO'_37, atO'_37, baseO'_37, kindO'_37, partO'_37, colO'_37, openO'_37, strayO'_37, stk'_37, bys'_37, was'_37⟩ := u37
        try dsimp only at p37 hP hD
        have hP : va_P G vwCl (rW E a ln (nO (nAll (aR ab) ln)) (nD (nAll (aR ab) ln)) (nL (nAll (aR ab) ln)) row seen sty lineO'_37 tokO'_37 atO'_37 baseO'_37 kindO'_37 partO'_37 colO'_37 openO'_37 strayO'_37 stk'_37 bys'_37 was'_37 gsd cellsO sortO kLine kAt kKind) H := hP
        have hD : va_D A (rW E a ln (nO (nAll (aR ab) ln)) (nD (nAll (aR ab) ln)) (nL (nAll (aR ab) ln)) row seen sty lineO'_37 tokO'_37 atO'_37 baseO'_37 kindO'_37 partO'_37 colO'_37 openO'_37 strayO'_37 stk'_37 bys'_37 was'_37 gsd cellsO sortO kLine kAt kKind) := hD
        refine lv_aload_n hx hb dX6_put_40 rfl (lv_at hl 0 rfl) ?_
        refine va_get (D := G) (ci := 6) (v := .int (nI ln)) (C := RX6) (T := TX6) (N := 25) hx hb hts hin6 hown hK hP 0 rfl rfl 0 (by decide) (hts (Cond.fieldLink RX6 73 "IndentRulesModel" "lines" "I") (List.mem_of_getElem? (i := 1) rfl)) (fun _ h9 => h9) rfl dX6_put_41 ?_
        refine lv_istore_n (lv' := [(3, .int (nI ln)), (0, .ref (a 0)), (1, .int (nI j)), (2, .int (nI t))]) hx hb dX6_put_44 rfl hl (by decide) rfl (fun ls hl => ?_)
        have lp45 : ∀ (kk : Nat) (i : Nat) (rowX : Nat → Int32) (seenX : Nat → Int32) (wasX : Nat → Int32) (H : Heap) (locs : List Loc), (j ≤ i ∧ i ≤ ln) → (rowX = shF row i ln) → (seenX = shF seen i ln) → (wasX = shF was'_37 i ln) → i < kk → va_P G vwCl (rW E a ln (nO (nAll (aR ab) ln)) (nD (nAll (aR ab) ln)) (nL (nAll (aR ab) ln)) rowX seenX sty lineO'_37 tokO'_37 atO'_37 baseO'_37 kindO'_37 partO'_37 colO'_37 openO'_37 strayO'_37 stk'_37 bys'_37 wasX gsd cellsO sortO kLine kAt kKind) H → va_D A (rW E a ln (nO (nAll (aR ab) ln)) (nD (nAll (aR ab) ln)) (nL (nAll (aR ab) ln)) rowX seenX sty lineO'_37 tokO'_37 atO'_37 baseO'_37 kindO'_37 partO'_37 colO'_37 openO'_37 strayO'_37 stk'_37 bys'_37 wasX gsd cellsO sortO kLine kAt kKind) → va_S A s.heap H locs → ∀ ls : Array Slot, lv_has ls 4 [(3, .int (nI i)), (0, .ref (a 0)), (1, .int (nI j)), (2, .int (nI t))] → W p l e (headSpec wsX6_put ({ frames := 7, cells := 0, slots := 0, locals := 163 } : Room)).room s m ([.ref (a 0), .int (nI j), .int (nI t)] : List Value).toArray below meth c H locs 0 0 (MQ below (va_Qi (fun (r : Int32) (u : (Nat) × (Nat) × (Nat) × (Nat → Int32) × (Nat → Int32) × (Nat → Int32) × (Nat → Int32) × (Nat → Int32) × (Nat → Int32) × (Nat → Int32) × (Nat → Int32) × (Nat → Int32) × (Nat → Int32) × (Nat → Int32) × (Nat → Int32) × (Nat → Int32) × (Nat) × (Nat → Int32) × (Nat → Int32)) => r = (fPut ab (nI j) (nI t)).1 ∧ RefOk ((fPut ab (nI j) (nI t)).2) u.2.2.2.2.2.2.2.2.2.2.2.2.2.2.2.2.1 u.2.2.2.2.2.2.2.2.2.2.2.2.2.2.2.2.2.1 u.2.2.2.2.2.2.2.2.2.2.2.2.2.2.2.2.2.2 sty cellsO sortO kLine kAt kKind) (fun (u : (Nat) × (Nat) × (Nat) × (Nat → Int32) × (Nat → Int32) × (Nat → Int32) × (Nat → Int32) × (Nat → Int32) × (Nat → Int32) × (Nat → Int32) × (Nat → Int32) × (Nat → Int32) × (Nat → Int32) × (Nat → Int32) × (Nat → Int32) × (Nat → Int32) × (Nat) × (Nat → Int32) × (Nat → Int32)) tQ => va_P G vwCl (rW E a u.2.2.2.2.2.2.2.2.2.2.2.2.2.2.2.2.1 u.1 u.2.1 u.2.2.1 u.2.2.2.2.2.2.2.2.2.2.2.2.2.2.2.2.2.1 u.2.2.2.2.2.2.2.2.2.2.2.2.2.2.2.2.2.2 sty u.2.2.2.1 u.2.2.2.2.1 u.2.2.2.2.2.1 u.2.2.2.2.2.2.1 u.2.2.2.2.2.2.2.1 u.2.2.2.2.2.2.2.2.1 u.2.2.2.2.2.2.2.2.2.1 u.2.2.2.2.2.2.2.2.2.2.1 u.2.2.2.2.2.2.2.2.2.2.2.1 u.2.2.2.2.2.2.2.2.2.2.2.2.1 u.2.2.2.2.2.2.2.2.2.2.2.2.2.1 u.2.2.2.2.2.2.2.2.2.2.2.2.2.2.1 u.2.2.2.2.2.2.2.2.2.2.2.2.2.2.2.1 cellsO sortO kLine kAt kKind) tQ.heap) A) ([.ref (a 0), .int (nI j), .int (nI t)] : List Value).toArray s 0 0 A) (F0 m 45 ls []) := by
          intro kk
          induction kk with
          | zero => intro i rowX seenX wasX H locs hi hr2 hs2 hw2 hkk; exact absurd hkk (Nat.not_lt_zero _)
          | succ kk ih45 =>
            intro i rowX seenX wasX H locs hi hr2 hs2 hw2 hkk hP hD hS ls hl
            refine lv_iload_n hx hb dX6_put_45 rfl (lv_at hl 0 rfl) ?_
            refine lv_iload_n hx hb dX6_put_46 rfl (lv_at hl 2 rfl) ?_
            refine n_icmp_le (a := i) (b := j) (tgt := 98) hx hb (by omega) (by omega) dX6_put_47 (by decide) (fun c47 => ?_) (fun c47 => ?_)
            · have hij : i = j := by omega
              rw [hij] at hr2 hs2 hw2
              refine lv_aload_n hx hb dX6_put_98 rfl (lv_at hl 1 rfl) ?_
              refine va_get (D := G) (ci := 6) (v := .ref (a 1)) (C := RX6) (T := TX6) (N := 25) hx hb hts hin6 hown hK hP 0 rfl rfl 1 (by decide) (hts (Cond.fieldLink RX6 7 "IndentRulesModel" "row" "[I") (List.mem_of_getElem? (i := 2) rfl)) (fun _ h9 => h9) rfl dX6_put_99 ?_
              refine lv_iload_n hx hb dX6_put_102 rfl (lv_at hl 2 rfl) ?_
              refine lv_iload_n hx hb dX6_put_103 rfl (lv_at hl 3 rfl) ?_
              refine k_iast (D := G) (tys := TYS E) (j := j) (x := (nI t)) (f := rowX) (n := 20) hx hb hK hP hD hS 1 0 rfl rfl (by omega) (by decide) dX6_put_104 (fun H locs hP hD hS => ?_)
              have hP : va_P G vwCl (rW E a ln (nO (nAll (aR ab) ln)) (nD (nAll (aR ab) ln)) (nL (nAll (aR ab) ln)) (upd rowX j (nI t)) seenX sty lineO'_37 tokO'_37 atO'_37 baseO'_37 kindO'_37 partO'_37 colO'_37 openO'_37 strayO'_37 stk'_37 bys'_37 wasX gsd cellsO sortO kLine kAt kKind) H := hP
              have hD : va_D A (rW E a ln (nO (nAll (aR ab) ln)) (nD (nAll (aR ab) ln)) (nL (nAll (aR ab) ln)) (upd rowX j (nI t)) seenX sty lineO'_37 tokO'_37 atO'_37 baseO'_37 kindO'_37 partO'_37 colO'_37 openO'_37 strayO'_37 stk'_37 bys'_37 wasX gsd cellsO sortO kLine kAt kKind) := hD
              obtain ⟨f104, ef104⟩ : ∃ z : Nat → Int32, z = upd rowX j (nI t) := ⟨_, rfl⟩
              rw [← ef104] at hP hD
              refine lv_aload_n hx hb dX6_put_105 rfl (lv_at hl 1 rfl) ?_
              refine va_get (D := G) (ci := 6) (v := .ref (a 2)) (C := RX6) (T := TX6) (N := 25) hx hb hts hin6 hown hK hP 0 rfl rfl 2 (by decide) (hts (Cond.fieldLink RX6 13 "IndentRulesModel" "seen" "[I") (List.mem_of_getElem? (i := 3) rfl)) (fun _ h9 => h9) rfl dX6_put_106 ?_
              refine lv_iload_n hx hb dX6_put_109 rfl (lv_at hl 2 rfl) ?_
              refine lv_bipush (v := (-9)) hx hb dX6_put_110 (by decide) ?_
              refine k_iast (D := G) (tys := TYS E) (j := j) (x := (-9)) (f := seenX) (n := 20) hx hb hK hP hD hS 2 0 rfl rfl (by omega) (by decide) dX6_put_112 (fun H locs hP hD hS => ?_)
              have hP : va_P G vwCl (rW E a ln (nO (nAll (aR ab) ln)) (nD (nAll (aR ab) ln)) (nL (nAll (aR ab) ln)) f104 (upd seenX j (-9)) sty lineO'_37 tokO'_37 atO'_37 baseO'_37 kindO'_37 partO'_37 colO'_37 openO'_37 strayO'_37 stk'_37 bys'_37 wasX gsd cellsO sortO kLine kAt kKind) H := hP
              have hD : va_D A (rW E a ln (nO (nAll (aR ab) ln)) (nD (nAll (aR ab) ln)) (nL (nAll (aR ab) ln)) f104 (upd seenX j (-9)) sty lineO'_37 tokO'_37 atO'_37 baseO'_37 kindO'_37 partO'_37 colO'_37 openO'_37 strayO'_37 stk'_37 bys'_37 wasX gsd cellsO sortO kLine kAt kKind) := hD
              obtain ⟨f112, ef112⟩ : ∃ z : Nat → Int32, z = upd seenX j (-9) := ⟨_, rfl⟩
              rw [← ef112] at hP hD
              refine lv_aload_n hx hb dX6_put_113 rfl (lv_at hl 1 rfl) ?_
              refine lv_dup hx hb dX6_put_114 rfl ?_
              refine va_get (D := G) (ci := 6) (v := .int (nI ln)) (C := RX6) (T := TX6) (N := 25) hx hb hts hin6 hown hK hP 0 rfl rfl 0 (by decide) (hts (Cond.fieldLink RX6 73 "IndentRulesModel" "lines" "I") (List.mem_of_getElem? (i := 1) rfl)) (fun _ h9 => h9) rfl dX6_put_115 ?_
              refine lv_iconst (v := (nI 1)) hx hb dX6_put_118 (by decide) ?_
              refine k_iadd (a := ln) (b := 1) hx hb dX6_put_119 ?_
              refine va_put (D := G) (ci := 6) (v := .int (nI (ln + 1))) (ty := .int) (C := RX6) (T := TX6) (N := 25) hx hb hts hin6 tyX6 tyX6_ok nmX6 hown hK hP hD hS 0 rfl rfl 0 (by decide) (hts (Cond.fieldLink RX6 73 "IndentRulesModel" "lines" "I") (List.mem_of_getElem? (i := 1) rfl)) (fun _ h9 => h9) rfl (by decide +kernel) rfl rfl (Nat.le_of_ble_eq_true rfl) dX6_put_120 (fun H locs hP hD hS => ?_)
              have hP : va_P G vwCl (rW E a (ln + 1) (nO (nAll (aR ab) ln)) (nD (nAll (aR ab) ln)) (nL (nAll (aR ab) ln)) f104 f112 sty lineO'_37 tokO'_37 atO'_37 baseO'_37 kindO'_37 partO'_37 colO'_37 openO'_37 strayO'_37 stk'_37 bys'_37 wasX gsd cellsO sortO kLine kAt kKind) H := hP
              have hD : va_D A (rW E a (ln + 1) (nO (nAll (aR ab) ln)) (nD (nAll (aR ab) ln)) (nL (nAll (aR ab) ln)) f104 f112 sty lineO'_37 tokO'_37 atO'_37 baseO'_37 kindO'_37 partO'_37 colO'_37 openO'_37 strayO'_37 stk'_37 bys'_37 wasX gsd cellsO sortO kLine kAt kKind) := hD
              have hrn2 : rowsOk (ln + 1) f104 (insF (aR ab) j t) := by rw [ef104, hr2]; exact rowsOk_ins hrn hj ht hz
              have hsn2 : ∀ k, k < ln + 1 → f112 k = insF (aS ab) j (-9) k := by rw [ef112, hs2]; exact eq_ins hsn hj
              have hwas : ∀ k, k < ln + 1 → k ≠ j → wasX k = insF (aCol ab) j (nI 0) k := by rw [hw2]; exact eq_shN (fun k hk => by rw [p37.2 k hk, cols_congr hsg, hN]) hj
              refine lv_aload_n hx hb dX6_put_123 rfl (lv_at hl 1 rfl) ?_
              refine lv_iload_n hx hb dX6_put_124 rfl (lv_at hl 2 rfl) ?_
              refine wf_i (n := 1) (G := G) (E := E) (As := [.int (nI j)]) (rest := []) (ci := 6) (q0 := 0) (wn := fun (u : (Nat → Int32) × (Nat → Int32) × (Nat → Int32) × (Nat → Int32) × (Nat → Int32) × (Nat → Int32) × (Nat → Int32) × (Nat → Int32) × (Nat → Int32) × (Nat → Int32) × (Nat → Int32)) => rW E a (ln + 1) (nO (nAll (insF (aR ab) j t) (ln + 1))) (nD (nAll (insF (aR ab) j t) (ln + 1))) (nL (nAll (insF (aR ab) j t) (ln + 1))) f104 f112 sty u.1 u.2.1 u.2.2.1 u.2.2.2.1 u.2.2.2.2.1 u.2.2.2.2.2.1 u.2.2.2.2.2.2.1 u.2.2.2.2.2.2.2.1 u.2.2.2.2.2.2.2.2.1 u.2.2.2.2.2.2.2.2.2.1 u.2.2.2.2.2.2.2.2.2.2 wasX gsd cellsO sortO kLine kAt kKind) ⟨hx, hb, hml, hown, hts⟩ hK hZ hS hA (fun sz => c_X6_moved l G E a (ln + 1) (nO (nAll (aR ab) ln)) (nD (nAll (aR ab) ln)) (nL (nAll (aR ab) ln)) f104 f112 sty lineO'_37 tokO'_37 atO'_37 baseO'_37 kindO'_37 partO'_37 colO'_37 openO'_37 strayO'_37 stk'_37 bys'_37 wasX gsd cellsO sortO kLine kAt kKind (nI j) (insF (aR ab) j t) (by omega) hrn2 sz) gX6_put_X6_moved rfl rfl rfl (by decide +kernel) ⟨Nat.le_of_ble_eq_true rfl, Nat.le_of_ble_eq_true rfl⟩ hP hD (fun _ => rfl) rfl rfl hl.1 rfl rfl (Nat.le_of_ble_eq_true rfl) dX6_put_125 ⟨Nat.zero_le _, Nat.zero_le _⟩ (fun r125 u125 H locs p125 hP hD hS => ?_)
              obtain ⟨lineO'_125, tokO'_125, atO'_125, baseO'_125, kindO'_125, partO'_125, colO'_125, openO'_125, strayO'_125, stk'_125, bys'_125⟩ := u125
              try dsimp only at p125 hP hD
              have hP : va_P G vwCl (rW E a (ln + 1) (nO (nAll (insF (aR ab) j t) (ln + 1))) (nD (nAll (insF (aR ab) j t) (ln + 1))) (nL (nAll (insF (aR ab) j t) (ln + 1))) f104 f112 sty lineO'_125 tokO'_125 atO'_125 baseO'_125 kindO'_125 partO'_125 colO'_125 openO'_125 strayO'_125 stk'_125 bys'_125 wasX gsd cellsO sortO kLine kAt kKind) H := hP
              have hD : va_D A (rW E a (ln + 1) (nO (nAll (insF (aR ab) j t) (ln + 1))) (nD (nAll (insF (aR ab) j t) (ln + 1))) (nL (nAll (insF (aR ab) j t) (ln + 1))) f104 f112 sty lineO'_125 tokO'_125 atO'_125 baseO'_125 kindO'_125 partO'_125 colO'_125 openO'_125 strayO'_125 stk'_125 bys'_125 wasX gsd cellsO sortO kLine kAt kKind) := hD
              exact W.iret (v := r125) hx hb hr (fun tZ htZ hWZ => ⟨⟨_, (nO (nAll (insF (aR ab) j t) (ln + 1)), nD (nAll (insF (aR ab) j t) (ln + 1)), nL (nAll (insF (aR ab) j t) (ln + 1)), lineO'_125, tokO'_125, atO'_125, baseO'_125, kindO'_125, partO'_125, colO'_125, openO'_125, strayO'_125, stk'_125, bys'_125, wasX, gsd, (ln + 1), f104, f112), rfl, by rw [fPut_ok (A := ab) (by omega) (by omega) ht hz]; exact ⟨by rw [p125.2, hN, cols_congr hsg, mvc_congr (fun k hk hkj => ⟨rfl, hwas k (by omega) (fun q => hkj (by rw [q]))⟩)], by rw [hN], okA_lines hok (by omega) (insF_all (P := fun z => z < 1000000000 ∧ nzb z = true) hok.2.1 ⟨ht, hz⟩ (by omega)), hrn2, hsn2, hsg, hpk⟩, by show va_P G vwCl _ tZ.heap; rw [htZ]; exact hP⟩, hS.F htZ⟩) hS.2.2 dX6_put_128
            · obtain ⟨y0, rfl⟩ : ∃ y0, i = y0 + 1 := ⟨i - 1, by omega⟩
              refine lv_aload_n hx hb dX6_put_50 rfl (lv_at hl 1 rfl) ?_
              refine va_get (D := G) (ci := 6) (v := .ref (a 1)) (C := RX6) (T := TX6) (N := 25) hx hb hts hin6 hown hK hP 0 rfl rfl 1 (by decide) (hts (Cond.fieldLink RX6 7 "IndentRulesModel" "row" "[I") (List.mem_of_getElem? (i := 2) rfl)) (fun _ h9 => h9) rfl dX6_put_51 ?_
              refine lv_iload_n hx hb dX6_put_54 rfl (lv_at hl 0 rfl) ?_
              refine lv_aload_n hx hb dX6_put_55 rfl (lv_at hl 1 rfl) ?_
              refine va_get (D := G) (ci := 6) (v := .ref (a 1)) (C := RX6) (T := TX6) (N := 25) hx hb hts hin6 hown hK hP 0 rfl rfl 1 (by decide) (hts (Cond.fieldLink RX6 7 "IndentRulesModel" "row" "[I") (List.mem_of_getElem? (i := 2) rfl)) (fun _ h9 => h9) rfl dX6_put_56 ?_
              refine lv_iload_n hx hb dX6_put_59 rfl (lv_at hl 0 rfl) ?_
              refine lv_iconst (v := (nI 1)) hx hb dX6_put_60 (by decide) ?_
              refine k_isub (a := (y0 + 1)) (b := 1) hx hb (by omega) dX6_put_61 ?_
              refine k_iald (D := G) (tys := TYS E) (j := ((y0 + 1) - 1)) (f := rowX) (n := 20) hx hb hK hP 1 0 rfl rfl (by omega) (by decide) dX6_put_62 ?_
              refine k_iast (D := G) (tys := TYS E) (j := (y0 + 1)) (x := (rowX ((y0 + 1) - 1))) (f := rowX) (n := 20) hx hb hK hP hD hS 1 0 rfl rfl (by omega) (by decide) dX6_put_63 (fun H locs hP hD hS => ?_)
              have hP : va_P G vwCl (rW E a ln (nO (nAll (aR ab) ln)) (nD (nAll (aR ab) ln)) (nL (nAll (aR ab) ln)) (upd rowX (y0 + 1) (rowX ((y0 + 1) - 1))) seenX sty lineO'_37 tokO'_37 atO'_37 baseO'_37 kindO'_37 partO'_37 colO'_37 openO'_37 strayO'_37 stk'_37 bys'_37 wasX gsd cellsO sortO kLine kAt kKind) H := hP
              have hD : va_D A (rW E a ln (nO (nAll (aR ab) ln)) (nD (nAll (aR ab) ln)) (nL (nAll (aR ab) ln)) (upd rowX (y0 + 1) (rowX ((y0 + 1) - 1))) seenX sty lineO'_37 tokO'_37 atO'_37 baseO'_37 kindO'_37 partO'_37 colO'_37 openO'_37 strayO'_37 stk'_37 bys'_37 wasX gsd cellsO sortO kLine kAt kKind) := hD
              obtain ⟨f63, ef63⟩ : ∃ z : Nat → Int32, z = upd rowX (y0 + 1) (rowX ((y0 + 1) - 1)) := ⟨_, rfl⟩
              rw [← ef63] at hP hD
              refine lv_aload_n hx hb dX6_put_64 rfl (lv_at hl 1 rfl) ?_
              refine va_get (D := G) (ci := 6) (v := .ref (a 2)) (C := RX6) (T := TX6) (N := 25) hx hb hts hin6 hown hK hP 0 rfl rfl 2 (by decide) (hts (Cond.fieldLink RX6 13 "IndentRulesModel" "seen" "[I") (List.mem_of_getElem? (i := 3) rfl)) (fun _ h9 => h9) rfl dX6_put_65 ?_
              refine lv_iload_n hx hb dX6_put_68 rfl (lv_at hl 0 rfl) ?_
              refine lv_aload_n hx hb dX6_put_69 rfl (lv_at hl 1 rfl) ?_
              refine va_get (D := G) (ci := 6) (v := .ref (a 2)) (C := RX6) (T := TX6) (N := 25) hx hb hts hin6 hown hK hP 0 rfl rfl 2 (by decide) (hts (Cond.fieldLink RX6 13 "IndentRulesModel" "seen" "[I") (List.mem_of_getElem? (i := 3) rfl)) (fun _ h9 => h9) rfl dX6_put_70 ?_
              refine lv_iload_n hx hb dX6_put_73 rfl (lv_at hl 0 rfl) ?_
              refine lv_iconst (v := (nI 1)) hx hb dX6_put_74 (by decide) ?_
              refine k_isub (a := (y0 + 1)) (b := 1) hx hb (by omega) dX6_put_75 ?_
              refine k_iald (D := G) (tys := TYS E) (j := ((y0 + 1) - 1)) (f := seenX) (n := 20) hx hb hK hP 2 0 rfl rfl (by omega) (by decide) dX6_put_76 ?_
              refine k_iast (D := G) (tys := TYS E) (j := (y0 + 1)) (x := (seenX ((y0 + 1) - 1))) (f := seenX) (n := 20) hx hb hK hP hD hS 2 0 rfl rfl (by omega) (by decide) dX6_put_77 (fun H locs hP hD hS => ?_)
              have hP : va_P G vwCl (rW E a ln (nO (nAll (aR ab) ln)) (nD (nAll (aR ab) ln)) (nL (nAll (aR ab) ln)) f63 (upd seenX (y0 + 1) (seenX ((y0 + 1) - 1))) sty lineO'_37 tokO'_37 atO'_37 baseO'_37 kindO'_37 partO'_37 colO'_37 openO'_37 strayO'_37 stk'_37 bys'_37 wasX gsd cellsO sortO kLine kAt kKind) H := hP
              have hD : va_D A (rW E a ln (nO (nAll (aR ab) ln)) (nD (nAll (aR ab) ln)) (nL (nAll (aR ab) ln)) f63 (upd seenX (y0 + 1) (seenX ((y0 + 1) - 1))) sty lineO'_37 tokO'_37 atO'_37 baseO'_37 kindO'_37 partO'_37 colO'_37 openO'_37 strayO'_37 stk'_37 bys'_37 wasX gsd cellsO sortO kLine kAt kKind) := hD
              obtain ⟨f77, ef77⟩ : ∃ z : Nat → Int32, z = upd seenX (y0 + 1) (seenX ((y0 + 1) - 1)) := ⟨_, rfl⟩
              rw [← ef77] at hP hD
              refine lv_aload_n hx hb dX6_put_78 rfl (lv_at hl 1 rfl) ?_
              refine va_get (D := G) (ci := 6) (v := .ref (a 18)) (C := RX6) (T := TX6) (N := 25) hx hb hts hin6 hown hK hP 0 rfl rfl 18 (by decide) (hts (Cond.fieldLink RX6 52 "IndentRulesModel" "columnWas" "[I") (List.mem_of_getElem? (i := 4) rfl)) (fun _ h9 => h9) rfl dX6_put_79 ?_
              refine lv_iload_n hx hb dX6_put_82 rfl (lv_at hl 0 rfl) ?_
              refine lv_aload_n hx hb dX6_put_83 rfl (lv_at hl 1 rfl) ?_
              refine va_get (D := G) (ci := 6) (v := .ref (a 18)) (C := RX6) (T := TX6) (N := 25) hx hb hts hin6 hown hK hP 0 rfl rfl 18 (by decide) (hts (Cond.fieldLink RX6 52 "IndentRulesModel" "columnWas" "[I") (List.mem_of_getElem? (i := 4) rfl)) (fun _ h9 => h9) rfl dX6_put_84 ?_
              refine lv_iload_n hx hb dX6_put_87 rfl (lv_at hl 0 rfl) ?_
              refine lv_iconst (v := (nI 1)) hx hb dX6_put_88 (by decide) ?_
              refine k_isub (a := (y0 + 1)) (b := 1) hx hb (by omega) dX6_put_89 ?_
              refine k_iald (D := G) (tys := TYS E) (j := ((y0 + 1) - 1)) (f := wasX) (n := 20) hx hb hK hP 15 0 rfl rfl (by omega) (by decide) dX6_put_90 ?_
              refine k_iast (D := G) (tys := TYS E) (j := (y0 + 1)) (x := (wasX ((y0 + 1) - 1))) (f := wasX) (n := 20) hx hb hK hP hD hS 15 0 rfl rfl (by omega) (by decide) dX6_put_91 (fun H locs hP hD hS => ?_)
              have hP : va_P G vwCl (rW E a ln (nO (nAll (aR ab) ln)) (nD (nAll (aR ab) ln)) (nL (nAll (aR ab) ln)) f63 f77 sty lineO'_37 tokO'_37 atO'_37 baseO'_37 kindO'_37 partO'_37 colO'_37 openO'_37 strayO'_37 stk'_37 bys'_37 (upd wasX (y0 + 1) (wasX ((y0 + 1) - 1))) gsd cellsO sortO kLine kAt kKind) H := hP
              have hD : va_D A (rW E a ln (nO (nAll (aR ab) ln)) (nD (nAll (aR ab) ln)) (nL (nAll (aR ab) ln)) f63 f77 sty lineO'_37 tokO'_37 atO'_37 baseO'_37 kindO'_37 partO'_37 colO'_37 openO'_37 strayO'_37 stk'_37 bys'_37 (upd wasX (y0 + 1) (wasX ((y0 + 1) - 1))) gsd cellsO sortO kLine kAt kKind) := hD
              obtain ⟨f91, ef91⟩ : ∃ z : Nat → Int32, z = upd wasX (y0 + 1) (wasX ((y0 + 1) - 1)) := ⟨_, rfl⟩
              rw [← ef91] at hP hD
              refine lv_iinc (v := (nI y0)) (lv' := [(3, .int (nI y0)), (0, .ref (a 0)), (1, .int (nI j)), (2, .int (nI t))]) hx hb dX6_put_92 hl (k := 0) rfl (k_dec y0) (by decide) rfl (fun ls hl => ?_)
              refine lv_goto (tgt := 45) hx hb dX6_put_95 (by decide) ?_
              exact ih45 y0 f63 f77 f91 _ _ ⟨by omega, by omega⟩ (by rw [ef63, hr2]; exact shF_step row (by omega)) (by rw [ef77, hs2]; exact shF_step seen (by omega)) (by rw [ef91, hw2]; exact shF_step was'_37 (by omega)) (by omega) hP hD hS ls (lv_sub hl [0, 1, 2, 3] rfl)
        exact lp45 (ln + 1) ln row seen was'_37 _ _ ⟨hj, Nat.le_refl _⟩ (shF_n row ln).symm (shF_n seen ln).symm (shF_n was'_37 ln).symm (Nat.lt_succ_self _) hP hD hS ls (lv_sub hl [0, 1, 2, 3] rfl)
      · refine lv_bipush (v := (-4)) hx hb dX6_put_33 (by decide) ?_
        exact W.iret (v := (-4)) hx hb hr (fun tZ htZ hWZ => ⟨⟨_, (op, dp, la, lineO, tokO, atO, baseO, kindO, partO, colO, openO, strayO, stk, bys, was, gsd, ln, row, seen), rfl, by rw [fPut_4 (ixP_n (by omega) (by omega)) ⟨t, ht, hz, rfl⟩ (by omega)]; exact ⟨rfl, hab⟩, by show va_P G vwCl _ tZ.heap; rw [htZ]; exact hP⟩, hS.F htZ⟩) hS.2.2 dX6_put_35
    · refine n_if_ne (a := 0) (tgt := 24) hx hb (by decide) dX6_put_18 (by decide) (fun c18 => absurd c18 (by decide)) (fun c18 => ?_)
      refine lv_bipush (v := (-2)) hx hb dX6_put_21 (by decide) ?_
      exact W.iret (v := (-2)) hx hb hr (fun tZ htZ hWZ => ⟨⟨_, (op, dp, la, lineO, tokO, atO, baseO, kindO, partO, colO, openO, strayO, stk, bys, was, gsd, ln, row, seen), rfl, by rw [fPut_2 (ixP_n (by omega) (by omega)) h15]; exact ⟨rfl, hab⟩, by show va_P G vwCl _ tZ.heap; rw [htZ]; exact hP⟩, hS.F htZ⟩) hS.2.2 dX6_put_23
  · have hx1 : ¬ ixP x (aN ab + 1) := fun q => by obtain ⟨z, hz1, hz2⟩ := (ixP_iff (by omega)).mp q; exact h6 ((w_rg (by decide) (by omega)).mpr ⟨z, Nat.zero_le _, by omega, hz2⟩)
    refine n_if_ne (a := 0) (tgt := 14) hx hb (by decide) dX6_put_9 (by decide) (fun c9 => absurd c9 (by decide)) (fun c9 => ?_)
    refine lv_iconst (v := (-1)) hx hb dX6_put_12 (by decide) ?_
    exact W.iret (v := (-1)) hx hb hr (fun tZ htZ hWZ => ⟨⟨_, (op, dp, la, lineO, tokO, atO, baseO, kindO, partO, colO, openO, strayO, stk, bys, was, gsd, ln, row, seen), rfl, by rw [fPut_1 hx1]; exact ⟨rfl, hab⟩, by show va_P G vwCl _ tZ.heap; rw [htZ]; exact hP⟩, hS.F htZ⟩) hS.2.2 dX6_put_13

set_option maxHeartbeats 4000000 in
set_option maxRecDepth 100000 in
theorem c_X6_change (l : Launch) (G : va_G) (E : cEnv) (a : Nat → Nat) (ln op dp la : Nat) (row seen sty lineO tokO atO baseO kindO partO colO openO strayO stk bys was gsd cellsO sortO kLine kAt kKind : Nat → Int32) (x y : Int32) (ab : ABS) (hab : RefOk ab ln row seen sty cellsO sortO kLine kAt kKind) (sz : Nat) : Met l yX6_change wsX6_change ({ frames := 7, cells := 0, slots := 0, locals := 163 }) (va_Pc [.ref (a 0), .int x, .int y] (PW G E (rW E a ln op dp la row seen sty lineO tokO atO baseO kindO partO colO openO strayO stk bys was gsd cellsO sortO kLine kAt kKind) sz)) (va_Qi (fun (r : Int32) (u : (Nat) × (Nat) × (Nat) × (Nat → Int32) × (Nat → Int32) × (Nat → Int32) × (Nat → Int32) × (Nat → Int32) × (Nat → Int32) × (Nat → Int32) × (Nat → Int32) × (Nat → Int32) × (Nat → Int32) × (Nat → Int32) × (Nat → Int32) × (Nat → Int32) × (Nat → Int32)) => r = (fChange ab x y).1 ∧ RefOk ((fChange ab x y).2) ln u.2.2.2.2.2.2.2.2.2.2.2.2.2.2.2.2 seen sty cellsO sortO kLine kAt kKind) (fun (u : (Nat) × (Nat) × (Nat) × (Nat → Int32) × (Nat → Int32) × (Nat → Int32) × (Nat → Int32) × (Nat → Int32) × (Nat → Int32) × (Nat → Int32) × (Nat → Int32) × (Nat → Int32) × (Nat → Int32) × (Nat → Int32) × (Nat → Int32) × (Nat → Int32) × (Nat → Int32)) tQ => va_P G vwCl (rW E a ln u.1 u.2.1 u.2.2.1 u.2.2.2.2.2.2.2.2.2.2.2.2.2.2.2.2 seen sty u.2.2.2.1 u.2.2.2.2.1 u.2.2.2.2.2.1 u.2.2.2.2.2.2.1 u.2.2.2.2.2.2.2.1 u.2.2.2.2.2.2.2.2.1 u.2.2.2.2.2.2.2.2.2.1 u.2.2.2.2.2.2.2.2.2.2.1 u.2.2.2.2.2.2.2.2.2.2.2.1 u.2.2.2.2.2.2.2.2.2.2.2.2.1 u.2.2.2.2.2.2.2.2.2.2.2.2.2.1 u.2.2.2.2.2.2.2.2.2.2.2.2.2.2.1 u.2.2.2.2.2.2.2.2.2.2.2.2.2.2.2.1 cellsO sortO kLine kAt kKind) tQ.heap) (va_A (rW E a ln op dp la row seen sty lineO tokO atO baseO kindO partO colO openO strayO stk bys was gsd cellsO sortO kLine kAt kKind) sz)) 0 0 (va_A (rW E a ln op dp la row seen sty lineO tokO atO baseO kindO partO colO openO strayO stk bys was gsd cellsO sortO kLine kAt kKind) sz) := by
  refine Met.ofW (cc := cX6_change) (maxL := 3) (ret := (some .int)) (by decide) rfl ?_
  intro p e s m args below meth c s₁ B hml hv
  obtain ⟨rfl, hsz, hP, hK, hD0, hZ⟩ := hv
  have hx := B.exec
  have hb := B.bytes
  have hr := B.returns
  have hts := atoms_spec (ws := wsX6_change) B.pre
  have hown : s.vm.findClass RX6 = some m.cls := findClass_of_methodNamed B.named
  have hlocks := B.notSynchronized
  have hin6 : ∀ w ∈ u_ws RX6 TX6 25, w ∈ wsX6_change := mem_pl [79, 80, 81, 82, 83, 84, 85, 86, 87, 88, 89, 90, 91, 92, 93, 94, 95, 96, 97, 98, 99, 100, 101, 102, 103] (by rfl)
  subst hsz
  have hD := hD0.self (sz := s.heap.size)
  generalize hAe : va_A (rW E a ln op dp la row seen sty lineO tokO atO baseO kindO partO colO openO strayO stk bys was gsd cellsO sortO kLine kAt kKind) s.heap.size = A at hD hZ ⊢
  have hA : ∀ q : Nat, s.heap.size ≤ q → A q := fun q h => by rw [← hAe]; exact Or.inr h
  have hS : va_S A s.heap s.heap [] := va_S.rf
  have hl := lv_entry ([.ref (a 0), .int x, .int y]) (n := 3) (Nat.le_of_ble_eq_true rfl)
  rw [lg_entry_eq]
  generalize (lg_sl ([.ref (a 0), .int x, .int y]) ++ List.replicate (3 - (lg_sl ([.ref (a 0), .int x, .int y])).length) Slot.unset).toArray = ls at hl ⊢
  have hl : lv_has ls 3 [(0, .ref (a 0)), (1, .int x), (2, .int y)] := hl
  obtain ⟨hN, hok, hrn, hsn, hsg, hpk⟩ := id hab
  have hln : ln ≤ 20 := by rw [hN]; exact hok.1
  refine lv_aload_n hx hb dX6_change_0 rfl (lv_at hl 0 rfl) ?_
  refine lv_iload_n hx hb dX6_change_1 rfl (lv_at hl 1 rfl) ?_
  refine rv_i (n := 1) (G := G) (E := E) (As := [.int x]) (rest := []) (ci := 6) (q0 := 0) ⟨hx, hb, hml, hown, hts⟩ hK hZ hS (c_X6_isLine l G E a ln op dp la row seen sty lineO tokO atO baseO kindO partO colO openO strayO stk bys was gsd cellsO sortO kLine kAt kKind x (by first | assumption | omega)) gX6_change_X6_isLine rfl rfl rfl (by decide +kernel) ⟨Nat.le_of_ble_eq_true rfl, Nat.le_of_ble_eq_true rfl⟩ hP rfl rfl hl.1 rfl rfl (Nat.le_of_ble_eq_true rfl) dX6_change_2 ⟨Nat.zero_le _, Nat.zero_le _⟩ (fun r2 p2 => ?_)
  rcases p2 with ⟨⟨j, hj, rfl⟩, rfl⟩ | ⟨h2, rfl⟩
  · refine n_if_ne (a := 1) (tgt := 10) hx hb (by decide) dX6_change_5 (by decide) (fun c5 => ?_) (fun c5 => absurd c5 (by decide))
    refine lv_iload_n hx hb dX6_change_10 rfl (lv_at hl 2 rfl) ?_
    refine rs_i (n := 1) (G := G) (E := E) (As := [.int y]) (rest := []) ⟨hx, hb, hml, hown, hts⟩ hK hZ hS (c_X6_areTokens l G E y) gX6_change_X6_areTokens rfl rfl rfl (by decide +kernel) ⟨Nat.le_of_ble_eq_true rfl, Nat.le_of_ble_eq_true rfl⟩ (fun k q h => by simp at h) hl.1 rfl rfl (Nat.le_of_ble_eq_true rfl) dX6_change_11 ⟨Nat.zero_le _, Nat.zero_le _⟩ (fun r11 p11 => ?_)
    rcases p11 with ⟨⟨t, ht, hz, rfl⟩, rfl⟩ | ⟨h11, rfl⟩
    · refine n_if_ne (a := 1) (tgt := 20) hx hb (by decide) dX6_change_14 (by decide) (fun c14 => ?_) (fun c14 => absurd c14 (by decide))
      refine lv_aload_n hx hb dX6_change_20 rfl (lv_at hl 0 rfl) ?_
      refine wf_v (n := 0) (G := G) (E := E) (As := []) (rest := []) (ci := 6) (q0 := 0) (wn := fun (u : (Nat → Int32) × (Nat → Int32) × (Nat → Int32) × (Nat → Int32) × (Nat → Int32) × (Nat → Int32) × (Nat → Int32) × (Nat → Int32) × (Nat → Int32) × (Nat → Int32) × (Nat → Int32) × (Nat → Int32)) => rW E a ln (nO (nAll (aR ab) ln)) (nD (nAll (aR ab) ln)) (nL (nAll (aR ab) ln)) row seen sty u.1 u.2.1 u.2.2.1 u.2.2.2.1 u.2.2.2.2.1 u.2.2.2.2.2.1 u.2.2.2.2.2.2.1 u.2.2.2.2.2.2.2.1 u.2.2.2.2.2.2.2.2.1 u.2.2.2.2.2.2.2.2.2.1 u.2.2.2.2.2.2.2.2.2.2.1 u.2.2.2.2.2.2.2.2.2.2.2 gsd cellsO sortO kLine kAt kKind) ⟨hx, hb, hml, hown, hts⟩ hK hZ hS hA (fun sz => c_X6_notes l G E a ln op dp la row seen sty lineO tokO atO baseO kindO partO colO openO strayO stk bys was gsd cellsO sortO kLine kAt kKind (aR ab) (by first | assumption | omega) (by first | assumption | omega) sz) gX6_change_X6_notes rfl rfl rfl (by decide +kernel) ⟨Nat.le_of_ble_eq_true rfl, Nat.le_of_ble_eq_true rfl⟩ hP hD (fun _ => rfl) rfl rfl hl.1 rfl rfl (Nat.le_of_ble_eq_true rfl) dX6_change_21 ⟨Nat.zero_le _, Nat.zero_le _⟩ (fun u21 H locs p21 hP hD hS => ?_)
      obtain ⟨lineO'_21, tokO'_21, atO'_21, baseO'_21, kindO'_21, partO'_21, colO'_21, openO'_21, strayO'_21, stk'_21, bys'_21, was'_21⟩ := u21
      try dsimp only at p21 hP hD
      have hP : va_P G vwCl (rW E a ln (nO (nAll (aR ab) ln)) (nD (nAll (aR ab) ln)) (nL (nAll (aR ab) ln)) row seen sty lineO'_21 tokO'_21 atO'_21 baseO'_21 kindO'_21 partO'_21 colO'_21 openO'_21 strayO'_21 stk'_21 bys'_21 was'_21 gsd cellsO sortO kLine kAt kKind) H := hP
      have hD : va_D A (rW E a ln (nO (nAll (aR ab) ln)) (nD (nAll (aR ab) ln)) (nL (nAll (aR ab) ln)) row seen sty lineO'_21 tokO'_21 atO'_21 baseO'_21 kindO'_21 partO'_21 colO'_21 openO'_21 strayO'_21 stk'_21 bys'_21 was'_21 gsd cellsO sortO kLine kAt kKind) := hD
      refine lv_aload_n hx hb dX6_change_24 rfl (lv_at hl 0 rfl) ?_
      refine va_get (D := G) (ci := 6) (v := .ref (a 1)) (C := RX6) (T := TX6) (N := 25) hx hb hts hin6 hown hK hP 0 rfl rfl 1 (by decide) (hts (Cond.fieldLink RX6 7 "IndentRulesModel" "row" "[I") (List.mem_of_getElem? (i := 1) rfl)) (fun _ h9 => h9) rfl dX6_change_25 ?_
      refine lv_iload_n hx hb dX6_change_28 rfl (lv_at hl 1 rfl) ?_
      refine lv_iload_n hx hb dX6_change_29 rfl (lv_at hl 2 rfl) ?_
      refine k_iast (D := G) (tys := TYS E) (j := j) (x := (nI t)) (f := row) (n := 20) hx hb hK hP hD hS 1 0 rfl rfl (by omega) (by decide) dX6_change_30 (fun H locs hP hD hS => ?_)
      have hP : va_P G vwCl (rW E a ln (nO (nAll (aR ab) ln)) (nD (nAll (aR ab) ln)) (nL (nAll (aR ab) ln)) (upd row j (nI t)) seen sty lineO'_21 tokO'_21 atO'_21 baseO'_21 kindO'_21 partO'_21 colO'_21 openO'_21 strayO'_21 stk'_21 bys'_21 was'_21 gsd cellsO sortO kLine kAt kKind) H := hP
      have hD : va_D A (rW E a ln (nO (nAll (aR ab) ln)) (nD (nAll (aR ab) ln)) (nL (nAll (aR ab) ln)) (upd row j (nI t)) seen sty lineO'_21 tokO'_21 atO'_21 baseO'_21 kindO'_21 partO'_21 colO'_21 openO'_21 strayO'_21 stk'_21 bys'_21 was'_21 gsd cellsO sortO kLine kAt kKind) := hD
      obtain ⟨f30, ef30⟩ : ∃ z : Nat → Int32, z = upd row j (nI t) := ⟨_, rfl⟩
      rw [← ef30] at hP hD
      have hrn2 : rowsOk ln f30 (updF (aR ab) j t) := by rw [ef30]; exact rowsOk_upd hrn ht hz
      refine lv_aload_n hx hb dX6_change_31 rfl (lv_at hl 0 rfl) ?_
      refine lv_iload_n hx hb dX6_change_32 rfl (lv_at hl 1 rfl) ?_
      refine wf_i (n := 1) (G := G) (E := E) (As := [.int (nI j)]) (rest := []) (ci := 6) (q0 := 0) (wn := fun (u : (Nat → Int32) × (Nat → Int32) × (Nat → Int32) × (Nat → Int32) × (Nat → Int32) × (Nat → Int32) × (Nat → Int32) × (Nat → Int32) × (Nat → Int32) × (Nat → Int32) × (Nat → Int32)) => rW E a ln (nO (nAll (updF (aR ab) j t) ln)) (nD (nAll (updF (aR ab) j t) ln)) (nL (nAll (updF (aR ab) j t) ln)) f30 seen sty u.1 u.2.1 u.2.2.1 u.2.2.2.1 u.2.2.2.2.1 u.2.2.2.2.2.1 u.2.2.2.2.2.2.1 u.2.2.2.2.2.2.2.1 u.2.2.2.2.2.2.2.2.1 u.2.2.2.2.2.2.2.2.2.1 u.2.2.2.2.2.2.2.2.2.2 was'_21 gsd cellsO sortO kLine kAt kKind) ⟨hx, hb, hml, hown, hts⟩ hK hZ hS hA (fun sz => c_X6_moved l G E a ln (nO (nAll (aR ab) ln)) (nD (nAll (aR ab) ln)) (nL (nAll (aR ab) ln)) f30 seen sty lineO'_21 tokO'_21 atO'_21 baseO'_21 kindO'_21 partO'_21 colO'_21 openO'_21 strayO'_21 stk'_21 bys'_21 was'_21 gsd cellsO sortO kLine kAt kKind (nI j) (updF (aR ab) j t) (by first | assumption | omega) hrn2 sz) gX6_change_X6_moved rfl rfl rfl (by decide +kernel) ⟨Nat.le_of_ble_eq_true rfl, Nat.le_of_ble_eq_true rfl⟩ hP hD (fun _ => rfl) rfl rfl hl.1 rfl rfl (Nat.le_of_ble_eq_true rfl) dX6_change_33 ⟨Nat.zero_le _, Nat.zero_le _⟩ (fun r33 u33 H locs p33 hP hD hS => ?_)
      obtain ⟨lineO'_33, tokO'_33, atO'_33, baseO'_33, kindO'_33, partO'_33, colO'_33, openO'_33, strayO'_33, stk'_33, bys'_33⟩ := u33
      try dsimp only at p33 hP hD
      have hP : va_P G vwCl (rW E a ln (nO (nAll (updF (aR ab) j t) ln)) (nD (nAll (updF (aR ab) j t) ln)) (nL (nAll (updF (aR ab) j t) ln)) f30 seen sty lineO'_33 tokO'_33 atO'_33 baseO'_33 kindO'_33 partO'_33 colO'_33 openO'_33 strayO'_33 stk'_33 bys'_33 was'_21 gsd cellsO sortO kLine kAt kKind) H := hP
      have hD : va_D A (rW E a ln (nO (nAll (updF (aR ab) j t) ln)) (nD (nAll (updF (aR ab) j t) ln)) (nL (nAll (updF (aR ab) j t) ln)) f30 seen sty lineO'_33 tokO'_33 atO'_33 baseO'_33 kindO'_33 partO'_33 colO'_33 openO'_33 strayO'_33 stk'_33 bys'_33 was'_21 gsd cellsO sortO kLine kAt kKind) := hD
      exact W.iret (v := r33) hx hb hr (fun tZ htZ hWZ => ⟨⟨_, (nO (nAll (updF (aR ab) j t) ln), nD (nAll (updF (aR ab) j t) ln), nL (nAll (updF (aR ab) j t) ln), lineO'_33, tokO'_33, atO'_33, baseO'_33, kindO'_33, partO'_33, colO'_33, openO'_33, strayO'_33, stk'_33, bys'_33, was'_21, gsd, f30), rfl, by rw [fChange_ok (A := ab) (by omega) (by omega) ht hz]; exact ⟨by rw [p33.2, hN, cols_congr hsg, mvc_congr (fun k hk hkj => ⟨rfl, by rw [p21.2 k (by omega), cols_congr hsg, hN]⟩)], hN, okA_lines hok (by omega) (updF_all (P := fun z => z < 1000000000 ∧ nzb z = true) hok.2.1 ⟨ht, hz⟩), hrn2, hsn, hsg, hpk⟩, by show va_P G vwCl _ tZ.heap; rw [htZ]; exact hP⟩, hS.F htZ⟩) hS.2.2 dX6_change_36
    · refine n_if_ne (a := 0) (tgt := 20) hx hb (by decide) dX6_change_14 (by decide) (fun c14 => absurd c14 (by decide)) (fun c14 => ?_)
      refine lv_bipush (v := (-2)) hx hb dX6_change_17 (by decide) ?_
      exact W.iret (v := (-2)) hx hb hr (fun tZ htZ hWZ => ⟨⟨_, (op, dp, la, lineO, tokO, atO, baseO, kindO, partO, colO, openO, strayO, stk, bys, was, gsd, row), rfl, by rw [fChange_2 (ixP_n (by omega) (by omega)) h11]; exact ⟨rfl, hab⟩, by show va_P G vwCl _ tZ.heap; rw [htZ]; exact hP⟩, hS.F htZ⟩) hS.2.2 dX6_change_19
  · have hx1 : ¬ ixP x (aN ab) := fun q => h2 (by rw [hN]; exact (ixP_iff (by omega)).mp q)
    refine n_if_ne (a := 0) (tgt := 10) hx hb (by decide) dX6_change_5 (by decide) (fun c5 => absurd c5 (by decide)) (fun c5 => ?_)
    refine lv_iconst (v := (-1)) hx hb dX6_change_8 (by decide) ?_
    exact W.iret (v := (-1)) hx hb hr (fun tZ htZ hWZ => ⟨⟨_, (op, dp, la, lineO, tokO, atO, baseO, kindO, partO, colO, openO, strayO, stk, bys, was, gsd, row), rfl, by rw [fChange_1 hx1]; exact ⟨rfl, hab⟩, by show va_P G vwCl _ tZ.heap; rw [htZ]; exact hP⟩, hS.F htZ⟩) hS.2.2 dX6_change_9

set_option maxHeartbeats 4000000 in
set_option maxRecDepth 100000 in
theorem c_X6_take (l : Launch) (G : va_G) (E : cEnv) (a : Nat → Nat) (ln op dp la : Nat) (row seen sty lineO tokO atO baseO kindO partO colO openO strayO stk bys was gsd cellsO sortO kLine kAt kKind : Nat → Int32) (x : Int32) (ab : ABS) (hab : RefOk ab ln row seen sty cellsO sortO kLine kAt kKind) (sz : Nat) : Met l yX6_take wsX6_take ({ frames := 7, cells := 0, slots := 0, locals := 163 }) (va_Pc [.ref (a 0), .int x] (PW G E (rW E a ln op dp la row seen sty lineO tokO atO baseO kindO partO colO openO strayO stk bys was gsd cellsO sortO kLine kAt kKind) sz)) (va_Qi (fun (r : Int32) (u : (Nat) × (Nat) × (Nat) × (Nat → Int32) × (Nat → Int32) × (Nat → Int32) × (Nat → Int32) × (Nat → Int32) × (Nat → Int32) × (Nat → Int32) × (Nat → Int32) × (Nat → Int32) × (Nat → Int32) × (Nat → Int32) × (Nat → Int32) × (Nat → Int32) × (Nat) × (Nat → Int32) × (Nat → Int32)) => r = (fTake ab x).1 ∧ RefOk ((fTake ab x).2) u.2.2.2.2.2.2.2.2.2.2.2.2.2.2.2.2.1 u.2.2.2.2.2.2.2.2.2.2.2.2.2.2.2.2.2.1 u.2.2.2.2.2.2.2.2.2.2.2.2.2.2.2.2.2.2 sty cellsO sortO kLine kAt kKind) (fun (u : (Nat) × (Nat) × (Nat) × (Nat → Int32) × (Nat → Int32) × (Nat → Int32) × (Nat → Int32) × (Nat → Int32) × (Nat → Int32) × (Nat → Int32) × (Nat → Int32) × (Nat → Int32) × (Nat → Int32) × (Nat → Int32) × (Nat → Int32) × (Nat → Int32) × (Nat) × (Nat → Int32) × (Nat → Int32)) tQ => va_P G vwCl (rW E a u.2.2.2.2.2.2.2.2.2.2.2.2.2.2.2.2.1 u.1 u.2.1 u.2.2.1 u.2.2.2.2.2.2.2.2.2.2.2.2.2.2.2.2.2.1 u.2.2.2.2.2.2.2.2.2.2.2.2.2.2.2.2.2.2 sty u.2.2.2.1 u.2.2.2.2.1 u.2.2.2.2.2.1 u.2.2.2.2.2.2.1 u.2.2.2.2.2.2.2.1 u.2.2.2.2.2.2.2.2.1 u.2.2.2.2.2.2.2.2.2.1 u.2.2.2.2.2.2.2.2.2.2.1 u.2.2.2.2.2.2.2.2.2.2.2.1 u.2.2.2.2.2.2.2.2.2.2.2.2.1 u.2.2.2.2.2.2.2.2.2.2.2.2.2.1 u.2.2.2.2.2.2.2.2.2.2.2.2.2.2.1 u.2.2.2.2.2.2.2.2.2.2.2.2.2.2.2.1 cellsO sortO kLine kAt kKind) tQ.heap) (va_A (rW E a ln op dp la row seen sty lineO tokO atO baseO kindO partO colO openO strayO stk bys was gsd cellsO sortO kLine kAt kKind) sz)) 0 0 (va_A (rW E a ln op dp la row seen sty lineO tokO atO baseO kindO partO colO openO strayO stk bys was gsd cellsO sortO kLine kAt kKind) sz) := by
  refine Met.ofW (cc := cX6_take) (maxL := 3) (ret := (some .int)) (by decide) rfl ?_
  intro p e s m args below meth c s₁ B hml hv
  obtain ⟨rfl, hsz, hP, hK, hD0, hZ⟩ := hv
  have hx := B.exec
  have hb := B.bytes
  have hr := B.returns
  have hts := atoms_spec (ws := wsX6_take) B.pre
  have hown : s.vm.findClass RX6 = some m.cls := findClass_of_methodNamed B.named
  have hlocks := B.notSynchronized
  have hin6 : ∀ w ∈ u_ws RX6 TX6 25, w ∈ wsX6_take := mem_pl [77, 78, 79, 80, 81, 82, 83, 84, 85, 86, 87, 88, 89, 90, 91, 92, 93, 94, 95, 96, 97, 98, 99, 100, 101] (by rfl)
  subst hsz
  have hD := hD0.self (sz := s.heap.size)
  generalize hAe : va_A (rW E a ln op dp la row seen sty lineO tokO atO baseO kindO partO colO openO strayO stk bys was gsd cellsO sortO kLine kAt kKind) s.heap.size = A at hD hZ ⊢
  have hA : ∀ q : Nat, s.heap.size ≤ q → A q := fun q h => by rw [← hAe]; exact Or.inr h
  have hS : va_S A s.heap s.heap [] := va_S.rf
  have hl := lv_entry ([.ref (a 0), .int x]) (n := 3) (Nat.le_of_ble_eq_true rfl)
  rw [lg_entry_eq]
  generalize (lg_sl ([.ref (a 0), .int x]) ++ List.replicate (3 - (lg_sl ([.ref (a 0), .int x])).length) Slot.unset).toArray = ls at hl ⊢
  have hl : lv_has ls 3 [(0, .ref (a 0)), (1, .int x)] := hl
  obtain ⟨hN, hok, hrn, hsn, hsg, hpk⟩ := id hab
  have hln : ln ≤ 20 := by rw [hN]; exact hok.1
  refine lv_aload_n hx hb dX6_take_0 rfl (lv_at hl 0 rfl) ?_
  refine lv_iload_n hx hb dX6_take_1 rfl (lv_at hl 1 rfl) ?_
  refine rv_i (n := 1) (G := G) (E := E) (As := [.int x]) (rest := []) (ci := 6) (q0 := 0) ⟨hx, hb, hml, hown, hts⟩ hK hZ hS (c_X6_isLine l G E a ln op dp la row seen sty lineO tokO atO baseO kindO partO colO openO strayO stk bys was gsd cellsO sortO kLine kAt kKind x (by first | assumption | omega)) gX6_take_X6_isLine rfl rfl rfl (by decide +kernel) ⟨Nat.le_of_ble_eq_true rfl, Nat.le_of_ble_eq_true rfl⟩ hP rfl rfl hl.1 rfl rfl (Nat.le_of_ble_eq_true rfl) dX6_take_2 ⟨Nat.zero_le _, Nat.zero_le _⟩ (fun r2 p2 => ?_)
  rcases p2 with ⟨⟨j, hj, rfl⟩, rfl⟩ | ⟨h2, rfl⟩
  · refine n_if_ne (a := 1) (tgt := 10) hx hb (by decide) dX6_take_5 (by decide) (fun c5 => ?_) (fun c5 => absurd c5 (by decide))
    refine lv_aload_n hx hb dX6_take_10 rfl (lv_at hl 0 rfl) ?_
    refine wf_v (n := 0) (G := G) (E := E) (As := []) (rest := []) (ci := 6) (q0 := 0) (wn := fun (u : (Nat → Int32) × (Nat → Int32) × (Nat → Int32) × (Nat → Int32) × (Nat → Int32) × (Nat → Int32) × (Nat → Int32) × (Nat → Int32) × (Nat → Int32) × (Nat → Int32) × (Nat → Int32) × (Nat → Int32)) => rW E a ln (nO (nAll (aR ab) ln)) (nD (nAll (aR ab) ln)) (nL (nAll (aR ab) ln)) row seen sty u.1 u.2.1 u.2.2.1 u.2.2.2.1 u.2.2.2.2.1 u.2.2.2.2.2.1 u.2.2.2.2.2.2.1 u.2.2.2.2.2.2.2.1 u.2.2.2.2.2.2.2.2.1 u.2.2.2.2.2.2.2.2.2.1 u.2.2.2.2.2.2.2.2.2.2.1 u.2.2.2.2.2.2.2.2.2.2.2 gsd cellsO sortO kLine kAt kKind) ⟨hx, hb, hml, hown, hts⟩ hK hZ hS hA (fun sz => c_X6_notes l G E a ln op dp la row seen sty lineO tokO atO baseO kindO partO colO openO strayO stk bys was gsd cellsO sortO kLine kAt kKind (aR ab) (by first | assumption | omega) (by first | assumption | omega) sz) gX6_take_X6_notes rfl rfl rfl (by decide +kernel) ⟨Nat.le_of_ble_eq_true rfl, Nat.le_of_ble_eq_true rfl⟩ hP hD (fun _ => rfl) rfl rfl hl.1 rfl rfl (Nat.le_of_ble_eq_true rfl) dX6_take_11 ⟨Nat.zero_le _, Nat.zero_le _⟩ (fun u11 H locs p11 hP hD hS => ?_)
    obtain ⟨lineO'_11, tokO'_11, atO'_11, baseO'_11, kindO'_11, partO'_11, colO'_11, openO'_11, strayO'_11, stk'_11, bys'_11, was'_11⟩ := u11
    try dsimp only at p11 hP hD
    have hP : va_P G vwCl (rW E a ln (nO (nAll (aR ab) ln)) (nD (nAll (aR ab) ln)) (nL (nAll (aR ab) ln)) row seen sty lineO'_11 tokO'_11 atO'_11 baseO'_11 kindO'_11 partO'_11 colO'_11 openO'_11 strayO'_11 stk'_11 bys'_11 was'_11 gsd cellsO sortO kLine kAt kKind) H := hP
    have hD : va_D A (rW E a ln (nO (nAll (aR ab) ln)) (nD (nAll (aR ab) ln)) (nL (nAll (aR ab) ln)) row seen sty lineO'_11 tokO'_11 atO'_11 baseO'_11 kindO'_11 partO'_11 colO'_11 openO'_11 strayO'_11 stk'_11 bys'_11 was'_11 gsd cellsO sortO kLine kAt kKind) := hD
    refine lv_aload_n hx hb dX6_take_14 rfl (lv_at hl 0 rfl) ?_
    refine lv_dup hx hb dX6_take_15 rfl ?_
    refine va_get (D := G) (ci := 6) (v := .int (nI ln)) (C := RX6) (T := TX6) (N := 25) hx hb hts hin6 hown hK hP 0 rfl rfl 0 (by decide) (hts (Cond.fieldLink RX6 73 "IndentRulesModel" "lines" "I") (List.mem_of_getElem? (i := 1) rfl)) (fun _ h9 => h9) rfl dX6_take_16 ?_
    refine lv_iconst (v := (nI 1)) hx hb dX6_take_19 (by decide) ?_
    refine k_isub (a := ln) (b := 1) hx hb (by omega) dX6_take_20 ?_
    refine va_put (D := G) (ci := 6) (v := .int (nI (ln - 1))) (ty := .int) (C := RX6) (T := TX6) (N := 25) hx hb hts hin6 tyX6 tyX6_ok nmX6 hown hK hP hD hS 0 rfl rfl 0 (by decide) (hts (Cond.fieldLink RX6 73 "IndentRulesModel" "lines" "I") (List.mem_of_getElem? (i := 1) rfl)) (fun _ h9 => h9) rfl (by decide +kernel) rfl rfl (Nat.le_of_ble_eq_true rfl) dX6_take_21 (fun H locs hP hD hS => ?_)
    have hP : va_P G vwCl (rW E a (ln - 1) (nO (nAll (aR ab) ln)) (nD (nAll (aR ab) ln)) (nL (nAll (aR ab) ln)) row seen sty lineO'_11 tokO'_11 atO'_11 baseO'_11 kindO'_11 partO'_11 colO'_11 openO'_11 strayO'_11 stk'_11 bys'_11 was'_11 gsd cellsO sortO kLine kAt kKind) H := hP
    have hD : va_D A (rW E a (ln - 1) (nO (nAll (aR ab) ln)) (nD (nAll (aR ab) ln)) (nL (nAll (aR ab) ln)) row seen sty lineO'_11 tokO'_11 atO'_11 baseO'_11 kindO'_11 partO'_11 colO'_11 openO'_11 strayO'_11 stk'_11 bys'_11 was'_11 gsd cellsO sortO kLine kAt kKind) := hD
    refine lv_iload_n hx hb dX6_take_24 rfl (lv_at hl 1 rfl) ?_
    refine lv_istore_n (lv' := [(2, .int (nI j)), (0, .ref (a 0)), (1, .int (nI j))]) hx hb dX6_take_25 rfl hl (by decide) rfl (fun ls hl => ?_)
    have lp26 : ∀ (kk : Nat) (i : Nat) (rowX : Nat → Int32) (seenX : Nat → Int32) (wasX : Nat → Int32) (H : Heap) (locs : List Loc), (j ≤ i ∧ i ≤ ln - 1) → (rowX = slF row j i) → (seenX = slF seen j i) → (wasX = slF was'_11 j i) → ln - i < kk → va_P G vwCl (rW E a (ln - 1) (nO (nAll (aR ab) ln)) (nD (nAll (aR ab) ln)) (nL (nAll (aR ab) ln)) rowX seenX sty lineO'_11 tokO'_11 atO'_11 baseO'_11 kindO'_11 partO'_11 colO'_11 openO'_11 strayO'_11 stk'_11 bys'_11 wasX gsd cellsO sortO kLine kAt kKind) H → va_D A (rW E a (ln - 1) (nO (nAll (aR ab) ln)) (nD (nAll (aR ab) ln)) (nL (nAll (aR ab) ln)) rowX seenX sty lineO'_11 tokO'_11 atO'_11 baseO'_11 kindO'_11 partO'_11 colO'_11 openO'_11 strayO'_11 stk'_11 bys'_11 wasX gsd cellsO sortO kLine kAt kKind) → va_S A s.heap H locs → ∀ ls : Array Slot, lv_has ls 3 [(2, .int (nI i)), (0, .ref (a 0)), (1, .int (nI j))] → W p l e (headSpec wsX6_take ({ frames := 7, cells := 0, slots := 0, locals := 163 } : Room)).room s m ([.ref (a 0), .int (nI j)] : List Value).toArray below meth c H locs 0 0 (MQ below (va_Qi (fun (r : Int32) (u : (Nat) × (Nat) × (Nat) × (Nat → Int32) × (Nat → Int32) × (Nat → Int32) × (Nat → Int32) × (Nat → Int32) × (Nat → Int32) × (Nat → Int32) × (Nat → Int32) × (Nat → Int32) × (Nat → Int32) × (Nat → Int32) × (Nat → Int32) × (Nat → Int32) × (Nat) × (Nat → Int32) × (Nat → Int32)) => r = (fTake ab (nI j)).1 ∧ RefOk ((fTake ab (nI j)).2) u.2.2.2.2.2.2.2.2.2.2.2.2.2.2.2.2.1 u.2.2.2.2.2.2.2.2.2.2.2.2.2.2.2.2.2.1 u.2.2.2.2.2.2.2.2.2.2.2.2.2.2.2.2.2.2 sty cellsO sortO kLine kAt kKind) (fun (u : (Nat) × (Nat) × (Nat) × (Nat → Int32) × (Nat → Int32) × (Nat → Int32) × (Nat → Int32) × (Nat → Int32) × (Nat → Int32) × (Nat → Int32) × (Nat → Int32) × (Nat → Int32) × (Nat → Int32) × (Nat → Int32) × (Nat → Int32) × (Nat → Int32) × (Nat) × (Nat → Int32) × (Nat → Int32)) tQ => va_P G vwCl (rW E a u.2.2.2.2.2.2.2.2.2.2.2.2.2.2.2.2.1 u.1 u.2.1 u.2.2.1 u.2.2.2.2.2.2.2.2.2.2.2.2.2.2.2.2.2.1 u.2.2.2.2.2.2.2.2.2.2.2.2.2.2.2.2.2.2 sty u.2.2.2.1 u.2.2.2.2.1 u.2.2.2.2.2.1 u.2.2.2.2.2.2.1 u.2.2.2.2.2.2.2.1 u.2.2.2.2.2.2.2.2.1 u.2.2.2.2.2.2.2.2.2.1 u.2.2.2.2.2.2.2.2.2.2.1 u.2.2.2.2.2.2.2.2.2.2.2.1 u.2.2.2.2.2.2.2.2.2.2.2.2.1 u.2.2.2.2.2.2.2.2.2.2.2.2.2.1 u.2.2.2.2.2.2.2.2.2.2.2.2.2.2.1 u.2.2.2.2.2.2.2.2.2.2.2.2.2.2.2.1 cellsO sortO kLine kAt kKind) tQ.heap) A) ([.ref (a 0), .int (nI j)] : List Value).toArray s 0 0 A) (F0 m 26 ls []) := by
      intro kk
      induction kk with
      | zero => intro i rowX seenX wasX H locs hi hr2 hs2 hw2 hkk; exact absurd hkk (Nat.not_lt_zero _)
      | succ kk ih26 =>
        intro i rowX seenX wasX H locs hi hr2 hs2 hw2 hkk hP hD hS ls hl
        refine lv_iload_n hx hb dX6_take_26 rfl (lv_at hl 0 rfl) ?_
        refine lv_aload_n hx hb dX6_take_27 rfl (lv_at hl 1 rfl) ?_
        refine va_get (D := G) (ci := 6) (v := .int (nI (ln - 1))) (C := RX6) (T := TX6) (N := 25) hx hb hts hin6 hown hK hP 0 rfl rfl 0 (by decide) (hts (Cond.fieldLink RX6 73 "IndentRulesModel" "lines" "I") (List.mem_of_getElem? (i := 1) rfl)) (fun _ h9 => h9) rfl dX6_take_28 ?_
        refine n_icmp_ge (a := i) (b := (ln - 1)) (tgt := 82) hx hb (by omega) (by omega) dX6_take_31 (by decide) (fun c31 => ?_) (fun c31 => ?_)
        · have hij : i = ln - 1 := by omega
          rw [hij] at hr2 hs2 hw2
          have hrn2 : rowsOk (ln - 1) rowX (delF (aR ab) j) := by rw [hr2]; exact rowsOk_del hrn
          have hsn2 : ∀ k, k < ln - 1 → seenX k = delF (aS ab) j k := by rw [hs2]; exact eq_del hsn
          have hwas : ∀ k, k < ln - 1 → wasX k = delF (aCol ab) j k := by rw [hw2]; exact eq_del (fun k hk => by rw [p11.2 k hk, cols_congr hsg, hN])
          refine lv_aload_n hx hb dX6_take_82 rfl (lv_at hl 1 rfl) ?_
          refine lv_bipush (v := (-9)) hx hb dX6_take_83 (by decide) ?_
          refine wf_i (n := 1) (G := G) (E := E) (As := [.int (-9)]) (rest := []) (ci := 6) (q0 := 0) (wn := fun (u : (Nat → Int32) × (Nat → Int32) × (Nat → Int32) × (Nat → Int32) × (Nat → Int32) × (Nat → Int32) × (Nat → Int32) × (Nat → Int32) × (Nat → Int32) × (Nat → Int32) × (Nat → Int32)) => rW E a (ln - 1) (nO (nAll (delF (aR ab) j) (ln - 1))) (nD (nAll (delF (aR ab) j) (ln - 1))) (nL (nAll (delF (aR ab) j) (ln - 1))) rowX seenX sty u.1 u.2.1 u.2.2.1 u.2.2.2.1 u.2.2.2.2.1 u.2.2.2.2.2.1 u.2.2.2.2.2.2.1 u.2.2.2.2.2.2.2.1 u.2.2.2.2.2.2.2.2.1 u.2.2.2.2.2.2.2.2.2.1 u.2.2.2.2.2.2.2.2.2.2 wasX gsd cellsO sortO kLine kAt kKind) ⟨hx, hb, hml, hown, hts⟩ hK hZ hS hA (fun sz => c_X6_moved l G E a (ln - 1) (nO (nAll (aR ab) ln)) (nD (nAll (aR ab) ln)) (nL (nAll (aR ab) ln)) rowX seenX sty lineO'_11 tokO'_11 atO'_11 baseO'_11 kindO'_11 partO'_11 colO'_11 openO'_11 strayO'_11 stk'_11 bys'_11 wasX gsd cellsO sortO kLine kAt kKind (-9) (delF (aR ab) j) (by omega) hrn2 sz) gX6_take_X6_moved rfl rfl rfl (by decide +kernel) ⟨Nat.le_of_ble_eq_true rfl, Nat.le_of_ble_eq_true rfl⟩ hP hD (fun _ => rfl) rfl rfl hl.1 rfl rfl (Nat.le_of_ble_eq_true rfl) dX6_take_85 ⟨Nat.zero_le _, Nat.zero_le _⟩ (fun r85 u85 H locs p85 hP hD hS => ?_)
          obtain ⟨lineO'_85, tokO'_85, atO'_85, baseO'_85, kindO'_85, partO'_85, colO'_85, openO'_85, strayO'_85, stk'_85, bys'_85⟩ := u85
          try dsimp only at p85 hP hD
          have hP : va_P G vwCl (rW E a (ln - 1) (nO (nAll (delF (aR ab) j) (ln - 1))) (nD (nAll (delF (aR ab) j) (ln - 1))) (nL (nAll (delF (aR ab) j) (ln - 1))) rowX seenX sty lineO'_85 tokO'_85 atO'_85 baseO'_85 kindO'_85 partO'_85 colO'_85 openO'_85 strayO'_85 stk'_85 bys'_85 wasX gsd cellsO sortO kLine kAt kKind) H := hP
          have hD : va_D A (rW E a (ln - 1) (nO (nAll (delF (aR ab) j) (ln - 1))) (nD (nAll (delF (aR ab) j) (ln - 1))) (nL (nAll (delF (aR ab) j) (ln - 1))) rowX seenX sty lineO'_85 tokO'_85 atO'_85 baseO'_85 kindO'_85 partO'_85 colO'_85 openO'_85 strayO'_85 stk'_85 bys'_85 wasX gsd cellsO sortO kLine kAt kKind) := hD
          exact W.iret (v := r85) hx hb hr (fun tZ htZ hWZ => ⟨⟨_, (nO (nAll (delF (aR ab) j) (ln - 1)), nD (nAll (delF (aR ab) j) (ln - 1)), nL (nAll (delF (aR ab) j) (ln - 1)), lineO'_85, tokO'_85, atO'_85, baseO'_85, kindO'_85, partO'_85, colO'_85, openO'_85, strayO'_85, stk'_85, bys'_85, wasX, gsd, (ln - 1), rowX, seenX), rfl, by rw [fTake_ok (A := ab) (by omega) (by omega)]; exact ⟨by rw [p85.2, hN, cols_congr hsg, mvc_congr (fun k hk hkj => ⟨rfl, hwas k (by omega)⟩)], by rw [hN], okA_lines hok (by omega) (delF_all (P := fun z => z < 1000000000 ∧ nzb z = true) hok.2.1), hrn2, hsn2, hsg, hpk⟩, by show va_P G vwCl _ tZ.heap; rw [htZ]; exact hP⟩, hS.F htZ⟩) hS.2.2 dX6_take_88
        · refine lv_aload_n hx hb dX6_take_34 rfl (lv_at hl 1 rfl) ?_
          refine va_get (D := G) (ci := 6) (v := .ref (a 1)) (C := RX6) (T := TX6) (N := 25) hx hb hts hin6 hown hK hP 0 rfl rfl 1 (by decide) (hts (Cond.fieldLink RX6 7 "IndentRulesModel" "row" "[I") (List.mem_of_getElem? (i := 2) rfl)) (fun _ h9 => h9) rfl dX6_take_35 ?_
          refine lv_iload_n hx hb dX6_take_38 rfl (lv_at hl 0 rfl) ?_
          refine lv_aload_n hx hb dX6_take_39 rfl (lv_at hl 1 rfl) ?_
          refine va_get (D := G) (ci := 6) (v := .ref (a 1)) (C := RX6) (T := TX6) (N := 25) hx hb hts hin6 hown hK hP 0 rfl rfl 1 (by decide) (hts (Cond.fieldLink RX6 7 "IndentRulesModel" "row" "[I") (List.mem_of_getElem? (i := 2) rfl)) (fun _ h9 => h9) rfl dX6_take_40 ?_
          refine lv_iload_n hx hb dX6_take_43 rfl (lv_at hl 0 rfl) ?_
          refine lv_iconst (v := (nI 1)) hx hb dX6_take_44 (by decide) ?_
          refine k_iadd (a := i) (b := 1) hx hb dX6_take_45 ?_
          refine k_iald (D := G) (tys := TYS E) (j := (i + 1)) (f := rowX) (n := 20) hx hb hK hP 1 0 rfl rfl (by omega) (by decide) dX6_take_46 ?_
          refine k_iast (D := G) (tys := TYS E) (j := i) (x := (rowX (i + 1))) (f := rowX) (n := 20) hx hb hK hP hD hS 1 0 rfl rfl (by omega) (by decide) dX6_take_47 (fun H locs hP hD hS => ?_)
          have hP : va_P G vwCl (rW E a (ln - 1) (nO (nAll (aR ab) ln)) (nD (nAll (aR ab) ln)) (nL (nAll (aR ab) ln)) (upd rowX i (rowX (i + 1))) seenX sty lineO'_11 tokO'_11 atO'_11 baseO'_11 kindO'_11 partO'_11 colO'_11 openO'_11 strayO'_11 stk'_11 bys'_11 wasX gsd cellsO sortO kLine kAt kKind) H := hP
          have hD : va_D A (rW E a (ln - 1) (nO (nAll (aR ab) ln)) (nD (nAll (aR ab) ln)) (nL (nAll (aR ab) ln)) (upd rowX i (rowX (i + 1))) seenX sty lineO'_11 tokO'_11 atO'_11 baseO'_11 kindO'_11 partO'_11 colO'_11 openO'_11 strayO'_11 stk'_11 bys'_11 wasX gsd cellsO sortO kLine kAt kKind) := hD
          obtain ⟨f47, ef47⟩ : ∃ z : Nat → Int32, z = upd rowX i (rowX (i + 1)) := ⟨_, rfl⟩
          rw [← ef47] at hP hD
          refine lv_aload_n hx hb dX6_take_48 rfl (lv_at hl 1 rfl) ?_
          refine va_get (D := G) (ci := 6) (v := .ref (a 2)) (C := RX6) (T := TX6) (N := 25) hx hb hts hin6 hown hK hP 0 rfl rfl 2 (by decide) (hts (Cond.fieldLink RX6 13 "IndentRulesModel" "seen" "[I") (List.mem_of_getElem? (i := 3) rfl)) (fun _ h9 => h9) rfl dX6_take_49 ?_
          refine lv_iload_n hx hb dX6_take_52 rfl (lv_at hl 0 rfl) ?_
          refine lv_aload_n hx hb dX6_take_53 rfl (lv_at hl 1 rfl) ?_
          refine va_get (D := G) (ci := 6) (v := .ref (a 2)) (C := RX6) (T := TX6) (N := 25) hx hb hts hin6 hown hK hP 0 rfl rfl 2 (by decide) (hts (Cond.fieldLink RX6 13 "IndentRulesModel" "seen" "[I") (List.mem_of_getElem? (i := 3) rfl)) (fun _ h9 => h9) rfl dX6_take_54 ?_
          refine lv_iload_n hx hb dX6_take_57 rfl (lv_at hl 0 rfl) ?_
          refine lv_iconst (v := (nI 1)) hx hb dX6_take_58 (by decide) ?_
          refine k_iadd (a := i) (b := 1) hx hb dX6_take_59 ?_
          refine k_iald (D := G) (tys := TYS E) (j := (i + 1)) (f := seenX) (n := 20) hx hb hK hP 2 0 rfl rfl (by omega) (by decide) dX6_take_60 ?_
          refine k_iast (D := G) (tys := TYS E) (j := i) (x := (seenX (i + 1))) (f := seenX) (n := 20) hx hb hK hP hD hS 2 0 rfl rfl (by omega) (by decide) dX6_take_61 (fun H locs hP hD hS => ?_)
          have hP : va_P G vwCl (rW E a (ln - 1) (nO (nAll (aR ab) ln)) (nD (nAll (aR ab) ln)) (nL (nAll (aR ab) ln)) f47 (upd seenX i (seenX (i + 1))) sty lineO'_11 tokO'_11 atO'_11 baseO'_11 kindO'_11 partO'_11 colO'_11 openO'_11 strayO'_11 stk'_11 bys'_11 wasX gsd cellsO sortO kLine kAt kKind) H := hP
          have hD : va_D A (rW E a (ln - 1) (nO (nAll (aR ab) ln)) (nD (nAll (aR ab) ln)) (nL (nAll (aR ab) ln)) f47 (upd seenX i (seenX (i + 1))) sty lineO'_11 tokO'_11 atO'_11 baseO'_11 kindO'_11 partO'_11 colO'_11 openO'_11 strayO'_11 stk'_11 bys'_11 wasX gsd cellsO sortO kLine kAt kKind) := hD
          obtain ⟨f61, ef61⟩ : ∃ z : Nat → Int32, z = upd seenX i (seenX (i + 1)) := ⟨_, rfl⟩
          rw [← ef61] at hP hD
          refine lv_aload_n hx hb dX6_take_62 rfl (lv_at hl 1 rfl) ?_
          refine va_get (D := G) (ci := 6) (v := .ref (a 18)) (C := RX6) (T := TX6) (N := 25) hx hb hts hin6 hown hK hP 0 rfl rfl 18 (by decide) (hts (Cond.fieldLink RX6 52 "IndentRulesModel" "columnWas" "[I") (List.mem_of_getElem? (i := 4) rfl)) (fun _ h9 => h9) rfl dX6_take_63 ?_
          refine lv_iload_n hx hb dX6_take_66 rfl (lv_at hl 0 rfl) ?_
          refine lv_aload_n hx hb dX6_take_67 rfl (lv_at hl 1 rfl) ?_
          refine va_get (D := G) (ci := 6) (v := .ref (a 18)) (C := RX6) (T := TX6) (N := 25) hx hb hts hin6 hown hK hP 0 rfl rfl 18 (by decide) (hts (Cond.fieldLink RX6 52 "IndentRulesModel" "columnWas" "[I") (List.mem_of_getElem? (i := 4) rfl)) (fun _ h9 => h9) rfl dX6_take_68 ?_
          refine lv_iload_n hx hb dX6_take_71 rfl (lv_at hl 0 rfl) ?_
          refine lv_iconst (v := (nI 1)) hx hb dX6_take_72 (by decide) ?_
          refine k_iadd (a := i) (b := 1) hx hb dX6_take_73 ?_
          refine k_iald (D := G) (tys := TYS E) (j := (i + 1)) (f := wasX) (n := 20) hx hb hK hP 15 0 rfl rfl (by omega) (by decide) dX6_take_74 ?_
          refine k_iast (D := G) (tys := TYS E) (j := i) (x := (wasX (i + 1))) (f := wasX) (n := 20) hx hb hK hP hD hS 15 0 rfl rfl (by omega) (by decide) dX6_take_75 (fun H locs hP hD hS => ?_)
          have hP : va_P G vwCl (rW E a (ln - 1) (nO (nAll (aR ab) ln)) (nD (nAll (aR ab) ln)) (nL (nAll (aR ab) ln)) f47 f61 sty lineO'_11 tokO'_11 atO'_11 baseO'_11 kindO'_11 partO'_11 colO'_11 openO'_11 strayO'_11 stk'_11 bys'_11 (upd wasX i (wasX (i + 1))) gsd cellsO sortO kLine kAt kKind) H := hP
          have hD : va_D A (rW E a (ln - 1) (nO (nAll (aR ab) ln)) (nD (nAll (aR ab) ln)) (nL (nAll (aR ab) ln)) f47 f61 sty lineO'_11 tokO'_11 atO'_11 baseO'_11 kindO'_11 partO'_11 colO'_11 openO'_11 strayO'_11 stk'_11 bys'_11 (upd wasX i (wasX (i + 1))) gsd cellsO sortO kLine kAt kKind) := hD
          obtain ⟨f75, ef75⟩ : ∃ z : Nat → Int32, z = upd wasX i (wasX (i + 1)) := ⟨_, rfl⟩
          rw [← ef75] at hP hD
          refine lv_iinc (v := (nI (i + 1))) (lv' := [(2, .int (nI (i + 1))), (0, .ref (a 0)), (1, .int (nI j))]) hx hb dX6_take_76 hl (k := 0) rfl (k_inc i) (by decide) rfl (fun ls hl => ?_)
          refine lv_goto (tgt := 26) hx hb dX6_take_79 (by decide) ?_
          exact ih26 (i + 1) f47 f61 f75 _ _ ⟨by omega, by omega⟩ (by rw [ef47, hr2]; exact slF_step row (by omega)) (by rw [ef61, hs2]; exact slF_step seen (by omega)) (by rw [ef75, hw2]; exact slF_step was'_11 (by omega)) (by omega) hP hD hS ls (lv_sub hl [0, 1, 2] rfl)
    exact lp26 (ln - j + 1) j row seen was'_11 _ _ ⟨Nat.le_refl _, by omega⟩ (slF_0 row j).symm (slF_0 seen j).symm (slF_0 was'_11 j).symm (Nat.lt_succ_self _) hP hD hS ls (lv_sub hl [0, 1, 2] rfl)
  · have hx1 : ¬ ixP x (aN ab) := fun q => h2 (by rw [hN]; exact (ixP_iff (by omega)).mp q)
    refine n_if_ne (a := 0) (tgt := 10) hx hb (by decide) dX6_take_5 (by decide) (fun c5 => absurd c5 (by decide)) (fun c5 => ?_)
    refine lv_iconst (v := (-1)) hx hb dX6_take_8 (by decide) ?_
    exact W.iret (v := (-1)) hx hb hr (fun tZ htZ hWZ => ⟨⟨_, (op, dp, la, lineO, tokO, atO, baseO, kindO, partO, colO, openO, strayO, stk, bys, was, gsd, ln, row, seen), rfl, by rw [fTake_1 hx1]; exact ⟨rfl, hab⟩, by show va_P G vwCl _ tZ.heap; rw [htZ]; exact hP⟩, hS.F htZ⟩) hS.2.2 dX6_take_9

set_option maxHeartbeats 4000000 in
set_option maxRecDepth 100000 in
theorem c_X6_style (l : Launch) (G : va_G) (E : cEnv) (a : Nat → Nat) (ln op dp la : Nat) (row seen sty lineO tokO atO baseO kindO partO colO openO strayO stk bys was gsd cellsO sortO kLine kAt kKind : Nat → Int32) (x y : Int32) (ab : ABS) (hab : RefOk ab ln row seen sty cellsO sortO kLine kAt kKind) (sz : Nat) : Met l yX6_style wsX6_style ({ frames := 2, cells := 0, slots := 0, locals := 43 }) (va_Pc [.ref (a 0), .int x, .int y] (PW G E (rW E a ln op dp la row seen sty lineO tokO atO baseO kindO partO colO openO strayO stk bys was gsd cellsO sortO kLine kAt kKind) sz)) (va_Qi (fun (r : Int32) (sty' : Nat → Int32) => r = (fStyle ab x y).1 ∧ RefOk ((fStyle ab x y).2) ln row seen sty' cellsO sortO kLine kAt kKind) (fun (sty' : Nat → Int32) tQ => va_P G vwCl (rW E a ln op dp la row seen sty' lineO tokO atO baseO kindO partO colO openO strayO stk bys was gsd cellsO sortO kLine kAt kKind) tQ.heap) (va_A (rW E a ln op dp la row seen sty lineO tokO atO baseO kindO partO colO openO strayO stk bys was gsd cellsO sortO kLine kAt kKind) sz)) 0 0 (va_A (rW E a ln op dp la row seen sty lineO tokO atO baseO kindO partO colO openO strayO stk bys was gsd cellsO sortO kLine kAt kKind) sz) := by
  refine Met.ofW (cc := cX6_style) (maxL := 4) (ret := (some .int)) (by decide) rfl ?_
  intro p e s m args below meth c s₁ B hml hv
  obtain ⟨rfl, hsz, hP, hK, hD0, hZ⟩ := hv
  have hx := B.exec
  have hb := B.bytes
  have hr := B.returns
  have hts := atoms_spec (ws := wsX6_style) B.pre
  have hown : s.vm.findClass RX6 = some m.cls := findClass_of_methodNamed B.named
  have hlocks := B.notSynchronized
  have hin6 : ∀ w ∈ u_ws RX6 TX6 25, w ∈ wsX6_style := mem_pl [9, 10, 11, 12, 13, 14, 15, 16, 17, 18, 19, 20, 21, 22, 23, 24, 25, 26, 27, 28, 29, 30, 31, 32, 33] (by rfl)
  subst hsz
  have hD := hD0.self (sz := s.heap.size)
  generalize hAe : va_A (rW E a ln op dp la row seen sty lineO tokO atO baseO kindO partO colO openO strayO stk bys was gsd cellsO sortO kLine kAt kKind) s.heap.size = A at hD hZ ⊢
  have hA : ∀ q : Nat, s.heap.size ≤ q → A q := fun q h => by rw [← hAe]; exact Or.inr h
  have hS : va_S A s.heap s.heap [] := va_S.rf
  have hl := lv_entry ([.ref (a 0), .int x, .int y]) (n := 4) (Nat.le_of_ble_eq_true rfl)
  rw [lg_entry_eq]
  generalize (lg_sl ([.ref (a 0), .int x, .int y]) ++ List.replicate (4 - (lg_sl ([.ref (a 0), .int x, .int y])).length) Slot.unset).toArray = ls at hl ⊢
  have hl : lv_has ls 4 [(0, .ref (a 0)), (1, .int x), (2, .int y)] := hl
  obtain ⟨hN, hok, hrn, hsn, hsg, hpk⟩ := id hab
  have hln : ln ≤ 20 := by rw [hN]; exact hok.1
  refine lv_iload_n hx hb dX6_style_0 rfl (lv_at hl 1 rfl) ?_
  refine lv_iconst (v := (nI 0)) hx hb dX6_style_1 (by decide) ?_
  refine lv_iconst (v := (nI 3)) hx hb dX6_style_2 (by decide) ?_
  refine rs_i (n := 3) (G := G) (E := E) (As := [.int x, .int (nI 0), .int (nI 3)]) (rest := []) ⟨hx, hb, hml, hown, hts⟩ hK hZ hS (c_X6_within l G E x (nI 0) (nI 3)) gX6_style_X6_within rfl rfl rfl (by decide +kernel) ⟨Nat.le_of_ble_eq_true rfl, Nat.le_of_ble_eq_true rfl⟩ (fun k q h => by simp at h) hl.1 rfl rfl (Nat.le_of_ble_eq_true rfl) dX6_style_3 ⟨Nat.zero_le _, Nat.zero_le _⟩ (fun r3 p3 => ?_)
  rcases p3 with ⟨h3, rfl⟩ | ⟨h3, rfl⟩
  · obtain ⟨j, _, hj, rfl⟩ := (w_rg (by decide) (by decide)).mp h3
    refine n_if_ne (a := 1) (tgt := 11) hx hb (by decide) dX6_style_6 (by decide) (fun c6 => ?_) (fun c6 => absurd c6 (by decide))
    refine lv_iload_n hx hb dX6_style_11 rfl (lv_at hl 1 rfl) ?_
    refine lv_iload_n hx hb dX6_style_12 rfl (lv_at hl 2 rfl) ?_
    refine rs_i (n := 2) (G := G) (E := E) (As := [.int (nI j), .int y]) (rest := []) ⟨hx, hb, hml, hown, hts⟩ hK hZ hS (c_X6_maySet l G E j y (by first | assumption | omega)) gX6_style_X6_maySet rfl rfl rfl (by decide +kernel) ⟨Nat.le_of_ble_eq_true rfl, Nat.le_of_ble_eq_true rfl⟩ (fun k q h => by simp at h) hl.1 rfl rfl (Nat.le_of_ble_eq_true rfl) dX6_style_13 ⟨Nat.zero_le _, Nat.zero_le _⟩ (fun r13 p13 => ?_)
    rcases p13 with ⟨h13, rfl⟩ | ⟨h13, rfl⟩
    · refine n_if_ne (a := 1) (tgt := 22) hx hb (by decide) dX6_style_16 (by decide) (fun c16 => ?_) (fun c16 => absurd c16 (by decide))
      refine lv_aload_n hx hb dX6_style_22 rfl (lv_at hl 0 rfl) ?_
      refine va_get (D := G) (ci := 6) (v := .ref (a 3)) (C := RX6) (T := TX6) (N := 25) hx hb hts hin6 hown hK hP 0 rfl rfl 3 (by decide) (hts (Cond.fieldLink RX6 16 "IndentRulesModel" "style" "[I") (List.mem_of_getElem? (i := 1) rfl)) (fun _ h9 => h9) rfl dX6_style_23 ?_
      refine lv_iload_n hx hb dX6_style_26 rfl (lv_at hl 1 rfl) ?_
      refine k_iald (D := G) (tys := TYS E) (j := j) (f := sty) (n := 4) hx hb hK hP 3 0 rfl rfl (by omega) (by decide) dX6_style_27 ?_
      refine lv_istore_n (lv' := [(3, .int (sty j)), (0, .ref (a 0)), (1, .int (nI j)), (2, .int y)]) hx hb dX6_style_28 rfl hl (by decide) rfl (fun ls hl => ?_)
      refine lv_aload_n hx hb dX6_style_29 rfl (lv_at hl 1 rfl) ?_
      refine va_get (D := G) (ci := 6) (v := .ref (a 3)) (C := RX6) (T := TX6) (N := 25) hx hb hts hin6 hown hK hP 0 rfl rfl 3 (by decide) (hts (Cond.fieldLink RX6 16 "IndentRulesModel" "style" "[I") (List.mem_of_getElem? (i := 1) rfl)) (fun _ h9 => h9) rfl dX6_style_30 ?_
      refine lv_iload_n hx hb dX6_style_33 rfl (lv_at hl 2 rfl) ?_
      refine lv_iload_n hx hb dX6_style_34 rfl (lv_at hl 3 rfl) ?_
      refine k_iast (D := G) (tys := TYS E) (j := j) (x := y) (f := sty) (n := 4) hx hb hK hP hD hS 3 0 rfl rfl (by omega) (by decide) dX6_style_35 (fun H locs hP hD hS => ?_)
      have hP : va_P G vwCl (rW E a ln op dp la row seen (upd sty j y) lineO tokO atO baseO kindO partO colO openO strayO stk bys was gsd cellsO sortO kLine kAt kKind) H := hP
      have hD : va_D A (rW E a ln op dp la row seen (upd sty j y) lineO tokO atO baseO kindO partO colO openO strayO stk bys was gsd cellsO sortO kLine kAt kKind) := hD
      obtain ⟨f35, ef35⟩ : ∃ z : Nat → Int32, z = upd sty j y := ⟨_, rfl⟩
      rw [← ef35] at hP hD
      refine lv_iload_n hx hb dX6_style_36 rfl (lv_at hl 0 rfl) ?_
      exact W.iret (v := (sty j)) hx hb hr (fun tZ htZ hWZ => ⟨⟨_, f35, rfl, by rw [fStyle_ok (A := ab) (by omega) h13]; exact ⟨hsg j (by omega), hN, okA_style hok, hrn, hsn, by rw [ef35]; exact eq_upd hsg, hpk⟩, by show va_P G vwCl _ tZ.heap; rw [htZ]; exact hP⟩, hS.F htZ⟩) hS.2.2 dX6_style_37
    · refine n_if_ne (a := 0) (tgt := 22) hx hb (by decide) dX6_style_16 (by decide) (fun c16 => absurd c16 (by decide)) (fun c16 => ?_)
      refine lv_bipush (v := (-2)) hx hb dX6_style_19 (by decide) ?_
      exact W.iret (v := (-2)) hx hb hr (fun tZ htZ hWZ => ⟨⟨_, sty, rfl, by rw [fStyle_2 (by omega) h13]; exact ⟨rfl, hab⟩, by show va_P G vwCl _ tZ.heap; rw [htZ]; exact hP⟩, hS.F htZ⟩) hS.2.2 dX6_style_21
  · have hx1 : ¬ ixP x 4 := fun q => by obtain ⟨z, hz1, hz2⟩ := (ixP_iff (by decide)).mp q; exact h3 ((w_rg (by decide) (by decide)).mpr ⟨z, Nat.zero_le _, by omega, hz2⟩)
    refine n_if_ne (a := 0) (tgt := 11) hx hb (by decide) dX6_style_6 (by decide) (fun c6 => absurd c6 (by decide)) (fun c6 => ?_)
    refine lv_iconst (v := (-1)) hx hb dX6_style_9 (by decide) ?_
    exact W.iret (v := (-1)) hx hb hr (fun tZ htZ hWZ => ⟨⟨_, sty, rfl, by rw [fStyle_1 hx1]; exact ⟨rfl, hab⟩, by show va_P G vwCl _ tZ.heap; rw [htZ]; exact hP⟩, hS.F htZ⟩) hS.2.2 dX6_style_10

set_option maxHeartbeats 4000000 in
set_option maxRecDepth 100000 in
theorem c_X6_see (l : Launch) (G : va_G) (E : cEnv) (a : Nat → Nat) (ln op dp la : Nat) (row seen sty lineO tokO atO baseO kindO partO colO openO strayO stk bys was gsd cellsO sortO kLine kAt kKind : Nat → Int32) (x y : Int32) (ab : ABS) (hab : RefOk ab ln row seen sty cellsO sortO kLine kAt kKind) (sz : Nat) : Met l yX6_see wsX6_see ({ frames := 2, cells := 0, slots := 0, locals := 43 }) (va_Pc [.ref (a 0), .int x, .int y] (PW G E (rW E a ln op dp la row seen sty lineO tokO atO baseO kindO partO colO openO strayO stk bys was gsd cellsO sortO kLine kAt kKind) sz)) (va_Qi (fun (r : Int32) (seen' : Nat → Int32) => r = (fSee ab x y).1 ∧ RefOk ((fSee ab x y).2) ln row seen' sty cellsO sortO kLine kAt kKind) (fun (seen' : Nat → Int32) tQ => va_P G vwCl (rW E a ln op dp la row seen' sty lineO tokO atO baseO kindO partO colO openO strayO stk bys was gsd cellsO sortO kLine kAt kKind) tQ.heap) (va_A (rW E a ln op dp la row seen sty lineO tokO atO baseO kindO partO colO openO strayO stk bys was gsd cellsO sortO kLine kAt kKind) sz)) 0 0 (va_A (rW E a ln op dp la row seen sty lineO tokO atO baseO kindO partO colO openO strayO stk bys was gsd cellsO sortO kLine kAt kKind) sz) := by
  refine Met.ofW (cc := cX6_see) (maxL := 4) (ret := (some .int)) (by decide) rfl ?_
  intro p e s m args below meth c s₁ B hml hv
  obtain ⟨rfl, hsz, hP, hK, hD0, hZ⟩ := hv
  have hx := B.exec
  have hb := B.bytes
  have hr := B.returns
  have hts := atoms_spec (ws := wsX6_see) B.pre
  have hown : s.vm.findClass RX6 = some m.cls := findClass_of_methodNamed B.named
  have hlocks := B.notSynchronized
  have hin6 : ∀ w ∈ u_ws RX6 TX6 25, w ∈ wsX6_see := mem_pl [11, 12, 13, 14, 15, 16, 17, 18, 19, 20, 21, 22, 23, 24, 25, 26, 27, 28, 29, 30, 31, 32, 33, 34, 35] (by rfl)
  subst hsz
  have hD := hD0.self (sz := s.heap.size)
  generalize hAe : va_A (rW E a ln op dp la row seen sty lineO tokO atO baseO kindO partO colO openO strayO stk bys was gsd cellsO sortO kLine kAt kKind) s.heap.size = A at hD hZ ⊢
  have hA : ∀ q : Nat, s.heap.size ≤ q → A q := fun q h => by rw [← hAe]; exact Or.inr h
  have hS : va_S A s.heap s.heap [] := va_S.rf
  have hl := lv_entry ([.ref (a 0), .int x, .int y]) (n := 4) (Nat.le_of_ble_eq_true rfl)
  rw [lg_entry_eq]
  generalize (lg_sl ([.ref (a 0), .int x, .int y]) ++ List.replicate (4 - (lg_sl ([.ref (a 0), .int x, .int y])).length) Slot.unset).toArray = ls at hl ⊢
  have hl : lv_has ls 4 [(0, .ref (a 0)), (1, .int x), (2, .int y)] := hl
  obtain ⟨hN, hok, hrn, hsn, hsg, hpk⟩ := id hab
  have hln : ln ≤ 20 := by rw [hN]; exact hok.1
  refine lv_aload_n hx hb dX6_see_0 rfl (lv_at hl 0 rfl) ?_
  refine lv_iload_n hx hb dX6_see_1 rfl (lv_at hl 1 rfl) ?_
  refine rv_i (n := 1) (G := G) (E := E) (As := [.int x]) (rest := []) (ci := 6) (q0 := 0) ⟨hx, hb, hml, hown, hts⟩ hK hZ hS (c_X6_isLine l G E a ln op dp la row seen sty lineO tokO atO baseO kindO partO colO openO strayO stk bys was gsd cellsO sortO kLine kAt kKind x (by first | assumption | omega)) gX6_see_X6_isLine rfl rfl rfl (by decide +kernel) ⟨Nat.le_of_ble_eq_true rfl, Nat.le_of_ble_eq_true rfl⟩ hP rfl rfl hl.1 rfl rfl (Nat.le_of_ble_eq_true rfl) dX6_see_2 ⟨Nat.zero_le _, Nat.zero_le _⟩ (fun r2 p2 => ?_)
  rcases p2 with ⟨⟨j, hj, rfl⟩, rfl⟩ | ⟨h2, rfl⟩
  · refine n_if_ne (a := 1) (tgt := 10) hx hb (by decide) dX6_see_5 (by decide) (fun c5 => ?_) (fun c5 => absurd c5 (by decide))
    refine lv_iload_n hx hb dX6_see_10 rfl (lv_at hl 2 rfl) ?_
    refine lv_bipush (v := (-9)) hx hb dX6_see_11 (by decide) ?_
    refine lv_icmp_eq (x := y) (y := (-9)) (tgt := 30) hx hb dX6_see_13 (by decide) (fun c13 => ?_) (fun c13 => ?_)
    · refine lv_aload_n hx hb dX6_see_30 rfl (lv_at hl 0 rfl) ?_
      refine va_get (D := G) (ci := 6) (v := .ref (a 2)) (C := RX6) (T := TX6) (N := 25) hx hb hts hin6 hown hK hP 0 rfl rfl 2 (by decide) (hts (Cond.fieldLink RX6 13 "IndentRulesModel" "seen" "[I") (List.mem_of_getElem? (i := 1) rfl)) (fun _ h9 => h9) rfl dX6_see_31 ?_
      refine lv_iload_n hx hb dX6_see_34 rfl (lv_at hl 1 rfl) ?_
      refine k_iald (D := G) (tys := TYS E) (j := j) (f := seen) (n := 20) hx hb hK hP 2 0 rfl rfl (by omega) (by decide) dX6_see_35 ?_
      refine lv_istore_n (lv' := [(3, .int (seen j)), (0, .ref (a 0)), (1, .int (nI j)), (2, .int y)]) hx hb dX6_see_36 rfl hl (by decide) rfl (fun ls hl => ?_)
      refine lv_aload_n hx hb dX6_see_37 rfl (lv_at hl 1 rfl) ?_
      refine va_get (D := G) (ci := 6) (v := .ref (a 2)) (C := RX6) (T := TX6) (N := 25) hx hb hts hin6 hown hK hP 0 rfl rfl 2 (by decide) (hts (Cond.fieldLink RX6 13 "IndentRulesModel" "seen" "[I") (List.mem_of_getElem? (i := 1) rfl)) (fun _ h9 => h9) rfl dX6_see_38 ?_
      refine lv_iload_n hx hb dX6_see_41 rfl (lv_at hl 2 rfl) ?_
      refine lv_iload_n hx hb dX6_see_42 rfl (lv_at hl 3 rfl) ?_
      refine k_iast (D := G) (tys := TYS E) (j := j) (x := y) (f := seen) (n := 20) hx hb hK hP hD hS 2 0 rfl rfl (by omega) (by decide) dX6_see_43 (fun H locs hP hD hS => ?_)
      have hP : va_P G vwCl (rW E a ln op dp la row (upd seen j y) sty lineO tokO atO baseO kindO partO colO openO strayO stk bys was gsd cellsO sortO kLine kAt kKind) H := hP
      have hD : va_D A (rW E a ln op dp la row (upd seen j y) sty lineO tokO atO baseO kindO partO colO openO strayO stk bys was gsd cellsO sortO kLine kAt kKind) := hD
      obtain ⟨f43, ef43⟩ : ∃ z : Nat → Int32, z = upd seen j y := ⟨_, rfl⟩
      rw [← ef43] at hP hD
      refine lv_iload_n hx hb dX6_see_44 rfl (lv_at hl 0 rfl) ?_
      exact W.iret (v := (seen j)) hx hb hr (fun tZ htZ hWZ => ⟨⟨_, f43, rfl, by rw [fSee_ok (A := ab) (by omega) (by omega) (Or.inl c13)]; exact ⟨hsn j (by omega), hN, okA_lines hok (by omega) hok.2.1, hrn, by rw [ef43]; exact eq_upd hsn, hsg, hpk⟩, by show va_P G vwCl _ tZ.heap; rw [htZ]; exact hP⟩, hS.F htZ⟩) hS.2.2 dX6_see_45
    · refine lv_iload_n hx hb dX6_see_16 rfl (lv_at hl 2 rfl) ?_
      refine lv_iconst (v := (nI 0)) hx hb dX6_see_17 (by decide) ?_
      refine lv_sipush (v := (nI 200)) hx hb dX6_see_18 (by decide) ?_
      refine rs_i (n := 3) (G := G) (E := E) (As := [.int y, .int (nI 0), .int (nI 200)]) (rest := []) ⟨hx, hb, hml, hown, hts⟩ hK hZ hS (c_X6_within l G E y (nI 0) (nI 200)) gX6_see_X6_within rfl rfl rfl (by decide +kernel) ⟨Nat.le_of_ble_eq_true rfl, Nat.le_of_ble_eq_true rfl⟩ (fun k q h => by simp at h) hl.1 rfl rfl (Nat.le_of_ble_eq_true rfl) dX6_see_21 ⟨Nat.zero_le _, Nat.zero_le _⟩ (fun r21 p21 => ?_)
      rcases p21 with ⟨h21, rfl⟩ | ⟨h21, rfl⟩
      · refine n_if_ne (a := 1) (tgt := 30) hx hb (by decide) dX6_see_24 (by decide) (fun c24 => ?_) (fun c24 => absurd c24 (by decide))
        refine lv_aload_n hx hb dX6_see_30 rfl (lv_at hl 0 rfl) ?_
        refine va_get (D := G) (ci := 6) (v := .ref (a 2)) (C := RX6) (T := TX6) (N := 25) hx hb hts hin6 hown hK hP 0 rfl rfl 2 (by decide) (hts (Cond.fieldLink RX6 13 "IndentRulesModel" "seen" "[I") (List.mem_of_getElem? (i := 1) rfl)) (fun _ h9 => h9) rfl dX6_see_31 ?_
        refine lv_iload_n hx hb dX6_see_34 rfl (lv_at hl 1 rfl) ?_
        refine k_iald (D := G) (tys := TYS E) (j := j) (f := seen) (n := 20) hx hb hK hP 2 0 rfl rfl (by omega) (by decide) dX6_see_35 ?_
        refine lv_istore_n (lv' := [(3, .int (seen j)), (0, .ref (a 0)), (1, .int (nI j)), (2, .int y)]) hx hb dX6_see_36 rfl hl (by decide) rfl (fun ls hl => ?_)
        refine lv_aload_n hx hb dX6_see_37 rfl (lv_at hl 1 rfl) ?_
        refine va_get (D := G) (ci := 6) (v := .ref (a 2)) (C := RX6) (T := TX6) (N := 25) hx hb hts hin6 hown hK hP 0 rfl rfl 2 (by decide) (hts (Cond.fieldLink RX6 13 "IndentRulesModel" "seen" "[I") (List.mem_of_getElem? (i := 1) rfl)) (fun _ h9 => h9) rfl dX6_see_38 ?_
        refine lv_iload_n hx hb dX6_see_41 rfl (lv_at hl 2 rfl) ?_
        refine lv_iload_n hx hb dX6_see_42 rfl (lv_at hl 3 rfl) ?_
        refine k_iast (D := G) (tys := TYS E) (j := j) (x := y) (f := seen) (n := 20) hx hb hK hP hD hS 2 0 rfl rfl (by omega) (by decide) dX6_see_43 (fun H locs hP hD hS => ?_)
        have hP : va_P G vwCl (rW E a ln op dp la row (upd seen j y) sty lineO tokO atO baseO kindO partO colO openO strayO stk bys was gsd cellsO sortO kLine kAt kKind) H := hP
        have hD : va_D A (rW E a ln op dp la row (upd seen j y) sty lineO tokO atO baseO kindO partO colO openO strayO stk bys was gsd cellsO sortO kLine kAt kKind) := hD
        obtain ⟨f43, ef43⟩ : ∃ z : Nat → Int32, z = upd seen j y := ⟨_, rfl⟩
        rw [← ef43] at hP hD
        refine lv_iload_n hx hb dX6_see_44 rfl (lv_at hl 0 rfl) ?_
        exact W.iret (v := (seen j)) hx hb hr (fun tZ htZ hWZ => ⟨⟨_, f43, rfl, by rw [fSee_ok (A := ab) (by omega) (by omega) (Or.inr (by obtain ⟨z, _, hz1, hz2⟩ := (w_rg (by decide) (by decide)).mp h21; rw [hz2]; exact ixP_n (by omega) (by decide)))]; exact ⟨hsn j (by omega), hN, okA_lines hok (by omega) hok.2.1, hrn, by rw [ef43]; exact eq_upd hsn, hsg, hpk⟩, by show va_P G vwCl _ tZ.heap; rw [htZ]; exact hP⟩, hS.F htZ⟩) hS.2.2 dX6_see_45
      · refine n_if_ne (a := 0) (tgt := 30) hx hb (by decide) dX6_see_24 (by decide) (fun c24 => absurd c24 (by decide)) (fun c24 => ?_)
        refine lv_bipush (v := (-2)) hx hb dX6_see_27 (by decide) ?_
        exact W.iret (v := (-2)) hx hb hr (fun tZ htZ hWZ => ⟨⟨_, seen, rfl, by rw [fSee_2 (ixP_n (by omega) (by omega)) (fun q => q.elim c13 (fun q => by obtain ⟨z, hz1, hz2⟩ := (ixP_iff (by decide)).mp q; exact h21 ((w_rg (by decide) (by decide)).mpr ⟨z, Nat.zero_le _, by omega, hz2⟩)))]; exact ⟨rfl, hab⟩, by show va_P G vwCl _ tZ.heap; rw [htZ]; exact hP⟩, hS.F htZ⟩) hS.2.2 dX6_see_29
  · have hx1 : ¬ ixP x (aN ab) := fun q => h2 (by rw [hN]; exact (ixP_iff (by omega)).mp q)
    refine n_if_ne (a := 0) (tgt := 10) hx hb (by decide) dX6_see_5 (by decide) (fun c5 => absurd c5 (by decide)) (fun c5 => ?_)
    refine lv_iconst (v := (-1)) hx hb dX6_see_8 (by decide) ?_
    exact W.iret (v := (-1)) hx hb hr (fun tZ htZ hWZ => ⟨⟨_, seen, rfl, by rw [fSee_1 hx1]; exact ⟨rfl, hab⟩, by show va_P G vwCl _ tZ.heap; rw [htZ]; exact hP⟩, hS.F htZ⟩) hS.2.2 dX6_see_9
