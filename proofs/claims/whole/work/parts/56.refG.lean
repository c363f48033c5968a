set_option maxHeartbeats 4000000 in
set_option maxRecDepth 100000 in
theorem c_X6_pocket (l : Launch) (G : va_G) (E : cEnv) (a : Nat → Nat) (ln op dp la : Nat) (row seen sty lineO tokO atO baseO kindO partO colO openO strayO stk bys was gsd cellsO sortO kLine kAt kKind : Nat → Int32) (x y z : Int32) (ab : ABS) (hab : RefOk ab ln row seen sty cellsO sortO kLine kAt kKind) (sz : Nat) : Met l yX6_pocket wsX6_pocket ({ frames := 2, cells := 0, slots := 0, locals := 42 }) (va_Pc [.ref (a 0), .int x, .int y, .int z] (PW G E (rW E a ln op dp la row seen sty lineO tokO atO baseO kindO partO colO openO strayO stk bys was gsd cellsO sortO kLine kAt kKind) sz)) (va_Qi (fun (r : Int32) (u : (Nat → Int32) × (Nat → Int32) × (Nat → Int32)) => r = (fPocket ab x y z).1 ∧ RefOk ((fPocket ab x y z).2) ln row seen sty u.1 u.2.1 u.2.2 kAt kKind) (fun (u : (Nat → Int32) × (Nat → Int32) × (Nat → Int32)) tQ => va_P G vwCl (rW E a ln op dp la row seen sty lineO tokO atO baseO kindO partO colO openO strayO stk bys was gsd u.1 u.2.1 u.2.2 kAt kKind) tQ.heap) (va_A (rW E a ln op dp la row seen sty lineO tokO atO baseO kindO partO colO openO strayO stk bys was gsd cellsO sortO kLine kAt kKind) sz)) 0 0 (va_A (rW E a ln op dp la row seen sty lineO tokO atO baseO kindO partO colO openO strayO stk bys was gsd cellsO sortO kLine kAt kKind) sz) := by
  refine Met.ofW (cc := cX6_pocket) (maxL := 5) (ret := (some .int)) (by decide) rfl ?_
  intro p e s m args below meth c s₁ B hml hv
  obtain ⟨rfl, hsz, hP, hK, hD0, hZ⟩ := hv
  have hx := B.exec
  have hb := B.bytes
  have hr := B.returns
  have hts := atoms_spec (ws := wsX6_pocket) B.pre
  have hown : s.vm.findClass RX6 = some m.cls := findClass_of_methodNamed B.named
  have hlocks := B.notSynchronized
  have hin6 : ∀ w ∈ u_ws RX6 TX6 25, w ∈ wsX6_pocket := mem_pl [11, 12, 13, 14, 15, 16, 17, 18, 19, 20, 21, 22, 23, 24, 25, 26, 27, 28, 29, 30, 31, 32, 33, 34, 35] (by rfl)
  subst hsz
  have hD := hD0.self (sz := s.heap.size)
  generalize hAe : va_A (rW E a ln op dp la row seen sty lineO tokO atO baseO kindO partO colO openO strayO stk bys was gsd cellsO sortO kLine kAt kKind) s.heap.size = A at hD hZ ⊢
  have hA : ∀ q : Nat, s.heap.size ≤ q → A q := fun q h => by rw [← hAe]; exact Or.inr h
  have hS : va_S A s.heap s.heap [] := va_S.rf
  have hl := lv_entry ([.ref (a 0), .int x, .int y, .int z]) (n := 5) (Nat.le_of_ble_eq_true rfl)
  rw [lg_entry_eq]
  generalize (lg_sl ([.ref (a 0), .int x, .int y, .int z]) ++ List.replicate (5 - (lg_sl ([.ref (a 0), .int x, .int y, .int z])).length) Slot.unset).toArray = ls at hl ⊢
  have hl : lv_has ls 5 [(0, .ref (a 0)), (1, .int x), (2, .int y), (3, .int z)] := hl
  obtain ⟨hN, hok, hrn, hsn, hsg, hpk⟩ := id hab
  have hln : ln ≤ 20 := by rw [hN]; exact hok.1
  have hpk2 : pkR (aC ab) (aO ab) (aL ab) (aA ab) (aK ab) cellsO sortO kLine kAt kKind := hpk
  refine lv_iload_n hx hb dX6_pocket_0 rfl (lv_at hl 1 rfl) ?_
  refine rs_i (n := 1) (G := G) (E := E) (As := [.int x]) (rest := []) ⟨hx, hb, hml, hown, hts⟩ hK hZ hS (c_X6_isPocket l G E x) gX6_pocket_X6_isPocket rfl rfl rfl (by decide +kernel) ⟨Nat.le_of_ble_eq_true rfl, Nat.le_of_ble_eq_true rfl⟩ (fun k q h => by simp at h) hl.1 rfl rfl (Nat.le_of_ble_eq_true rfl) dX6_pocket_1 ⟨Nat.zero_le _, Nat.zero_le _⟩ (fun r1 p1 => ?_)
  rcases p1 with ⟨⟨j, hj, rfl⟩, rfl⟩ | ⟨h1, rfl⟩
  · refine n_if_ne (a := 1) (tgt := 9) hx hb (by decide) dX6_pocket_4 (by decide) (fun c4 => ?_) (fun c4 => absurd c4 (by decide))
    refine lv_iload_n hx hb dX6_pocket_9 rfl (lv_at hl 2 rfl) ?_
    refine lv_iconst (v := (nI 0)) hx hb dX6_pocket_10 (by decide) ?_
    refine lv_iconst (v := (nI 3)) hx hb dX6_pocket_11 (by decide) ?_
    refine rs_i (n := 3) (G := G) (E := E) (As := [.int y, .int (nI 0), .int (nI 3)]) (rest := []) ⟨hx, hb, hml, hown, hts⟩ hK hZ hS (c_X6_within l G E y (nI 0) (nI 3)) gX6_pocket_X6_within rfl rfl rfl (by decide +kernel) ⟨Nat.le_of_ble_eq_true rfl, Nat.le_of_ble_eq_true rfl⟩ (fun k q h => by simp at h) hl.1 rfl rfl (Nat.le_of_ble_eq_true rfl) dX6_pocket_12 ⟨Nat.zero_le _, Nat.zero_le _⟩ (fun r12 p12 => ?_)
    rcases p12 with ⟨h12, rfl⟩ | ⟨h12, rfl⟩
    · obtain ⟨k, _, hkk, rfl⟩ := (w_rg (by decide) (by decide)).mp h12
      refine n_if_eq (a := 1) (tgt := 28) hx hb (by decide) dX6_pocket_15 (by decide) (fun c15 => absurd c15 (by decide)) (fun c15 => ?_)
      refine lv_iload_n hx hb dX6_pocket_18 rfl (lv_at hl 3 rfl) ?_
      refine lv_iconst (v := (nI 1)) hx hb dX6_pocket_19 (by decide) ?_
      refine lv_bipush (v := (nI 6)) hx hb dX6_pocket_20 (by decide) ?_
      refine rs_i (n := 3) (G := G) (E := E) (As := [.int z, .int (nI 1), .int (nI 6)]) (rest := []) ⟨hx, hb, hml, hown, hts⟩ hK hZ hS (c_X6_within l G E z (nI 1) (nI 6)) gX6_pocket_X6_within rfl rfl rfl (by decide +kernel) ⟨Nat.le_of_ble_eq_true rfl, Nat.le_of_ble_eq_true rfl⟩ (fun k q h => by simp at h) hl.1 rfl rfl (Nat.le_of_ble_eq_true rfl) dX6_pocket_22 ⟨Nat.zero_le _, Nat.zero_le _⟩ (fun r22 p22 => ?_)
      rcases p22 with ⟨h22, rfl⟩ | ⟨h22, rfl⟩
      · obtain ⟨n, hn1, hn2, rfl⟩ := (w_rg (by decide) (by decide)).mp h22
        refine n_if_ne (a := 1) (tgt := 31) hx hb (by decide) dX6_pocket_25 (by decide) (fun c25 => ?_) (fun c25 => absurd c25 (by decide))
        refine lv_aload_n hx hb dX6_pocket_31 rfl (lv_at hl 0 rfl) ?_
        refine va_get (D := G) (ci := 6) (v := .ref (a 20)) (C := RX6) (T := TX6) (N := 25) hx hb hts hin6 hown hK hP 0 rfl rfl 20 (by decide) (hts (Cond.fieldLink RX6 58 "IndentRulesModel" "cellsOf" "[I") (List.mem_of_getElem? (i := 1) rfl)) (fun _ h9 => h9) rfl dX6_pocket_32 ?_
        refine lv_iload_n hx hb dX6_pocket_35 rfl (lv_at hl 1 rfl) ?_
        refine lv_iload_n hx hb dX6_pocket_36 rfl (lv_at hl 3 rfl) ?_
        refine k_iast (D := G) (tys := TYS E) (j := j) (x := (nI n)) (f := cellsO) (n := 3) hx hb hK hP hD hS 17 0 rfl rfl (by omega) (by decide) dX6_pocket_37 (fun H locs hP hD hS => ?_)
        have hP : va_P G vwCl (rW E a ln op dp la row seen sty lineO tokO atO baseO kindO partO colO openO strayO stk bys was gsd (upd cellsO j (nI n)) sortO kLine kAt kKind) H := hP
        have hD : va_D A (rW E a ln op dp la row seen sty lineO tokO atO baseO kindO partO colO openO strayO stk bys was gsd (upd cellsO j (nI n)) sortO kLine kAt kKind) := hD
        obtain ⟨f37, ef37⟩ : ∃ z : Nat → Int32, z = upd cellsO j (nI n) := ⟨_, rfl⟩
        rw [← ef37] at hP hD
        refine lv_aload_n hx hb dX6_pocket_38 rfl (lv_at hl 0 rfl) ?_
        refine va_get (D := G) (ci := 6) (v := .ref (a 21)) (C := RX6) (T := TX6) (N := 25) hx hb hts hin6 hown hK hP 0 rfl rfl 21 (by decide) (hts (Cond.fieldLink RX6 61 "IndentRulesModel" "sortOf" "[I") (List.mem_of_getElem? (i := 2) rfl)) (fun _ h9 => h9) rfl dX6_pocket_39 ?_
        refine lv_iload_n hx hb dX6_pocket_42 rfl (lv_at hl 1 rfl) ?_
        refine lv_iload_n hx hb dX6_pocket_43 rfl (lv_at hl 2 rfl) ?_
        refine k_iast (D := G) (tys := TYS E) (j := j) (x := (nI k)) (f := sortO) (n := 3) hx hb hK hP hD hS 18 0 rfl rfl (by omega) (by decide) dX6_pocket_44 (fun H locs hP hD hS => ?_)
        have hP : va_P G vwCl (rW E a ln op dp la row seen sty lineO tokO atO baseO kindO partO colO openO strayO stk bys was gsd f37 (upd sortO j (nI k)) kLine kAt kKind) H := hP
        have hD : va_D A (rW E a ln op dp la row seen sty lineO tokO atO baseO kindO partO colO openO strayO stk bys was gsd f37 (upd sortO j (nI k)) kLine kAt kKind) := hD
        obtain ⟨f44, ef44⟩ : ∃ z : Nat → Int32, z = upd sortO j (nI k) := ⟨_, rfl⟩
        rw [← ef44] at hP hD
        refine lv_iconst (v := (nI 0)) hx hb dX6_pocket_45 (by decide) ?_
        refine lv_istore (lv' := [(4, .int (nI 0)), (0, .ref (a 0)), (1, .int (nI j)), (2, .int (nI k)), (3, .int (nI n))]) hx hb dX6_pocket_46 hl (by decide) rfl (fun ls hl => ?_)
        have lp48 : ∀ (kk : Nat) (i : Nat) (kX : Nat → Int32) (H : Heap) (locs : List Loc), (i ≤ 6) → (kX = clF kLine j i) → 6 - i < kk → va_P G vwCl (rW E a ln op dp la row seen sty lineO tokO atO baseO kindO partO colO openO strayO stk bys was gsd f37 f44 kX kAt kKind) H → va_D A (rW E a ln op dp la row seen sty lineO tokO atO baseO kindO partO colO openO strayO stk bys was gsd f37 f44 kX kAt kKind) → va_S A s.heap H locs → ∀ ls : Array Slot, lv_has ls 5 [(4, .int (nI i)), (0, .ref (a 0)), (1, .int (nI j)), (2, .int (nI k)), (3, .int (nI n))] → W p l e (headSpec wsX6_pocket ({ frames := 2, cells := 0, slots := 0, locals := 42 } : Room)).room s m ([.ref (a 0), .int (nI j), .int (nI k), .int (nI n)] : List Value).toArray below meth c H locs 0 0 (MQ below (va_Qi (fun (r : Int32) (u : (Nat → Int32) × (Nat → Int32) × (Nat → Int32)) => r = (fPocket ab (nI j) (nI k) (nI n)).1 ∧ RefOk ((fPocket ab (nI j) (nI k) (nI n)).2) ln row seen sty u.1 u.2.1 u.2.2 kAt kKind) (fun (u : (Nat → Int32) × (Nat → Int32) × (Nat → Int32)) tQ => va_P G vwCl (rW E a ln op dp la row seen sty lineO tokO atO baseO kindO partO colO openO strayO stk bys was gsd u.1 u.2.1 u.2.2 kAt kKind) tQ.heap) A) ([.ref (a 0), .int (nI j), .int (nI k), .int (nI n)] : List Value).toArray s 0 0 A) (F0 m 48 ls []) := by
          intro kk
          induction kk with
          | zero => intro i kX H locs hi hk hkk; exact absurd hkk (Nat.not_lt_zero _)
          | succ kk ih48 =>
            intro i kX H locs hi hk hkk hP hD hS ls hl
            refine lv_iload hx hb dX6_pocket_48 (lv_at hl 0 rfl) ?_
            refine lv_bipush (v := (nI 6)) hx hb dX6_pocket_50 (by decide) ?_
            refine n_icmp_ge (a := i) (b := 6) (tgt := 75) hx hb (by omega) (by decide) dX6_pocket_52 (by decide) (fun c52 => ?_) (fun c52 => ?_)
            · refine lv_iconst (v := (nI 1)) hx hb dX6_pocket_75 (by decide) ?_
              exact W.iret (v := (nI 1)) hx hb hr (fun tZ htZ hWZ => ⟨⟨_, (f37, f44, kX), rfl, by rw [fPocket_ok hj (by omega) hn1 hn2]; exact ⟨rfl, hN, okA_new hok (by omega) hn2, hrn, hsn, hsg, by rw [hk, show i = 6 by omega, ef44, ef37]; exact pk_new hpk2⟩, by show va_P G vwCl _ tZ.heap; rw [htZ]; exact hP⟩, hS.F htZ⟩) hS.2.2 dX6_pocket_76
            · refine lv_aload_n hx hb dX6_pocket_55 rfl (lv_at hl 1 rfl) ?_
              refine va_get (D := G) (ci := 6) (v := .ref (a 22)) (C := RX6) (T := TX6) (N := 25) hx hb hts hin6 hown hK hP 0 rfl rfl 22 (by decide) (hts (Cond.fieldLink RX6 64 "IndentRulesModel" "keptLine" "[I") (List.mem_of_getElem? (i := 3) rfl)) (fun _ h9 => h9) rfl dX6_pocket_56 ?_
              refine lv_bipush (v := (nI 6)) hx hb dX6_pocket_59 (by decide) ?_
              refine lv_iload_n hx hb dX6_pocket_61 rfl (lv_at hl 2 rfl) ?_
              refine k_imul (a := 6) (b := j) hx hb dX6_pocket_62 ?_
              refine lv_iload hx hb dX6_pocket_63 (lv_at hl 0 rfl) ?_
              refine k_iadd (a := (6 * j)) (b := i) hx hb dX6_pocket_65 ?_
              refine lv_bipush (v := (-9)) hx hb dX6_pocket_66 (by decide) ?_
              refine k_iast (D := G) (tys := TYS E) (j := (6 * j + i)) (x := (-9)) (f := kX) (n := 18) hx hb hK hP hD hS 19 0 rfl rfl (by omega) (by decide) dX6_pocket_68 (fun H locs hP hD hS => ?_)
              have hP : va_P G vwCl (rW E a ln op dp la row seen sty lineO tokO atO baseO kindO partO colO openO strayO stk bys was gsd f37 f44 (upd kX (6 * j + i) (-9)) kAt kKind) H := hP
              have hD : va_D A (rW E a ln op dp la row seen sty lineO tokO atO baseO kindO partO colO openO strayO stk bys was gsd f37 f44 (upd kX (6 * j + i) (-9)) kAt kKind) := hD
              obtain ⟨f68, ef68⟩ : ∃ z : Nat → Int32, z = upd kX (6 * j + i) (-9) := ⟨_, rfl⟩
              rw [← ef68] at hP hD
              refine lv_iinc (v := (nI (i + 1))) (lv' := [(4, .int (nI (i + 1))), (0, .ref (a 0)), (1, .int (nI j)), (2, .int (nI k)), (3, .int (nI n))]) hx hb dX6_pocket_69 hl (k := 0) rfl (k_inc i) (by decide) rfl (fun ls hl => ?_)
              refine lv_goto (tgt := 48) hx hb dX6_pocket_72 (by decide) ?_
              exact ih48 (i + 1) f68 _ _ (by omega) (by rw [ef68, hk]; exact clF_step kLine j i) (by omega) hP hD hS ls (lv_sub hl [0, 1, 2, 3, 4] rfl)
        exact lp48 (6 - 0 + 1) 0 kLine _ _ (by decide) (by funext w; unfold clF; rw [if_neg (by omega)]) (Nat.lt_succ_self _) hP hD hS ls (lv_sub hl [0, 1, 2, 3, 4] rfl)
      · refine n_if_ne (a := 0) (tgt := 31) hx hb (by decide) dX6_pocket_25 (by decide) (fun c25 => absurd c25 (by decide)) (fun c25 => ?_)
        refine lv_bipush (v := (-2)) hx hb dX6_pocket_28 (by decide) ?_
        exact W.iret (v := (-2)) hx hb hr (fun tZ htZ hWZ => ⟨⟨_, (cellsO, sortO, kLine), rfl, by rw [fPocket_2 hj (fun q => h22 q.2)]; exact ⟨rfl, hab⟩, by show va_P G vwCl _ tZ.heap; rw [htZ]; exact hP⟩, hS.F htZ⟩) hS.2.2 dX6_pocket_30
    · refine n_if_eq (a := 0) (tgt := 28) hx hb (by decide) dX6_pocket_15 (by decide) (fun c15 => ?_) (fun c15 => absurd c15 (by decide))
      refine lv_bipush (v := (-2)) hx hb dX6_pocket_28 (by decide) ?_
      exact W.iret (v := (-2)) hx hb hr (fun tZ htZ hWZ => ⟨⟨_, (cellsO, sortO, kLine), rfl, by rw [fPocket_2 hj (fun q => h12 ((w_rgx (n := 3) (by decide)).mpr q.1))]; exact ⟨rfl, hab⟩, by show va_P G vwCl _ tZ.heap; rw [htZ]; exact hP⟩, hS.F htZ⟩) hS.2.2 dX6_pocket_30
  · have hno1 : ¬ ixP x 3 := fun q => h1 ((ixP_iff (by decide)).mp q)
    refine n_if_ne (a := 0) (tgt := 9) hx hb (by decide) dX6_pocket_4 (by decide) (fun c4 => absurd c4 (by decide)) (fun c4 => ?_)
    refine lv_iconst (v := (-1)) hx hb dX6_pocket_7 (by decide) ?_
    exact W.iret (v := (-1)) hx hb hr (fun tZ htZ hWZ => ⟨⟨_, (cellsO, sortO, kLine), rfl, by rw [fPocket_1 hno1]; exact ⟨rfl, hab⟩, by show va_P G vwCl _ tZ.heap; rw [htZ]; exact hP⟩, hS.F htZ⟩) hS.2.2 dX6_pocket_8

set_option maxHeartbeats 4000000 in
set_option maxRecDepth 100000 in
theorem c_X6_store (l : Launch) (G : va_G) (E : cEnv) (a : Nat → Nat) (ln op dp la : Nat) (row seen sty lineO tokO atO baseO kindO partO colO openO strayO stk bys was gsd cellsO sortO kLine kAt kKind : Nat → Int32) (x y z : Int32) (ab : ABS) (hab : RefOk ab ln row seen sty cellsO sortO kLine kAt kKind) (sz : Nat) : Met l yX6_store wsX6_store ({ frames := 6, cells := 0, slots := 0, locals := 140 }) (va_Pc [.ref (a 0), .int x, .int y, .int z] (PW G E (rW E a ln op dp la row seen sty lineO tokO atO baseO kindO partO colO openO strayO stk bys was gsd cellsO sortO kLine kAt kKind) sz)) (va_Qi (fun (r : Int32) (u : (Nat) × (Nat) × (Nat) × (Nat → Int32) × (Nat → Int32) × (Nat → Int32) × (Nat → Int32) × (Nat → Int32) × (Nat → Int32) × (Nat → Int32) × (Nat → Int32) × (Nat → Int32) × (Nat → Int32) × (Nat → Int32) × (Nat → Int32) × (Nat → Int32) × (Nat → Int32) × (Nat → Int32) × (Nat → Int32)) => r = (fStore ab x y z).1 ∧ RefOk ((fStore ab x y z).2) ln row seen sty cellsO sortO u.2.2.2.2.2.2.2.2.2.2.2.2.2.2.2.2.1 u.2.2.2.2.2.2.2.2.2.2.2.2.2.2.2.2.2.1 u.2.2.2.2.2.2.2.2.2.2.2.2.2.2.2.2.2.2) (fun (u : (Nat) × (Nat) × (Nat) × (Nat → Int32) × (Nat → Int32) × (Nat → Int32) × (Nat → Int32) × (Nat → Int32) × (Nat → Int32) × (Nat → Int32) × (Nat → Int32) × (Nat → Int32) × (Nat → Int32) × (Nat → Int32) × (Nat → Int32) × (Nat → Int32) × (Nat → Int32) × (Nat → Int32) × (Nat → Int32)) tQ => va_P G vwCl (rW E a ln u.1 u.2.1 u.2.2.1 row seen sty u.2.2.2.1 u.2.2.2.2.1 u.2.2.2.2.2.1 u.2.2.2.2.2.2.1 u.2.2.2.2.2.2.2.1 u.2.2.2.2.2.2.2.2.1 u.2.2.2.2.2.2.2.2.2.1 u.2.2.2.2.2.2.2.2.2.2.1 u.2.2.2.2.2.2.2.2.2.2.2.1 u.2.2.2.2.2.2.2.2.2.2.2.2.1 u.2.2.2.2.2.2.2.2.2.2.2.2.2.1 u.2.2.2.2.2.2.2.2.2.2.2.2.2.2.1 u.2.2.2.2.2.2.2.2.2.2.2.2.2.2.2.1 cellsO sortO u.2.2.2.2.2.2.2.2.2.2.2.2.2.2.2.2.1 u.2.2.2.2.2.2.2.2.2.2.2.2.2.2.2.2.2.1 u.2.2.2.2.2.2.2.2.2.2.2.2.2.2.2.2.2.2) tQ.heap) (va_A (rW E a ln op dp la row seen sty lineO tokO atO baseO kindO partO colO openO strayO stk bys was gsd cellsO sortO kLine kAt kKind) sz)) 0 0 (va_A (rW E a ln op dp la row seen sty lineO tokO atO baseO kindO partO colO openO strayO stk bys was gsd cellsO sortO kLine kAt kKind) sz) := by
  refine Met.ofW (cc := cX6_store) (maxL := 4) (ret := (some .int)) (by decide) rfl ?_
  intro p e s m args below meth c s₁ B hml hv
  obtain ⟨rfl, hsz, hP, hK, hD0, hZ⟩ := hv
  have hx := B.exec
  have hb := B.bytes
  have hr := B.returns
  have hts := atoms_spec (ws := wsX6_store) B.pre
  have hown : s.vm.findClass RX6 = some m.cls := findClass_of_methodNamed B.named
  have hlocks := B.notSynchronized
  have hin6 : ∀ w ∈ u_ws RX6 TX6 25, w ∈ wsX6_store := mem_pl [74, 75, 76, 77, 78, 79, 80, 81, 82, 83, 84, 85, 86, 87, 88, 89, 90, 91, 92, 93, 94, 95, 96, 97, 98] (by rfl)
  subst hsz
  have hD := hD0.self (sz := s.heap.size)
  generalize hAe : va_A (rW E a ln op dp la row seen sty lineO tokO atO baseO kindO partO colO openO strayO stk bys was gsd cellsO sortO kLine kAt kKind) s.heap.size = A at hD hZ ⊢
  have hA : ∀ q : Nat, s.heap.size ≤ q → A q := fun q h => by rw [← hAe]; exact Or.inr h
  have hS : va_S A s.heap s.heap [] := va_S.rf
  have hl := lv_entry ([.ref (a 0), .int x, .int y, .int z]) (n := 4) (Nat.le_of_ble_eq_true rfl)
  rw [lg_entry_eq]
  generalize (lg_sl ([.ref (a 0), .int x, .int y, .int z]) ++ List.replicate (4 - (lg_sl ([.ref (a 0), .int x, .int y, .int z])).length) Slot.unset).toArray = ls at hl ⊢
  have hl : lv_has ls 4 [(0, .ref (a 0)), (1, .int x), (2, .int y), (3, .int z)] := hl
  obtain ⟨hN, hok, hrn, hsn, hsg, hpk⟩ := id hab
  have hln : ln ≤ 20 := by rw [hN]; exact hok.1
  have hrb : ∀ i, i < aN ab → aR ab i < 1000000000 := fun i hi => (hok.2.1 i hi).1
  have hwN := wfN_all (row := aR ab) (aN ab) hrb
  have hob : nO (nAll (aR ab) ln) ≤ 180 := by rw [hN]; exact Nat.le_trans hwN.2.1 (by omega)
  have hob2 : nO (aNest ab) ≤ 180 := Nat.le_trans hwN.2.1 (by omega)
  have hpk2 : pkR (aC ab) (aO ab) (aL ab) (aA ab) (aK ab) cellsO sortO kLine kAt kKind := hpk
  refine lv_aload_n hx hb dX6_store_0 rfl (lv_at hl 0 rfl) ?_
  refine wf_v (n := 0) (G := G) (E := E) (As := []) (rest := []) (ci := 6) (q0 := 0) (wn := fun (u : (Nat → Int32) × (Nat → Int32) × (Nat → Int32) × (Nat → Int32) × (Nat → Int32) × (Nat → Int32) × (Nat → Int32) × (Nat → Int32) × (Nat → Int32) × (Nat → Int32) × (Nat → Int32)) => rW E a ln (nO (nAll (aR ab) ln)) (nD (nAll (aR ab) ln)) (nL (nAll (aR ab) ln)) row seen sty u.1 u.2.1 u.2.2.1 u.2.2.2.1 u.2.2.2.2.1 u.2.2.2.2.2.1 u.2.2.2.2.2.2.1 u.2.2.2.2.2.2.2.1 u.2.2.2.2.2.2.2.2.1 u.2.2.2.2.2.2.2.2.2.1 u.2.2.2.2.2.2.2.2.2.2 was gsd cellsO sortO kLine kAt kKind) ⟨hx, hb, hml, hown, hts⟩ hK hZ hS hA (fun sz => c_X6_goes l G E a ln op dp la row seen sty lineO tokO atO baseO kindO partO colO openO strayO stk bys was gsd cellsO sortO kLine kAt kKind (aR ab) (by first | assumption | omega) (by first | assumption | omega) sz) gX6_store_X6_goes rfl rfl rfl (by decide +kernel) ⟨Nat.le_of_ble_eq_true rfl, Nat.le_of_ble_eq_true rfl⟩ hP hD (fun _ => rfl) rfl rfl hl.1 rfl rfl (Nat.le_of_ble_eq_true rfl) dX6_store_1 ⟨Nat.zero_le _, Nat.zero_le _⟩ (fun u1 H locs p1 hP hD hS => ?_)
  obtain ⟨lineO'_1, tokO'_1, atO'_1, baseO'_1, kindO'_1, partO'_1, colO'_1, openO'_1, strayO'_1, stk'_1, bys'_1⟩ := u1
  try dsimp only at p1 hP hD
  have hP : va_P G vwCl (rW E a ln (nO (nAll (aR ab) ln)) (nD (nAll (aR ab) ln)) (nL (nAll (aR ab) ln)) row seen sty lineO'_1 tokO'_1 atO'_1 baseO'_1 kindO'_1 partO'_1 colO'_1 openO'_1 strayO'_1 stk'_1 bys'_1 was gsd cellsO sortO kLine kAt kKind) H := hP
  have hD : va_D A (rW E a ln (nO (nAll (aR ab) ln)) (nD (nAll (aR ab) ln)) (nL (nAll (aR ab) ln)) row seen sty lineO'_1 tokO'_1 atO'_1 baseO'_1 kindO'_1 partO'_1 colO'_1 openO'_1 strayO'_1 stk'_1 bys'_1 was gsd cellsO sortO kLine kAt kKind) := hD
  have hRa : RR (aG ab 2) (aNest ab) (aCol ab) (aN ab) lineO'_1 tokO'_1 atO'_1 baseO'_1 kindO'_1 partO'_1 colO'_1 openO'_1 strayO'_1 stk'_1 := by have q := p1; rw [hsg 2 (by decide), cols_congr hsg, hN] at q; exact q
  refine lv_iload_n hx hb dX6_store_4 rfl (lv_at hl 1 rfl) ?_
  refine rs_i (n := 1) (G := G) (E := E) (As := [.int x]) (rest := []) ⟨hx, hb, hml, hown, hts⟩ hK hZ hS (c_X6_isPocket l G E x) gX6_store_X6_isPocket rfl rfl rfl (by decide +kernel) ⟨Nat.le_of_ble_eq_true rfl, Nat.le_of_ble_eq_true rfl⟩ (fun k q h => by simp at h) hl.1 rfl rfl (Nat.le_of_ble_eq_true rfl) dX6_store_5 ⟨Nat.zero_le _, Nat.zero_le _⟩ (fun r5 p5 => ?_)
  rcases p5 with ⟨⟨j, hj, rfl⟩, rfl⟩ | ⟨h5, rfl⟩
  · refine n_if_eq (a := 1) (tgt := 25) hx hb (by decide) dX6_store_8 (by decide) (fun c8 => absurd c8 (by decide)) (fun c8 => ?_)
    refine lv_iload_n hx hb dX6_store_11 rfl (lv_at hl 3 rfl) ?_
    refine lv_iconst (v := (nI 0)) hx hb dX6_store_12 (by decide) ?_
    refine lv_aload_n hx hb dX6_store_13 rfl (lv_at hl 0 rfl) ?_
    refine va_get (D := G) (ci := 6) (v := .int (nI (nO (nAll (aR ab) ln)))) (C := RX6) (T := TX6) (N := 25) hx hb hts hin6 hown hK hP 0 rfl rfl 4 (by decide) (hts (Cond.fieldLink RX6 95 "IndentRulesModel" "openers" "I") (List.mem_of_getElem? (i := 1) rfl)) (fun _ h9 => h9) rfl dX6_store_14 ?_
    refine lv_iconst (v := (nI 1)) hx hb dX6_store_17 (by decide) ?_
    refine lv_isub hx hb dX6_store_18 ?_
    refine rs_i (n := 3) (G := G) (E := E) (As := [.int z, .int (nI 0), .int ((nI (nO (nAll (aR ab) ln))) - (nI 1))]) (rest := []) ⟨hx, hb, hml, hown, hts⟩ hK hZ hS (c_X6_within l G E z (nI 0) ((nI (nO (nAll (aR ab) ln))) - (nI 1))) gX6_store_X6_within rfl rfl rfl (by decide +kernel) ⟨Nat.le_of_ble_eq_true rfl, Nat.le_of_ble_eq_true rfl⟩ (fun k q h => by simp at h) hl.1 rfl rfl (Nat.le_of_ble_eq_true rfl) dX6_store_19 ⟨Nat.zero_le _, Nat.zero_le _⟩ (fun r19 p19 => ?_)
    rcases p19 with ⟨h19, rfl⟩ | ⟨h19, rfl⟩
    · obtain ⟨k, hk, rfl⟩ := (w_ix (by omega)).mp h19
      rw [hN] at hk
      have hk : k < nO (aNest ab) := hk
      refine n_if_ne (a := 1) (tgt := 27) hx hb (by decide) dX6_store_22 (by decide) (fun c22 => ?_) (fun c22 => absurd c22 (by decide))
      refine lv_aload_n hx hb dX6_store_27 rfl (lv_at hl 0 rfl) ?_
      refine va_get (D := G) (ci := 6) (v := .ref (a 20)) (C := RX6) (T := TX6) (N := 25) hx hb hts hin6 hown hK hP 0 rfl rfl 20 (by decide) (hts (Cond.fieldLink RX6 58 "IndentRulesModel" "cellsOf" "[I") (List.mem_of_getElem? (i := 2) rfl)) (fun _ h9 => h9) rfl dX6_store_28 ?_
      refine lv_iload_n hx hb dX6_store_31 rfl (lv_at hl 1 rfl) ?_
      refine k_iald (D := G) (tys := TYS E) (j := j) (f := cellsO) (n := 3) hx hb hK hP 17 0 rfl rfl (by omega) (by decide) dX6_store_32 ?_
      rw [(hpk j hj).1]
      refine n_if_ne (a := (aC ab j)) (tgt := 39) hx hb (by have := (hok.2.2 j hj).1; omega) dX6_store_33 (by decide) (fun c33 => ?_) (fun c33 => ?_)
      · refine lv_iload_n hx hb dX6_store_39 rfl (lv_at hl 2 rfl) ?_
        refine lv_iconst (v := (nI 0)) hx hb dX6_store_40 (by decide) ?_
        refine lv_aload_n hx hb dX6_store_41 rfl (lv_at hl 0 rfl) ?_
        refine va_get (D := G) (ci := 6) (v := .ref (a 20)) (C := RX6) (T := TX6) (N := 25) hx hb hts hin6 hown hK hP 0 rfl rfl 20 (by decide) (hts (Cond.fieldLink RX6 58 "IndentRulesModel" "cellsOf" "[I") (List.mem_of_getElem? (i := 2) rfl)) (fun _ h9 => h9) rfl dX6_store_42 ?_
        refine lv_iload_n hx hb dX6_store_45 rfl (lv_at hl 1 rfl) ?_
        refine k_iald (D := G) (tys := TYS E) (j := j) (f := cellsO) (n := 3) hx hb hK hP 17 0 rfl rfl (by omega) (by decide) dX6_store_46 ?_
        rw [(hpk j hj).1]
        refine lv_iconst (v := (nI 1)) hx hb dX6_store_47 (by decide) ?_
        refine k_isub (a := (aC ab j)) (b := 1) hx hb (by omega) dX6_store_48 ?_
        refine rs_i (n := 3) (G := G) (E := E) (As := [.int y, .int (nI 0), .int (nI ((aC ab j) - 1))]) (rest := []) ⟨hx, hb, hml, hown, hts⟩ hK hZ hS (c_X6_within l G E y (nI 0) (nI ((aC ab j) - 1))) gX6_store_X6_within rfl rfl rfl (by decide +kernel) ⟨Nat.le_of_ble_eq_true rfl, Nat.le_of_ble_eq_true rfl⟩ (fun k q h => by simp at h) hl.1 rfl rfl (Nat.le_of_ble_eq_true rfl) dX6_store_49 ⟨Nat.zero_le _, Nat.zero_le _⟩ (fun r49 p49 => ?_)
        rcases p49 with ⟨h49, rfl⟩ | ⟨h49, rfl⟩
        · obtain ⟨i, _, hi, rfl⟩ := (w_rg (by decide) (by have := (hok.2.2 j hj).1; omega)).mp h49
          refine n_if_ne (a := 1) (tgt := 58) hx hb (by decide) dX6_store_52 (by decide) (fun c52 => ?_) (fun c52 => absurd c52 (by decide))
          refine lv_aload_n hx hb dX6_store_58 rfl (lv_at hl 0 rfl) ?_
          refine va_get (D := G) (ci := 6) (v := .ref (a 9)) (C := RX6) (T := TX6) (N := 25) hx hb hts hin6 hown hK hP 0 rfl rfl 9 (by decide) (hts (Cond.fieldLink RX6 31 "IndentRulesModel" "kindOf" "[I") (List.mem_of_getElem? (i := 3) rfl)) (fun _ h9 => h9) rfl dX6_store_59 ?_
          refine lv_iload_n hx hb dX6_store_62 rfl (lv_at hl 3 rfl) ?_
          refine k_iald (D := G) (tys := TYS E) (j := k) (f := kindO'_1) (n := 180) hx hb hK hP 8 0 rfl rfl (by omega) (by decide) dX6_store_63 ?_
          rw [(hRa.1 k hk).2.2.2.2.1]
          refine lv_aload_n hx hb dX6_store_64 rfl (lv_at hl 0 rfl) ?_
          refine va_get (D := G) (ci := 6) (v := .ref (a 21)) (C := RX6) (T := TX6) (N := 25) hx hb hts hin6 hown hK hP 0 rfl rfl 21 (by decide) (hts (Cond.fieldLink RX6 61 "IndentRulesModel" "sortOf" "[I") (List.mem_of_getElem? (i := 4) rfl)) (fun _ h9 => h9) rfl dX6_store_65 ?_
          refine lv_iload_n hx hb dX6_store_68 rfl (lv_at hl 1 rfl) ?_
          refine k_iald (D := G) (tys := TYS E) (j := j) (f := sortO) (n := 3) hx hb hK hP 18 0 rfl rfl (by omega) (by decide) dX6_store_69 ?_
          rw [(hpk j hj).2.1]
          refine rs_i (n := 2) (G := G) (E := E) (As := [.int (nI (kd (aG ab 2) (nF (aNest ab)) k)), .int (nI (aO ab j))]) (rest := []) ⟨hx, hb, hml, hown, hts⟩ hK hZ hS (c_X6_isOf l G E (nI (kd (aG ab 2) (nF (aNest ab)) k)) (nI (aO ab j))) gX6_store_X6_isOf rfl rfl rfl (by decide +kernel) ⟨Nat.le_of_ble_eq_true rfl, Nat.le_of_ble_eq_true rfl⟩ (fun k q h => by simp at h) hl.1 rfl rfl (Nat.le_of_ble_eq_true rfl) dX6_store_70 ⟨Nat.zero_le _, Nat.zero_le _⟩ (fun r70 p70 => ?_)
          rcases p70 with ⟨h70, rfl⟩ | ⟨h70, rfl⟩
          · have htk := (tkO_n (Nat.lt_trans (kd_lt _ _ _) (by decide)) (by have := (hok.2.2 j hj).2.1; omega)).mp h70
            refine n_if_ne (a := 1) (tgt := 79) hx hb (by decide) dX6_store_73 (by decide) (fun c73 => ?_) (fun c73 => absurd c73 (by decide))
            refine lv_aload_n hx hb dX6_store_79 rfl (lv_at hl 0 rfl) ?_
            refine va_get (D := G) (ci := 6) (v := .ref (a 22)) (C := RX6) (T := TX6) (N := 25) hx hb hts hin6 hown hK hP 0 rfl rfl 22 (by decide) (hts (Cond.fieldLink RX6 64 "IndentRulesModel" "keptLine" "[I") (List.mem_of_getElem? (i := 5) rfl)) (fun _ h9 => h9) rfl dX6_store_80 ?_
            refine lv_bipush (v := (nI 6)) hx hb dX6_store_83 (by decide) ?_
            refine lv_iload_n hx hb dX6_store_85 rfl (lv_at hl 1 rfl) ?_
            refine k_imul (a := 6) (b := j) hx hb dX6_store_86 ?_
            refine lv_iload_n hx hb dX6_store_87 rfl (lv_at hl 2 rfl) ?_
            refine k_iadd (a := (6 * j)) (b := i) hx hb dX6_store_88 ?_
            refine lv_aload_n hx hb dX6_store_89 rfl (lv_at hl 0 rfl) ?_
            refine va_get (D := G) (ci := 6) (v := .ref (a 5)) (C := RX6) (T := TX6) (N := 25) hx hb hts hin6 hown hK hP 0 rfl rfl 5 (by decide) (hts (Cond.fieldLink RX6 19 "IndentRulesModel" "lineOf" "[I") (List.mem_of_getElem? (i := 6) rfl)) (fun _ h9 => h9) rfl dX6_store_90 ?_
            refine lv_iload_n hx hb dX6_store_93 rfl (lv_at hl 3 rfl) ?_
            refine k_iald (D := G) (tys := TYS E) (j := k) (f := lineO'_1) (n := 180) hx hb hK hP 4 0 rfl rfl (by omega) (by decide) dX6_store_94 ?_
            rw [(hRa.1 k hk).1]
            refine k_iast (D := G) (tys := TYS E) (j := (6 * j + i)) (x := (nI (nF (aNest ab) 1 k))) (f := kLine) (n := 18) hx hb hK hP hD hS 19 0 rfl rfl (by have := (hok.2.2 j hj).1; omega) (by decide) dX6_store_95 (fun H locs hP hD hS => ?_)
            have hP : va_P G vwCl (rW E a ln (nO (nAll (aR ab) ln)) (nD (nAll (aR ab) ln)) (nL (nAll (aR ab) ln)) row seen sty lineO'_1 tokO'_1 atO'_1 baseO'_1 kindO'_1 partO'_1 colO'_1 openO'_1 strayO'_1 stk'_1 bys'_1 was gsd cellsO sortO (upd kLine (6 * j + i) (nI (nF (aNest ab) 1 k))) kAt kKind) H := hP
            have hD : va_D A (rW E a ln (nO (nAll (aR ab) ln)) (nD (nAll (aR ab) ln)) (nL (nAll (aR ab) ln)) row seen sty lineO'_1 tokO'_1 atO'_1 baseO'_1 kindO'_1 partO'_1 colO'_1 openO'_1 strayO'_1 stk'_1 bys'_1 was gsd cellsO sortO (upd kLine (6 * j + i) (nI (nF (aNest ab) 1 k))) kAt kKind) := hD
            obtain ⟨f95, ef95⟩ : ∃ z : Nat → Int32, z = upd kLine (6 * j + i) (nI (nF (aNest ab) 1 k)) := ⟨_, rfl⟩
            rw [← ef95] at hP hD
            refine lv_aload_n hx hb dX6_store_96 rfl (lv_at hl 0 rfl) ?_
            refine va_get (D := G) (ci := 6) (v := .ref (a 23)) (C := RX6) (T := TX6) (N := 25) hx hb hts hin6 hown hK hP 0 rfl rfl 23 (by decide) (hts (Cond.fieldLink RX6 67 "IndentRulesModel" "keptAt" "[I") (List.mem_of_getElem? (i := 7) rfl)) (fun _ h9 => h9) rfl dX6_store_97 ?_
            refine lv_bipush (v := (nI 6)) hx hb dX6_store_100 (by decide) ?_
            refine lv_iload_n hx hb dX6_store_102 rfl (lv_at hl 1 rfl) ?_
            refine k_imul (a := 6) (b := j) hx hb dX6_store_103 ?_
            refine lv_iload_n hx hb dX6_store_104 rfl (lv_at hl 2 rfl) ?_
            refine k_iadd (a := (6 * j)) (b := i) hx hb dX6_store_105 ?_
            refine lv_aload_n hx hb dX6_store_106 rfl (lv_at hl 0 rfl) ?_
            refine va_get (D := G) (ci := 6) (v := .ref (a 7)) (C := RX6) (T := TX6) (N := 25) hx hb hts hin6 hown hK hP 0 rfl rfl 7 (by decide) (hts (Cond.fieldLink RX6 25 "IndentRulesModel" "atOf" "[I") (List.mem_of_getElem? (i := 8) rfl)) (fun _ h9 => h9) rfl dX6_store_107 ?_
            refine lv_iload_n hx hb dX6_store_110 rfl (lv_at hl 3 rfl) ?_
            refine k_iald (D := G) (tys := TYS E) (j := k) (f := atO'_1) (n := 180) hx hb hK hP 6 0 rfl rfl (by omega) (by decide) dX6_store_111 ?_
            rw [(hRa.1 k hk).2.2.1]
            refine k_iast (D := G) (tys := TYS E) (j := (6 * j + i)) (x := (aCol ab (nF (aNest ab) 1 k) + nI (nF (aNest ab) 3 k))) (f := kAt) (n := 18) hx hb hK hP hD hS 20 0 rfl rfl (by have := (hok.2.2 j hj).1; omega) (by decide) dX6_store_112 (fun H locs hP hD hS => ?_)
            have hP : va_P G vwCl (rW E a ln (nO (nAll (aR ab) ln)) (nD (nAll (aR ab) ln)) (nL (nAll (aR ab) ln)) row seen sty lineO'_1 tokO'_1 atO'_1 baseO'_1 kindO'_1 partO'_1 colO'_1 openO'_1 strayO'_1 stk'_1 bys'_1 was gsd cellsO sortO f95 (upd kAt (6 * j + i) (aCol ab (nF (aNest ab) 1 k) + nI (nF (aNest ab) 3 k))) kKind) H := hP
            have hD : va_D A (rW E a ln (nO (nAll (aR ab) ln)) (nD (nAll (aR ab) ln)) (nL (nAll (aR ab) ln)) row seen sty lineO'_1 tokO'_1 atO'_1 baseO'_1 kindO'_1 partO'_1 colO'_1 openO'_1 strayO'_1 stk'_1 bys'_1 was gsd cellsO sortO f95 (upd kAt (6 * j + i) (aCol ab (nF (aNest ab) 1 k) + nI (nF (aNest ab) 3 k))) kKind) := hD
            obtain ⟨f112, ef112⟩ : ∃ z : Nat → Int32, z = upd kAt (6 * j + i) (aCol ab (nF (aNest ab) 1 k) + nI (nF (aNest ab) 3 k)) := ⟨_, rfl⟩
            rw [← ef112] at hP hD
            refine lv_aload_n hx hb dX6_store_113 rfl (lv_at hl 0 rfl) ?_
            refine va_get (D := G) (ci := 6) (v := .ref (a 24)) (C := RX6) (T := TX6) (N := 25) hx hb hts hin6 hown hK hP 0 rfl rfl 24 (by decide) (hts (Cond.fieldLink RX6 70 "IndentRulesModel" "keptKind" "[I") (List.mem_of_getElem? (i := 9) rfl)) (fun _ h9 => h9) rfl dX6_store_114 ?_
            refine lv_bipush (v := (nI 6)) hx hb dX6_store_117 (by decide) ?_
            refine lv_iload_n hx hb dX6_store_119 rfl (lv_at hl 1 rfl) ?_
            refine k_imul (a := 6) (b := j) hx hb dX6_store_120 ?_
            refine lv_iload_n hx hb dX6_store_121 rfl (lv_at hl 2 rfl) ?_
            refine k_iadd (a := (6 * j)) (b := i) hx hb dX6_store_122 ?_
            refine lv_aload_n hx hb dX6_store_123 rfl (lv_at hl 0 rfl) ?_
            refine va_get (D := G) (ci := 6) (v := .ref (a 9)) (C := RX6) (T := TX6) (N := 25) hx hb hts hin6 hown hK hP 0 rfl rfl 9 (by decide) (hts (Cond.fieldLink RX6 31 "IndentRulesModel" "kindOf" "[I") (List.mem_of_getElem? (i := 3) rfl)) (fun _ h9 => h9) rfl dX6_store_124 ?_
            refine lv_iload_n hx hb dX6_store_127 rfl (lv_at hl 3 rfl) ?_
            refine k_iald (D := G) (tys := TYS E) (j := k) (f := kindO'_1) (n := 180) hx hb hK hP 8 0 rfl rfl (by omega) (by decide) dX6_store_128 ?_
            rw [(hRa.1 k hk).2.2.2.2.1]
            refine k_iast (D := G) (tys := TYS E) (j := (6 * j + i)) (x := (nI (kd (aG ab 2) (nF (aNest ab)) k))) (f := kKind) (n := 18) hx hb hK hP hD hS 21 0 rfl rfl (by have := (hok.2.2 j hj).1; omega) (by decide) dX6_store_129 (fun H locs hP hD hS => ?_)
            have hP : va_P G vwCl (rW E a ln (nO (nAll (aR ab) ln)) (nD (nAll (aR ab) ln)) (nL (nAll (aR ab) ln)) row seen sty lineO'_1 tokO'_1 atO'_1 baseO'_1 kindO'_1 partO'_1 colO'_1 openO'_1 strayO'_1 stk'_1 bys'_1 was gsd cellsO sortO f95 f112 (upd kKind (6 * j + i) (nI (kd (aG ab 2) (nF (aNest ab)) k)))) H := hP
            have hD : va_D A (rW E a ln (nO (nAll (aR ab) ln)) (nD (nAll (aR ab) ln)) (nL (nAll (aR ab) ln)) row seen sty lineO'_1 tokO'_1 atO'_1 baseO'_1 kindO'_1 partO'_1 colO'_1 openO'_1 strayO'_1 stk'_1 bys'_1 was gsd cellsO sortO f95 f112 (upd kKind (6 * j + i) (nI (kd (aG ab 2) (nF (aNest ab)) k)))) := hD
            obtain ⟨f129, ef129⟩ : ∃ z : Nat → Int32, z = upd kKind (6 * j + i) (nI (kd (aG ab 2) (nF (aNest ab)) k)) := ⟨_, rfl⟩
            rw [← ef129] at hP hD
            refine lv_iconst (v := (nI 1)) hx hb dX6_store_130 (by decide) ?_
            have hc6 := (hok.2.2 j hj).1
            have hFl : nF (aNest ab) 1 k < 2 ^ 31 := Nat.lt_trans (hwN.2.2.2.1 k hk).1 (by omega)
            exact W.iret (v := (nI 1)) hx hb hr (fun tZ htZ hWZ => ⟨⟨_, (nO (nAll (aR ab) ln), nD (nAll (aR ab) ln), nL (nAll (aR ab) ln), lineO'_1, tokO'_1, atO'_1, baseO'_1, kindO'_1, partO'_1, colO'_1, openO'_1, strayO'_1, stk'_1, bys'_1, was, gsd, f95, f112, f129), rfl, by rw [fStore_ok hj hk hob2 (by omega) hc6 htk]; exact ⟨rfl, hN, okA_put hok hj (k_nneg (by decide) hFl), hrn, hsn, hsg, by rw [ef95, ef112, ef129]; exact pk_put hpk2 (by omega)⟩, by show va_P G vwCl _ tZ.heap; rw [htZ]; exact hP⟩, hS.F htZ⟩) hS.2.2 dX6_store_131
          · have htk := fun q => h70 ((tkO_n (Nat.lt_trans (kd_lt _ _ _) (by decide)) (by have := (hok.2.2 j hj).2.1; omega)).mpr q)
            refine n_if_ne (a := 0) (tgt := 79) hx hb (by decide) dX6_store_73 (by decide) (fun c73 => absurd c73 (by decide)) (fun c73 => ?_)
            refine lv_bipush (v := (-11)) hx hb dX6_store_76 (by decide) ?_
            exact W.iret (v := (-11)) hx hb hr (fun tZ htZ hWZ => ⟨⟨_, (nO (nAll (aR ab) ln), nD (nAll (aR ab) ln), nL (nAll (aR ab) ln), lineO'_1, tokO'_1, atO'_1, baseO'_1, kindO'_1, partO'_1, colO'_1, openO'_1, strayO'_1, stk'_1, bys'_1, was, gsd, kLine, kAt, kKind), rfl, by rw [fStore_11 hj hk hob2 (by omega) (hok.2.2 j hj).1 htk]; exact ⟨rfl, hab⟩, by show va_P G vwCl _ tZ.heap; rw [htZ]; exact hP⟩, hS.F htZ⟩) hS.2.2 dX6_store_78
        · have hx2 : ¬ ixP y (aC ab j) := fun q => h49 (by rw [w_rgx (by have := (hok.2.2 j hj).1; omega), show aC ab j - 1 + 1 = aC ab j by omega]; exact q)
          refine n_if_ne (a := 0) (tgt := 58) hx hb (by decide) dX6_store_52 (by decide) (fun c52 => absurd c52 (by decide)) (fun c52 => ?_)
          refine lv_bipush (v := (-13)) hx hb dX6_store_55 (by decide) ?_
          exact W.iret (v := (-13)) hx hb hr (fun tZ htZ hWZ => ⟨⟨_, (nO (nAll (aR ab) ln), nD (nAll (aR ab) ln), nL (nAll (aR ab) ln), lineO'_1, tokO'_1, atO'_1, baseO'_1, kindO'_1, partO'_1, colO'_1, openO'_1, strayO'_1, stk'_1, bys'_1, was, gsd, kLine, kAt, kKind), rfl, by rw [fStore_13 hj hk hob2 (by omega) hx2]; exact ⟨rfl, hab⟩, by show va_P G vwCl _ tZ.heap; rw [htZ]; exact hP⟩, hS.F htZ⟩) hS.2.2 dX6_store_57
      · refine lv_bipush (v := (-3)) hx hb dX6_store_36 (by decide) ?_
        exact W.iret (v := (-3)) hx hb hr (fun tZ htZ hWZ => ⟨⟨_, (nO (nAll (aR ab) ln), nD (nAll (aR ab) ln), nL (nAll (aR ab) ln), lineO'_1, tokO'_1, atO'_1, baseO'_1, kindO'_1, partO'_1, colO'_1, openO'_1, strayO'_1, stk'_1, bys'_1, was, gsd, kLine, kAt, kKind), rfl, by rw [fStore_3 hj hk hob2 c33]; exact ⟨rfl, hab⟩, by show va_P G vwCl _ tZ.heap; rw [htZ]; exact hP⟩, hS.F htZ⟩) hS.2.2 dX6_store_38
    · have hx1 : ¬ ixP z (nO (aNest ab)) := fun q => h19 (by rw [hN]; exact (w_ixx (n := nO (aNest ab)) (by omega)).mpr q)
      refine n_if_ne (a := 0) (tgt := 27) hx hb (by decide) dX6_store_22 (by decide) (fun c22 => absurd c22 (by decide)) (fun c22 => ?_)
      refine lv_iconst (v := (-1)) hx hb dX6_store_25 (by decide) ?_
      exact W.iret (v := (-1)) hx hb hr (fun tZ htZ hWZ => ⟨⟨_, (nO (nAll (aR ab) ln), nD (nAll (aR ab) ln), nL (nAll (aR ab) ln), lineO'_1, tokO'_1, atO'_1, baseO'_1, kindO'_1, partO'_1, colO'_1, openO'_1, strayO'_1, stk'_1, bys'_1, was, gsd, kLine, kAt, kKind), rfl, by rw [fStore_1 (fun q => hx1 q.2)]; exact ⟨rfl, hab⟩, by show va_P G vwCl _ tZ.heap; rw [htZ]; exact hP⟩, hS.F htZ⟩) hS.2.2 dX6_store_26
  · have hno5 : ¬ ixP x 3 := fun q => h5 ((ixP_iff (by decide)).mp q)
    refine n_if_eq (a := 0) (tgt := 25) hx hb (by decide) dX6_store_8 (by decide) (fun c8 => ?_) (fun c8 => absurd c8 (by decide))
    refine lv_iconst (v := (-1)) hx hb dX6_store_25 (by decide) ?_
    exact W.iret (v := (-1)) hx hb hr (fun tZ htZ hWZ => ⟨⟨_, (nO (nAll (aR ab) ln), nD (nAll (aR ab) ln), nL (nAll (aR ab) ln), lineO'_1, tokO'_1, atO'_1, baseO'_1, kindO'_1, partO'_1, colO'_1, openO'_1, strayO'_1, stk'_1, bys'_1, was, gsd, kLine, kAt, kKind), rfl, by rw [fStore_1 (fun q => hno5 q.1)]; exact ⟨rfl, hab⟩, by show va_P G vwCl _ tZ.heap; rw [htZ]; exact hP⟩, hS.F htZ⟩) hS.2.2 dX6_store_26

set_option maxHeartbeats 4000000 in
set_option maxRecDepth 100000 in
theorem c_X6_copy (l : Launch) (G : va_G) (E : cEnv) (a : Nat → Nat) (ln op dp la : Nat) (row seen sty lineO tokO atO baseO kindO partO colO openO strayO stk bys was gsd cellsO sortO kLine kAt kKind : Nat → Int32) (x y : Int32) (ab : ABS) (hab : RefOk ab ln row seen sty cellsO sortO kLine kAt kKind) (sz : Nat) : Met l yX6_copy wsX6_copy ({ frames := 2, cells := 0, slots := 0, locals := 42 }) (va_Pc [.ref (a 0), .int x, .int y] (PW G E (rW E a ln op dp la row seen sty lineO tokO atO baseO kindO partO colO openO strayO stk bys was gsd cellsO sortO kLine kAt kKind) sz)) (va_Qi (fun (r : Int32) (u : (Nat → Int32) × (Nat → Int32) × (Nat → Int32) × (Nat → Int32) × (Nat → Int32)) => r = (fCopy ab x y).1 ∧ RefOk ((fCopy ab x y).2) ln row seen sty u.1 u.2.1 u.2.2.1 u.2.2.2.1 u.2.2.2.2) (fun (u : (Nat → Int32) × (Nat → Int32) × (Nat → Int32) × (Nat → Int32) × (Nat → Int32)) tQ => va_P G vwCl (rW E a ln op dp la row seen sty lineO tokO atO baseO kindO partO colO openO strayO stk bys was gsd u.1 u.2.1 u.2.2.1 u.2.2.2.1 u.2.2.2.2) tQ.heap) (va_A (rW E a ln op dp la row seen sty lineO tokO atO baseO kindO partO colO openO strayO stk bys was gsd cellsO sortO kLine kAt kKind) sz)) 0 0 (va_A (rW E a ln op dp la row seen sty lineO tokO atO baseO kindO partO colO openO strayO stk bys was gsd cellsO sortO kLine kAt kKind) sz) := by
  refine Met.ofW (cc := cX6_copy) (maxL := 4) (ret := (some .int)) (by decide) rfl ?_
  intro p e s m args below meth c s₁ B hml hv
  obtain ⟨rfl, hsz, hP, hK, hD0, hZ⟩ := hv
  have hx := B.exec
  have hb := B.bytes
  have hr := B.returns
  have hts := atoms_spec (ws := wsX6_copy) B.pre
  have hown : s.vm.findClass RX6 = some m.cls := findClass_of_methodNamed B.named
  have hlocks := B.notSynchronized
  have hin6 : ∀ w ∈ u_ws RX6 TX6 25, w ∈ wsX6_copy := mem_pl [13, 14, 15, 16, 17, 18, 19, 20, 21, 22, 23, 24, 25, 26, 27, 28, 29, 30, 31, 32, 33, 34, 35, 36, 37] (by rfl)
  subst hsz
  have hD := hD0.self (sz := s.heap.size)
  generalize hAe : va_A (rW E a ln op dp la row seen sty lineO tokO atO baseO kindO partO colO openO strayO stk bys was gsd cellsO sortO kLine kAt kKind) s.heap.size = A at hD hZ ⊢
  have hA : ∀ q : Nat, s.heap.size ≤ q → A q := fun q h => by rw [← hAe]; exact Or.inr h
  have hS : va_S A s.heap s.heap [] := va_S.rf
  have hl := lv_entry ([.ref (a 0), .int x, .int y]) (n := 4) (Nat.le_of_ble_eq_true rfl)
  rw [lg_entry_eq]
  generalize (lg_sl ([.ref (a 0), .int x, .int y]) ++ List.replicate (4 - (lg_sl ([.ref (a 0), .int x, .int y])).length) Slot.unset).toArray = ls at hl ⊢
  have hl : lv_has ls 4 [(0, .ref (a 0)), (1, .int x), (2, .int y)] := hl
  obtain ⟨hN, hok, hrn, hsn, hsg, hpk⟩ := id hab
  have hln : ln ≤ 20 := by rw [hN]; exact hok.1
  have hpk2 : pkR (aC ab) (aO ab) (aL ab) (aA ab) (aK ab) cellsO sortO kLine kAt kKind := hpk
  refine lv_iload_n hx hb dX6_copy_0 rfl (lv_at hl 1 rfl) ?_
  refine rs_i (n := 1) (G := G) (E := E) (As := [.int x]) (rest := []) ⟨hx, hb, hml, hown, hts⟩ hK hZ hS (c_X6_isPocket l G E x) gX6_copy_X6_isPocket rfl rfl rfl (by decide +kernel) ⟨Nat.le_of_ble_eq_true rfl, Nat.le_of_ble_eq_true rfl⟩ (fun k q h => by simp at h) hl.1 rfl rfl (Nat.le_of_ble_eq_true rfl) dX6_copy_1 ⟨Nat.zero_le _, Nat.zero_le _⟩ (fun r1 p1 => ?_)
  rcases p1 with ⟨⟨j, hj, rfl⟩, rfl⟩ | ⟨h1, rfl⟩
  · refine n_if_eq (a := 1) (tgt := 14) hx hb (by decide) dX6_copy_4 (by decide) (fun c4 => absurd c4 (by decide)) (fun c4 => ?_)
    refine lv_iload_n hx hb dX6_copy_7 rfl (lv_at hl 2 rfl) ?_
    refine rs_i (n := 1) (G := G) (E := E) (As := [.int y]) (rest := []) ⟨hx, hb, hml, hown, hts⟩ hK hZ hS (c_X6_isPocket l G E y) gX6_copy_X6_isPocket rfl rfl rfl (by decide +kernel) ⟨Nat.le_of_ble_eq_true rfl, Nat.le_of_ble_eq_true rfl⟩ (fun k q h => by simp at h) hl.1 rfl rfl (Nat.le_of_ble_eq_true rfl) dX6_copy_8 ⟨Nat.zero_le _, Nat.zero_le _⟩ (fun r8 p8 => ?_)
    rcases p8 with ⟨⟨t, ht, rfl⟩, rfl⟩ | ⟨h8, rfl⟩
    · refine n_if_ne (a := 1) (tgt := 16) hx hb (by decide) dX6_copy_11 (by decide) (fun c11 => ?_) (fun c11 => absurd c11 (by decide))
      refine lv_aload_n hx hb dX6_copy_16 rfl (lv_at hl 0 rfl) ?_
      refine va_get (D := G) (ci := 6) (v := .ref (a 20)) (C := RX6) (T := TX6) (N := 25) hx hb hts hin6 hown hK hP 0 rfl rfl 20 (by decide) (hts (Cond.fieldLink RX6 58 "IndentRulesModel" "cellsOf" "[I") (List.mem_of_getElem? (i := 1) rfl)) (fun _ h9 => h9) rfl dX6_copy_17 ?_
      refine lv_iload_n hx hb dX6_copy_20 rfl (lv_at hl 1 rfl) ?_
      refine k_iald (D := G) (tys := TYS E) (j := j) (f := cellsO) (n := 3) hx hb hK hP 17 0 rfl rfl (by omega) (by decide) dX6_copy_21 ?_
      rw [(hpk j hj).1]
      refine n_if_ne (a := (aC ab j)) (tgt := 28) hx hb (by have := (hok.2.2 j hj).1; omega) dX6_copy_22 (by decide) (fun c22 => ?_) (fun c22 => ?_)
      · refine lv_aload_n hx hb dX6_copy_28 rfl (lv_at hl 0 rfl) ?_
        refine va_get (D := G) (ci := 6) (v := .ref (a 20)) (C := RX6) (T := TX6) (N := 25) hx hb hts hin6 hown hK hP 0 rfl rfl 20 (by decide) (hts (Cond.fieldLink RX6 58 "IndentRulesModel" "cellsOf" "[I") (List.mem_of_getElem? (i := 1) rfl)) (fun _ h9 => h9) rfl dX6_copy_29 ?_
        refine lv_iload_n hx hb dX6_copy_32 rfl (lv_at hl 2 rfl) ?_
        refine lv_aload_n hx hb dX6_copy_33 rfl (lv_at hl 0 rfl) ?_
        refine va_get (D := G) (ci := 6) (v := .ref (a 20)) (C := RX6) (T := TX6) (N := 25) hx hb hts hin6 hown hK hP 0 rfl rfl 20 (by decide) (hts (Cond.fieldLink RX6 58 "IndentRulesModel" "cellsOf" "[I") (List.mem_of_getElem? (i := 1) rfl)) (fun _ h9 => h9) rfl dX6_copy_34 ?_
        refine lv_iload_n hx hb dX6_copy_37 rfl (lv_at hl 1 rfl) ?_
        refine k_iald (D := G) (tys := TYS E) (j := j) (f := cellsO) (n := 3) hx hb hK hP 17 0 rfl rfl (by omega) (by decide) dX6_copy_38 ?_
        rw [(hpk j hj).1]
        refine k_iast (D := G) (tys := TYS E) (j := t) (x := (nI (aC ab j))) (f := cellsO) (n := 3) hx hb hK hP hD hS 17 0 rfl rfl (by omega) (by decide) dX6_copy_39 (fun H locs hP hD hS => ?_)
        have hP : va_P G vwCl (rW E a ln op dp la row seen sty lineO tokO atO baseO kindO partO colO openO strayO stk bys was gsd (upd cellsO t (nI (aC ab j))) sortO kLine kAt kKind) H := hP
        have hD : va_D A (rW E a ln op dp la row seen sty lineO tokO atO baseO kindO partO colO openO strayO stk bys was gsd (upd cellsO t (nI (aC ab j))) sortO kLine kAt kKind) := hD
        obtain ⟨f39, ef39⟩ : ∃ z : Nat → Int32, z = upd cellsO t (nI (aC ab j)) := ⟨_, rfl⟩
        rw [← ef39] at hP hD
        have hs50 : sortO j = nI (aO ab j) := (hpk j hj).2.1
        refine lv_aload_n hx hb dX6_copy_40 rfl (lv_at hl 0 rfl) ?_
        refine va_get (D := G) (ci := 6) (v := .ref (a 21)) (C := RX6) (T := TX6) (N := 25) hx hb hts hin6 hown hK hP 0 rfl rfl 21 (by decide) (hts (Cond.fieldLink RX6 61 "IndentRulesModel" "sortOf" "[I") (List.mem_of_getElem? (i := 2) rfl)) (fun _ h9 => h9) rfl dX6_copy_41 ?_
        refine lv_iload_n hx hb dX6_copy_44 rfl (lv_at hl 2 rfl) ?_
        refine lv_aload_n hx hb dX6_copy_45 rfl (lv_at hl 0 rfl) ?_
        refine va_get (D := G) (ci := 6) (v := .ref (a 21)) (C := RX6) (T := TX6) (N := 25) hx hb hts hin6 hown hK hP 0 rfl rfl 21 (by decide) (hts (Cond.fieldLink RX6 61 "IndentRulesModel" "sortOf" "[I") (List.mem_of_getElem? (i := 2) rfl)) (fun _ h9 => h9) rfl dX6_copy_46 ?_
        refine lv_iload_n hx hb dX6_copy_49 rfl (lv_at hl 1 rfl) ?_
        refine k_iald (D := G) (tys := TYS E) (j := j) (f := sortO) (n := 3) hx hb hK hP 18 0 rfl rfl (by omega) (by decide) dX6_copy_50 ?_
        rw [hs50]
        refine k_iast (D := G) (tys := TYS E) (j := t) (x := (nI (aO ab j))) (f := sortO) (n := 3) hx hb hK hP hD hS 18 0 rfl rfl (by omega) (by decide) dX6_copy_51 (fun H locs hP hD hS => ?_)
        have hP : va_P G vwCl (rW E a ln op dp la row seen sty lineO tokO atO baseO kindO partO colO openO strayO stk bys was gsd f39 (upd sortO t (nI (aO ab j))) kLine kAt kKind) H := hP
        have hD : va_D A (rW E a ln op dp la row seen sty lineO tokO atO baseO kindO partO colO openO strayO stk bys was gsd f39 (upd sortO t (nI (aO ab j))) kLine kAt kKind) := hD
        obtain ⟨f51, ef51⟩ : ∃ z : Nat → Int32, z = upd sortO t (nI (aO ab j)) := ⟨_, rfl⟩
        rw [← ef51] at hP hD
        refine lv_iconst (v := (nI 0)) hx hb dX6_copy_52 (by decide) ?_
        refine lv_istore_n (lv' := [(3, .int (nI 0)), (0, .ref (a 0)), (1, .int (nI j)), (2, .int (nI t))]) hx hb dX6_copy_53 rfl hl (by decide) rfl (fun ls hl => ?_)
        have lp54 : ∀ (kk : Nat) (i : Nat) (kX : Nat → Int32) (aX : Nat → Int32) (dX : Nat → Int32) (H : Heap) (locs : List Loc), (i ≤ 6) → (kX = cpF kLine j t i) → (aX = cpF kAt j t i) → (dX = cpF kKind j t i) → 6 - i < kk → va_P G vwCl (rW E a ln op dp la row seen sty lineO tokO atO baseO kindO partO colO openO strayO stk bys was gsd f39 f51 kX aX dX) H → va_D A (rW E a ln op dp la row seen sty lineO tokO atO baseO kindO partO colO openO strayO stk bys was gsd f39 f51 kX aX dX) → va_S A s.heap H locs → ∀ ls : Array Slot, lv_has ls 4 [(3, .int (nI i)), (0, .ref (a 0)), (1, .int (nI j)), (2, .int (nI t))] → W p l e (headSpec wsX6_copy ({ frames := 2, cells := 0, slots := 0, locals := 42 } : Room)).room s m ([.ref (a 0), .int (nI j), .int (nI t)] : List Value).toArray below meth c H locs 0 0 (MQ below (va_Qi (fun (r : Int32) (u : (Nat → Int32) × (Nat → Int32) × (Nat → Int32) × (Nat → Int32) × (Nat → Int32)) => r = (fCopy ab (nI j) (nI t)).1 ∧ RefOk ((fCopy ab (nI j) (nI t)).2) ln row seen sty u.1 u.2.1 u.2.2.1 u.2.2.2.1 u.2.2.2.2) (fun (u : (Nat → Int32) × (Nat → Int32) × (Nat → Int32) × (Nat → Int32) × (Nat → Int32)) tQ => va_P G vwCl (rW E a ln op dp la row seen sty lineO tokO atO baseO kindO partO colO openO strayO stk bys was gsd u.1 u.2.1 u.2.2.1 u.2.2.2.1 u.2.2.2.2) tQ.heap) A) ([.ref (a 0), .int (nI j), .int (nI t)] : List Value).toArray s 0 0 A) (F0 m 54 ls []) := by
          intro kk
          induction kk with
          | zero => intro i kX aX dX H locs hi h1 h2 h3 hkk; exact absurd hkk (Nat.not_lt_zero _)
          | succ kk ih54 =>
            intro i kX aX dX H locs hi h1 h2 h3 hkk hP hD hS ls hl
            refine lv_iload_n hx hb dX6_copy_54 rfl (lv_at hl 0 rfl) ?_
            refine lv_bipush (v := (nI 6)) hx hb dX6_copy_55 (by decide) ?_
            refine n_icmp_ge (a := i) (b := 6) (tgt := 132) hx hb (by omega) (by decide) dX6_copy_57 (by decide) (fun c57 => ?_) (fun c57 => ?_)
            · refine lv_iconst (v := (nI 1)) hx hb dX6_copy_132 (by decide) ?_
              exact W.iret (v := (nI 1)) hx hb hr (fun tZ htZ hWZ => ⟨⟨_, (f39, f51, kX, aX, dX), rfl, by rw [fCopy_ok hj ht (by omega)]; exact ⟨rfl, hN, okA_cp hok hj, hrn, hsn, hsg, by rw [h1, h2, h3, show i = 6 by omega, ef39, ef51]; exact pk_cp hj hpk2⟩, by show va_P G vwCl _ tZ.heap; rw [htZ]; exact hP⟩, hS.F htZ⟩) hS.2.2 dX6_copy_133
            · refine lv_aload_n hx hb dX6_copy_60 rfl (lv_at hl 1 rfl) ?_
              refine va_get (D := G) (ci := 6) (v := .ref (a 22)) (C := RX6) (T := TX6) (N := 25) hx hb hts hin6 hown hK hP 0 rfl rfl 22 (by decide) (hts (Cond.fieldLink RX6 64 "IndentRulesModel" "keptLine" "[I") (List.mem_of_getElem? (i := 3) rfl)) (fun _ h9 => h9) rfl dX6_copy_61 ?_
              refine lv_bipush (v := (nI 6)) hx hb dX6_copy_64 (by decide) ?_
              refine lv_iload_n hx hb dX6_copy_66 rfl (lv_at hl 3 rfl) ?_
              refine k_imul (a := 6) (b := t) hx hb dX6_copy_67 ?_
              refine lv_iload_n hx hb dX6_copy_68 rfl (lv_at hl 0 rfl) ?_
              refine k_iadd (a := (6 * t)) (b := i) hx hb dX6_copy_69 ?_
              refine lv_aload_n hx hb dX6_copy_70 rfl (lv_at hl 1 rfl) ?_
              refine va_get (D := G) (ci := 6) (v := .ref (a 22)) (C := RX6) (T := TX6) (N := 25) hx hb hts hin6 hown hK hP 0 rfl rfl 22 (by decide) (hts (Cond.fieldLink RX6 64 "IndentRulesModel" "keptLine" "[I") (List.mem_of_getElem? (i := 3) rfl)) (fun _ h9 => h9) rfl dX6_copy_71 ?_
              refine lv_bipush (v := (nI 6)) hx hb dX6_copy_74 (by decide) ?_
              refine lv_iload_n hx hb dX6_copy_76 rfl (lv_at hl 2 rfl) ?_
              refine k_imul (a := 6) (b := j) hx hb dX6_copy_77 ?_
              refine lv_iload_n hx hb dX6_copy_78 rfl (lv_at hl 0 rfl) ?_
              refine k_iadd (a := (6 * j)) (b := i) hx hb dX6_copy_79 ?_
              refine k_iald (D := G) (tys := TYS E) (j := (6 * j + i)) (f := kX) (n := 18) hx hb hK hP 19 0 rfl rfl (by omega) (by decide) dX6_copy_80 ?_
              refine k_iast (D := G) (tys := TYS E) (j := (6 * t + i)) (x := (kX (6 * j + i))) (f := kX) (n := 18) hx hb hK hP hD hS 19 0 rfl rfl (by omega) (by decide) dX6_copy_81 (fun H locs hP hD hS => ?_)
              have hP : va_P G vwCl (rW E a ln op dp la row seen sty lineO tokO atO baseO kindO partO colO openO strayO stk bys was gsd f39 f51 (upd kX (6 * t + i) (kX (6 * j + i))) aX dX) H := hP
              have hD : va_D A (rW E a ln op dp la row seen sty lineO tokO atO baseO kindO partO colO openO strayO stk bys was gsd f39 f51 (upd kX (6 * t + i) (kX (6 * j + i))) aX dX) := hD
              obtain ⟨f81, ef81⟩ : ∃ z : Nat → Int32, z = upd kX (6 * t + i) (kX (6 * j + i)) := ⟨_, rfl⟩
              rw [← ef81] at hP hD
              refine lv_aload_n hx hb dX6_copy_82 rfl (lv_at hl 1 rfl) ?_
              refine va_get (D := G) (ci := 6) (v := .ref (a 23)) (C := RX6) (T := TX6) (N := 25) hx hb hts hin6 hown hK hP 0 rfl rfl 23 (by decide) (hts (Cond.fieldLink RX6 67 "IndentRulesModel" "keptAt" "[I") (List.mem_of_getElem? (i := 4) rfl)) (fun _ h9 => h9) rfl dX6_copy_83 ?_
              refine lv_bipush (v := (nI 6)) hx hb dX6_copy_86 (by decide) ?_
              refine lv_iload_n hx hb dX6_copy_88 rfl (lv_at hl 3 rfl) ?_
              refine k_imul (a := 6) (b := t) hx hb dX6_copy_89 ?_
              refine lv_iload_n hx hb dX6_copy_90 rfl (lv_at hl 0 rfl) ?_
              refine k_iadd (a := (6 * t)) (b := i) hx hb dX6_copy_91 ?_
              refine lv_aload_n hx hb dX6_copy_92 rfl (lv_at hl 1 rfl) ?_
              refine va_get (D := G) (ci := 6) (v := .ref (a 23)) (C := RX6) (T := TX6) (N := 25) hx hb hts hin6 hown hK hP 0 rfl rfl 23 (by decide) (hts (Cond.fieldLink RX6 67 "IndentRulesModel" "keptAt" "[I") (List.mem_of_getElem? (i := 4) rfl)) (fun _ h9 => h9) rfl dX6_copy_93 ?_
              refine lv_bipush (v := (nI 6)) hx hb dX6_copy_96 (by decide) ?_
              refine lv_iload_n hx hb dX6_copy_98 rfl (lv_at hl 2 rfl) ?_
              refine k_imul (a := 6) (b := j) hx hb dX6_copy_99 ?_
              refine lv_iload_n hx hb dX6_copy_100 rfl (lv_at hl 0 rfl) ?_
              refine k_iadd (a := (6 * j)) (b := i) hx hb dX6_copy_101 ?_
              refine k_iald (D := G) (tys := TYS E) (j := (6 * j + i)) (f := aX) (n := 18) hx hb hK hP 20 0 rfl rfl (by omega) (by decide) dX6_copy_102 ?_
              refine k_iast (D := G) (tys := TYS E) (j := (6 * t + i)) (x := (aX (6 * j + i))) (f := aX) (n := 18) hx hb hK hP hD hS 20 0 rfl rfl (by omega) (by decide) dX6_copy_103 (fun H locs hP hD hS => ?_)
              have hP : va_P G vwCl (rW E a ln op dp la row seen sty lineO tokO atO baseO kindO partO colO openO strayO stk bys was gsd f39 f51 f81 (upd aX (6 * t + i) (aX (6 * j + i))) dX) H := hP
              have hD : va_D A (rW E a ln op dp la row seen sty lineO tokO atO baseO kindO partO colO openO strayO stk bys was gsd f39 f51 f81 (upd aX (6 * t + i) (aX (6 * j + i))) dX) := hD
              obtain ⟨f103, ef103⟩ : ∃ z : Nat → Int32, z = upd aX (6 * t + i) (aX (6 * j + i)) := ⟨_, rfl⟩
              rw [← ef103] at hP hD
              refine lv_aload_n hx hb dX6_copy_104 rfl (lv_at hl 1 rfl) ?_
              refine va_get (D := G) (ci := 6) (v := .ref (a 24)) (C := RX6) (T := TX6) (N := 25) hx hb hts hin6 hown hK hP 0 rfl rfl 24 (by decide) (hts (Cond.fieldLink RX6 70 "IndentRulesModel" "keptKind" "[I") (List.mem_of_getElem? (i := 5) rfl)) (fun _ h9 => h9) rfl dX6_copy_105 ?_
              refine lv_bipush (v := (nI 6)) hx hb dX6_copy_108 (by decide) ?_
              refine lv_iload_n hx hb dX6_copy_110 rfl (lv_at hl 3 rfl) ?_
              refine k_imul (a := 6) (b := t) hx hb dX6_copy_111 ?_
              refine lv_iload_n hx hb dX6_copy_112 rfl (lv_at hl 0 rfl) ?_
              refine k_iadd (a := (6 * t)) (b := i) hx hb dX6_copy_113 ?_
              refine lv_aload_n hx hb dX6_copy_114 rfl (lv_at hl 1 rfl) ?_
              refine va_get (D := G) (ci := 6) (v := .ref (a 24)) (C := RX6) (T := TX6) (N := 25) hx hb hts hin6 hown hK hP 0 rfl rfl 24 (by decide) (hts (Cond.fieldLink RX6 70 "IndentRulesModel" "keptKind" "[I") (List.mem_of_getElem? (i := 5) rfl)) (fun _ h9 => h9) rfl dX6_copy_115 ?_
              refine lv_bipush (v := (nI 6)) hx hb dX6_copy_118 (by decide) ?_
              refine lv_iload_n hx hb dX6_copy_120 rfl (lv_at hl 2 rfl) ?_
              refine k_imul (a := 6) (b := j) hx hb dX6_copy_121 ?_
              refine lv_iload_n hx hb dX6_copy_122 rfl (lv_at hl 0 rfl) ?_
              refine k_iadd (a := (6 * j)) (b := i) hx hb dX6_copy_123 ?_
              refine k_iald (D := G) (tys := TYS E) (j := (6 * j + i)) (f := dX) (n := 18) hx hb hK hP 21 0 rfl rfl (by omega) (by decide) dX6_copy_124 ?_
              refine k_iast (D := G) (tys := TYS E) (j := (6 * t + i)) (x := (dX (6 * j + i))) (f := dX) (n := 18) hx hb hK hP hD hS 21 0 rfl rfl (by omega) (by decide) dX6_copy_125 (fun H locs hP hD hS => ?_)
              have hP : va_P G vwCl (rW E a ln op dp la row seen sty lineO tokO atO baseO kindO partO colO openO strayO stk bys was gsd f39 f51 f81 f103 (upd dX (6 * t + i) (dX (6 * j + i)))) H := hP
              have hD : va_D A (rW E a ln op dp la row seen sty lineO tokO atO baseO kindO partO colO openO strayO stk bys was gsd f39 f51 f81 f103 (upd dX (6 * t + i) (dX (6 * j + i)))) := hD
              obtain ⟨f125, ef125⟩ : ∃ z : Nat → Int32, z = upd dX (6 * t + i) (dX (6 * j + i)) := ⟨_, rfl⟩
              rw [← ef125] at hP hD
              refine lv_iinc (v := (nI (i + 1))) (lv' := [(3, .int (nI (i + 1))), (0, .ref (a 0)), (1, .int (nI j)), (2, .int (nI t))]) hx hb dX6_copy_126 hl (k := 0) rfl (k_inc i) (by decide) rfl (fun ls hl => ?_)
              refine lv_goto (tgt := 54) hx hb dX6_copy_129 (by decide) ?_
              exact ih54 (i + 1) f81 f103 f125 _ _ (by omega) (by rw [ef81, h1]; exact cpF_step kLine (by omega)) (by rw [ef103, h2]; exact cpF_step kAt (by omega)) (by rw [ef125, h3]; exact cpF_step kKind (by omega)) (by omega) hP hD hS ls (lv_sub hl [0, 1, 2, 3] rfl)
        exact lp54 (6 - 0 + 1) 0 kLine kAt kKind _ _ (by decide) (by funext w; unfold cpF; rw [if_neg (by omega)]) (by funext w; unfold cpF; rw [if_neg (by omega)]) (by funext w; unfold cpF; rw [if_neg (by omega)]) (Nat.lt_succ_self _) hP hD hS ls (lv_sub hl [0, 1, 2, 3] rfl)
      · refine lv_bipush (v := (-3)) hx hb dX6_copy_25 (by decide) ?_
        exact W.iret (v := (-3)) hx hb hr (fun tZ htZ hWZ => ⟨⟨_, (cellsO, sortO, kLine, kAt, kKind), rfl, by rw [fCopy_3 hj ht c22]; exact ⟨rfl, hab⟩, by show va_P G vwCl _ tZ.heap; rw [htZ]; exact hP⟩, hS.F htZ⟩) hS.2.2 dX6_copy_27
    · have hno8 : ¬ ixP y 3 := fun q => h8 ((ixP_iff (by decide)).mp q)
      refine n_if_ne (a := 0) (tgt := 16) hx hb (by decide) dX6_copy_11 (by decide) (fun c11 => absurd c11 (by decide)) (fun c11 => ?_)
      refine lv_iconst (v := (-1)) hx hb dX6_copy_14 (by decide) ?_
      exact W.iret (v := (-1)) hx hb hr (fun tZ htZ hWZ => ⟨⟨_, (cellsO, sortO, kLine, kAt, kKind), rfl, by rw [fCopy_1 (fun q => hno8 q.2)]; exact ⟨rfl, hab⟩, by show va_P G vwCl _ tZ.heap; rw [htZ]; exact hP⟩, hS.F htZ⟩) hS.2.2 dX6_copy_15
  · have hno1 : ¬ ixP x 3 := fun q => h1 ((ixP_iff (by decide)).mp q)
    refine n_if_eq (a := 0) (tgt := 14) hx hb (by decide) dX6_copy_4 (by decide) (fun c4 => ?_) (fun c4 => absurd c4 (by decide))
    refine lv_iconst (v := (-1)) hx hb dX6_copy_14 (by decide) ?_
    exact W.iret (v := (-1)) hx hb hr (fun tZ htZ hWZ => ⟨⟨_, (cellsO, sortO, kLine, kAt, kKind), rfl, by rw [fCopy_1 (fun q => hno1 q.1)]; exact ⟨rfl, hab⟩, by show va_P G vwCl _ tZ.heap; rw [htZ]; exact hP⟩, hS.F htZ⟩) hS.2.2 dX6_copy_15

set_option maxHeartbeats 4000000 in
set_option maxRecDepth 100000 in
theorem c_X6_ofPocket (l : Launch) (G : va_G) (E : cEnv) (a : Nat → Nat) (ln op dp la : Nat) (row seen sty lineO tokO atO baseO kindO partO colO openO strayO stk bys was gsd cellsO sortO kLine kAt kKind : Nat → Int32) (x y z : Int32) (ab : ABS) (hab : RefOk ab ln row seen sty cellsO sortO kLine kAt kKind) : Met l yX6_ofPocket wsX6_ofPocket ({ frames := 2, cells := 0, slots := 0, locals := 42 }) (va_Pc [.ref (a 0), .int x, .int y, .int z] (PR G E (rW E a ln op dp la row seen sty lineO tokO atO baseO kindO partO colO openO strayO stk bys was gsd cellsO sortO kLine kAt kKind))) (vp_Si (fun r => r = fOfPocket ab x y z)) 0 0 (fun _ => False) := by
  refine Met.ofW (cc := cX6_ofPocket) (maxL := 5) (ret := (some .int)) (by decide) rfl ?_
  intro p e s m args below meth c s₁ B hml hv
  obtain ⟨rfl, hP, hK, hZ⟩ := hv
  have hx := B.exec
  have hb := B.bytes
  have hr := B.returns
  have hts := atoms_spec (ws := wsX6_ofPocket) B.pre
  have hown : s.vm.findClass RX6 = some m.cls := findClass_of_methodNamed B.named
  have hlocks := B.notSynchronized
  have hin6 : ∀ w ∈ u_ws RX6 TX6 25, w ∈ wsX6_ofPocket := mem_pl [12, 13, 14, 15, 16, 17, 18, 19, 20, 21, 22, 23, 24, 25, 26, 27, 28, 29, 30, 31, 32, 33, 34, 35, 36] (by rfl)
  have hS : va_S (fun _ => False) s.heap s.heap [] := va_S.rf
  have hl := lv_entry ([.ref (a 0), .int x, .int y, .int z]) (n := 5) (Nat.le_of_ble_eq_true rfl)
  rw [lg_entry_eq]
  generalize (lg_sl ([.ref (a 0), .int x, .int y, .int z]) ++ List.replicate (5 - (lg_sl ([.ref (a 0), .int x, .int y, .int z])).length) Slot.unset).toArray = ls at hl ⊢
  have hl : lv_has ls 5 [(0, .ref (a 0)), (1, .int x), (2, .int y), (3, .int z)] := hl
  obtain ⟨hN, hok, hrn, hsn, hsg, hpk⟩ := id hab
  have hln : ln ≤ 20 := by rw [hN]; exact hok.1
  refine lv_iload_n hx hb dX6_ofPocket_0 rfl (lv_at hl 1 rfl) ?_
  refine rs_i (n := 1) (G := G) (E := E) (As := [.int x]) (rest := []) ⟨hx, hb, hml, hown, hts⟩ hK hZ hS (c_X6_isPocket l G E x) gX6_ofPocket_X6_isPocket rfl rfl rfl (by decide +kernel) ⟨Nat.le_of_ble_eq_true rfl, Nat.le_of_ble_eq_true rfl⟩ (fun k q h => by simp at h) hl.1 rfl rfl (Nat.le_of_ble_eq_true rfl) dX6_ofPocket_1 ⟨Nat.zero_le _, Nat.zero_le _⟩ (fun r1 p1 => ?_)
  rcases p1 with ⟨⟨j, hj, rfl⟩, rfl⟩ | ⟨h1, rfl⟩
  · refine n_if_ne (a := 1) (tgt := 9) hx hb (by decide) dX6_ofPocket_4 (by decide) (fun c4 => ?_) (fun c4 => absurd c4 (by decide))
    refine lv_iload_n hx hb dX6_ofPocket_9 rfl (lv_at hl 3 rfl) ?_
    refine lv_iconst (v := (nI 0)) hx hb dX6_ofPocket_10 (by decide) ?_
    refine lv_iconst (v := (nI 2)) hx hb dX6_ofPocket_11 (by decide) ?_
    refine rs_i (n := 3) (G := G) (E := E) (As := [.int z, .int (nI 0), .int (nI 2)]) (rest := []) ⟨hx, hb, hml, hown, hts⟩ hK hZ hS (c_X6_within l G E z (nI 0) (nI 2)) gX6_ofPocket_X6_within rfl rfl rfl (by decide +kernel) ⟨Nat.le_of_ble_eq_true rfl, Nat.le_of_ble_eq_true rfl⟩ (fun k q h => by simp at h) hl.1 rfl rfl (Nat.le_of_ble_eq_true rfl) dX6_ofPocket_12 ⟨Nat.zero_le _, Nat.zero_le _⟩ (fun r12 p12 => ?_)
    rcases p12 with ⟨h12, rfl⟩ | ⟨h12, rfl⟩
    · obtain ⟨w, _, hw, rfl⟩ := (w_rg (by decide) (by decide)).mp h12
      refine n_if_ne (a := 1) (tgt := 21) hx hb (by decide) dX6_ofPocket_15 (by decide) (fun c15 => ?_) (fun c15 => absurd c15 (by decide))
      refine lv_aload_n hx hb dX6_ofPocket_21 rfl (lv_at hl 0 rfl) ?_
      refine va_get (D := G) (ci := 6) (v := .ref (a 20)) (C := RX6) (T := TX6) (N := 25) hx hb hts hin6 hown hK hP 0 rfl rfl 20 (by decide) (hts (Cond.fieldLink RX6 58 "IndentRulesModel" "cellsOf" "[I") (List.mem_of_getElem? (i := 1) rfl)) (fun _ h9 => h9) rfl dX6_ofPocket_22 ?_
      refine lv_iload_n hx hb dX6_ofPocket_25 rfl (lv_at hl 1 rfl) ?_
      refine k_iald (D := G) (tys := TYS E) (j := j) (f := cellsO) (n := 3) hx hb hK hP 17 0 rfl rfl (by omega) (by decide) dX6_ofPocket_26 ?_
      rw [(hpk j hj).1]
      refine n_if_ne (a := (aC ab j)) (tgt := 33) hx hb (by have := (hok.2.2 j hj).1; omega) dX6_ofPocket_27 (by decide) (fun c27 => ?_) (fun c27 => ?_)
      · refine lv_iload_n hx hb dX6_ofPocket_33 rfl (lv_at hl 2 rfl) ?_
        refine lv_iconst (v := (nI 0)) hx hb dX6_ofPocket_34 (by decide) ?_
        refine lv_aload_n hx hb dX6_ofPocket_35 rfl (lv_at hl 0 rfl) ?_
        refine va_get (D := G) (ci := 6) (v := .ref (a 20)) (C := RX6) (T := TX6) (N := 25) hx hb hts hin6 hown hK hP 0 rfl rfl 20 (by decide) (hts (Cond.fieldLink RX6 58 "IndentRulesModel" "cellsOf" "[I") (List.mem_of_getElem? (i := 1) rfl)) (fun _ h9 => h9) rfl dX6_ofPocket_36 ?_
        refine lv_iload_n hx hb dX6_ofPocket_39 rfl (lv_at hl 1 rfl) ?_
        refine k_iald (D := G) (tys := TYS E) (j := j) (f := cellsO) (n := 3) hx hb hK hP 17 0 rfl rfl (by omega) (by decide) dX6_ofPocket_40 ?_
        rw [(hpk j hj).1]
        refine lv_iconst (v := (nI 1)) hx hb dX6_ofPocket_41 (by decide) ?_
        refine k_isub (a := (aC ab j)) (b := 1) hx hb (by omega) dX6_ofPocket_42 ?_
        refine rs_i (n := 3) (G := G) (E := E) (As := [.int y, .int (nI 0), .int (nI ((aC ab j) - 1))]) (rest := []) ⟨hx, hb, hml, hown, hts⟩ hK hZ hS (c_X6_within l G E y (nI 0) (nI ((aC ab j) - 1))) gX6_ofPocket_X6_within rfl rfl rfl (by decide +kernel) ⟨Nat.le_of_ble_eq_true rfl, Nat.le_of_ble_eq_true rfl⟩ (fun k q h => by simp at h) hl.1 rfl rfl (Nat.le_of_ble_eq_true rfl) dX6_ofPocket_43 ⟨Nat.zero_le _, Nat.zero_le _⟩ (fun r43 p43 => ?_)
        rcases p43 with ⟨h43, rfl⟩ | ⟨h43, rfl⟩
        · obtain ⟨i, _, hi, rfl⟩ := (w_rg (by decide) (by have := (hok.2.2 j hj).1; omega)).mp h43
          refine n_if_ne (a := 1) (tgt := 52) hx hb (by decide) dX6_ofPocket_46 (by decide) (fun c46 => ?_) (fun c46 => absurd c46 (by decide))
          refine lv_bipush (v := (nI 6)) hx hb dX6_ofPocket_52 (by decide) ?_
          refine lv_iload_n hx hb dX6_ofPocket_54 rfl (lv_at hl 1 rfl) ?_
          refine k_imul (a := 6) (b := j) hx hb dX6_ofPocket_55 ?_
          refine lv_iload_n hx hb dX6_ofPocket_56 rfl (lv_at hl 2 rfl) ?_
          refine k_iadd (a := (6 * j)) (b := i) hx hb dX6_ofPocket_57 ?_
          refine lv_istore (lv' := [(4, .int (nI (6 * j + i))), (0, .ref (a 0)), (1, .int (nI j)), (2, .int (nI i)), (3, .int (nI w))]) hx hb dX6_ofPocket_58 hl (by decide) rfl (fun ls hl => ?_)
          refine lv_aload_n hx hb dX6_ofPocket_60 rfl (lv_at hl 1 rfl) ?_
          refine va_get (D := G) (ci := 6) (v := .ref (a 22)) (C := RX6) (T := TX6) (N := 25) hx hb hts hin6 hown hK hP 0 rfl rfl 22 (by decide) (hts (Cond.fieldLink RX6 64 "IndentRulesModel" "keptLine" "[I") (List.mem_of_getElem? (i := 2) rfl)) (fun _ h9 => h9) rfl dX6_ofPocket_61 ?_
          refine lv_iload hx hb dX6_ofPocket_64 (lv_at hl 0 rfl) ?_
          refine k_iald (D := G) (tys := TYS E) (j := (6 * j + i)) (f := kLine) (n := 18) hx hb hK hP 19 0 rfl rfl (by have := (hok.2.2 j hj).1; omega) (by decide) dX6_ofPocket_66 ?_
          refine lv_bipush (v := (-9)) hx hb dX6_ofPocket_67 (by decide) ?_
          refine lv_icmp_ne (x := (kLine (6 * j + i))) (y := (-9)) (tgt := 75) hx hb dX6_ofPocket_69 (by decide) (fun c69 => ?_) (fun c69 => ?_)
          · have hk2 := ((hpk j hj).2.2 i (by have := (hok.2.2 j hj).1; omega)).2 (fun q => c69 (by rw [((hpk j hj).2.2 i (by have := (hok.2.2 j hj).1; omega)).1]; exact q))
            refine lv_iload_n hx hb dX6_ofPocket_75 rfl (lv_at hl 4 rfl) ?_
            refine n_if_ne (a := w) (tgt := 89) hx hb (by omega) dX6_ofPocket_76 (by decide) (fun c76 => ?_) (fun c76 => ?_)
            · refine lv_iload_n hx hb dX6_ofPocket_89 rfl (lv_at hl 4 rfl) ?_
              refine lv_iconst (v := (nI 1)) hx hb dX6_ofPocket_90 (by decide) ?_
              refine n_icmp_ne (a := w) (b := 1) (tgt := 104) hx hb (by omega) (by decide) dX6_ofPocket_91 (by decide) (fun c91 => ?_) (fun c91 => ?_)
              · refine lv_aload_n hx hb dX6_ofPocket_104 rfl (lv_at hl 1 rfl) ?_
                refine va_get (D := G) (ci := 6) (v := .ref (a 24)) (C := RX6) (T := TX6) (N := 25) hx hb hts hin6 hown hK hP 0 rfl rfl 24 (by decide) (hts (Cond.fieldLink RX6 70 "IndentRulesModel" "keptKind" "[I") (List.mem_of_getElem? (i := 4) rfl)) (fun _ h9 => h9) rfl dX6_ofPocket_105 ?_
                refine lv_iload hx hb dX6_ofPocket_108 (lv_at hl 0 rfl) ?_
                refine k_iald (D := G) (tys := TYS E) (j := (6 * j + i)) (f := kKind) (n := 18) hx hb hK hP 21 0 rfl rfl (by have := (hok.2.2 j hj).1; omega) (by decide) dX6_ofPocket_110 ?_
                rw [hk2.2]
                exact W.iret (v := (aK ab j i)) hx hb hr (fun tZ htZ hWZ => ⟨_, rfl, by unfold fOfPocket; rw [if_pos (ixP_n hj (by decide)), if_pos (ixP_n (by omega) (by decide)), ix_n (by omega), if_neg (by omega), if_pos (ixP_n (by omega) (by have := (hok.2.2 j hj).1; omega)), ix_n (by have := (hok.2.2 j hj).1; omega), show w = 2 by omega, if_neg (by decide), if_neg (by decide)], htZ⟩) (fun _ h => by cases h) dX6_ofPocket_111
              · refine lv_aload_n hx hb dX6_ofPocket_94 rfl (lv_at hl 1 rfl) ?_
                refine va_get (D := G) (ci := 6) (v := .ref (a 23)) (C := RX6) (T := TX6) (N := 25) hx hb hts hin6 hown hK hP 0 rfl rfl 23 (by decide) (hts (Cond.fieldLink RX6 67 "IndentRulesModel" "keptAt" "[I") (List.mem_of_getElem? (i := 3) rfl)) (fun _ h9 => h9) rfl dX6_ofPocket_95 ?_
                refine lv_iload hx hb dX6_ofPocket_98 (lv_at hl 0 rfl) ?_
                refine k_iald (D := G) (tys := TYS E) (j := (6 * j + i)) (f := kAt) (n := 18) hx hb hK hP 20 0 rfl rfl (by have := (hok.2.2 j hj).1; omega) (by decide) dX6_ofPocket_100 ?_
                rw [hk2.1]
                refine lv_goto (tgt := 111) hx hb dX6_ofPocket_101 (by decide) ?_
                exact W.iret (v := (aA ab j i)) hx hb hr (fun tZ htZ hWZ => ⟨_, rfl, by unfold fOfPocket; rw [if_pos (ixP_n hj (by decide)), if_pos (ixP_n (by omega) (by decide)), ix_n (by omega), if_neg (by omega), if_pos (ixP_n (by omega) (by have := (hok.2.2 j hj).1; omega)), ix_n (by have := (hok.2.2 j hj).1; omega), show w = 1 by omega, if_neg (by decide), if_pos rfl], htZ⟩) (fun _ h => by cases h) dX6_ofPocket_111
            · refine lv_aload_n hx hb dX6_ofPocket_79 rfl (lv_at hl 1 rfl) ?_
              refine va_get (D := G) (ci := 6) (v := .ref (a 22)) (C := RX6) (T := TX6) (N := 25) hx hb hts hin6 hown hK hP 0 rfl rfl 22 (by decide) (hts (Cond.fieldLink RX6 64 "IndentRulesModel" "keptLine" "[I") (List.mem_of_getElem? (i := 2) rfl)) (fun _ h9 => h9) rfl dX6_ofPocket_80 ?_
              refine lv_iload hx hb dX6_ofPocket_83 (lv_at hl 0 rfl) ?_
              refine k_iald (D := G) (tys := TYS E) (j := (6 * j + i)) (f := kLine) (n := 18) hx hb hK hP 19 0 rfl rfl (by have := (hok.2.2 j hj).1; omega) (by decide) dX6_ofPocket_85 ?_
              rw [((hpk j hj).2.2 i (by have := (hok.2.2 j hj).1; omega)).1]
              refine lv_goto (tgt := 111) hx hb dX6_ofPocket_86 (by decide) ?_
              exact W.iret (v := (aL ab j i)) hx hb hr (fun tZ htZ hWZ => ⟨_, rfl, by unfold fOfPocket; rw [if_pos (ixP_n hj (by decide)), if_pos (ixP_n (by omega) (by decide)), ix_n (by omega), if_neg (by omega), if_pos (ixP_n (by omega) (by have := (hok.2.2 j hj).1; omega)), ix_n (by have := (hok.2.2 j hj).1; omega), show w = 0 by omega, if_pos rfl], htZ⟩) (fun _ h => by cases h) dX6_ofPocket_111
          · refine lv_bipush (v := (-9)) hx hb dX6_ofPocket_72 (by decide) ?_
            exact W.iret (v := (-9)) hx hb hr (fun tZ htZ hWZ => ⟨_, rfl, by unfold fOfPocket; rw [if_pos (ixP_n hj (by decide)), if_pos (ixP_n (by omega) (by decide)), ix_n (by omega), if_neg (by omega), if_pos (ixP_n (by omega) (by have := (hok.2.2 j hj).1; omega)), ix_n (by have := (hok.2.2 j hj).1; omega)]; obtain ⟨e1, e2⟩ := (hok.2.2 j hj).2.2 i (by have := (hok.2.2 j hj).1; omega) (by rw [← c69]; exact ((hpk j hj).2.2 i (by have := (hok.2.2 j hj).1; omega)).1.symm); rw [e1, e2, show aL ab j i = -9 from by rw [← c69]; exact ((hpk j hj).2.2 i (by have := (hok.2.2 j hj).1; omega)).1.symm]; simp, htZ⟩) (fun _ h => by cases h) dX6_ofPocket_74
        · have hx2 : ¬ ixP y (aC ab j) := fun q => h43 (by rw [w_rgx (by have := (hok.2.2 j hj).1; omega), show aC ab j - 1 + 1 = aC ab j by omega]; exact q)
          refine n_if_ne (a := 0) (tgt := 52) hx hb (by decide) dX6_ofPocket_46 (by decide) (fun c46 => absurd c46 (by decide)) (fun c46 => ?_)
          refine lv_bipush (v := (-13)) hx hb dX6_ofPocket_49 (by decide) ?_
          exact W.iret (v := (-13)) hx hb hr (fun tZ htZ hWZ => ⟨_, rfl, by unfold fOfPocket; rw [if_pos (ixP_n hj (by decide)), if_pos (ixP_n (by omega) (by decide)), ix_n (by omega), if_neg (by omega), if_neg hx2], htZ⟩) (fun _ h => by cases h) dX6_ofPocket_51
      · refine lv_bipush (v := (-3)) hx hb dX6_ofPocket_30 (by decide) ?_
        exact W.iret (v := (-3)) hx hb hr (fun tZ htZ hWZ => ⟨_, rfl, by unfold fOfPocket; rw [if_pos (ixP_n hj (by decide)), if_pos (ixP_n (by omega) (by decide)), ix_n (by omega), if_pos c27], htZ⟩) (fun _ h => by cases h) dX6_ofPocket_32
    · have hx1 : ¬ ixP z 3 := fun q => h12 ((w_rgx (n := 2) (by decide)).mpr q)
      refine n_if_ne (a := 0) (tgt := 21) hx hb (by decide) dX6_ofPocket_15 (by decide) (fun c15 => absurd c15 (by decide)) (fun c15 => ?_)
      refine lv_bipush (v := (-2)) hx hb dX6_ofPocket_18 (by decide) ?_
      exact W.iret (v := (-2)) hx hb hr (fun tZ htZ hWZ => ⟨_, rfl, by unfold fOfPocket; rw [if_pos (ixP_n hj (by decide)), if_neg hx1], htZ⟩) (fun _ h => by cases h) dX6_ofPocket_20
  · have hno1 : ¬ ixP x 3 := fun q => h1 ((ixP_iff (by decide)).mp q)
    refine n_if_ne (a := 0) (tgt := 9) hx hb (by decide) dX6_ofPocket_4 (by decide) (fun c4 => absurd c4 (by decide)) (fun c4 => ?_)
    refine lv_iconst (v := (-1)) hx hb dX6_ofPocket_7 (by decide) ?_
    exact W.iret (v := (-1)) hx hb hr (fun tZ htZ hWZ => ⟨_, rfl, by unfold fOfPocket; rw [if_neg hno1], htZ⟩) (fun _ h => by cases h) dX6_ofPocket_8

set_option maxHeartbeats 4000000 in
set_option maxRecDepth 100000 in
theorem c_X6_manyWithout (l : Launch) (G : va_G) (E : cEnv) (a : Nat → Nat) (ln op dp la : Nat) (row seen sty lineO tokO atO baseO kindO partO colO openO strayO stk bys was gsd cellsO sortO kLine kAt kKind : Nat → Int32) (F : Nat → Nat → Nat) (hop : op ≤ 180) (hpt : ∀ k, k < op → partO k = pv (F 5 k)) : Met l yX6_manyWithout wsX6_manyWithout ({ frames := 0, cells := 0, slots := 0, locals := 0 }) (va_Pc [.ref (a 0)] (PR G E (rW E a ln op dp la row seen sty lineO tokO atO baseO kindO partO colO openO strayO stk bys was gsd cellsO sortO kLine kAt kKind))) (vp_Si (fun r => r = nI (mnP F op))) 0 0 (fun _ => False) := by
  refine Met.ofW (cc := cX6_manyWithout) (maxL := 3) (ret := (some .int)) (by decide) rfl ?_
  intro p e s m args below meth c s₁ B hml hv
  obtain ⟨rfl, hP, hK, hZ⟩ := hv
  have hx := B.exec
  have hb := B.bytes
  have hr := B.returns
  have hts := atoms_spec (ws := wsX6_manyWithout) B.pre
  have hown : s.vm.findClass RX6 = some m.cls := findClass_of_methodNamed B.named
  have hlocks := B.notSynchronized
  have hin6 : ∀ w ∈ u_ws RX6 TX6 25, w ∈ wsX6_manyWithout := mem_pl [3, 4, 5, 6, 7, 8, 9, 10, 11, 12, 13, 14, 15, 16, 17, 18, 19, 20, 21, 22, 23, 24, 25, 26, 27] (by rfl)
  have hS : va_S (fun _ => False) s.heap s.heap [] := va_S.rf
  have hl := lv_entry ([.ref (a 0)]) (n := 3) (Nat.le_of_ble_eq_true rfl)
  rw [lg_entry_eq]
  generalize (lg_sl ([.ref (a 0)]) ++ List.replicate (3 - (lg_sl ([.ref (a 0)])).length) Slot.unset).toArray = ls at hl ⊢
  have hl : lv_has ls 3 [(0, .ref (a 0))] := hl
  refine lv_iconst (v := (nI 0)) hx hb dX6_manyWithout_0 (by decide) ?_
  refine lv_istore_n (lv' := [(1, .int (nI 0)), (0, .ref (a 0))]) hx hb dX6_manyWithout_1 rfl hl (by decide) rfl (fun ls hl => ?_)
  refine lv_iconst (v := (nI 0)) hx hb dX6_manyWithout_2 (by decide) ?_
  refine lv_istore_n (lv' := [(2, .int (nI 0)), (1, .int (nI 0)), (0, .ref (a 0))]) hx hb dX6_manyWithout_3 rfl hl (by decide) rfl (fun ls hl => ?_)
  have lp4 : ∀ (kk : Nat) (nn : Nat) (i : Nat), (i ≤ op) → (nn = mnP F i) → op - i < kk → ∀ ls : Array Slot, lv_has ls 3 [(2, .int (nI i)), (1, .int (nI nn)), (0, .ref (a 0))] → W p l e (headSpec wsX6_manyWithout ({ frames := 0, cells := 0, slots := 0, locals := 0 } : Room)).room s m ([.ref (a 0)] : List Value).toArray below meth c s.heap [] 0 0 (MQ below (vp_Si (fun r => r = nI (mnP F op))) ([.ref (a 0)] : List Value).toArray s 0 0 (fun _ => False)) (F0 m 4 ls []) := by
    intro kk
    induction kk with
    | zero => intro nn i  hi hnn hkk; exact absurd hkk (Nat.not_lt_zero _)
    | succ kk ih4 =>
      intro nn i hi hnn hkk ls hl
      refine lv_iload_n hx hb dX6_manyWithout_4 rfl (lv_at hl 0 rfl) ?_
      refine lv_aload_n hx hb dX6_manyWithout_5 rfl (lv_at hl 2 rfl) ?_
      refine va_get (D := G) (ci := 6) (v := .int (nI op)) (C := RX6) (T := TX6) (N := 25) hx hb hts hin6 hown hK hP 0 rfl rfl 4 (by decide) (hts (Cond.fieldLink RX6 95 "IndentRulesModel" "openers" "I") (List.mem_of_getElem? (i := 1) rfl)) (fun _ h9 => h9) rfl dX6_manyWithout_6 ?_
      refine n_icmp_ge (a := i) (b := op) (tgt := 37) hx hb (by omega) (by omega) dX6_manyWithout_9 (by decide) (fun c9 => ?_) (fun c9 => ?_)
      · refine lv_iload_n hx hb dX6_manyWithout_37 rfl (lv_at hl 1 rfl) ?_
        exact W.iret (v := (nI nn)) hx hb hr (fun tZ htZ hWZ => ⟨_, rfl, by rw [hnn, show i = op by omega], htZ⟩) (fun _ h => by cases h) dX6_manyWithout_38
      · refine lv_iload_n hx hb dX6_manyWithout_12 rfl (lv_at hl 1 rfl) ?_
        refine lv_aload_n hx hb dX6_manyWithout_13 rfl (lv_at hl 2 rfl) ?_
        refine va_get (D := G) (ci := 6) (v := .ref (a 10)) (C := RX6) (T := TX6) (N := 25) hx hb hts hin6 hown hK hP 0 rfl rfl 10 (by decide) (hts (Cond.fieldLink RX6 34 "IndentRulesModel" "partnerOf" "[I") (List.mem_of_getElem? (i := 2) rfl)) (fun _ h9 => h9) rfl dX6_manyWithout_14 ?_
        refine lv_iload_n hx hb dX6_manyWithout_17 rfl (lv_at hl 0 rfl) ?_
        refine k_iald (D := G) (tys := TYS E) (j := i) (f := partO) (n := 180) hx hb hK hP 9 0 rfl rfl (by omega) (by decide) dX6_manyWithout_18 ?_
        rw [hpt i (by omega)]
        refine lv_bipush (v := (-9)) hx hb dX6_manyWithout_19 (by decide) ?_
        refine lv_icmp_ne (x := (pv (F 5 i))) (y := (-9)) (tgt := 28) hx hb dX6_manyWithout_21 (by decide) (fun c21 => ?_) (fun c21 => ?_)
        · refine lv_iconst (v := (nI 0)) hx hb dX6_manyWithout_28 (by decide) ?_
          refine k_iadd (a := nn) (b := 0) hx hb dX6_manyWithout_29 ?_
          refine lv_istore_n (lv' := [(1, .int (nI (nn + 0))), (2, .int (nI i)), (0, .ref (a 0))]) hx hb dX6_manyWithout_30 rfl hl (by decide) rfl (fun ls hl => ?_)
          refine lv_iinc (v := (nI (i + 1))) (lv' := [(2, .int (nI (i + 1))), (1, .int (nI (nn + 0))), (0, .ref (a 0))]) hx hb dX6_manyWithout_31 hl (k := 1) rfl (k_inc i) (by decide) rfl (fun ls hl => ?_)
          refine lv_goto (tgt := 4) hx hb dX6_manyWithout_34 (by decide) ?_
          exact ih4 (nn + 0) (i + 1) (by omega) (by rw [hnn]; show _ = mnP F i + _; rw [if_neg c21]) (by omega) ls (lv_sub hl [0, 1, 2] rfl)
        · refine lv_iconst (v := (nI 1)) hx hb dX6_manyWithout_24 (by decide) ?_
          refine lv_goto (tgt := 29) hx hb dX6_manyWithout_25 (by decide) ?_
          refine k_iadd (a := nn) (b := 1) hx hb dX6_manyWithout_29 ?_
          refine lv_istore_n (lv' := [(1, .int (nI (nn + 1))), (2, .int (nI i)), (0, .ref (a 0))]) hx hb dX6_manyWithout_30 rfl hl (by decide) rfl (fun ls hl => ?_)
          refine lv_iinc (v := (nI (i + 1))) (lv' := [(2, .int (nI (i + 1))), (1, .int (nI (nn + 1))), (0, .ref (a 0))]) hx hb dX6_manyWithout_31 hl (k := 1) rfl (k_inc i) (by decide) rfl (fun ls hl => ?_)
          refine lv_goto (tgt := 4) hx hb dX6_manyWithout_34 (by decide) ?_
          exact ih4 (nn + 1) (i + 1) (by omega) (by rw [hnn]; show _ = mnP F i + _; rw [if_pos c21]) (by omega) ls (lv_sub hl [0, 1, 2] rfl)
  exact lp4 (op - 0 + 1) 0 0 (Nat.zero_le _) rfl (Nat.lt_succ_self _) ls (lv_sub hl [0, 1, 2] rfl)

set_option maxHeartbeats 4000000 in
set_option maxRecDepth 100000 in
theorem c_X6_manyOf (l : Launch) (G : va_G) (E : cEnv) (a : Nat → Nat) (ln op dp la : Nat) (row seen sty lineO tokO atO baseO kindO partO colO openO strayO stk bys was gsd cellsO sortO kLine kAt kKind : Nat → Int32) (w : Nat) (ab : ABS) (hab : RefOk ab ln row seen sty cellsO sortO kLine kAt kKind) (hw1 : 3 ≤ w) (hw2 : w ≤ 5) (hst : ∀ k, k < ln → strayO k = nI (nF (aNest ab) 7 k)) : Met l yX6_manyOf wsX6_manyOf ({ frames := 1, cells := 0, slots := 0, locals := 22 }) (va_Pc [.ref (a 0), .int (nI w)] (PR G E (rW E a ln op dp la row seen sty lineO tokO atO baseO kindO partO colO openO strayO stk bys was gsd cellsO sortO kLine kAt kKind))) (vp_Si (fun r => r = nI (if w = 3 then mnS (nF (aNest ab)) (aN ab) else if w = 4 then mnSeen (aS ab) (aN ab) else mnT (aR ab) (aN ab)))) 0 0 (fun _ => False) := by
  refine Met.ofW (cc := cX6_manyOf) (maxL := 4) (ret := (some .int)) (by decide) rfl ?_
  intro p e s m args below meth c s₁ B hml hv
  obtain ⟨rfl, hP, hK, hZ⟩ := hv
  have hx := B.exec
  have hb := B.bytes
  have hr := B.returns
  have hts := atoms_spec (ws := wsX6_manyOf) B.pre
  have hown : s.vm.findClass RX6 = some m.cls := findClass_of_methodNamed B.named
  have hlocks := B.notSynchronized
  have hin6 : ∀ w ∈ u_ws RX6 TX6 25, w ∈ wsX6_manyOf := mem_pl [9, 10, 11, 12, 13, 14, 15, 16, 17, 18, 19, 20, 21, 22, 23, 24, 25, 26, 27, 28, 29, 30, 31, 32, 33] (by rfl)
  have hS : va_S (fun _ => False) s.heap s.heap [] := va_S.rf
  have hl := lv_entry ([.ref (a 0), .int (nI w)]) (n := 4) (Nat.le_of_ble_eq_true rfl)
  rw [lg_entry_eq]
  generalize (lg_sl ([.ref (a 0), .int (nI w)]) ++ List.replicate (4 - (lg_sl ([.ref (a 0), .int (nI w)])).length) Slot.unset).toArray = ls at hl ⊢
  have hl : lv_has ls 4 [(0, .ref (a 0)), (1, .int (nI w))] := hl
  obtain ⟨hN, hok, hrn, hsn, hsg, hpk⟩ := id hab
  have hln : ln ≤ 20 := by rw [hN]; exact hok.1
  refine lv_iconst (v := (nI 0)) hx hb dX6_manyOf_0 (by decide) ?_
  refine lv_istore_n (lv' := [(2, .int (nI 0)), (0, .ref (a 0)), (1, .int (nI w))]) hx hb dX6_manyOf_1 rfl hl (by decide) rfl (fun ls hl => ?_)
  refine lv_iconst (v := (nI 0)) hx hb dX6_manyOf_2 (by decide) ?_
  refine lv_istore_n (lv' := [(3, .int (nI 0)), (2, .int (nI 0)), (0, .ref (a 0)), (1, .int (nI w))]) hx hb dX6_manyOf_3 rfl hl (by decide) rfl (fun ls hl => ?_)
  have lp4 : ∀ (kk : Nat) (nn : Nat) (i : Nat), (i ≤ ln) → (nn = (if w = 3 then mnS (nF (aNest ab)) i else if w = 4 then mnSeen (aS ab) i else mnT (aR ab) i)) → ln - i < kk → ∀ ls : Array Slot, lv_has ls 4 [(3, .int (nI i)), (2, .int (nI nn)), (0, .ref (a 0)), (1, .int (nI w))] → W p l e (headSpec wsX6_manyOf ({ frames := 1, cells := 0, slots := 0, locals := 22 } : Room)).room s m ([.ref (a 0), .int (nI w)] : List Value).toArray below meth c s.heap [] 0 0 (MQ below (vp_Si (fun r => r = nI (if w = 3 then mnS (nF (aNest ab)) (aN ab) else if w = 4 then mnSeen (aS ab) (aN ab) else mnT (aR ab) (aN ab)))) ([.ref (a 0), .int (nI w)] : List Value).toArray s 0 0 (fun _ => False)) (F0 m 4 ls []) := by
    intro kk
    induction kk with
    | zero => intro nn i  hi hnn hkk; exact absurd hkk (Nat.not_lt_zero _)
    | succ kk ih4 =>
      intro nn i hi hnn hkk ls hl
      refine lv_iload_n hx hb dX6_manyOf_4 rfl (lv_at hl 0 rfl) ?_
      refine lv_aload_n hx hb dX6_manyOf_5 rfl (lv_at hl 2 rfl) ?_
      refine va_get (D := G) (ci := 6) (v := .int (nI ln)) (C := RX6) (T := TX6) (N := 25) hx hb hts hin6 hown hK hP 0 rfl rfl 0 (by decide) (hts (Cond.fieldLink RX6 73 "IndentRulesModel" "lines" "I") (List.mem_of_getElem? (i := 1) rfl)) (fun _ h9 => h9) rfl dX6_manyOf_6 ?_
      refine n_icmp_ge (a := i) (b := ln) (tgt := 68) hx hb (by omega) (by omega) dX6_manyOf_9 (by decide) (fun c9 => ?_) (fun c9 => ?_)
      · refine lv_iload_n hx hb dX6_manyOf_68 rfl (lv_at hl 1 rfl) ?_
        exact W.iret (v := (nI nn)) hx hb hr (fun tZ htZ hWZ => ⟨_, rfl, by rw [hnn, show i = aN ab by omega], htZ⟩) (fun _ h => by cases h) dX6_manyOf_69
      · refine lv_iload_n hx hb dX6_manyOf_12 rfl (lv_at hl 1 rfl) ?_
        refine lv_iload_n hx hb dX6_manyOf_13 rfl (lv_at hl 3 rfl) ?_
        refine lv_iconst (v := (nI 3)) hx hb dX6_manyOf_14 (by decide) ?_
        refine n_icmp_ne (a := w) (b := 3) (tgt := 27) hx hb (by omega) (by decide) dX6_manyOf_15 (by decide) (fun c15 => ?_) (fun c15 => ?_)
        · refine lv_iload_n hx hb dX6_manyOf_27 rfl (lv_at hl 3 rfl) ?_
          refine lv_iconst (v := (nI 4)) hx hb dX6_manyOf_28 (by decide) ?_
          refine n_icmp_ne (a := w) (b := 4) (tgt := 51) hx hb (by omega) (by decide) dX6_manyOf_29 (by decide) (fun c29 => ?_) (fun c29 => ?_)
          · refine lv_aload_n hx hb dX6_manyOf_51 rfl (lv_at hl 2 rfl) ?_
            refine va_get (D := G) (ci := 6) (v := .ref (a 1)) (C := RX6) (T := TX6) (N := 25) hx hb hts hin6 hown hK hP 0 rfl rfl 1 (by decide) (hts (Cond.fieldLink RX6 7 "IndentRulesModel" "row" "[I") (List.mem_of_getElem? (i := 4) rfl)) (fun _ h9 => h9) rfl dX6_manyOf_52 ?_
            refine lv_iload_n hx hb dX6_manyOf_55 rfl (lv_at hl 0 rfl) ?_
            refine k_iald (D := G) (tys := TYS E) (j := i) (f := row) (n := 20) hx hb hK hP 1 0 rfl rfl (by omega) (by decide) dX6_manyOf_56 ?_
            rw [(hrn i (by omega)).1]
            refine rs_i (n := 1) (G := G) (E := E) (As := [.int (nI (aR ab i))]) (rest := [.int (nI nn)]) ⟨hx, hb, hml, hown, hts⟩ hK hZ hS (c_X6_lengthOf l G E (aR ab i) (by have := (hrn i (by omega)).2.1; omega)) gX6_manyOf_X6_lengthOf rfl rfl rfl (by decide +kernel) ⟨Nat.le_of_ble_eq_true rfl, Nat.le_of_ble_eq_true rfl⟩ (fun k q h => by simp at h) hl.1 rfl rfl (Nat.le_of_ble_eq_true rfl) dX6_manyOf_57 ⟨Nat.zero_le _, Nat.zero_le _⟩ (fun r57 p57 => ?_)
            subst p57
            refine k_iadd (a := nn) (b := (len (aR ab i))) hx hb dX6_manyOf_60 ?_
            refine lv_istore_n (lv' := [(2, .int (nI (nn + (len (aR ab i))))), (3, .int (nI i)), (0, .ref (a 0)), (1, .int (nI w))]) hx hb dX6_manyOf_61 rfl hl (by decide) rfl (fun ls hl => ?_)
            refine lv_iinc (v := (nI (i + 1))) (lv' := [(3, .int (nI (i + 1))), (2, .int (nI (nn + (len (aR ab i))))), (0, .ref (a 0)), (1, .int (nI w))]) hx hb dX6_manyOf_62 hl (k := 1) rfl (k_inc i) (by decide) rfl (fun ls hl => ?_)
            refine lv_goto (tgt := 4) hx hb dX6_manyOf_65 (by decide) ?_
            exact ih4 (nn + (len (aR ab i))) (i + 1) (by omega) (by rw [hnn, if_neg c15, if_neg c15, if_neg c29, if_neg c29]; rfl) (by omega) ls (lv_sub hl [0, 1, 2, 3] rfl)
          · refine lv_aload_n hx hb dX6_manyOf_32 rfl (lv_at hl 2 rfl) ?_
            refine va_get (D := G) (ci := 6) (v := .ref (a 2)) (C := RX6) (T := TX6) (N := 25) hx hb hts hin6 hown hK hP 0 rfl rfl 2 (by decide) (hts (Cond.fieldLink RX6 13 "IndentRulesModel" "seen" "[I") (List.mem_of_getElem? (i := 3) rfl)) (fun _ h9 => h9) rfl dX6_manyOf_33 ?_
            refine lv_iload_n hx hb dX6_manyOf_36 rfl (lv_at hl 0 rfl) ?_
            refine k_iald (D := G) (tys := TYS E) (j := i) (f := seen) (n := 20) hx hb hK hP 2 0 rfl rfl (by omega) (by decide) dX6_manyOf_37 ?_
            rw [hsn i (by omega)]
            refine lv_bipush (v := (-9)) hx hb dX6_manyOf_38 (by decide) ?_
            refine lv_icmp_eq (x := (aS ab i)) (y := (-9)) (tgt := 47) hx hb dX6_manyOf_40 (by decide) (fun c40 => ?_) (fun c40 => ?_)
            · refine lv_iconst (v := (nI 0)) hx hb dX6_manyOf_47 (by decide) ?_
              refine lv_goto (tgt := 60) hx hb dX6_manyOf_48 (by decide) ?_
              refine k_iadd (a := nn) (b := 0) hx hb dX6_manyOf_60 ?_
              refine lv_istore_n (lv' := [(2, .int (nI (nn + 0))), (3, .int (nI i)), (0, .ref (a 0)), (1, .int (nI w))]) hx hb dX6_manyOf_61 rfl hl (by decide) rfl (fun ls hl => ?_)
              refine lv_iinc (v := (nI (i + 1))) (lv' := [(3, .int (nI (i + 1))), (2, .int (nI (nn + 0))), (0, .ref (a 0)), (1, .int (nI w))]) hx hb dX6_manyOf_62 hl (k := 1) rfl (k_inc i) (by decide) rfl (fun ls hl => ?_)
              refine lv_goto (tgt := 4) hx hb dX6_manyOf_65 (by decide) ?_
              exact ih4 (nn + 0) (i + 1) (by omega) (by rw [hnn, if_neg c15, if_neg c15, if_pos c29, if_pos c29]; show _ = mnSeen (aS ab) i + _; rw [if_pos c40]) (by omega) ls (lv_sub hl [0, 1, 2, 3] rfl)
            · refine lv_iconst (v := (nI 1)) hx hb dX6_manyOf_43 (by decide) ?_
              refine lv_goto (tgt := 60) hx hb dX6_manyOf_44 (by decide) ?_
              refine k_iadd (a := nn) (b := 1) hx hb dX6_manyOf_60 ?_
              refine lv_istore_n (lv' := [(2, .int (nI (nn + 1))), (3, .int (nI i)), (0, .ref (a 0)), (1, .int (nI w))]) hx hb dX6_manyOf_61 rfl hl (by decide) rfl (fun ls hl => ?_)
              refine lv_iinc (v := (nI (i + 1))) (lv' := [(3, .int (nI (i + 1))), (2, .int (nI (nn + 1))), (0, .ref (a 0)), (1, .int (nI w))]) hx hb dX6_manyOf_62 hl (k := 1) rfl (k_inc i) (by decide) rfl (fun ls hl => ?_)
              refine lv_goto (tgt := 4) hx hb dX6_manyOf_65 (by decide) ?_
              exact ih4 (nn + 1) (i + 1) (by omega) (by rw [hnn, if_neg c15, if_neg c15, if_pos c29, if_pos c29]; show _ = mnSeen (aS ab) i + _; rw [if_neg c40]) (by omega) ls (lv_sub hl [0, 1, 2, 3] rfl)
        · refine lv_aload_n hx hb dX6_manyOf_18 rfl (lv_at hl 2 rfl) ?_
          refine va_get (D := G) (ci := 6) (v := .ref (a 13)) (C := RX6) (T := TX6) (N := 25) hx hb hts hin6 hown hK hP 0 rfl rfl 13 (by decide) (hts (Cond.fieldLink RX6 43 "IndentRulesModel" "strayOf" "[I") (List.mem_of_getElem? (i := 2) rfl)) (fun _ h9 => h9) rfl dX6_manyOf_19 ?_
          refine lv_iload_n hx hb dX6_manyOf_22 rfl (lv_at hl 0 rfl) ?_
          refine k_iald (D := G) (tys := TYS E) (j := i) (f := strayO) (n := 20) hx hb hK hP 12 0 rfl rfl (by omega) (by decide) dX6_manyOf_23 ?_
          rw [hst i (by omega)]
          refine lv_goto (tgt := 60) hx hb dX6_manyOf_24 (by decide) ?_
          refine k_iadd (a := nn) (b := (nF (aNest ab) 7 i)) hx hb dX6_manyOf_60 ?_
          refine lv_istore_n (lv' := [(2, .int (nI (nn + (nF (aNest ab) 7 i)))), (3, .int (nI i)), (0, .ref (a 0)), (1, .int (nI w))]) hx hb dX6_manyOf_61 rfl hl (by decide) rfl (fun ls hl => ?_)
          refine lv_iinc (v := (nI (i + 1))) (lv' := [(3, .int (nI (i + 1))), (2, .int (nI (nn + (nF (aNest ab) 7 i)))), (0, .ref (a 0)), (1, .int (nI w))]) hx hb dX6_manyOf_62 hl (k := 1) rfl (k_inc i) (by decide) rfl (fun ls hl => ?_)
          refine lv_goto (tgt := 4) hx hb dX6_manyOf_65 (by decide) ?_
          exact ih4 (nn + (nF (aNest ab) 7 i)) (i + 1) (by omega) (by rw [hnn, if_pos c15, if_pos c15]; rfl) (by omega) ls (lv_sub hl [0, 1, 2, 3] rfl)
  exact lp4 (ln - 0 + 1) 0 0 (Nat.zero_le _) (by simp [mnS, mnSeen, mnT]) (Nat.lt_succ_self _) ls (lv_sub hl [0, 1, 2, 3] rfl)

set_option maxHeartbeats 4000000 in
set_option maxRecDepth 100000 in
theorem c_X6_many (l : Launch) (G : va_G) (E : cEnv) (a : Nat → Nat) (ln op dp la : Nat) (row seen sty lineO tokO atO baseO kindO partO colO openO strayO stk bys was gsd cellsO sortO kLine kAt kKind : Nat → Int32) (y : Int32) (ab : ABS) (hab : RefOk ab ln row seen sty cellsO sortO kLine kAt kKind) (sz : Nat) : Met l yX6_many wsX6_many ({ frames := 6, cells := 0, slots := 0, locals := 140 }) (va_Pc [.ref (a 0), .int y] (PW G E (rW E a ln op dp la row seen sty lineO tokO atO baseO kindO partO colO openO strayO stk bys was gsd cellsO sortO kLine kAt kKind) sz)) (va_Qi (fun (r : Int32) (u : (Nat) × (Nat) × (Nat) × (Nat → Int32) × (Nat → Int32) × (Nat → Int32) × (Nat → Int32) × (Nat → Int32) × (Nat → Int32) × (Nat → Int32) × (Nat → Int32) × (Nat → Int32) × (Nat → Int32) × (Nat → Int32) × (Nat → Int32) × (Nat → Int32)) => r = fMany ab y) (fun (u : (Nat) × (Nat) × (Nat) × (Nat → Int32) × (Nat → Int32) × (Nat → Int32) × (Nat → Int32) × (Nat → Int32) × (Nat → Int32) × (Nat → Int32) × (Nat → Int32) × (Nat → Int32) × (Nat → Int32) × (Nat → Int32) × (Nat → Int32) × (Nat → Int32)) tQ => va_P G vwCl (rW E a ln u.1 u.2.1 u.2.2.1 row seen sty u.2.2.2.1 u.2.2.2.2.1 u.2.2.2.2.2.1 u.2.2.2.2.2.2.1 u.2.2.2.2.2.2.2.1 u.2.2.2.2.2.2.2.2.1 u.2.2.2.2.2.2.2.2.2.1 u.2.2.2.2.2.2.2.2.2.2.1 u.2.2.2.2.2.2.2.2.2.2.2.1 u.2.2.2.2.2.2.2.2.2.2.2.2.1 u.2.2.2.2.2.2.2.2.2.2.2.2.2.1 u.2.2.2.2.2.2.2.2.2.2.2.2.2.2.1 u.2.2.2.2.2.2.2.2.2.2.2.2.2.2.2 cellsO sortO kLine kAt kKind) tQ.heap) (va_A (rW E a ln op dp la row seen sty lineO tokO atO baseO kindO partO colO openO strayO stk bys was gsd cellsO sortO kLine kAt kKind) sz)) 0 0 (va_A (rW E a ln op dp la row seen sty lineO tokO atO baseO kindO partO colO openO strayO stk bys was gsd cellsO sortO kLine kAt kKind) sz) := by
  refine Met.ofW (cc := cX6_many) (maxL := 2) (ret := (some .int)) (by decide) rfl ?_
  intro p e s m args below meth c s₁ B hml hv
  obtain ⟨rfl, hsz, hP, hK, hD0, hZ⟩ := hv
  have hx := B.exec
  have hb := B.bytes
  have hr := B.returns
  have hts := atoms_spec (ws := wsX6_many) B.pre
  have hown : s.vm.findClass RX6 = some m.cls := findClass_of_methodNamed B.named
  have hlocks := B.notSynchronized
  have hin6 : ∀ w ∈ u_ws RX6 TX6 25, w ∈ wsX6_many := mem_pl [69, 70, 71, 72, 73, 74, 75, 76, 77, 78, 79, 80, 81, 82, 83, 84, 85, 86, 87, 88, 89, 90, 91, 92, 93] (by rfl)
  subst hsz
  have hD := hD0.self (sz := s.heap.size)
  generalize hAe : va_A (rW E a ln op dp la row seen sty lineO tokO atO baseO kindO partO colO openO strayO stk bys was gsd cellsO sortO kLine kAt kKind) s.heap.size = A at hD hZ ⊢
  have hA : ∀ q : Nat, s.heap.size ≤ q → A q := fun q h => by rw [← hAe]; exact Or.inr h
  have hS : va_S A s.heap s.heap [] := va_S.rf
  have hl := lv_entry ([.ref (a 0), .int y]) (n := 2) (Nat.le_of_ble_eq_true rfl)
  rw [lg_entry_eq]
  generalize (lg_sl ([.ref (a 0), .int y]) ++ List.replicate (2 - (lg_sl ([.ref (a 0), .int y])).length) Slot.unset).toArray = ls at hl ⊢
  have hl : lv_has ls 2 [(0, .ref (a 0)), (1, .int y)] := hl
  obtain ⟨hN, hok, hrn, hsn, hsg, hpk⟩ := id hab
  have hln : ln ≤ 20 := by rw [hN]; exact hok.1
  have hrb : ∀ i, i < aN ab → aR ab i < 1000000000 := fun i hi => (hok.2.1 i hi).1
  have hwN := wfN_all (row := aR ab) (aN ab) hrb
  have hob : nO (nAll (aR ab) ln) ≤ 180 := by rw [hN]; exact Nat.le_trans hwN.2.1 (by omega)
  have hob2 : nO (aNest ab) ≤ 180 := Nat.le_trans hwN.2.1 (by omega)
  refine lv_aload_n hx hb dX6_many_0 rfl (lv_at hl 0 rfl) ?_
  refine wf_v (n := 0) (G := G) (E := E) (As := []) (rest := []) (ci := 6) (q0 := 0) (wn := fun (u : (Nat → Int32) × (Nat → Int32) × (Nat → Int32) × (Nat → Int32) × (Nat → Int32) × (Nat → Int32) × (Nat → Int32) × (Nat → Int32) × (Nat → Int32) × (Nat → Int32) × (Nat → Int32)) => rW E a ln (nO (nAll (aR ab) ln)) (nD (nAll (aR ab) ln)) (nL (nAll (aR ab) ln)) row seen sty u.1 u.2.1 u.2.2.1 u.2.2.2.1 u.2.2.2.2.1 u.2.2.2.2.2.1 u.2.2.2.2.2.2.1 u.2.2.2.2.2.2.2.1 u.2.2.2.2.2.2.2.2.1 u.2.2.2.2.2.2.2.2.2.1 u.2.2.2.2.2.2.2.2.2.2 was gsd cellsO sortO kLine kAt kKind) ⟨hx, hb, hml, hown, hts⟩ hK hZ hS hA (fun sz => c_X6_goes l G E a ln op dp la row seen sty lineO tokO atO baseO kindO partO colO openO strayO stk bys was gsd cellsO sortO kLine kAt kKind (aR ab) (by first | assumption | omega) (by first | assumption | omega) sz) gX6_many_X6_goes rfl rfl rfl (by decide +kernel) ⟨Nat.le_of_ble_eq_true rfl, Nat.le_of_ble_eq_true rfl⟩ hP hD (fun _ => rfl) rfl rfl hl.1 rfl rfl (Nat.le_of_ble_eq_true rfl) dX6_many_1 ⟨Nat.zero_le _, Nat.zero_le _⟩ (fun u1 H locs p1 hP hD hS => ?_)
  obtain ⟨lineO'_1, tokO'_1, atO'_1, baseO'_1, kindO'_1, partO'_1, colO'_1, openO'_1, strayO'_1, stk'_1, bys'_1⟩ := u1
  try dsimp only at p1 hP hD
  have hP : va_P G vwCl (rW E a ln (nO (nAll (aR ab) ln)) (nD (nAll (aR ab) ln)) (nL (nAll (aR ab) ln)) row seen sty lineO'_1 tokO'_1 atO'_1 baseO'_1 kindO'_1 partO'_1 colO'_1 openO'_1 strayO'_1 stk'_1 bys'_1 was gsd cellsO sortO kLine kAt kKind) H := hP
  have hD : va_D A (rW E a ln (nO (nAll (aR ab) ln)) (nD (nAll (aR ab) ln)) (nL (nAll (aR ab) ln)) row seen sty lineO'_1 tokO'_1 atO'_1 baseO'_1 kindO'_1 partO'_1 colO'_1 openO'_1 strayO'_1 stk'_1 bys'_1 was gsd cellsO sortO kLine kAt kKind) := hD
  have hRa : RR (aG ab 2) (aNest ab) (aCol ab) (aN ab) lineO'_1 tokO'_1 atO'_1 baseO'_1 kindO'_1 partO'_1 colO'_1 openO'_1 strayO'_1 stk'_1 := by have q := p1; rw [hsg 2 (by decide), cols_congr hsg, hN] at q; exact q
  refine lv_iload_n hx hb dX6_many_4 rfl (lv_at hl 1 rfl) ?_
  by_cases h5_0 : y = nI 0
  · refine lv_tableIn (off := 39) (tgt := 44) hx hb dX6_many_5 (by rw [h5_0]; decide) (by rw [h5_0]; decide) (by rw [h5_0]; decide) (by decide) ?_
    refine lv_aload_n hx hb dX6_many_44 rfl (lv_at hl 0 rfl) ?_
    refine va_get (D := G) (ci := 6) (v := .int (nI ln)) (C := RX6) (T := TX6) (N := 25) hx hb hts hin6 hown hK hP 0 rfl rfl 0 (by decide) (hts (Cond.fieldLink RX6 73 "IndentRulesModel" "lines" "I") (List.mem_of_getElem? (i := 1) rfl)) (fun _ h9 => h9) rfl dX6_many_45 ?_
    exact W.iret (v := (nI ln)) hx hb hr (fun tZ htZ hWZ => ⟨⟨_, (nO (nAll (aR ab) ln), nD (nAll (aR ab) ln), nL (nAll (aR ab) ln), lineO'_1, tokO'_1, atO'_1, baseO'_1, kindO'_1, partO'_1, colO'_1, openO'_1, strayO'_1, stk'_1, bys'_1, was, gsd), rfl, by unfold fMany; rw [if_pos h5_0, hN], by show va_P G vwCl _ tZ.heap; rw [htZ]; exact hP⟩, hS.F htZ⟩) hS.2.2 dX6_many_48
  by_cases h5_1 : y = nI 1
  · refine lv_tableIn (off := 44) (tgt := 49) hx hb dX6_many_5 (by rw [h5_1]; decide) (by rw [h5_1]; decide) (by rw [h5_1]; decide) (by decide) ?_
    refine lv_aload_n hx hb dX6_many_49 rfl (lv_at hl 0 rfl) ?_
    refine va_get (D := G) (ci := 6) (v := .int (nI (nO (nAll (aR ab) ln)))) (C := RX6) (T := TX6) (N := 25) hx hb hts hin6 hown hK hP 0 rfl rfl 4 (by decide) (hts (Cond.fieldLink RX6 95 "IndentRulesModel" "openers" "I") (List.mem_of_getElem? (i := 2) rfl)) (fun _ h9 => h9) rfl dX6_many_50 ?_
    exact W.iret (v := (nI (nO (nAll (aR ab) ln)))) hx hb hr (fun tZ htZ hWZ => ⟨⟨_, (nO (nAll (aR ab) ln), nD (nAll (aR ab) ln), nL (nAll (aR ab) ln), lineO'_1, tokO'_1, atO'_1, baseO'_1, kindO'_1, partO'_1, colO'_1, openO'_1, strayO'_1, stk'_1, bys'_1, was, gsd), rfl, by unfold fMany; rw [if_neg h5_0, if_pos h5_1, hN], by show va_P G vwCl _ tZ.heap; rw [htZ]; exact hP⟩, hS.F htZ⟩) hS.2.2 dX6_many_53
  by_cases h5_2 : y = nI 2
  · refine lv_tableIn (off := 49) (tgt := 54) hx hb dX6_many_5 (by rw [h5_2]; decide) (by rw [h5_2]; decide) (by rw [h5_2]; decide) (by decide) ?_
    refine lv_aload_n hx hb dX6_many_54 rfl (lv_at hl 0 rfl) ?_
    refine rv_i (n := 0) (G := G) (E := E) (As := []) (rest := []) (ci := 6) (q0 := 0) ⟨hx, hb, hml, hown, hts⟩ hK hZ hS (c_X6_manyWithout l G E a ln (nO (nAll (aR ab) ln)) (nD (nAll (aR ab) ln)) (nL (nAll (aR ab) ln)) row seen sty lineO'_1 tokO'_1 atO'_1 baseO'_1 kindO'_1 partO'_1 colO'_1 openO'_1 strayO'_1 stk'_1 bys'_1 was gsd cellsO sortO kLine kAt kKind (nF (aNest ab)) hob (fun k hk => (hRa.1 k (by rw [hN] at hk; exact hk)).2.2.2.2.2)) gX6_many_X6_manyWithout rfl rfl rfl (by decide +kernel) ⟨Nat.le_of_ble_eq_true rfl, Nat.le_of_ble_eq_true rfl⟩ hP rfl rfl hl.1 rfl rfl (Nat.le_of_ble_eq_true rfl) dX6_many_55 ⟨Nat.zero_le _, Nat.zero_le _⟩ (fun r55 p55 => ?_)
    exact W.iret (v := r55) hx hb hr (fun tZ htZ hWZ => ⟨⟨_, (nO (nAll (aR ab) ln), nD (nAll (aR ab) ln), nL (nAll (aR ab) ln), lineO'_1, tokO'_1, atO'_1, baseO'_1, kindO'_1, partO'_1, colO'_1, openO'_1, strayO'_1, stk'_1, bys'_1, was, gsd), rfl, by unfold fMany; rw [if_neg h5_0, if_neg h5_1, if_pos h5_2]; rw [hN] at p55; exact p55, by show va_P G vwCl _ tZ.heap; rw [htZ]; exact hP⟩, hS.F htZ⟩) hS.2.2 dX6_many_58
  by_cases h5_3 : y = nI 3
  · refine lv_tableIn (off := 54) (tgt := 59) hx hb dX6_many_5 (by rw [h5_3]; decide) (by rw [h5_3]; decide) (by rw [h5_3]; decide) (by decide) ?_
    refine lv_aload_n hx hb dX6_many_59 rfl (lv_at hl 0 rfl) ?_
    refine lv_iload_n hx hb dX6_many_60 rfl (lv_at hl 1 rfl) ?_
    refine W.eq (g2 := F0 m 61 ls [.int (nI 3), .ref (a 0)]) (by rw [h5_3]) ?_
    refine rv_i (n := 1) (G := G) (E := E) (As := [.int (nI 3)]) (rest := []) (ci := 6) (q0 := 0) ⟨hx, hb, hml, hown, hts⟩ hK hZ hS (c_X6_manyOf l G E a ln (nO (nAll (aR ab) ln)) (nD (nAll (aR ab) ln)) (nL (nAll (aR ab) ln)) row seen sty lineO'_1 tokO'_1 atO'_1 baseO'_1 kindO'_1 partO'_1 colO'_1 openO'_1 strayO'_1 stk'_1 bys'_1 was gsd cellsO sortO kLine kAt kKind 3 ab (by first | assumption | omega) (by decide) (by decide) (fun k hk => (hRa.2.1 k (by omega)).2.2)) gX6_many_X6_manyOf rfl rfl rfl (by decide +kernel) ⟨Nat.le_of_ble_eq_true rfl, Nat.le_of_ble_eq_true rfl⟩ hP rfl rfl hl.1 rfl rfl (Nat.le_of_ble_eq_true rfl) dX6_many_61 ⟨Nat.zero_le _, Nat.zero_le _⟩ (fun r61 p61 => ?_)
    exact W.iret (v := r61) hx hb hr (fun tZ htZ hWZ => ⟨⟨_, (nO (nAll (aR ab) ln), nD (nAll (aR ab) ln), nL (nAll (aR ab) ln), lineO'_1, tokO'_1, atO'_1, baseO'_1, kindO'_1, partO'_1, colO'_1, openO'_1, strayO'_1, stk'_1, bys'_1, was, gsd), rfl, by unfold fMany; rw [if_neg h5_0, if_neg h5_1, if_neg h5_2, if_pos h5_3]; exact p61, by show va_P G vwCl _ tZ.heap; rw [htZ]; exact hP⟩, hS.F htZ⟩) hS.2.2 dX6_many_64
  by_cases h5_4 : y = nI 4
  · refine lv_tableIn (off := 54) (tgt := 59) hx hb dX6_many_5 (by rw [h5_4]; decide) (by rw [h5_4]; decide) (by rw [h5_4]; decide) (by decide) ?_
    refine lv_aload_n hx hb dX6_many_59 rfl (lv_at hl 0 rfl) ?_
    refine lv_iload_n hx hb dX6_many_60 rfl (lv_at hl 1 rfl) ?_
    refine W.eq (g2 := F0 m 61 ls [.int (nI 4), .ref (a 0)]) (by rw [h5_4]) ?_
    refine rv_i (n := 1) (G := G) (E := E) (As := [.int (nI 4)]) (rest := []) (ci := 6) (q0 := 0) ⟨hx, hb, hml, hown, hts⟩ hK hZ hS (c_X6_manyOf l G E a ln (nO (nAll (aR ab) ln)) (nD (nAll (aR ab) ln)) (nL (nAll (aR ab) ln)) row seen sty lineO'_1 tokO'_1 atO'_1 baseO'_1 kindO'_1 partO'_1 colO'_1 openO'_1 strayO'_1 stk'_1 bys'_1 was gsd cellsO sortO kLine kAt kKind 4 ab (by first | assumption | omega) (by decide) (by decide) (fun k hk => (hRa.2.1 k (by omega)).2.2)) gX6_many_X6_manyOf rfl rfl rfl (by decide +kernel) ⟨Nat.le_of_ble_eq_true rfl, Nat.le_of_ble_eq_true rfl⟩ hP rfl rfl hl.1 rfl rfl (Nat.le_of_ble_eq_true rfl) dX6_many_61 ⟨Nat.zero_le _, Nat.zero_le _⟩ (fun r61 p61 => ?_)
    exact W.iret (v := r61) hx hb hr (fun tZ htZ hWZ => ⟨⟨_, (nO (nAll (aR ab) ln), nD (nAll (aR ab) ln), nL (nAll (aR ab) ln), lineO'_1, tokO'_1, atO'_1, baseO'_1, kindO'_1, partO'_1, colO'_1, openO'_1, strayO'_1, stk'_1, bys'_1, was, gsd), rfl, by unfold fMany; rw [if_neg h5_0, if_neg h5_1, if_neg h5_2, if_neg h5_3, if_pos h5_4]; exact p61, by show va_P G vwCl _ tZ.heap; rw [htZ]; exact hP⟩, hS.F htZ⟩) hS.2.2 dX6_many_64
  by_cases h5_5 : y = nI 5
  · refine lv_tableIn (off := 54) (tgt := 59) hx hb dX6_many_5 (by rw [h5_5]; decide) (by rw [h5_5]; decide) (by rw [h5_5]; decide) (by decide) ?_
    refine lv_aload_n hx hb dX6_many_59 rfl (lv_at hl 0 rfl) ?_
    refine lv_iload_n hx hb dX6_many_60 rfl (lv_at hl 1 rfl) ?_
    refine W.eq (g2 := F0 m 61 ls [.int (nI 5), .ref (a 0)]) (by rw [h5_5]) ?_
    refine rv_i (n := 1) (G := G) (E := E) (As := [.int (nI 5)]) (rest := []) (ci := 6) (q0 := 0) ⟨hx, hb, hml, hown, hts⟩ hK hZ hS (c_X6_manyOf l G E a ln (nO (nAll (aR ab) ln)) (nD (nAll (aR ab) ln)) (nL (nAll (aR ab) ln)) row seen sty lineO'_1 tokO'_1 atO'_1 baseO'_1 kindO'_1 partO'_1 colO'_1 openO'_1 strayO'_1 stk'_1 bys'_1 was gsd cellsO sortO kLine kAt kKind 5 ab (by first | assumption | omega) (by decide) (by decide) (fun k hk => (hRa.2.1 k (by omega)).2.2)) gX6_many_X6_manyOf rfl rfl rfl (by decide +kernel) ⟨Nat.le_of_ble_eq_true rfl, Nat.le_of_ble_eq_true rfl⟩ hP rfl rfl hl.1 rfl rfl (Nat.le_of_ble_eq_true rfl) dX6_many_61 ⟨Nat.zero_le _, Nat.zero_le _⟩ (fun r61 p61 => ?_)
    exact W.iret (v := r61) hx hb hr (fun tZ htZ hWZ => ⟨⟨_, (nO (nAll (aR ab) ln), nD (nAll (aR ab) ln), nL (nAll (aR ab) ln), lineO'_1, tokO'_1, atO'_1, baseO'_1, kindO'_1, partO'_1, colO'_1, openO'_1, strayO'_1, stk'_1, bys'_1, was, gsd), rfl, by unfold fMany; rw [if_neg h5_0, if_neg h5_1, if_neg h5_2, if_neg h5_3, if_neg h5_4, if_pos h5_5]; exact p61, by show va_P G vwCl _ tZ.heap; rw [htZ]; exact hP⟩, hS.F htZ⟩) hS.2.2 dX6_many_64
  refine lv_tableOut (tgt := 65) hx hb dX6_many_5 (k_out y 5 (by decide) (by intro j hj; rcases (show j = 0 ∨ j = 1 ∨ j = 2 ∨ j = 3 ∨ j = 4 ∨ j = 5 by omega) with rfl | rfl | rfl | rfl | rfl | rfl <;> assumption)) (by decide) ?_
  refine lv_bipush (v := (-2)) hx hb dX6_many_65 (by decide) ?_
  exact W.iret (v := (-2)) hx hb hr (fun tZ htZ hWZ => ⟨⟨_, (nO (nAll (aR ab) ln), nD (nAll (aR ab) ln), nL (nAll (aR ab) ln), lineO'_1, tokO'_1, atO'_1, baseO'_1, kindO'_1, partO'_1, colO'_1, openO'_1, strayO'_1, stk'_1, bys'_1, was, gsd), rfl, by unfold fMany; rw [if_neg h5_0, if_neg h5_1, if_neg h5_2, if_neg h5_3, if_neg h5_4, if_neg h5_5], by show va_P G vwCl _ tZ.heap; rw [htZ]; exact hP⟩, hS.F htZ⟩) hS.2.2 dX6_many_67
