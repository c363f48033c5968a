set_option maxHeartbeats 4000000 in
set_option maxRecDepth 100000 in
theorem c_X3_fill (l : Launch) (G : va_G) (E : cEnv) (w : Nat → Nat) (kn kz : Nat) (kl kp kk_ : Nat → Int32) (x : Nat) (v1 v2 v3 : Int32) (hx6 : x < 6) (sz : Nat) : Met l yX3_fill wsX3_fill ({ frames := 0, cells := 0, slots := 0, locals := 0 }) (va_Pc [.ref (w 0), .int (nI x), .int v1, .int v2, .int v3] (PW G E (pkW E w kn kz kl kp kk_) sz)) (va_Qv (fun (_ : Unit) => True) (fun (_ : Unit) tQ => va_P G vwCl (pkW E w kn kz (upd kl x v1) (upd kp x v2) (upd kk_ x v3)) tQ.heap) (va_A (pkW E w kn kz kl kp kk_) sz)) 0 0 (va_A (pkW E w kn kz kl kp kk_) sz) := by
  refine Met.ofW (cc := cX3_fill) (maxL := 5) (ret := none) (by decide) rfl ?_
  intro p e s m args below meth c s₁ B hml hv
  obtain ⟨rfl, hsz, hP, hK, hD0, hZ⟩ := hv
  have hx := B.exec
  have hb := B.bytes
  have hr := B.returns
  have hts := atoms_spec (ws := wsX3_fill) B.pre
  have hown : s.vm.findClass RX3 = some m.cls := findClass_of_methodNamed B.named
  have hlocks := B.notSynchronized
  have hin3 : ∀ w ∈ u_ws RX3 TX3 5, w ∈ wsX3_fill := mem_pl [4, 5, 6, 7, 8] (by rfl)
  subst hsz
  have hD := hD0.self (sz := s.heap.size)
  generalize hAe : va_A (pkW E w kn kz kl kp kk_) s.heap.size = A at hD hZ ⊢
  have hA : ∀ q : Nat, s.heap.size ≤ q → A q := fun q h => by rw [← hAe]; exact Or.inr h
  have hS : va_S A s.heap s.heap [] := va_S.rf
  have hl := lv_entry ([.ref (w 0), .int (nI x), .int v1, .int v2, .int v3]) (n := 5) (Nat.le_of_ble_eq_true rfl)
  rw [lg_entry_eq]
  generalize (lg_sl ([.ref (w 0), .int (nI x), .int v1, .int v2, .int v3]) ++ List.replicate (5 - (lg_sl ([.ref (w 0), .int (nI x), .int v1, .int v2, .int v3])).length) Slot.unset).toArray = ls at hl ⊢
  have hl : lv_has ls 5 [(0, .ref (w 0)), (1, .int (nI x)), (2, .int v1), (3, .int v2), (4, .int v3)] := hl
  refine lv_aload_n hx hb dX3_fill_0 rfl (lv_at hl 0 rfl) ?_
  refine va_get (D := G) (ci := 3) (v := .ref (w 3)) (C := RX3) (T := TX3) (N := 5) hx hb hts hin3 hown hK hP 0 rfl rfl 2 (by decide) (hts (Cond.fieldLink RX3 9 "IndentRules$Pocket" "lineIn" "[I") (List.mem_of_getElem? (i := 1) rfl)) (fun _ h9 => h9) rfl dX3_fill_1 ?_
  refine lv_iload_n hx hb dX3_fill_4 rfl (lv_at hl 1 rfl) ?_
  refine lv_iload_n hx hb dX3_fill_5 rfl (lv_at hl 2 rfl) ?_
  refine k_iast (D := G) (tys := TYS E) (j := x) (x := v1) (f := kl) (n := 6) hx hb hK hP hD hS 1 0 rfl rfl (by omega) (by decide) dX3_fill_6 (fun H locs hP hD hS => ?_)
  have hP : va_P G vwCl (pkW E w kn kz (upd kl x v1) kp kk_) H := hP
  have hD : va_D A (pkW E w kn kz (upd kl x v1) kp kk_) := hD
  refine lv_aload_n hx hb dX3_fill_7 rfl (lv_at hl 0 rfl) ?_
  refine va_get (D := G) (ci := 3) (v := .ref (w 4)) (C := RX3) (T := TX3) (N := 5) hx hb hts hin3 hown hK hP 0 rfl rfl 3 (by decide) (hts (Cond.fieldLink RX3 15 "IndentRules$Pocket" "placeIn" "[I") (List.mem_of_getElem? (i := 2) rfl)) (fun _ h9 => h9) rfl dX3_fill_8 ?_
  refine lv_iload_n hx hb dX3_fill_11 rfl (lv_at hl 1 rfl) ?_
  refine lv_iload_n hx hb dX3_fill_12 rfl (lv_at hl 3 rfl) ?_
  refine k_iast (D := G) (tys := TYS E) (j := x) (x := v2) (f := kp) (n := 6) hx hb hK hP hD hS 2 0 rfl rfl (by omega) (by decide) dX3_fill_13 (fun H locs hP hD hS => ?_)
  have hP : va_P G vwCl (pkW E w kn kz (upd kl x v1) (upd kp x v2) kk_) H := hP
  have hD : va_D A (pkW E w kn kz (upd kl x v1) (upd kp x v2) kk_) := hD
  refine lv_aload_n hx hb dX3_fill_14 rfl (lv_at hl 0 rfl) ?_
  refine va_get (D := G) (ci := 3) (v := .ref (w 5)) (C := RX3) (T := TX3) (N := 5) hx hb hts hin3 hown hK hP 0 rfl rfl 4 (by decide) (hts (Cond.fieldLink RX3 18 "IndentRules$Pocket" "kindIn" "[I") (List.mem_of_getElem? (i := 3) rfl)) (fun _ h9 => h9) rfl dX3_fill_15 ?_
  refine lv_iload_n hx hb dX3_fill_18 rfl (lv_at hl 1 rfl) ?_
  refine lv_iload hx hb dX3_fill_19 (lv_at hl 4 rfl) ?_
  refine k_iast (D := G) (tys := TYS E) (j := x) (x := v3) (f := kk_) (n := 6) hx hb hK hP hD hS 3 0 rfl rfl (by omega) (by decide) dX3_fill_21 (fun H locs hP hD hS => ?_)
  have hP : va_P G vwCl (pkW E w kn kz (upd kl x v1) (upd kp x v2) (upd kk_ x v3)) H := hP
  have hD : va_D A (pkW E w kn kz (upd kl x v1) (upd kp x v2) (upd kk_ x v3)) := hD
  exact W.vret hx hb hr (fun tZ htZ hWZ => ⟨⟨(), rfl, trivial, by show va_P G vwCl _ tZ.heap; rw [htZ]; exact hP⟩, hS.F htZ⟩) hS.2.2 dX3_fill_22

set_option maxHeartbeats 4000000 in
set_option maxRecDepth 100000 in
theorem c_X3_renew (l : Launch) (G : va_G) (E : cEnv) (w : Nat → Nat) (kn kz : Nat) (kl kp kk_ : Nat → Int32) (k x : Nat) (sz : Nat) : Met l yX3_renew wsX3_renew ({ frames := 1, cells := 0, slots := 0, locals := 24 }) (va_Pc [.ref (w 0), .int (nI k), .int (nI x)] (PW G E (pkW E w kn kz kl kp kk_) sz)) (va_Qv (fun (u : (Nat → Int32) × (Nat → Int32) × (Nat → Int32)) => ∀ i, i < 6 → u.1 i = -9 ∧ u.2.1 i = -9 ∧ u.2.2 i = -9) (fun (u : (Nat → Int32) × (Nat → Int32) × (Nat → Int32)) tQ => va_P G vwCl (pkW E w k x u.1 u.2.1 u.2.2) tQ.heap) (va_A (pkW E w kn kz kl kp kk_) sz)) 0 0 (va_A (pkW E w kn kz kl kp kk_) sz) := by
  refine Met.ofW (cc := cX3_renew) (maxL := 4) (ret := none) (by decide) rfl ?_
  intro p e s m args below meth c s₁ B hml hv
  obtain ⟨rfl, hsz, hP, hK, hD0, hZ⟩ := hv
  have hx := B.exec
  have hb := B.bytes
  have hr := B.returns
  have hts := atoms_spec (ws := wsX3_renew) B.pre
  have hown : s.vm.findClass RX3 = some m.cls := findClass_of_methodNamed B.named
  have hlocks := B.notSynchronized
  have hin3 : ∀ w ∈ u_ws RX3 TX3 5, w ∈ wsX3_renew := mem_pl [11, 12, 13, 14, 15] (by rfl)
  subst hsz
  have hD := hD0.self (sz := s.heap.size)
  generalize hAe : va_A (pkW E w kn kz kl kp kk_) s.heap.size = A at hD hZ ⊢
  have hA : ∀ q : Nat, s.heap.size ≤ q → A q := fun q h => by rw [← hAe]; exact Or.inr h
  have hS : va_S A s.heap s.heap [] := va_S.rf
  have hl := lv_entry ([.ref (w 0), .int (nI k), .int (nI x)]) (n := 4) (Nat.le_of_ble_eq_true rfl)
  rw [lg_entry_eq]
  generalize (lg_sl ([.ref (w 0), .int (nI k), .int (nI x)]) ++ List.replicate (4 - (lg_sl ([.ref (w 0), .int (nI k), .int (nI x)])).length) Slot.unset).toArray = ls at hl ⊢
  have hl : lv_has ls 4 [(0, .ref (w 0)), (1, .int (nI k)), (2, .int (nI x))] := hl
  refine lv_aload_n hx hb dX3_renew_0 rfl (lv_at hl 0 rfl) ?_
  refine lv_iload_n hx hb dX3_renew_1 rfl (lv_at hl 1 rfl) ?_
  refine va_put (D := G) (ci := 3) (v := .int (nI k)) (ty := .int) (C := RX3) (T := TX3) (N := 5) hx hb hts hin3 tyX3 tyX3_ok nmX3 hown hK hP hD hS 0 rfl rfl 0 (by decide) (hts (Cond.fieldLink RX3 21 "IndentRules$Pocket" "kind" "I") (List.mem_of_getElem? (i := 1) rfl)) (fun _ h9 => h9) rfl (by decide +kernel) rfl rfl (Nat.le_of_ble_eq_true rfl) dX3_renew_2 (fun H locs hP hD hS => ?_)
  have hP : va_P G vwCl (pkW E w k kz kl kp kk_) H := hP
  have hD : va_D A (pkW E w k kz kl kp kk_) := hD
  refine lv_aload_n hx hb dX3_renew_5 rfl (lv_at hl 0 rfl) ?_
  refine lv_iload_n hx hb dX3_renew_6 rfl (lv_at hl 2 rfl) ?_
  refine va_put (D := G) (ci := 3) (v := .int (nI x)) (ty := .int) (C := RX3) (T := TX3) (N := 5) hx hb hts hin3 tyX3 tyX3_ok nmX3 hown hK hP hD hS 0 rfl rfl 1 (by decide) (hts (Cond.fieldLink RX3 25 "IndentRules$Pocket" "size" "I") (List.mem_of_getElem? (i := 2) rfl)) (fun _ h9 => h9) rfl (by decide +kernel) rfl rfl (Nat.le_of_ble_eq_true rfl) dX3_renew_7 (fun H locs hP hD hS => ?_)
  have hP : va_P G vwCl (pkW E w k x kl kp kk_) H := hP
  have hD : va_D A (pkW E w k x kl kp kk_) := hD
  refine lv_iconst (v := (nI 0)) hx hb dX3_renew_10 (by decide) ?_
  refine lv_istore_n (lv' := [(3, .int (nI 0)), (0, .ref (w 0)), (1, .int (nI k)), (2, .int (nI x))]) hx hb dX3_renew_11 rfl hl (by decide) rfl (fun ls hl => ?_)
  have lp12 : ∀ (kk : Nat) (i : Nat) (lX : Nat → Int32) (pX : Nat → Int32) (dX : Nat → Int32) (H : Heap) (locs : List Loc), (i ≤ 6) → (∀ j, j < i → lX j = -9 ∧ pX j = -9 ∧ dX j = -9) → 6 - i < kk → va_P G vwCl (pkW E w k x lX pX dX) H → va_D A (pkW E w k x lX pX dX) → va_S A s.heap H locs → ∀ ls : Array Slot, lv_has ls 4 [(3, .int (nI i)), (0, .ref (w 0)), (1, .int (nI k)), (2, .int (nI x))] → W p l e (headSpec wsX3_renew ({ frames := 1, cells := 0, slots := 0, locals := 24 } : Room)).room s m ([.ref (w 0), .int (nI k), .int (nI x)] : List Value).toArray below meth c H locs 0 0 (MQ below (va_Qv (fun (u : (Nat → Int32) × (Nat → Int32) × (Nat → Int32)) => ∀ i, i < 6 → u.1 i = -9 ∧ u.2.1 i = -9 ∧ u.2.2 i = -9) (fun (u : (Nat → Int32) × (Nat → Int32) × (Nat → Int32)) tQ => va_P G vwCl (pkW E w k x u.1 u.2.1 u.2.2) tQ.heap) A) ([.ref (w 0), .int (nI k), .int (nI x)] : List Value).toArray s 0 0 A) (F0 m 12 ls []) := by
    intro kk
    induction kk with
    | zero => intro i lX pX dX H locs hi hc hkk; exact absurd hkk (Nat.not_lt_zero _)
    | succ kk ih12 =>
      intro i lX pX dX H locs hi hc hkk hP hD hS ls hl
      refine lv_iload_n hx hb dX3_renew_12 rfl (lv_at hl 0 rfl) ?_
      refine lv_bipush (v := (nI 6)) hx hb dX3_renew_13 (by decide) ?_
      refine n_icmp_ge (a := i) (b := 6) (tgt := 35) hx hb (by omega) (by decide) dX3_renew_15 (by decide) (fun c15 => ?_) (fun c15 => ?_)
      · exact W.vret hx hb hr (fun tZ htZ hWZ => ⟨⟨(lX, pX, dX), rfl, fun i2 hi2 => hc i2 (by omega), by show va_P G vwCl _ tZ.heap; rw [htZ]; exact hP⟩, hS.F htZ⟩) hS.2.2 dX3_renew_35
      · refine lv_aload_n hx hb dX3_renew_18 rfl (lv_at hl 1 rfl) ?_
        refine lv_iload_n hx hb dX3_renew_19 rfl (lv_at hl 0 rfl) ?_
        refine lv_bipush (v := (-9)) hx hb dX3_renew_20 (by decide) ?_
        refine lv_bipush (v := (-9)) hx hb dX3_renew_22 (by decide) ?_
        refine lv_bipush (v := (-9)) hx hb dX3_renew_24 (by decide) ?_
        refine wf_v (n := 4) (G := G) (E := E) (As := [.int (nI i), .int (-9), .int (-9), .int (-9)]) (rest := []) (ci := 3) (q0 := 0) (wn := fun (_ : Unit) => pkW E w k x (upd lX i (-9)) (upd pX i (-9)) (upd dX i (-9))) ⟨hx, hb, hml, hown, hts⟩ hK hZ hS hA (fun sz => c_X3_fill l G E w k x lX pX dX i (-9) (-9) (-9) (by first | assumption | omega) sz) gX3_renew_X3_fill rfl rfl rfl (by decide +kernel) ⟨Nat.le_of_ble_eq_true rfl, Nat.le_of_ble_eq_true rfl⟩ hP hD (fun _ => rfl) rfl rfl hl.1 rfl rfl (Nat.le_of_ble_eq_true rfl) dX3_renew_26 ⟨Nat.zero_le _, Nat.zero_le _⟩ (fun u26 H locs p26 hP hD hS => ?_)
        have hP : va_P G vwCl (pkW E w k x (upd lX i (-9)) (upd pX i (-9)) (upd dX i (-9))) H := hP
        have hD : va_D A (pkW E w k x (upd lX i (-9)) (upd pX i (-9)) (upd dX i (-9))) := hD
        refine lv_iinc (v := (nI (i + 1))) (lv' := [(3, .int (nI (i + 1))), (0, .ref (w 0)), (1, .int (nI k)), (2, .int (nI x))]) hx hb dX3_renew_29 hl (k := 0) rfl (k_inc i) (by decide) rfl (fun ls hl => ?_)
        refine lv_goto (tgt := 12) hx hb dX3_renew_32 (by decide) ?_
        exact ih12 (i + 1) (upd lX i (-9)) (upd pX i (-9)) (upd dX i (-9)) _ _ (by omega) (fun j hj => ⟨upd_one (fun z => (hc j (by omega)).1), upd_one (fun z => (hc j (by omega)).2.1), upd_one (fun z => (hc j (by omega)).2.2)⟩) (by omega) hP hD hS ls (lv_sub hl [0, 1, 2, 3] rfl)
  exact lp12 (6 - 0 + 1) 0 kl kp kk_ _ _ (by decide) (fun j hj => absurd hj (Nat.not_lt_zero _)) (Nat.lt_succ_self _) hP hD hS ls (lv_sub hl [0, 1, 2, 3] rfl)

set_option maxHeartbeats 4000000 in
set_option maxRecDepth 100000 in
theorem c_X3_hasCell (l : Launch) (G : va_G) (E : cEnv) (w : Nat → Nat) (kn kz : Nat) (kl kp kk_ : Nat → Int32) (x : Int32) (hkz : kz ≤ 6) : Met l yX3_hasCell wsX3_hasCell ({ frames := 0, cells := 0, slots := 0, locals := 0 }) (va_Pc [.ref (w 0), .int x] (PR G E (pkW E w kn kz kl kp kk_))) (vp_Si (fun r => (∃ j : Nat, j < kz ∧ x = nI j) ∧ r = nI 1 ∨ ¬ (∃ j : Nat, j < kz ∧ x = nI j) ∧ r = nI 0)) 0 0 (fun _ => False) := by
  refine Met.ofW (cc := cX3_hasCell) (maxL := 2) (ret := (some .boolean)) (by decide) rfl ?_
  intro p e s m args below meth c s₁ B hml hv
  obtain ⟨rfl, hP, hK, hZ⟩ := hv
  have hx := B.exec
  have hb := B.bytes
  have hr := B.returns
  have hts := atoms_spec (ws := wsX3_hasCell) B.pre
  have hown : s.vm.findClass RX3 = some m.cls := findClass_of_methodNamed B.named
  have hlocks := B.notSynchronized
  have hin3 : ∀ w ∈ u_ws RX3 TX3 5, w ∈ wsX3_hasCell := mem_pl [2, 3, 4, 5, 6] (by rfl)
  have hS : va_S (fun _ => False) s.heap s.heap [] := va_S.rf
  have hl := lv_entry ([.ref (w 0), .int x]) (n := 2) (Nat.le_of_ble_eq_true rfl)
  rw [lg_entry_eq]
  generalize (lg_sl ([.ref (w 0), .int x]) ++ List.replicate (2 - (lg_sl ([.ref (w 0), .int x])).length) Slot.unset).toArray = ls at hl ⊢
  have hl : lv_has ls 2 [(0, .ref (w 0)), (1, .int x)] := hl
  refine lv_iload_n hx hb dX3_hasCell_0 rfl (lv_at hl 1 rfl) ?_
  refine lv_if_lt (x := x) (tgt := 16) hx hb dX3_hasCell_1 (by decide) (fun c1 => ?_) (fun c1 => ?_)
  · refine lv_iconst (v := (nI 0)) hx hb dX3_hasCell_16 (by decide) ?_
    exact W.zret (v := (nI 0)) hx hb hr (by first | rfl | decide | assumption) (fun tZ htZ hWZ => ⟨_, rfl, Or.inr ⟨fun q => ((w_ix2 (by omega)).mpr q).1 c1, rfl⟩, htZ⟩) (fun _ h => by cases h) dX3_hasCell_17
  · refine lv_iload_n hx hb dX3_hasCell_4 rfl (lv_at hl 1 rfl) ?_
    refine lv_aload_n hx hb dX3_hasCell_5 rfl (lv_at hl 0 rfl) ?_
    refine va_get (D := G) (ci := 3) (v := .int (nI kz)) (C := RX3) (T := TX3) (N := 5) hx hb hts hin3 hown hK hP 0 rfl rfl 1 (by decide) (hts (Cond.fieldLink RX3 25 "IndentRules$Pocket" "size" "I") (List.mem_of_getElem? (i := 1) rfl)) (fun _ h9 => h9) rfl dX3_hasCell_6 ?_
    refine lv_icmp_ge (x := x) (y := (nI kz)) (tgt := 16) hx hb dX3_hasCell_9 (by decide) (fun c9 => ?_) (fun c9 => ?_)
    · refine lv_iconst (v := (nI 0)) hx hb dX3_hasCell_16 (by decide) ?_
      exact W.zret (v := (nI 0)) hx hb hr (by first | rfl | decide | assumption) (fun tZ htZ hWZ => ⟨_, rfl, Or.inr ⟨fun q => ((w_ix2 (by omega)).mpr q).2 c9, rfl⟩, htZ⟩) (fun _ h => by cases h) dX3_hasCell_17
    · refine lv_iconst (v := (nI 1)) hx hb dX3_hasCell_12 (by decide) ?_
      refine lv_goto (tgt := 17) hx hb dX3_hasCell_13 (by decide) ?_
      exact W.zret (v := (nI 1)) hx hb hr (by first | rfl | decide | assumption) (fun tZ htZ hWZ => ⟨_, rfl, Or.inl ⟨(w_ix2 (by omega)).mp ⟨c1, c9⟩, rfl⟩, htZ⟩) (fun _ h => by cases h) dX3_hasCell_17

set_option maxHeartbeats 4000000 in
set_option maxRecDepth 100000 in
theorem c_X3_takes (l : Launch) (G : va_G) (E : cEnv) (w : Nat → Nat) (kn kz : Nat) (kl kp kk_ : Nat → Int32) (x : Nat) (hx4 : x < 4) (hkn : kn < 4) : Met l yX3_takes wsX3_takes ({ frames := 0, cells := 0, slots := 0, locals := 0 }) (va_Pc [.ref (w 0), .int (nI x)] (PR G E (pkW E w kn kz kl kp kk_))) (vp_Si (fun r => tkN x kn ∧ r = nI 1 ∨ ¬ tkN x kn ∧ r = nI 0)) 0 0 (fun _ => False) := by
  refine Met.ofW (cc := cX3_takes) (maxL := 2) (ret := (some .boolean)) (by decide) rfl ?_
  intro p e s m args below meth c s₁ B hml hv
  obtain ⟨rfl, hP, hK, hZ⟩ := hv
  have hx := B.exec
  have hb := B.bytes
  have hr := B.returns
  have hts := atoms_spec (ws := wsX3_takes) B.pre
  have hown : s.vm.findClass RX3 = some m.cls := findClass_of_methodNamed B.named
  have hlocks := B.notSynchronized
  have hin3 : ∀ w ∈ u_ws RX3 TX3 5, w ∈ wsX3_takes := mem_pl [2, 3, 4, 5, 6] (by rfl)
  have hS : va_S (fun _ => False) s.heap s.heap [] := va_S.rf
  have hl := lv_entry ([.ref (w 0), .int (nI x)]) (n := 2) (Nat.le_of_ble_eq_true rfl)
  rw [lg_entry_eq]
  generalize (lg_sl ([.ref (w 0), .int (nI x)]) ++ List.replicate (2 - (lg_sl ([.ref (w 0), .int (nI x)])).length) Slot.unset).toArray = ls at hl ⊢
  have hl : lv_has ls 2 [(0, .ref (w 0)), (1, .int (nI x))] := hl
  refine lv_aload_n hx hb dX3_takes_0 rfl (lv_at hl 0 rfl) ?_
  refine va_get (D := G) (ci := 3) (v := .int (nI kn)) (C := RX3) (T := TX3) (N := 5) hx hb hts hin3 hown hK hP 0 rfl rfl 0 (by decide) (hts (Cond.fieldLink RX3 21 "IndentRules$Pocket" "kind" "I") (List.mem_of_getElem? (i := 1) rfl)) (fun _ h9 => h9) rfl dX3_takes_1 ?_
  refine n_if_eq (a := kn) (tgt := 28) hx hb (by omega) dX3_takes_4 (by decide) (fun c4 => ?_) (fun c4 => ?_)
  · refine lv_iconst (v := (nI 1)) hx hb dX3_takes_28 (by decide) ?_
    refine lv_goto (tgt := 33) hx hb dX3_takes_29 (by decide) ?_
    exact W.zret (v := (nI 1)) hx hb hr (by first | rfl | decide | assumption) (fun tZ htZ hWZ => ⟨_, rfl, Or.inl ⟨Or.inl c4, rfl⟩, htZ⟩) (fun _ h => by cases h) dX3_takes_33
  · refine lv_aload_n hx hb dX3_takes_7 rfl (lv_at hl 0 rfl) ?_
    refine va_get (D := G) (ci := 3) (v := .int (nI kn)) (C := RX3) (T := TX3) (N := 5) hx hb hts hin3 hown hK hP 0 rfl rfl 0 (by decide) (hts (Cond.fieldLink RX3 21 "IndentRules$Pocket" "kind" "I") (List.mem_of_getElem? (i := 1) rfl)) (fun _ h9 => h9) rfl dX3_takes_8 ?_
    refine lv_iload_n hx hb dX3_takes_11 rfl (lv_at hl 1 rfl) ?_
    refine n_icmp_eq (a := kn) (b := x) (tgt := 28) hx hb (by omega) (by omega) dX3_takes_12 (by decide) (fun c12 => ?_) (fun c12 => ?_)
    · refine lv_iconst (v := (nI 1)) hx hb dX3_takes_28 (by decide) ?_
      refine lv_goto (tgt := 33) hx hb dX3_takes_29 (by decide) ?_
      exact W.zret (v := (nI 1)) hx hb hr (by first | rfl | decide | assumption) (fun tZ htZ hWZ => ⟨_, rfl, Or.inl ⟨Or.inr (Or.inl c12.symm), rfl⟩, htZ⟩) (fun _ h => by cases h) dX3_takes_33
    · refine lv_aload_n hx hb dX3_takes_15 rfl (lv_at hl 0 rfl) ?_
      refine va_get (D := G) (ci := 3) (v := .int (nI kn)) (C := RX3) (T := TX3) (N := 5) hx hb hts hin3 hown hK hP 0 rfl rfl 0 (by decide) (hts (Cond.fieldLink RX3 21 "IndentRules$Pocket" "kind" "I") (List.mem_of_getElem? (i := 1) rfl)) (fun _ h9 => h9) rfl dX3_takes_16 ?_
      refine lv_iconst (v := (nI 2)) hx hb dX3_takes_19 (by decide) ?_
      refine n_icmp_ne (a := kn) (b := 2) (tgt := 32) hx hb (by omega) (by decide) dX3_takes_20 (by decide) (fun c20 => ?_) (fun c20 => ?_)
      · refine lv_iconst (v := (nI 0)) hx hb dX3_takes_32 (by decide) ?_
        exact W.zret (v := (nI 0)) hx hb hr (by first | rfl | decide | assumption) (fun tZ htZ hWZ => ⟨_, rfl, Or.inr ⟨fun q => by omega, rfl⟩, htZ⟩) (fun _ h => by cases h) dX3_takes_33
      · refine lv_iload_n hx hb dX3_takes_23 rfl (lv_at hl 1 rfl) ?_
        refine lv_iconst (v := (nI 3)) hx hb dX3_takes_24 (by decide) ?_
        refine n_icmp_ne (a := x) (b := 3) (tgt := 32) hx hb (by omega) (by decide) dX3_takes_25 (by decide) (fun c25 => ?_) (fun c25 => ?_)
        · refine lv_iconst (v := (nI 0)) hx hb dX3_takes_32 (by decide) ?_
          exact W.zret (v := (nI 0)) hx hb hr (by first | rfl | decide | assumption) (fun tZ htZ hWZ => ⟨_, rfl, Or.inr ⟨fun q => by omega, rfl⟩, htZ⟩) (fun _ h => by cases h) dX3_takes_33
        · refine lv_iconst (v := (nI 1)) hx hb dX3_takes_28 (by decide) ?_
          refine lv_goto (tgt := 33) hx hb dX3_takes_29 (by decide) ?_
          exact W.zret (v := (nI 1)) hx hb hr (by first | rfl | decide | assumption) (fun tZ htZ hWZ => ⟨_, rfl, Or.inl ⟨Or.inr (Or.inr ⟨c20, c25⟩), rfl⟩, htZ⟩) (fun _ h => by cases h) dX3_takes_33

set_option maxHeartbeats 4000000 in
set_option maxRecDepth 100000 in
theorem c_X3_tell (l : Launch) (G : va_G) (E : cEnv) (w : Nat → Nat) (kn kz : Nat) (kl kp kk_ : Nat → Int32) (x v : Nat) (hx6 : x < 6) (hv : v < 3) : Met l yX3_tell wsX3_tell ({ frames := 0, cells := 0, slots := 0, locals := 0 }) (va_Pc [.ref (w 0), .int (nI x), .int (nI v)] (PR G E (pkW E w kn kz kl kp kk_))) (vp_Si (fun r => r = (if v = 0 then kl x else if v = 1 then kp x else kk_ x))) 0 0 (fun _ => False) := by
  refine Met.ofW (cc := cX3_tell) (maxL := 3) (ret := (some .int)) (by decide) rfl ?_
  intro p e s m args below meth c s₁ B hml hv
  obtain ⟨rfl, hP, hK, hZ⟩ := hv
  have hx := B.exec
  have hb := B.bytes
  have hr := B.returns
  have hts := atoms_spec (ws := wsX3_tell) B.pre
  have hown : s.vm.findClass RX3 = some m.cls := findClass_of_methodNamed B.named
  have hlocks := B.notSynchronized
  have hin3 : ∀ w ∈ u_ws RX3 TX3 5, w ∈ wsX3_tell := mem_pl [4, 5, 6, 7, 8] (by rfl)
  have hS : va_S (fun _ => False) s.heap s.heap [] := va_S.rf
  have hl := lv_entry ([.ref (w 0), .int (nI x), .int (nI v)]) (n := 3) (Nat.le_of_ble_eq_true rfl)
  rw [lg_entry_eq]
  generalize (lg_sl ([.ref (w 0), .int (nI x), .int (nI v)]) ++ List.replicate (3 - (lg_sl ([.ref (w 0), .int (nI x), .int (nI v)])).length) Slot.unset).toArray = ls at hl ⊢
  have hl : lv_has ls 3 [(0, .ref (w 0)), (1, .int (nI x)), (2, .int (nI v))] := hl
  refine lv_iload_n hx hb dX3_tell_0 rfl (lv_at hl 2 rfl) ?_
  refine n_if_ne (a := v) (tgt := 11) hx hb (by omega) dX3_tell_1 (by decide) (fun c1 => ?_) (fun c1 => ?_)
  · refine lv_iload_n hx hb dX3_tell_11 rfl (lv_at hl 2 rfl) ?_
    refine lv_iconst (v := (nI 1)) hx hb dX3_tell_12 (by decide) ?_
    refine n_icmp_ne (a := v) (b := 1) (tgt := 25) hx hb (by omega) (by decide) dX3_tell_13 (by decide) (fun c13 => ?_) (fun c13 => ?_)
    · refine lv_aload_n hx hb dX3_tell_25 rfl (lv_at hl 0 rfl) ?_
      refine va_get (D := G) (ci := 3) (v := .ref (w 5)) (C := RX3) (T := TX3) (N := 5) hx hb hts hin3 hown hK hP 0 rfl rfl 4 (by decide) (hts (Cond.fieldLink RX3 18 "IndentRules$Pocket" "kindIn" "[I") (List.mem_of_getElem? (i := 3) rfl)) (fun _ h9 => h9) rfl dX3_tell_26 ?_
      refine lv_iload_n hx hb dX3_tell_29 rfl (lv_at hl 1 rfl) ?_
      refine k_iald (D := G) (tys := TYS E) (j := x) (f := kk_) (n := 6) hx hb hK hP 3 0 rfl rfl (by omega) (by decide) dX3_tell_30 ?_
      exact W.iret (v := (kk_ x)) hx hb hr (fun tZ htZ hWZ => ⟨_, rfl, by rw [if_neg (by omega), if_neg c13], htZ⟩) (fun _ h => by cases h) dX3_tell_31
    · refine lv_aload_n hx hb dX3_tell_16 rfl (lv_at hl 0 rfl) ?_
      refine va_get (D := G) (ci := 3) (v := .ref (w 4)) (C := RX3) (T := TX3) (N := 5) hx hb hts hin3 hown hK hP 0 rfl rfl 3 (by decide) (hts (Cond.fieldLink RX3 15 "IndentRules$Pocket" "placeIn" "[I") (List.mem_of_getElem? (i := 2) rfl)) (fun _ h9 => h9) rfl dX3_tell_17 ?_
      refine lv_iload_n hx hb dX3_tell_20 rfl (lv_at hl 1 rfl) ?_
      refine k_iald (D := G) (tys := TYS E) (j := x) (f := kp) (n := 6) hx hb hK hP 2 0 rfl rfl (by omega) (by decide) dX3_tell_21 ?_
      refine lv_goto (tgt := 31) hx hb dX3_tell_22 (by decide) ?_
      exact W.iret (v := (kp x)) hx hb hr (fun tZ htZ hWZ => ⟨_, rfl, by rw [if_neg (by omega), if_pos c13], htZ⟩) (fun _ h => by cases h) dX3_tell_31
  · refine lv_aload_n hx hb dX3_tell_4 rfl (lv_at hl 0 rfl) ?_
    refine va_get (D := G) (ci := 3) (v := .ref (w 3)) (C := RX3) (T := TX3) (N := 5) hx hb hts hin3 hown hK hP 0 rfl rfl 2 (by decide) (hts (Cond.fieldLink RX3 9 "IndentRules$Pocket" "lineIn" "[I") (List.mem_of_getElem? (i := 1) rfl)) (fun _ h9 => h9) rfl dX3_tell_5 ?_
    refine lv_iload_n hx hb dX3_tell_8 rfl (lv_at hl 1 rfl) ?_
    refine k_iald (D := G) (tys := TYS E) (j := x) (f := kl) (n := 6) hx hb hK hP 1 0 rfl rfl (by omega) (by decide) dX3_tell_9 ?_
    exact W.iret (v := (kl x)) hx hb hr (fun tZ htZ hWZ => ⟨_, rfl, by rw [if_pos c1], htZ⟩) (fun _ h => by cases h) dX3_tell_10

set_option maxHeartbeats 4000000 in
set_option maxRecDepth 100000 in
theorem c_X3_becomeLike (l : Launch) (G : va_G) (E : cEnv) (w : Nat → Nat) (kn kz : Nat) (kl kp kk_ : Nat → Int32) (uw : Nat → Nat) (jn jz : Nat) (jl jp jk : Nat → Int32) (sz : Nat) : Met l yX3_becomeLike wsX3_becomeLike ({ frames := 1, cells := 0, slots := 0, locals := 24 }) (va_Pc [.ref (w 0), .ref (uw 0)] (PW G E ((pkW E w kn kz kl kp kk_) ++ (pkW E uw jn jz jl jp jk)) sz)) (va_Qv (fun (u : (Nat → Int32) × (Nat → Int32) × (Nat → Int32)) => ∀ i, i < 6 → u.1 i = jl i ∧ u.2.1 i = jp i ∧ u.2.2 i = jk i) (fun (u : (Nat → Int32) × (Nat → Int32) × (Nat → Int32)) tQ => va_P G vwCl ((pkW E w jn jz u.1 u.2.1 u.2.2) ++ (pkW E uw jn jz jl jp jk)) tQ.heap) (va_A ((pkW E w kn kz kl kp kk_) ++ (pkW E uw jn jz jl jp jk)) sz)) 0 0 (va_A ((pkW E w kn kz kl kp kk_) ++ (pkW E uw jn jz jl jp jk)) sz) := by
  refine Met.ofW (cc := cX3_becomeLike) (maxL := 3) (ret := none) (by decide) rfl ?_
  intro p e s m args below meth c s₁ B hml hv
  obtain ⟨rfl, hsz, hP, hK, hD0, hZ⟩ := hv
  have hx := B.exec
  have hb := B.bytes
  have hr := B.returns
  have hts := atoms_spec (ws := wsX3_becomeLike) B.pre
  have hown : s.vm.findClass RX3 = some m.cls := findClass_of_methodNamed B.named
  have hlocks := B.notSynchronized
  have hin3 : ∀ w ∈ u_ws RX3 TX3 5, w ∈ wsX3_becomeLike := mem_pl [11, 12, 13, 14, 15] (by rfl)
  subst hsz
  have hD := hD0.self (sz := s.heap.size)
  generalize hAe : va_A ((pkW E w kn kz kl kp kk_) ++ (pkW E uw jn jz jl jp jk)) s.heap.size = A at hD hZ ⊢
  have hA : ∀ q : Nat, s.heap.size ≤ q → A q := fun q h => by rw [← hAe]; exact Or.inr h
  have hS : va_S A s.heap s.heap [] := va_S.rf
  have hl := lv_entry ([.ref (w 0), .ref (uw 0)]) (n := 3) (Nat.le_of_ble_eq_true rfl)
  rw [lg_entry_eq]
  generalize (lg_sl ([.ref (w 0), .ref (uw 0)]) ++ List.replicate (3 - (lg_sl ([.ref (w 0), .ref (uw 0)])).length) Slot.unset).toArray = ls at hl ⊢
  have hl : lv_has ls 3 [(0, .ref (w 0)), (1, .ref (uw 0))] := hl
  refine lv_aload_n hx hb dX3_becomeLike_0 rfl (lv_at hl 0 rfl) ?_
  refine lv_aload_n hx hb dX3_becomeLike_1 rfl (lv_at hl 1 rfl) ?_
  refine va_get (D := G) (ci := 3) (v := .int (nI jn)) (C := RX3) (T := TX3) (N := 5) hx hb hts hin3 hown hK hP 4 rfl rfl 0 (by decide) (hts (Cond.fieldLink RX3 21 "IndentRules$Pocket" "kind" "I") (List.mem_of_getElem? (i := 1) rfl)) (fun _ h9 => h9) rfl dX3_becomeLike_2 ?_
  refine va_put (D := G) (ci := 3) (v := .int (nI jn)) (ty := .int) (C := RX3) (T := TX3) (N := 5) hx hb hts hin3 tyX3 tyX3_ok nmX3 hown hK hP hD hS 0 rfl rfl 0 (by decide) (hts (Cond.fieldLink RX3 21 "IndentRules$Pocket" "kind" "I") (List.mem_of_getElem? (i := 1) rfl)) (fun _ h9 => h9) rfl (by decide +kernel) rfl rfl (Nat.le_of_ble_eq_true rfl) dX3_becomeLike_5 (fun H locs hP hD hS => ?_)
  have hP : va_P G vwCl ((pkW E w jn kz kl kp kk_) ++ (pkW E uw jn jz jl jp jk)) H := hP
  have hD : va_D A ((pkW E w jn kz kl kp kk_) ++ (pkW E uw jn jz jl jp jk)) := hD
  refine lv_aload_n hx hb dX3_becomeLike_8 rfl (lv_at hl 0 rfl) ?_
  refine lv_aload_n hx hb dX3_becomeLike_9 rfl (lv_at hl 1 rfl) ?_
  refine va_get (D := G) (ci := 3) (v := .int (nI jz)) (C := RX3) (T := TX3) (N := 5) hx hb hts hin3 hown hK hP 4 rfl rfl 1 (by decide) (hts (Cond.fieldLink RX3 25 "IndentRules$Pocket" "size" "I") (List.mem_of_getElem? (i := 2) rfl)) (fun _ h9 => h9) rfl dX3_becomeLike_10 ?_
  refine va_put (D := G) (ci := 3) (v := .int (nI jz)) (ty := .int) (C := RX3) (T := TX3) (N := 5) hx hb hts hin3 tyX3 tyX3_ok nmX3 hown hK hP hD hS 0 rfl rfl 1 (by decide) (hts (Cond.fieldLink RX3 25 "IndentRules$Pocket" "size" "I") (List.mem_of_getElem? (i := 2) rfl)) (fun _ h9 => h9) rfl (by decide +kernel) rfl rfl (Nat.le_of_ble_eq_true rfl) dX3_becomeLike_13 (fun H locs hP hD hS => ?_)
  have hP : va_P G vwCl ((pkW E w jn jz kl kp kk_) ++ (pkW E uw jn jz jl jp jk)) H := hP
  have hD : va_D A ((pkW E w jn jz kl kp kk_) ++ (pkW E uw jn jz jl jp jk)) := hD
  refine lv_iconst (v := (nI 0)) hx hb dX3_becomeLike_16 (by decide) ?_
  refine lv_istore_n (lv' := [(2, .int (nI 0)), (0, .ref (w 0)), (1, .ref (uw 0))]) hx hb dX3_becomeLike_17 rfl hl (by decide) rfl (fun ls hl => ?_)
  have lp18 : ∀ (kk : Nat) (i : Nat) (lX : Nat → Int32) (pX : Nat → Int32) (dX : Nat → Int32) (H : Heap) (locs : List Loc), (i ≤ 6) → (∀ j, j < i → lX j = jl j ∧ pX j = jp j ∧ dX j = jk j) → 6 - i < kk → va_P G vwCl ((pkW E w jn jz lX pX dX) ++ (pkW E uw jn jz jl jp jk)) H → va_D A ((pkW E w jn jz lX pX dX) ++ (pkW E uw jn jz jl jp jk)) → va_S A s.heap H locs → ∀ ls : Array Slot, lv_has ls 3 [(2, .int (nI i)), (0, .ref (w 0)), (1, .ref (uw 0))] → W p l e (headSpec wsX3_becomeLike ({ frames := 1, cells := 0, slots := 0, locals := 24 } : Room)).room s m ([.ref (w 0), .ref (uw 0)] : List Value).toArray below meth c H locs 0 0 (MQ below (va_Qv (fun (u : (Nat → Int32) × (Nat → Int32) × (Nat → Int32)) => ∀ i, i < 6 → u.1 i = jl i ∧ u.2.1 i = jp i ∧ u.2.2 i = jk i) (fun (u : (Nat → Int32) × (Nat → Int32) × (Nat → Int32)) tQ => va_P G vwCl ((pkW E w jn jz u.1 u.2.1 u.2.2) ++ (pkW E uw jn jz jl jp jk)) tQ.heap) A) ([.ref (w 0), .ref (uw 0)] : List Value).toArray s 0 0 A) (F0 m 18 ls []) := by
    intro kk
    induction kk with
    | zero => intro i lX pX dX H locs hi hc hkk; exact absurd hkk (Nat.not_lt_zero _)
    | succ kk ih18 =>
      intro i lX pX dX H locs hi hc hkk hP hD hS ls hl
      refine lv_iload_n hx hb dX3_becomeLike_18 rfl (lv_at hl 0 rfl) ?_
      refine lv_bipush (v := (nI 6)) hx hb dX3_becomeLike_19 (by decide) ?_
      refine n_icmp_ge (a := i) (b := 6) (tgt := 53) hx hb (by omega) (by decide) dX3_becomeLike_21 (by decide) (fun c21 => ?_) (fun c21 => ?_)
      · exact W.vret hx hb hr (fun tZ htZ hWZ => ⟨⟨(lX, pX, dX), rfl, fun i2 hi2 => hc i2 (by omega), by show va_P G vwCl _ tZ.heap; rw [htZ]; exact hP⟩, hS.F htZ⟩) hS.2.2 dX3_becomeLike_53
      · refine lv_aload_n hx hb dX3_becomeLike_24 rfl (lv_at hl 1 rfl) ?_
        refine lv_iload_n hx hb dX3_becomeLike_25 rfl (lv_at hl 0 rfl) ?_
        refine lv_aload_n hx hb dX3_becomeLike_26 rfl (lv_at hl 2 rfl) ?_
        refine va_get (D := G) (ci := 3) (v := .ref (uw 3)) (C := RX3) (T := TX3) (N := 5) hx hb hts hin3 hown hK hP 4 rfl rfl 2 (by decide) (hts (Cond.fieldLink RX3 9 "IndentRules$Pocket" "lineIn" "[I") (List.mem_of_getElem? (i := 3) rfl)) (fun _ h9 => h9) rfl dX3_becomeLike_27 ?_
        refine lv_iload_n hx hb dX3_becomeLike_30 rfl (lv_at hl 0 rfl) ?_
        refine k_iald (D := G) (tys := TYS E) (j := i) (f := jl) (n := 6) hx hb hK hP 5 0 rfl rfl (by omega) (by decide) dX3_becomeLike_31 ?_
        refine lv_aload_n hx hb dX3_becomeLike_32 rfl (lv_at hl 2 rfl) ?_
        refine va_get (D := G) (ci := 3) (v := .ref (uw 4)) (C := RX3) (T := TX3) (N := 5) hx hb hts hin3 hown hK hP 4 rfl rfl 3 (by decide) (hts (Cond.fieldLink RX3 15 "IndentRules$Pocket" "placeIn" "[I") (List.mem_of_getElem? (i := 4) rfl)) (fun _ h9 => h9) rfl dX3_becomeLike_33 ?_
        refine lv_iload_n hx hb dX3_becomeLike_36 rfl (lv_at hl 0 rfl) ?_
        refine k_iald (D := G) (tys := TYS E) (j := i) (f := jp) (n := 6) hx hb hK hP 6 0 rfl rfl (by omega) (by decide) dX3_becomeLike_37 ?_
        refine lv_aload_n hx hb dX3_becomeLike_38 rfl (lv_at hl 2 rfl) ?_
        refine va_get (D := G) (ci := 3) (v := .ref (uw 5)) (C := RX3) (T := TX3) (N := 5) hx hb hts hin3 hown hK hP 4 rfl rfl 4 (by decide) (hts (Cond.fieldLink RX3 18 "IndentRules$Pocket" "kindIn" "[I") (List.mem_of_getElem? (i := 5) rfl)) (fun _ h9 => h9) rfl dX3_becomeLike_39 ?_
        refine lv_iload_n hx hb dX3_becomeLike_42 rfl (lv_at hl 0 rfl) ?_
        refine k_iald (D := G) (tys := TYS E) (j := i) (f := jk) (n := 6) hx hb hK hP 7 0 rfl rfl (by omega) (by decide) dX3_becomeLike_43 ?_
        refine wv_v (n := 4) (G := G) (E := E) (As := [.int (nI i), .int (jl i), .int (jp i), .int (jk i)]) (rest := []) (ci := 3) (q0 := 0) (wn := fun (_ : Unit) => pkW E w jn jz (upd lX i (jl i)) (upd pX i (jp i)) (upd dX i (jk i))) ⟨hx, hb, hml, hown, hts⟩ hK hZ hS hA (fun sz => c_X3_fill l G E w jn jz lX pX dX i (jl i) (jp i) (jk i) (by first | assumption | omega) sz) gX3_becomeLike_X3_fill rfl rfl rfl (by decide +kernel) ⟨Nat.le_of_ble_eq_true rfl, Nat.le_of_ble_eq_true rfl⟩ hP hD [0, 1, 2, 3] rfl (by decide) (fun _ => rfl) rfl rfl hl.1 rfl rfl (Nat.le_of_ble_eq_true rfl) dX3_becomeLike_44 ⟨Nat.zero_le _, Nat.zero_le _⟩ (fun u44 H locs p44 hP hD hS => ?_)
        have hP : va_P G vwCl ((pkW E w jn jz (upd lX i (jl i)) (upd pX i (jp i)) (upd dX i (jk i))) ++ (pkW E uw jn jz jl jp jk)) H := hP
        have hD : va_D A ((pkW E w jn jz (upd lX i (jl i)) (upd pX i (jp i)) (upd dX i (jk i))) ++ (pkW E uw jn jz jl jp jk)) := hD
        refine lv_iinc (v := (nI (i + 1))) (lv' := [(2, .int (nI (i + 1))), (0, .ref (w 0)), (1, .ref (uw 0))]) hx hb dX3_becomeLike_47 hl (k := 0) rfl (k_inc i) (by decide) rfl (fun ls hl => ?_)
        refine lv_goto (tgt := 18) hx hb dX3_becomeLike_50 (by decide) ?_
        exact ih18 (i + 1) (upd lX i (jl i)) (upd pX i (jp i)) (upd dX i (jk i)) _ _ (by omega) (fun j hj => ⟨upd_two (fun z => (hc j (by omega)).1), upd_two (fun z => (hc j (by omega)).2.1), upd_two (fun z => (hc j (by omega)).2.2)⟩) (by omega) hP hD hS ls (lv_sub hl [0, 1, 2] rfl)
  exact lp18 (6 - 0 + 1) 0 kl kp kk_ _ _ (by decide) (fun j hj => absurd hj (Nat.not_lt_zero _)) (Nat.lt_succ_self _) hP hD hS ls (lv_sub hl [0, 1, 2] rfl)

set_option maxHeartbeats 4000000 in
set_option maxRecDepth 100000 in
theorem c_X3_becomeLike_own (l : Launch) (G : va_G) (E : cEnv) (w : Nat → Nat) (kn kz : Nat) (kl kp kk_ : Nat → Int32) (sz : Nat) : Met l yX3_becomeLike wsX3_becomeLike ({ frames := 1, cells := 0, slots := 0, locals := 24 }) (va_Pc [.ref (w 0), .ref (w 0)] (PW G E (pkW E w kn kz kl kp kk_) sz)) (va_Qv (fun (u : (Nat → Int32) × (Nat → Int32) × (Nat → Int32)) => ∀ i, i < 6 → u.1 i = kl i ∧ u.2.1 i = kp i ∧ u.2.2 i = kk_ i) (fun (u : (Nat → Int32) × (Nat → Int32) × (Nat → Int32)) tQ => va_P G vwCl (pkW E w kn kz u.1 u.2.1 u.2.2) tQ.heap) (va_A (pkW E w kn kz kl kp kk_) sz)) 0 0 (va_A (pkW E w kn kz kl kp kk_) sz) := by
  refine Met.ofW (cc := cX3_becomeLike) (maxL := 3) (ret := none) (by decide) rfl ?_
  intro p e s m args below meth c s₁ B hml hv
  obtain ⟨rfl, hsz, hP, hK, hD0, hZ⟩ := hv
  have hx := B.exec
  have hb := B.bytes
  have hr := B.returns
  have hts := atoms_spec (ws := wsX3_becomeLike) B.pre
  have hown : s.vm.findClass RX3 = some m.cls := findClass_of_methodNamed B.named
  have hlocks := B.notSynchronized
  have hin3 : ∀ w ∈ u_ws RX3 TX3 5, w ∈ wsX3_becomeLike := mem_pl [11, 12, 13, 14, 15] (by rfl)
  subst hsz
  have hD := hD0.self (sz := s.heap.size)
  generalize hAe : va_A (pkW E w kn kz kl kp kk_) s.heap.size = A at hD hZ ⊢
  have hA : ∀ q : Nat, s.heap.size ≤ q → A q := fun q h => by rw [← hAe]; exact Or.inr h
  have hS : va_S A s.heap s.heap [] := va_S.rf
  have hl := lv_entry ([.ref (w 0), .ref (w 0)]) (n := 3) (Nat.le_of_ble_eq_true rfl)
  rw [lg_entry_eq]
  generalize (lg_sl ([.ref (w 0), .ref (w 0)]) ++ List.replicate (3 - (lg_sl ([.ref (w 0), .ref (w 0)])).length) Slot.unset).toArray = ls at hl ⊢
  have hl : lv_has ls 3 [(0, .ref (w 0)), (1, .ref (w 0))] := hl
  refine lv_aload_n hx hb dX3_becomeLike_0 rfl (lv_at hl 0 rfl) ?_
  refine lv_aload_n hx hb dX3_becomeLike_1 rfl (lv_at hl 1 rfl) ?_
  refine va_get (D := G) (ci := 3) (v := .int (nI kn)) (C := RX3) (T := TX3) (N := 5) hx hb hts hin3 hown hK hP 0 rfl rfl 0 (by decide) (hts (Cond.fieldLink RX3 21 "IndentRules$Pocket" "kind" "I") (List.mem_of_getElem? (i := 1) rfl)) (fun _ h9 => h9) rfl dX3_becomeLike_2 ?_
  refine va_put (D := G) (ci := 3) (v := .int (nI kn)) (ty := .int) (C := RX3) (T := TX3) (N := 5) hx hb hts hin3 tyX3 tyX3_ok nmX3 hown hK hP hD hS 0 rfl rfl 0 (by decide) (hts (Cond.fieldLink RX3 21 "IndentRules$Pocket" "kind" "I") (List.mem_of_getElem? (i := 1) rfl)) (fun _ h9 => h9) rfl (by decide +kernel) rfl rfl (Nat.le_of_ble_eq_true rfl) dX3_becomeLike_5 (fun H locs hP hD hS => ?_)
  have hP : va_P G vwCl (pkW E w kn kz kl kp kk_) H := hP
  have hD : va_D A (pkW E w kn kz kl kp kk_) := hD
  refine lv_aload_n hx hb dX3_becomeLike_8 rfl (lv_at hl 0 rfl) ?_
  refine lv_aload_n hx hb dX3_becomeLike_9 rfl (lv_at hl 1 rfl) ?_
  refine va_get (D := G) (ci := 3) (v := .int (nI kz)) (C := RX3) (T := TX3) (N := 5) hx hb hts hin3 hown hK hP 0 rfl rfl 1 (by decide) (hts (Cond.fieldLink RX3 25 "IndentRules$Pocket" "size" "I") (List.mem_of_getElem? (i := 2) rfl)) (fun _ h9 => h9) rfl dX3_becomeLike_10 ?_
  refine va_put (D := G) (ci := 3) (v := .int (nI kz)) (ty := .int) (C := RX3) (T := TX3) (N := 5) hx hb hts hin3 tyX3 tyX3_ok nmX3 hown hK hP hD hS 0 rfl rfl 1 (by decide) (hts (Cond.fieldLink RX3 25 "IndentRules$Pocket" "size" "I") (List.mem_of_getElem? (i := 2) rfl)) (fun _ h9 => h9) rfl (by decide +kernel) rfl rfl (Nat.le_of_ble_eq_true rfl) dX3_becomeLike_13 (fun H locs hP hD hS => ?_)
  have hP : va_P G vwCl (pkW E w kn kz kl kp kk_) H := hP
  have hD : va_D A (pkW E w kn kz kl kp kk_) := hD
  refine lv_iconst (v := (nI 0)) hx hb dX3_becomeLike_16 (by decide) ?_
  refine lv_istore_n (lv' := [(2, .int (nI 0)), (0, .ref (w 0)), (1, .ref (w 0))]) hx hb dX3_becomeLike_17 rfl hl (by decide) rfl (fun ls hl => ?_)
  have lp18 : ∀ (kk : Nat) (i : Nat) (lX : Nat → Int32) (pX : Nat → Int32) (dX : Nat → Int32) (H : Heap) (locs : List Loc), (i ≤ 6) → (lX = kl ∧ pX = kp ∧ dX = kk_) → 6 - i < kk → va_P G vwCl (pkW E w kn kz lX pX dX) H → va_D A (pkW E w kn kz lX pX dX) → va_S A s.heap H locs → ∀ ls : Array Slot, lv_has ls 3 [(2, .int (nI i)), (0, .ref (w 0)), (1, .ref (w 0))] → W p l e (headSpec wsX3_becomeLike ({ frames := 1, cells := 0, slots := 0, locals := 24 } : Room)).room s m ([.ref (w 0), .ref (w 0)] : List Value).toArray below meth c H locs 0 0 (MQ below (va_Qv (fun (u : (Nat → Int32) × (Nat → Int32) × (Nat → Int32)) => ∀ i, i < 6 → u.1 i = kl i ∧ u.2.1 i = kp i ∧ u.2.2 i = kk_ i) (fun (u : (Nat → Int32) × (Nat → Int32) × (Nat → Int32)) tQ => va_P G vwCl (pkW E w kn kz u.1 u.2.1 u.2.2) tQ.heap) A) ([.ref (w 0), .ref (w 0)] : List Value).toArray s 0 0 A) (F0 m 18 ls []) := by
    intro kk
    induction kk with
    | zero => intro i lX pX dX H locs hi hc hkk; exact absurd hkk (Nat.not_lt_zero _)
    | succ kk ih18 =>
      intro i lX pX dX H locs hi hc hkk hP hD hS ls hl
      refine lv_iload_n hx hb dX3_becomeLike_18 rfl (lv_at hl 0 rfl) ?_
      refine lv_bipush (v := (nI 6)) hx hb dX3_becomeLike_19 (by decide) ?_
      refine n_icmp_ge (a := i) (b := 6) (tgt := 53) hx hb (by omega) (by decide) dX3_becomeLike_21 (by decide) (fun c21 => ?_) (fun c21 => ?_)
      · exact W.vret hx hb hr (fun tZ htZ hWZ => ⟨⟨(lX, pX, dX), rfl, fun i2 hi2 => by rw [hc.1, hc.2.1, hc.2.2]; exact ⟨rfl, rfl, rfl⟩, by show va_P G vwCl _ tZ.heap; rw [htZ]; exact hP⟩, hS.F htZ⟩) hS.2.2 dX3_becomeLike_53
      · refine lv_aload_n hx hb dX3_becomeLike_24 rfl (lv_at hl 1 rfl) ?_
        refine lv_iload_n hx hb dX3_becomeLike_25 rfl (lv_at hl 0 rfl) ?_
        refine lv_aload_n hx hb dX3_becomeLike_26 rfl (lv_at hl 2 rfl) ?_
        refine va_get (D := G) (ci := 3) (v := .ref (w 3)) (C := RX3) (T := TX3) (N := 5) hx hb hts hin3 hown hK hP 0 rfl rfl 2 (by decide) (hts (Cond.fieldLink RX3 9 "IndentRules$Pocket" "lineIn" "[I") (List.mem_of_getElem? (i := 3) rfl)) (fun _ h9 => h9) rfl dX3_becomeLike_27 ?_
        refine lv_iload_n hx hb dX3_becomeLike_30 rfl (lv_at hl 0 rfl) ?_
        refine k_iald (D := G) (tys := TYS E) (j := i) (f := lX) (n := 6) hx hb hK hP 1 0 rfl rfl (by omega) (by decide) dX3_becomeLike_31 ?_
        refine lv_aload_n hx hb dX3_becomeLike_32 rfl (lv_at hl 2 rfl) ?_
        refine va_get (D := G) (ci := 3) (v := .ref (w 4)) (C := RX3) (T := TX3) (N := 5) hx hb hts hin3 hown hK hP 0 rfl rfl 3 (by decide) (hts (Cond.fieldLink RX3 15 "IndentRules$Pocket" "placeIn" "[I") (List.mem_of_getElem? (i := 4) rfl)) (fun _ h9 => h9) rfl dX3_becomeLike_33 ?_
        refine lv_iload_n hx hb dX3_becomeLike_36 rfl (lv_at hl 0 rfl) ?_
        refine k_iald (D := G) (tys := TYS E) (j := i) (f := pX) (n := 6) hx hb hK hP 2 0 rfl rfl (by omega) (by decide) dX3_becomeLike_37 ?_
        refine lv_aload_n hx hb dX3_becomeLike_38 rfl (lv_at hl 2 rfl) ?_
        refine va_get (D := G) (ci := 3) (v := .ref (w 5)) (C := RX3) (T := TX3) (N := 5) hx hb hts hin3 hown hK hP 0 rfl rfl 4 (by decide) (hts (Cond.fieldLink RX3 18 "IndentRules$Pocket" "kindIn" "[I") (List.mem_of_getElem? (i := 5) rfl)) (fun _ h9 => h9) rfl dX3_becomeLike_39 ?_
        refine lv_iload_n hx hb dX3_becomeLike_42 rfl (lv_at hl 0 rfl) ?_
        refine k_iald (D := G) (tys := TYS E) (j := i) (f := dX) (n := 6) hx hb hK hP 3 0 rfl rfl (by omega) (by decide) dX3_becomeLike_43 ?_
        refine wf_v (n := 4) (G := G) (E := E) (As := [.int (nI i), .int (lX i), .int (pX i), .int (dX i)]) (rest := []) (ci := 3) (q0 := 0) (wn := fun (_ : Unit) => pkW E w kn kz (upd lX i (lX i)) (upd pX i (pX i)) (upd dX i (dX i))) ⟨hx, hb, hml, hown, hts⟩ hK hZ hS hA (fun sz => c_X3_fill l G E w kn kz lX pX dX i (lX i) (pX i) (dX i) (by first | assumption | omega) sz) gX3_becomeLike_X3_fill rfl rfl rfl (by decide +kernel) ⟨Nat.le_of_ble_eq_true rfl, Nat.le_of_ble_eq_true rfl⟩ hP hD (fun _ => rfl) rfl rfl hl.1 rfl rfl (Nat.le_of_ble_eq_true rfl) dX3_becomeLike_44 ⟨Nat.zero_le _, Nat.zero_le _⟩ (fun u44 H locs p44 hP hD hS => ?_)
        have hP : va_P G vwCl (pkW E w kn kz (upd lX i (lX i)) (upd pX i (pX i)) (upd dX i (dX i))) H := hP
        have hD : va_D A (pkW E w kn kz (upd lX i (lX i)) (upd pX i (pX i)) (upd dX i (dX i))) := hD
        refine lv_iinc (v := (nI (i + 1))) (lv' := [(2, .int (nI (i + 1))), (0, .ref (w 0)), (1, .ref (w 0))]) hx hb dX3_becomeLike_47 hl (k := 0) rfl (k_inc i) (by decide) rfl (fun ls hl => ?_)
        refine lv_goto (tgt := 18) hx hb dX3_becomeLike_50 (by decide) ?_
        exact ih18 (i + 1) (upd lX i (lX i)) (upd pX i (pX i)) (upd dX i (dX i)) _ _ (by omega) ⟨by rw [upd_id]; exact hc.1, by rw [upd_id]; exact hc.2.1, by rw [upd_id]; exact hc.2.2⟩ (by omega) hP hD hS ls (lv_sub hl [0, 1, 2] rfl)
  exact lp18 (6 - 0 + 1) 0 kl kp kk_ _ _ (by decide) ⟨rfl, rfl, rfl⟩ (Nat.lt_succ_self _) hP hD hS ls (lv_sub hl [0, 1, 2] rfl)

set_option maxHeartbeats 4000000 in
set_option maxRecDepth 100000 in
theorem c_X4_insert (l : Launch) (G : va_G) (E : cEnv) (tx : Nat → Nat) (n : Nat) (pi : Nat → Nat) (oa ta : Nat → Nat) (tl ct ps : Nat → Nat) (sn cb : Nat → Int32) (tk : Nat → Nat → Int32) (j t : Nat) (rn : Nat → Nat) (sA : Nat → Int32) (hj : j ≤ n) (hn : n < 20) (ht : t < 1000000000) (hPL : PL n rn pi tl ct ps tk) (hSN : SN n pi sn sA) (hpp : permP pi) (sz : Nat) : Met l yX4_insert wsX4_insert ({ frames := 2, cells := 0, slots := 0, locals := 46 }) (va_Pc [.ref (tx 0), .int (nI j), .int (nI t)] (PW G E ((txW E tx n (slot oa pi)) ++ poW E oa ta tl ct ps sn cb tk) sz)) (va_Qv (fun (u : (Nat → Nat) × (Nat → Nat) × (Nat → Nat) × (Nat → Nat) × (Nat → Int32) × (Nat → Nat → Int32)) => u.1 = piI pi j n ∧ PL (n + 1) (insF rn j t) u.1 u.2.1 u.2.2.1 u.2.2.2.1 u.2.2.2.2.2 ∧ SN (n + 1) u.1 u.2.2.2.2.1 (insF sA j (-9))) (fun (u : (Nat → Nat) × (Nat → Nat) × (Nat → Nat) × (Nat → Nat) × (Nat → Int32) × (Nat → Nat → Int32)) tQ => va_P G vwCl ((txW E tx (n + 1) (slot oa u.1)) ++ poW E oa ta u.2.1 u.2.2.1 u.2.2.2.1 u.2.2.2.2.1 cb u.2.2.2.2.2) tQ.heap) (va_A ((txW E tx n (slot oa pi)) ++ poW E oa ta tl ct ps sn cb tk) sz)) 0 0 (va_A ((txW E tx n (slot oa pi)) ++ poW E oa ta tl ct ps sn cb tk) sz) := by
  refine Met.ofW (cc := cX4_insert) (maxL := 5) (ret := none) (by decide) rfl ?_
  intro p e s m args below meth c s₁ B hml hv
  obtain ⟨rfl, hsz, hP, hK, hD0, hZ⟩ := hv
  have hx := B.exec
  have hb := B.bytes
  have hr := B.returns
  have hts := atoms_spec (ws := wsX4_insert) B.pre
  have hown : s.vm.findClass RX4 = some m.cls := findClass_of_methodNamed B.named
  have hlocks := B.notSynchronized
  have hin1 : ∀ w ∈ u_ws RX1 TX1 6, w ∈ wsX4_insert := mem_pl [18, 19, 20, 21, 22, 23] (by rfl)
  have hin4 : ∀ w ∈ u_ws RX4 TX4 2, w ∈ wsX4_insert := mem_pl [16, 17] (by rfl)
  subst hsz
  have hD := hD0.self (sz := s.heap.size)
  generalize hAe : va_A ((txW E tx n (slot oa pi)) ++ poW E oa ta tl ct ps sn cb tk) s.heap.size = A at hD hZ ⊢
  have hA : ∀ q : Nat, s.heap.size ≤ q → A q := fun q h => by rw [← hAe]; exact Or.inr h
  have hS : va_S A s.heap s.heap [] := va_S.rf
  have hl := lv_entry ([.ref (tx 0), .int (nI j), .int (nI t)]) (n := 5) (Nat.le_of_ble_eq_true rfl)
  rw [lg_entry_eq]
  generalize (lg_sl ([.ref (tx 0), .int (nI j), .int (nI t)]) ++ List.replicate (5 - (lg_sl ([.ref (tx 0), .int (nI j), .int (nI t)])).length) Slot.unset).toArray = ls at hl ⊢
  have hl : lv_has ls 5 [(0, .ref (tx 0)), (1, .int (nI j)), (2, .int (nI t))] := hl
  refine lv_aload_n hx hb dX4_insert_0 rfl (lv_at hl 0 rfl) ?_
  refine va_get (D := G) (ci := 4) (v := .int (nI n)) (C := RX4) (T := TX4) (N := 2) hx hb hts hin4 hown hK hP 0 rfl rfl 1 (by decide) (hts (Cond.fieldLink RX4 18 "IndentRules$Text" "size" "I") (List.mem_of_getElem? (i := 1) rfl)) (fun _ h9 => h9) rfl dX4_insert_1 ?_
  refine lv_bipush (v := (nI 20)) hx hb dX4_insert_4 (by decide) ?_
  refine n_icmp_ge (a := n) (b := 20) (tgt := 21) hx hb (by omega) (by decide) dX4_insert_6 (by decide) (fun c6 => absurd c6 (by omega)) (fun c6 => ?_)
  refine lv_iload_n hx hb dX4_insert_9 rfl (lv_at hl 1 rfl) ?_
  refine n_if_lt (a := j) (tgt := 21) hx hb (by omega) dX4_insert_10 (by decide) ?_
  refine lv_iload_n hx hb dX4_insert_13 rfl (lv_at hl 1 rfl) ?_
  refine lv_aload_n hx hb dX4_insert_14 rfl (lv_at hl 0 rfl) ?_
  refine va_get (D := G) (ci := 4) (v := .int (nI n)) (C := RX4) (T := TX4) (N := 2) hx hb hts hin4 hown hK hP 0 rfl rfl 1 (by decide) (hts (Cond.fieldLink RX4 18 "IndentRules$Text" "size" "I") (List.mem_of_getElem? (i := 1) rfl)) (fun _ h9 => h9) rfl dX4_insert_15 ?_
  refine n_icmp_le (a := j) (b := n) (tgt := 22) hx hb (by omega) (by omega) dX4_insert_18 (by decide) (fun c18 => ?_) (fun c18 => absurd c18 (by omega))
  refine lv_aload_n hx hb dX4_insert_22 rfl (lv_at hl 0 rfl) ?_
  refine va_get (D := G) (ci := 4) (v := .ref (tx 1)) (C := RX4) (T := TX4) (N := 2) hx hb hts hin4 hown hK hP 0 rfl rfl 0 (by decide) (hts (Cond.fieldLink RX4 11 "IndentRules$Text" "lines" "[LIndentRules$Line;") (List.mem_of_getElem? (i := 2) rfl)) (fun _ h9 => h9) rfl dX4_insert_23 ?_
  refine lv_aload_n hx hb dX4_insert_26 rfl (lv_at hl 0 rfl) ?_
  refine va_get (D := G) (ci := 4) (v := .int (nI n)) (C := RX4) (T := TX4) (N := 2) hx hb hts hin4 hown hK hP 0 rfl rfl 1 (by decide) (hts (Cond.fieldLink RX4 18 "IndentRules$Text" "size" "I") (List.mem_of_getElem? (i := 1) rfl)) (fun _ h9 => h9) rfl dX4_insert_27 ?_
  refine k_aald (D := G) (tys := TYS E) (j := n) (f := (slot oa pi)) (n := 20) hx hb hK hP 1 2 rfl rfl (by omega) (by decide) dX4_insert_30 ?_
  refine W.eq (g2 := F0 m 31 ls [.ref (oa (pi n))]) rfl ?_
  refine lv_astore_n (lv' := [(3, .ref (oa (pi n))), (0, .ref (tx 0)), (1, .int (nI j)), (2, .int (nI t))]) hx hb dX4_insert_31 rfl hl (by decide) rfl (fun ls hl => ?_)
  refine lv_aload_n hx hb dX4_insert_32 rfl (lv_at hl 1 rfl) ?_
  refine va_get (D := G) (ci := 4) (v := .int (nI n)) (C := RX4) (T := TX4) (N := 2) hx hb hts hin4 hown hK hP 0 rfl rfl 1 (by decide) (hts (Cond.fieldLink RX4 18 "IndentRules$Text" "size" "I") (List.mem_of_getElem? (i := 1) rfl)) (fun _ h9 => h9) rfl dX4_insert_33 ?_
  refine lv_istore (lv' := [(4, .int (nI n)), (3, .ref (oa (pi n))), (0, .ref (tx 0)), (1, .int (nI j)), (2, .int (nI t))]) hx hb dX4_insert_36 hl (by decide) rfl (fun ls hl => ?_)
  have lp38 : ∀ (kk : Nat) (i : Nat) (piX : Nat → Nat) (H : Heap) (locs : List Loc), (j ≤ i ∧ i ≤ n) → (piX = shF pi i n) → i < kk → va_P G vwCl ((txW E tx n (slot oa piX)) ++ poW E oa ta tl ct ps sn cb tk) H → va_D A ((txW E tx n (slot oa piX)) ++ poW E oa ta tl ct ps sn cb tk) → va_S A s.heap H locs → ∀ ls : Array Slot, lv_has ls 5 [(4, .int (nI i)), (3, .ref (oa (pi n))), (0, .ref (tx 0)), (1, .int (nI j)), (2, .int (nI t))] → W p l e (headSpec wsX4_insert ({ frames := 2, cells := 0, slots := 0, locals := 46 } : Room)).room s m ([.ref (tx 0), .int (nI j), .int (nI t)] : List Value).toArray below meth c H locs 0 0 (MQ below (va_Qv (fun (u : (Nat → Nat) × (Nat → Nat) × (Nat → Nat) × (Nat → Nat) × (Nat → Int32) × (Nat → Nat → Int32)) => u.1 = piI pi j n ∧ PL (n + 1) (insF rn j t) u.1 u.2.1 u.2.2.1 u.2.2.2.1 u.2.2.2.2.2 ∧ SN (n + 1) u.1 u.2.2.2.2.1 (insF sA j (-9))) (fun (u : (Nat → Nat) × (Nat → Nat) × (Nat → Nat) × (Nat → Nat) × (Nat → Int32) × (Nat → Nat → Int32)) tQ => va_P G vwCl ((txW E tx (n + 1) (slot oa u.1)) ++ poW E oa ta u.2.1 u.2.2.1 u.2.2.2.1 u.2.2.2.2.1 cb u.2.2.2.2.2) tQ.heap) A) ([.ref (tx 0), .int (nI j), .int (nI t)] : List Value).toArray s 0 0 A) (F0 m 38 ls []) := by
    intro kk
    induction kk with
    | zero => intro i piX H locs hi hpX hkk; exact absurd hkk (Nat.not_lt_zero _)
    | succ kk ih38 =>
      intro i piX H locs hi hpX hkk hP hD hS ls hl
      refine lv_iload hx hb dX4_insert_38 (lv_at hl 0 rfl) ?_
      refine lv_iload_n hx hb dX4_insert_40 rfl (lv_at hl 3 rfl) ?_
      refine n_icmp_le (a := i) (b := j) (tgt := 66) hx hb (by omega) (by omega) dX4_insert_41 (by decide) (fun c41 => ?_) (fun c41 => ?_)
      · have hij : i = j := by omega
        rw [hij] at hpX
        refine lv_aload_n hx hb dX4_insert_66 rfl (lv_at hl 2 rfl) ?_
        refine va_get (D := G) (ci := 4) (v := .ref (tx 1)) (C := RX4) (T := TX4) (N := 2) hx hb hts hin4 hown hK hP 0 rfl rfl 0 (by decide) (hts (Cond.fieldLink RX4 11 "IndentRules$Text" "lines" "[LIndentRules$Line;") (List.mem_of_getElem? (i := 2) rfl)) (fun _ h9 => h9) rfl dX4_insert_67 ?_
        refine lv_iload_n hx hb dX4_insert_70 rfl (lv_at hl 3 rfl) ?_
        refine lv_aload_n hx hb dX4_insert_71 rfl (lv_at hl 1 rfl) ?_
        refine k_aast (j := j) (x := (pi n)) (oa := oa) (pi := piX) (n := 20) hx hb hK hP hD hS 1 (2 + (pi n)) rfl (po_lnX rfl (hpp n hn).1) (by omega) (by decide) dX4_insert_72 (fun H locs hP hD hS => ?_)
        have hP : va_P G vwCl ((txW E tx n (slot oa (updF piX j (pi n)))) ++ poW E oa ta tl ct ps sn cb tk) H := hP
        have hD : va_D A ((txW E tx n (slot oa (updF piX j (pi n)))) ++ poW E oa ta tl ct ps sn cb tk) := hD
        obtain ⟨pi72, epi72⟩ : ∃ z : Nat → Nat, z = updF piX j (pi n) := ⟨_, rfl⟩
        rw [← epi72] at hP hD
        refine lv_aload_n hx hb dX4_insert_73 rfl (lv_at hl 2 rfl) ?_
        refine lv_dup hx hb dX4_insert_74 rfl ?_
        refine va_get (D := G) (ci := 4) (v := .int (nI n)) (C := RX4) (T := TX4) (N := 2) hx hb hts hin4 hown hK hP 0 rfl rfl 1 (by decide) (hts (Cond.fieldLink RX4 18 "IndentRules$Text" "size" "I") (List.mem_of_getElem? (i := 1) rfl)) (fun _ h9 => h9) rfl dX4_insert_75 ?_
        refine lv_iconst (v := (nI 1)) hx hb dX4_insert_78 (by decide) ?_
        refine k_iadd (a := n) (b := 1) hx hb dX4_insert_79 ?_
        refine va_put (D := G) (ci := 4) (v := .int (nI (n + 1))) (ty := .int) (C := RX4) (T := TX4) (N := 2) hx hb hts hin4 tyX4 tyX4_ok nmX4 hown hK hP hD hS 0 rfl rfl 1 (by decide) (hts (Cond.fieldLink RX4 18 "IndentRules$Text" "size" "I") (List.mem_of_getElem? (i := 1) rfl)) (fun _ h9 => h9) rfl (by decide +kernel) rfl rfl (Nat.le_of_ble_eq_true rfl) dX4_insert_80 (fun H locs hP hD hS => ?_)
        have hP : va_P G vwCl ((txW E tx (n + 1) (slot oa pi72)) ++ poW E oa ta tl ct ps sn cb tk) H := hP
        have hD : va_D A ((txW E tx (n + 1) (slot oa pi72)) ++ poW E oa ta tl ct ps sn cb tk) := hD
        refine lv_aload_n hx hb dX4_insert_83 rfl (lv_at hl 1 rfl) ?_
        refine lv_iload_n hx hb dX4_insert_84 rfl (lv_at hl 4 rfl) ?_
        refine wl_v (n := 1) (G := G) (E := E) (As := [.int (nI t)]) (rest := []) (i := (pi n)) (X := txW E tx (n + 1) (slot oa pi72)) (t1 := t) (c1 := (len t)) (p1 := (pres t)) ⟨hx, hb, hml, hown, hts⟩ hK hZ hS hA (fun sz => c_X1_read l G E (oa (pi n)) (ta (pi n)) (tl (pi n)) (ct (pi n)) (ps (pi n)) (sn (pi n)) (cb (pi n)) (tk (pi n)) t (by first | assumption | omega) sz) gX4_insert_X1_read rfl rfl rfl (by decide +kernel) ⟨Nat.le_of_ble_eq_true rfl, Nat.le_of_ble_eq_true rfl⟩ (hpp n hn).1 hP hD hl.1 rfl rfl (Nat.le_of_ble_eq_true rfl) dX4_insert_85 ⟨Nat.zero_le _, Nat.zero_le _⟩ (fun u85 H locs p85 hP hD hS => ?_)
        generalize u85 = tk'_85 at p85 hP hD
        try dsimp only at p85 hP hD
        have hP : va_P G vwCl ((txW E tx (n + 1) (slot oa pi72)) ++ poW E oa ta (updF tl (pi n) t) (updF ct (pi n) (len t)) (updF ps (pi n) (pres t)) sn cb (updF tk (pi n) tk'_85)) H := hP
        have hD : va_D A ((txW E tx (n + 1) (slot oa pi72)) ++ poW E oa ta (updF tl (pi n) t) (updF ct (pi n) (len t)) (updF ps (pi n) (pres t)) sn cb (updF tk (pi n) tk'_85)) := hD
        refine lv_aload_n hx hb dX4_insert_88 rfl (lv_at hl 1 rfl) ?_
        refine lv_bipush (v := (-9)) hx hb dX4_insert_89 (by decide) ?_
        refine va_put (D := G) (ci := 1) (v := .int (-9)) (ty := .int) (C := RX1) (T := TX1) (N := 6) hx hb hts hin1 tyX1 tyX1_ok nmX1 hown hK hP hD hS (2 + (pi n)) (po_lnX rfl (hpp n hn).1) rfl 4 (by decide) (hts (Cond.fieldLink RX4 26 "IndentRules$Line" "seen" "I") (List.mem_of_getElem? (i := 3) rfl)) (fun _ h9 => h9) rfl (by decide +kernel) rfl rfl (Nat.le_of_ble_eq_true rfl) dX4_insert_91 (fun H locs hP hD hS => ?_)
        have hP := Eq.mp (congrArg (fun w => va_P G vwCl w H) (po_sn (X := txW E tx (n + 1) (slot oa pi72)) (n := 2) (i := (pi n)) (v := (-9)) rfl (hpp n hn).1)) hP
        have hD := Eq.mp (congrArg (fun w => va_D A w) (po_sn (X := txW E tx (n + 1) (slot oa pi72)) (n := 2) (i := (pi n)) (v := (-9)) rfl (hpp n hn).1)) hD
        obtain ⟨sn91, esn91⟩ : ∃ z : Nat → Int32, z = upd sn (pi n) (-9) := ⟨_, rfl⟩
        rw [← esn91] at hP hD
        have hP : va_P G vwCl ((txW E tx (n + 1) (slot oa pi72)) ++ poW E oa ta (updF tl (pi n) t) (updF ct (pi n) (len t)) (updF ps (pi n) (pres t)) sn91 cb (updF tk (pi n) tk'_85)) H := hP
        have hD : va_D A ((txW E tx (n + 1) (slot oa pi72)) ++ poW E oa ta (updF tl (pi n) t) (updF ct (pi n) (len t)) (updF ps (pi n) (pres t)) sn91 cb (updF tk (pi n) tk'_85)) := hD
        exact W.vret hx hb hr (fun tZ htZ hWZ => ⟨⟨(pi72, (updF tl (pi n) t), (updF ct (pi n) (len t)), (updF ps (pi n) (pres t)), sn91, (updF tk (pi n) tk'_85)), rfl, ⟨by rw [epi72, hpX]; rfl, by rw [show pi72 = piI pi j n by rw [epi72, hpX]; rfl]; exact PL_ins hPL hpp hj hn p85, by rw [show pi72 = piI pi j n by rw [epi72, hpX]; rfl, esn91]; exact SN_ins hSN hpp hj hn⟩, by show va_P G vwCl _ tZ.heap; rw [htZ]; exact hP⟩, hS.F htZ⟩) hS.2.2 dX4_insert_94
      · obtain ⟨y0, rfl⟩ : ∃ y0, i = y0 + 1 := ⟨i - 1, by omega⟩
        refine lv_aload_n hx hb dX4_insert_44 rfl (lv_at hl 2 rfl) ?_
        refine va_get (D := G) (ci := 4) (v := .ref (tx 1)) (C := RX4) (T := TX4) (N := 2) hx hb hts hin4 hown hK hP 0 rfl rfl 0 (by decide) (hts (Cond.fieldLink RX4 11 "IndentRules$Text" "lines" "[LIndentRules$Line;") (List.mem_of_getElem? (i := 2) rfl)) (fun _ h9 => h9) rfl dX4_insert_45 ?_
        refine lv_iload hx hb dX4_insert_48 (lv_at hl 0 rfl) ?_
        refine lv_aload_n hx hb dX4_insert_50 rfl (lv_at hl 2 rfl) ?_
        refine va_get (D := G) (ci := 4) (v := .ref (tx 1)) (C := RX4) (T := TX4) (N := 2) hx hb hts hin4 hown hK hP 0 rfl rfl 0 (by decide) (hts (Cond.fieldLink RX4 11 "IndentRules$Text" "lines" "[LIndentRules$Line;") (List.mem_of_getElem? (i := 2) rfl)) (fun _ h9 => h9) rfl dX4_insert_51 ?_
        refine lv_iload hx hb dX4_insert_54 (lv_at hl 0 rfl) ?_
        refine lv_iconst (v := (nI 1)) hx hb dX4_insert_56 (by decide) ?_
        refine k_isub (a := (y0 + 1)) (b := 1) hx hb (by omega) dX4_insert_57 ?_
        rw [show (y0 + 1) - 1 = y0 from by omega]
        refine k_aald (D := G) (tys := TYS E) (j := y0) (f := (slot oa piX)) (n := 20) hx hb hK hP 1 2 rfl rfl (by omega) (by decide) dX4_insert_58 ?_
        refine W.eq (g2 := F0 m 59 ls [.ref (oa (piX y0)), .int (nI (y0 + 1)), .ref (tx 1)]) rfl ?_
        refine k_aast (j := (y0 + 1)) (x := (piX y0)) (oa := oa) (pi := piX) (n := 20) hx hb hK hP hD hS 1 (2 + (piX y0)) rfl (po_lnX rfl (by rw [hpX]; unfold shF; split <;> exact (hpp _ (by omega)).1)) (by omega) (by decide) dX4_insert_59 (fun H locs hP hD hS => ?_)
        have hP : va_P G vwCl ((txW E tx n (slot oa (updF piX (y0 + 1) (piX y0)))) ++ poW E oa ta tl ct ps sn cb tk) H := hP
        have hD : va_D A ((txW E tx n (slot oa (updF piX (y0 + 1) (piX y0)))) ++ poW E oa ta tl ct ps sn cb tk) := hD
        obtain ⟨pi59, epi59⟩ : ∃ z : Nat → Nat, z = updF piX (y0 + 1) (piX y0) := ⟨_, rfl⟩
        rw [← epi59] at hP hD
        refine lv_iinc (v := (nI y0)) (lv' := [(4, .int (nI y0)), (3, .ref (oa (pi n))), (0, .ref (tx 0)), (1, .int (nI j)), (2, .int (nI t))]) hx hb dX4_insert_60 hl (k := 0) rfl (k_dec y0) (by decide) rfl (fun ls hl => ?_)
        refine lv_goto (tgt := 38) hx hb dX4_insert_63 (by decide) ?_
        exact ih38 y0 pi59 _ _ ⟨by omega, by omega⟩ (by rw [epi59, hpX]; exact shF_stepN pi (by omega)) (by omega) hP hD hS ls (lv_sub hl [0, 1, 2, 3, 4] rfl)
  exact lp38 (n + 1) n pi _ _ ⟨hj, Nat.le_refl _⟩ (shF_n pi n).symm (Nat.lt_succ_self _) hP hD hS ls (lv_sub hl [0, 1, 2, 3, 4] rfl)

set_option maxHeartbeats 4000000 in
set_option maxRecDepth 100000 in
theorem c_X4_remove (l : Launch) (G : va_G) (E : cEnv) (tx : Nat → Nat) (n : Nat) (pi : Nat → Nat) (oa ta : Nat → Nat) (tl ct ps : Nat → Nat) (sn cb : Nat → Int32) (tk : Nat → Nat → Int32) (j : Nat) (rn : Nat → Nat) (sA : Nat → Int32) (hj : j < n) (hn : n ≤ 20) (hPL : PL n rn pi tl ct ps tk) (hSN : SN n pi sn sA) (hpp : permP pi) (sz : Nat) : Met l yX4_remove wsX4_remove ({ frames := 0, cells := 0, slots := 0, locals := 0 }) (va_Pc [.ref (tx 0), .int (nI j)] (PW G E ((txW E tx n (slot oa pi)) ++ poW E oa ta tl ct ps sn cb tk) sz)) (va_Qv (fun (pi' : Nat → Nat) => pi' = piR pi j n ∧ PL (n - 1) (delF rn j) pi' tl ct ps tk ∧ SN (n - 1) pi' sn (delF sA j)) (fun (pi' : Nat → Nat) tQ => va_P G vwCl ((txW E tx (n - 1) (slot oa pi')) ++ poW E oa ta tl ct ps sn cb tk) tQ.heap) (va_A ((txW E tx n (slot oa pi)) ++ poW E oa ta tl ct ps sn cb tk) sz)) 0 0 (va_A ((txW E tx n (slot oa pi)) ++ poW E oa ta tl ct ps sn cb tk) sz) := by
  refine Met.ofW (cc := cX4_remove) (maxL := 4) (ret := none) (by decide) rfl ?_
  intro p e s m args below meth c s₁ B hml hv
  obtain ⟨rfl, hsz, hP, hK, hD0, hZ⟩ := hv
  have hx := B.exec
  have hb := B.bytes
  have hr := B.returns
  have hts := atoms_spec (ws := wsX4_remove) B.pre
  have hown : s.vm.findClass RX4 = some m.cls := findClass_of_methodNamed B.named
  have hlocks := B.notSynchronized
  have hin4 : ∀ w ∈ u_ws RX4 TX4 2, w ∈ wsX4_remove := mem_pl [3, 4] (by rfl)
  subst hsz
  have hD := hD0.self (sz := s.heap.size)
  generalize hAe : va_A ((txW E tx n (slot oa pi)) ++ poW E oa ta tl ct ps sn cb tk) s.heap.size = A at hD hZ ⊢
  have hA : ∀ q : Nat, s.heap.size ≤ q → A q := fun q h => by rw [← hAe]; exact Or.inr h
  have hS : va_S A s.heap s.heap [] := va_S.rf
  have hl := lv_entry ([.ref (tx 0), .int (nI j)]) (n := 4) (Nat.le_of_ble_eq_true rfl)
  rw [lg_entry_eq]
  generalize (lg_sl ([.ref (tx 0), .int (nI j)]) ++ List.replicate (4 - (lg_sl ([.ref (tx 0), .int (nI j)])).length) Slot.unset).toArray = ls at hl ⊢
  have hl : lv_has ls 4 [(0, .ref (tx 0)), (1, .int (nI j))] := hl
  refine lv_iload_n hx hb dX4_remove_0 rfl (lv_at hl 1 rfl) ?_
  refine n_if_lt (a := j) (tgt := 12) hx hb (by omega) dX4_remove_1 (by decide) ?_
  refine lv_iload_n hx hb dX4_remove_4 rfl (lv_at hl 1 rfl) ?_
  refine lv_aload_n hx hb dX4_remove_5 rfl (lv_at hl 0 rfl) ?_
  refine va_get (D := G) (ci := 4) (v := .int (nI n)) (C := RX4) (T := TX4) (N := 2) hx hb hts hin4 hown hK hP 0 rfl rfl 1 (by decide) (hts (Cond.fieldLink RX4 18 "IndentRules$Text" "size" "I") (List.mem_of_getElem? (i := 1) rfl)) (fun _ h9 => h9) rfl dX4_remove_6 ?_
  refine n_icmp_lt (a := j) (b := n) (tgt := 13) hx hb (by omega) (by omega) dX4_remove_9 (by decide) (fun c9 => ?_) (fun c9 => absurd c9 (by omega))
  refine lv_aload_n hx hb dX4_remove_13 rfl (lv_at hl 0 rfl) ?_
  refine va_get (D := G) (ci := 4) (v := .ref (tx 1)) (C := RX4) (T := TX4) (N := 2) hx hb hts hin4 hown hK hP 0 rfl rfl 0 (by decide) (hts (Cond.fieldLink RX4 11 "IndentRules$Text" "lines" "[LIndentRules$Line;") (List.mem_of_getElem? (i := 2) rfl)) (fun _ h9 => h9) rfl dX4_remove_14 ?_
  refine lv_iload_n hx hb dX4_remove_17 rfl (lv_at hl 1 rfl) ?_
  refine k_aald (D := G) (tys := TYS E) (j := j) (f := (slot oa pi)) (n := 20) hx hb hK hP 1 2 rfl rfl (by omega) (by decide) dX4_remove_18 ?_
  refine W.eq (g2 := F0 m 19 ls [.ref (oa (pi j))]) rfl ?_
  refine lv_astore_n (lv' := [(2, .ref (oa (pi j))), (0, .ref (tx 0)), (1, .int (nI j))]) hx hb dX4_remove_19 rfl hl (by decide) rfl (fun ls hl => ?_)
  refine lv_iload_n hx hb dX4_remove_20 rfl (lv_at hl 2 rfl) ?_
  refine lv_istore_n (lv' := [(3, .int (nI j)), (2, .ref (oa (pi j))), (0, .ref (tx 0)), (1, .int (nI j))]) hx hb dX4_remove_21 rfl hl (by decide) rfl (fun ls hl => ?_)
  have lp22 : ∀ (kk : Nat) (i : Nat) (piX : Nat → Nat) (H : Heap) (locs : List Loc), (j ≤ i ∧ i ≤ n - 1) → (piX = slF pi j i) → n - i < kk → va_P G vwCl ((txW E tx n (slot oa piX)) ++ poW E oa ta tl ct ps sn cb tk) H → va_D A ((txW E tx n (slot oa piX)) ++ poW E oa ta tl ct ps sn cb tk) → va_S A s.heap H locs → ∀ ls : Array Slot, lv_has ls 4 [(3, .int (nI i)), (2, .ref (oa (pi j))), (0, .ref (tx 0)), (1, .int (nI j))] → W p l e (headSpec wsX4_remove ({ frames := 0, cells := 0, slots := 0, locals := 0 } : Room)).room s m ([.ref (tx 0), .int (nI j)] : List Value).toArray below meth c H locs 0 0 (MQ below (va_Qv (fun (pi' : Nat → Nat) => pi' = piR pi j n ∧ PL (n - 1) (delF rn j) pi' tl ct ps tk ∧ SN (n - 1) pi' sn (delF sA j)) (fun (pi' : Nat → Nat) tQ => va_P G vwCl ((txW E tx (n - 1) (slot oa pi')) ++ poW E oa ta tl ct ps sn cb tk) tQ.heap) A) ([.ref (tx 0), .int (nI j)] : List Value).toArray s 0 0 A) (F0 m 22 ls []) := by
    intro kk
    induction kk with
    | zero => intro i piX H locs hi hpX hkk; exact absurd hkk (Nat.not_lt_zero _)
    | succ kk ih22 =>
      intro i piX H locs hi hpX hkk hP hD hS ls hl
      refine lv_iload_n hx hb dX4_remove_22 rfl (lv_at hl 0 rfl) ?_
      refine lv_aload_n hx hb dX4_remove_23 rfl (lv_at hl 2 rfl) ?_
      refine va_get (D := G) (ci := 4) (v := .int (nI n)) (C := RX4) (T := TX4) (N := 2) hx hb hts hin4 hown hK hP 0 rfl rfl 1 (by decide) (hts (Cond.fieldLink RX4 18 "IndentRules$Text" "size" "I") (List.mem_of_getElem? (i := 1) rfl)) (fun _ h9 => h9) rfl dX4_remove_24 ?_
      refine lv_iconst (v := (nI 1)) hx hb dX4_remove_27 (by decide) ?_
      refine k_isub (a := n) (b := 1) hx hb (by omega) dX4_remove_28 ?_
      refine n_icmp_ge (a := i) (b := (n - 1)) (tgt := 52) hx hb (by omega) (by omega) dX4_remove_29 (by decide) (fun c29 => ?_) (fun c29 => ?_)
      · refine lv_aload_n hx hb dX4_remove_52 rfl (lv_at hl 2 rfl) ?_
        refine lv_dup hx hb dX4_remove_53 rfl ?_
        refine va_get (D := G) (ci := 4) (v := .int (nI n)) (C := RX4) (T := TX4) (N := 2) hx hb hts hin4 hown hK hP 0 rfl rfl 1 (by decide) (hts (Cond.fieldLink RX4 18 "IndentRules$Text" "size" "I") (List.mem_of_getElem? (i := 1) rfl)) (fun _ h9 => h9) rfl dX4_remove_54 ?_
        refine lv_iconst (v := (nI 1)) hx hb dX4_remove_57 (by decide) ?_
        refine k_isub (a := n) (b := 1) hx hb (by omega) dX4_remove_58 ?_
        refine va_put (D := G) (ci := 4) (v := .int (nI (n - 1))) (ty := .int) (C := RX4) (T := TX4) (N := 2) hx hb hts hin4 tyX4 tyX4_ok nmX4 hown hK hP hD hS 0 rfl rfl 1 (by decide) (hts (Cond.fieldLink RX4 18 "IndentRules$Text" "size" "I") (List.mem_of_getElem? (i := 1) rfl)) (fun _ h9 => h9) rfl (by decide +kernel) rfl rfl (Nat.le_of_ble_eq_true rfl) dX4_remove_59 (fun H locs hP hD hS => ?_)
        have hP : va_P G vwCl ((txW E tx (n - 1) (slot oa piX)) ++ poW E oa ta tl ct ps sn cb tk) H := hP
        have hD : va_D A ((txW E tx (n - 1) (slot oa piX)) ++ poW E oa ta tl ct ps sn cb tk) := hD
        refine lv_aload_n hx hb dX4_remove_62 rfl (lv_at hl 2 rfl) ?_
        refine va_get (D := G) (ci := 4) (v := .ref (tx 1)) (C := RX4) (T := TX4) (N := 2) hx hb hts hin4 hown hK hP 0 rfl rfl 0 (by decide) (hts (Cond.fieldLink RX4 11 "IndentRules$Text" "lines" "[LIndentRules$Line;") (List.mem_of_getElem? (i := 2) rfl)) (fun _ h9 => h9) rfl dX4_remove_63 ?_
        refine lv_aload_n hx hb dX4_remove_66 rfl (lv_at hl 2 rfl) ?_
        refine va_get (D := G) (ci := 4) (v := .int (nI (n - 1))) (C := RX4) (T := TX4) (N := 2) hx hb hts hin4 hown hK hP 0 rfl rfl 1 (by decide) (hts (Cond.fieldLink RX4 18 "IndentRules$Text" "size" "I") (List.mem_of_getElem? (i := 1) rfl)) (fun _ h9 => h9) rfl dX4_remove_67 ?_
        refine lv_aload_n hx hb dX4_remove_70 rfl (lv_at hl 1 rfl) ?_
        refine k_aast (j := (n - 1)) (x := (pi j)) (oa := oa) (pi := piX) (n := 20) hx hb hK hP hD hS 1 (2 + (pi j)) rfl (po_lnX rfl (hpp j (by omega)).1) (by omega) (by decide) dX4_remove_71 (fun H locs hP hD hS => ?_)
        have hP : va_P G vwCl ((txW E tx (n - 1) (slot oa (updF piX (n - 1) (pi j)))) ++ poW E oa ta tl ct ps sn cb tk) H := hP
        have hD : va_D A ((txW E tx (n - 1) (slot oa (updF piX (n - 1) (pi j)))) ++ poW E oa ta tl ct ps sn cb tk) := hD
        obtain ⟨pi71, epi71⟩ : ∃ z : Nat → Nat, z = updF piX (n - 1) (pi j) := ⟨_, rfl⟩
        rw [← epi71] at hP hD
        have hpi : pi71 = piR pi j n := by rw [epi71, hpX, show i = n - 1 by omega]; rfl
        exact W.vret hx hb hr (fun tZ htZ hWZ => ⟨⟨pi71, rfl, ⟨hpi, by rw [hpi]; exact PL_del hPL hj, by rw [hpi]; exact SN_del hSN⟩, by show va_P G vwCl _ tZ.heap; rw [htZ]; exact hP⟩, hS.F htZ⟩) hS.2.2 dX4_remove_72
      · refine lv_aload_n hx hb dX4_remove_32 rfl (lv_at hl 2 rfl) ?_
        refine va_get (D := G) (ci := 4) (v := .ref (tx 1)) (C := RX4) (T := TX4) (N := 2) hx hb hts hin4 hown hK hP 0 rfl rfl 0 (by decide) (hts (Cond.fieldLink RX4 11 "IndentRules$Text" "lines" "[LIndentRules$Line;") (List.mem_of_getElem? (i := 2) rfl)) (fun _ h9 => h9) rfl dX4_remove_33 ?_
        refine lv_iload_n hx hb dX4_remove_36 rfl (lv_at hl 0 rfl) ?_
        refine lv_aload_n hx hb dX4_remove_37 rfl (lv_at hl 2 rfl) ?_
        refine va_get (D := G) (ci := 4) (v := .ref (tx 1)) (C := RX4) (T := TX4) (N := 2) hx hb hts hin4 hown hK hP 0 rfl rfl 0 (by decide) (hts (Cond.fieldLink RX4 11 "IndentRules$Text" "lines" "[LIndentRules$Line;") (List.mem_of_getElem? (i := 2) rfl)) (fun _ h9 => h9) rfl dX4_remove_38 ?_
        refine lv_iload_n hx hb dX4_remove_41 rfl (lv_at hl 0 rfl) ?_
        refine lv_iconst (v := (nI 1)) hx hb dX4_remove_42 (by decide) ?_
        refine k_iadd (a := i) (b := 1) hx hb dX4_remove_43 ?_
        refine k_aald (D := G) (tys := TYS E) (j := (i + 1)) (f := (slot oa piX)) (n := 20) hx hb hK hP 1 2 rfl rfl (by omega) (by decide) dX4_remove_44 ?_
        refine W.eq (g2 := F0 m 45 ls [.ref (oa (piX (i + 1))), .int (nI i), .ref (tx 1)]) rfl ?_
        refine k_aast (j := i) (x := (piX (i + 1))) (oa := oa) (pi := piX) (n := 20) hx hb hK hP hD hS 1 (2 + (piX (i + 1))) rfl (po_lnX rfl (by rw [hpX]; unfold slF; split <;> exact (hpp _ (by omega)).1)) (by omega) (by decide) dX4_remove_45 (fun H locs hP hD hS => ?_)
        have hP : va_P G vwCl ((txW E tx n (slot oa (updF piX i (piX (i + 1))))) ++ poW E oa ta tl ct ps sn cb tk) H := hP
        have hD : va_D A ((txW E tx n (slot oa (updF piX i (piX (i + 1))))) ++ poW E oa ta tl ct ps sn cb tk) := hD
        obtain ⟨pi45, epi45⟩ : ∃ z : Nat → Nat, z = updF piX i (piX (i + 1)) := ⟨_, rfl⟩
        rw [← epi45] at hP hD
        refine lv_iinc (v := (nI (i + 1))) (lv' := [(3, .int (nI (i + 1))), (2, .ref (oa (pi j))), (0, .ref (tx 0)), (1, .int (nI j))]) hx hb dX4_remove_46 hl (k := 0) rfl (k_inc i) (by decide) rfl (fun ls hl => ?_)
        refine lv_goto (tgt := 22) hx hb dX4_remove_49 (by decide) ?_
        exact ih22 (i + 1) pi45 _ _ ⟨by omega, by omega⟩ (by rw [epi45, hpX]; exact slF_stepN pi (by omega)) (by omega) hP hD hS ls (lv_sub hl [0, 1, 2, 3] rfl)
  exact lp22 (n - j + 1) j pi _ _ ⟨Nat.le_refl _, by omega⟩ (slF_0 pi j).symm (Nat.lt_succ_self _) hP hD hS ls (lv_sub hl [0, 1, 2, 3] rfl)
