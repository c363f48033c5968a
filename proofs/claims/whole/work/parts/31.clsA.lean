set_option maxHeartbeats 4000000 in
set_option maxRecDepth 100000 in
theorem c_X1_digitsOf (l : Launch) (G : va_G) (E : cEnv) (t : Nat) (ht : t < 1000000000) : Met l yX1_digitsOf wsX1_digitsOf ({ frames := 0, cells := 0, slots := 0, locals := 0 }) (va_Pc [.int (nI t)] (PR G E ([]))) (vp_Si (fun r => r = nI (len t))) 0 0 (fun _ => False) := by
  refine Met.ofW (cc := cX1_digitsOf) (maxL := 4) (ret := (some .int)) (by decide) rfl ?_
  intro p e s m args below meth c s₁ B hml hv
  obtain ⟨rfl, hP, hK, hZ⟩ := hv
  have hx := B.exec
  have hb := B.bytes
  have hr := B.returns
  have hts := atoms_spec (ws := wsX1_digitsOf) B.pre
  have hown : s.vm.findClass RX1 = some m.cls := findClass_of_methodNamed B.named
  have hlocks := B.notSynchronized
  have hS : va_S (fun _ => False) s.heap s.heap [] := va_S.rf
  have hl := lv_entry ([.int (nI t)]) (n := 4) (Nat.le_of_ble_eq_true rfl)
  rw [lg_entry_eq]
  generalize (lg_sl ([.int (nI t)]) ++ List.replicate (4 - (lg_sl ([.int (nI t)])).length) Slot.unset).toArray = ls at hl ⊢
  have hl : lv_has ls 4 [(0, .int (nI t))] := hl
  have hl9 := (len_lt 9 t).mp ht
  refine lv_iconst (v := (nI 0)) hx hb dX1_digitsOf_0 (by decide) ?_
  refine lv_istore_n (lv' := [(1, .int (nI 0)), (0, .int (nI t))]) hx hb dX1_digitsOf_1 rfl hl (by decide) rfl (fun ls hl => ?_)
  refine lv_iload_n hx hb dX1_digitsOf_2 rfl (lv_at hl 1 rfl) ?_
  refine lv_istore_n (lv' := [(2, .int (nI t)), (1, .int (nI 0)), (0, .int (nI t))]) hx hb dX1_digitsOf_3 rfl hl (by decide) rfl (fun ls hl => ?_)
  refine lv_iconst (v := (nI 0)) hx hb dX1_digitsOf_4 (by decide) ?_
  refine lv_istore_n (lv' := [(3, .int (nI 0)), (2, .int (nI t)), (1, .int (nI 0)), (0, .int (nI t))]) hx hb dX1_digitsOf_5 rfl hl (by decide) rfl (fun ls hl => ?_)
  have lp6 : ∀ (kk : Nat) (dg : Nat) (lf : Nat), (dg + len lf = len t) → (lf < 1000000000) → lf < kk → ∀ ls : Array Slot, lv_has ls 4 [(3, .int (nI dg)), (2, .int (nI lf)), (1, .int (nI dg)), (0, .int (nI t))] → W p l e (headSpec wsX1_digitsOf ({ frames := 0, cells := 0, slots := 0, locals := 0 } : Room)).room s m ([.int (nI t)] : List Value).toArray below meth c s.heap [] 0 0 (MQ below (vp_Si (fun r => r = nI (len t))) ([.int (nI t)] : List Value).toArray s 0 0 (fun _ => False)) (F0 m 6 ls []) := by
    intro kk
    induction kk with
    | zero => intro dg lf  hn hf hkk; exact absurd hkk (Nat.not_lt_zero _)
    | succ kk ih6 =>
      intro dg lf hn hf hkk ls hl
      refine lv_iload_n hx hb dX1_digitsOf_6 rfl (lv_at hl 0 rfl) ?_
      refine lv_bipush (v := (nI 9)) hx hb dX1_digitsOf_7 (by decide) ?_
      refine n_icmp_ge (a := dg) (b := 9) (tgt := 30) hx hb (by omega) (by decide) dX1_digitsOf_9 (by decide) (fun c9 => ?_) (fun c9 => ?_)
      · refine lv_iload_n hx hb dX1_digitsOf_30 rfl (lv_at hl 2 rfl) ?_
        exact W.iret (v := (nI dg)) hx hb hr (fun tZ htZ hWZ => ⟨_, rfl, by rw [show dg = len t by omega], htZ⟩) (fun _ h => by cases h) dX1_digitsOf_31
      · refine lv_iload_n hx hb dX1_digitsOf_12 rfl (lv_at hl 1 rfl) ?_
        refine n_if_le (a := lf) (tgt := 30) hx hb (by omega) dX1_digitsOf_13 (by decide) (fun c13 => ?_) (fun c13 => ?_)
        · refine lv_iload_n hx hb dX1_digitsOf_30 rfl (lv_at hl 2 rfl) ?_
          exact W.iret (v := (nI dg)) hx hb hr (fun tZ htZ hWZ => ⟨_, rfl, by rw [c13, len_0] at hn; rw [← hn]; rfl, htZ⟩) (fun _ h => by cases h) dX1_digitsOf_31
        · refine lv_iinc (v := (nI (dg + 1))) (lv' := [(1, .int (nI (dg + 1))), (3, .int (nI dg)), (2, .int (nI lf)), (0, .int (nI t))]) hx hb dX1_digitsOf_16 hl (k := 2) rfl (k_inc dg) (by decide) rfl (fun ls hl => ?_)
          refine lv_iload_n hx hb dX1_digitsOf_19 rfl (lv_at hl 2 rfl) ?_
          refine lv_bipush (v := (nI 10)) hx hb dX1_digitsOf_20 (by decide) ?_
          refine k_idiv (a := lf) (b := 10) hx hb (by omega) (by decide) (by decide) dX1_digitsOf_22 ?_
          refine lv_istore_n (lv' := [(2, .int (nI (lf / 10))), (1, .int (nI (dg + 1))), (3, .int (nI dg)), (0, .int (nI t))]) hx hb dX1_digitsOf_23 rfl hl (by decide) rfl (fun ls hl => ?_)
          refine lv_iinc (v := (nI (dg + 1))) (lv' := [(3, .int (nI (dg + 1))), (2, .int (nI (lf / 10))), (1, .int (nI (dg + 1))), (0, .int (nI t))]) hx hb dX1_digitsOf_24 hl (k := 2) rfl (k_inc dg) (by decide) rfl (fun ls hl => ?_)
          refine lv_goto (tgt := 6) hx hb dX1_digitsOf_27 (by decide) ?_
          exact ih6 (dg + 1) (lf / 10) (by rw [len_s c13] at hn; omega) (by omega) (by omega) ls (lv_sub hl [0, 1, 2, 3] rfl)
  exact lp6 (t + 1) 0 t (by simp) ht (Nat.lt_succ_self _) ls (lv_sub hl [0, 1, 2, 3] rfl)

set_option maxHeartbeats 4000000 in
set_option maxRecDepth 100000 in
theorem c_X1_widthAhead (l : Launch) (G : va_G) (E : cEnv) (q q2 : Nat) (tl ct ps : Nat) (sn cb : Int32) (tk : Nat → Int32) (i : Nat) (t : Nat) (ht : t < 1000000000) (hct : ct = len t) (htk : ∀ k, k < len t → tk k = nI (tok t k)) (hi : i ≤ len t) : Met l yX1_widthAhead wsX1_widthAhead ({ frames := 0, cells := 0, slots := 0, locals := 0 }) (va_Pc [.ref q, .int (nI i)] (PR G E ([(q, .inr (1, [.ref q2, .int (nI tl), .int (nI ct), .int (nI ps), .int sn, .int cb])), (q2, .inl (E.1, 9, .inl tk))]))) (vp_Si (fun r => r = nI (wsum t i))) 0 0 (fun _ => False) := by
  refine Met.ofW (cc := cX1_widthAhead) (maxL := 4) (ret := (some .int)) (by decide) rfl ?_
  intro p e s m args below meth c s₁ B hml hv
  obtain ⟨rfl, hP, hK, hZ⟩ := hv
  have hx := B.exec
  have hb := B.bytes
  have hr := B.returns
  have hts := atoms_spec (ws := wsX1_widthAhead) B.pre
  have hown : s.vm.findClass RX1 = some m.cls := findClass_of_methodNamed B.named
  have hlocks := B.notSynchronized
  have hin1 : ∀ w ∈ u_ws RX1 TX1 6, w ∈ wsX1_widthAhead := mem_pl [3, 4, 5, 6, 7, 8] (by rfl)
  have hS : va_S (fun _ => False) s.heap s.heap [] := va_S.rf
  have hl := lv_entry ([.ref q, .int (nI i)]) (n := 4) (Nat.le_of_ble_eq_true rfl)
  rw [lg_entry_eq]
  generalize (lg_sl ([.ref q, .int (nI i)]) ++ List.replicate (4 - (lg_sl ([.ref q, .int (nI i)])).length) Slot.unset).toArray = ls at hl ⊢
  have hl : lv_has ls 4 [(0, .ref q), (1, .int (nI i))] := hl
  obtain ⟨⟨tS_W, hZW, hTW⟩, ⟨tS_L, hZL, hTL⟩, ⟨tS_M, hZM, hTM⟩, hNW⟩ := id hZ
  have hl9 := (len_lt 9 t).mp ht
  refine lv_iconst (v := (nI 0)) hx hb dX1_widthAhead_0 (by decide) ?_
  refine lv_istore_n (lv' := [(2, .int (nI 0)), (0, .ref q), (1, .int (nI i))]) hx hb dX1_widthAhead_1 rfl hl (by decide) rfl (fun ls hl => ?_)
  refine lv_iconst (v := (nI 0)) hx hb dX1_widthAhead_2 (by decide) ?_
  refine lv_istore_n (lv' := [(3, .int (nI 0)), (2, .int (nI 0)), (0, .ref q), (1, .int (nI i))]) hx hb dX1_widthAhead_3 rfl hl (by decide) rfl (fun ls hl => ?_)
  have lp4 : ∀ (kk : Nat) (sm : Nat) (k : Nat), (sm = wsum t k) → (k ≤ i) → i - k < kk → ∀ ls : Array Slot, lv_has ls 4 [(3, .int (nI k)), (2, .int (nI sm)), (0, .ref q), (1, .int (nI i))] → W p l e (headSpec wsX1_widthAhead ({ frames := 0, cells := 0, slots := 0, locals := 0 } : Room)).room s m ([.ref q, .int (nI i)] : List Value).toArray below meth c s.heap [] 0 0 (MQ below (vp_Si (fun r => r = nI (wsum t i))) ([.ref q, .int (nI i)] : List Value).toArray s 0 0 (fun _ => False)) (F0 m 4 ls []) := by
    intro kk
    induction kk with
    | zero => intro sm k  hsm hk hkk; exact absurd hkk (Nat.not_lt_zero _)
    | succ kk ih4 =>
      intro sm k hsm hk hkk ls hl
      refine lv_iload_n hx hb dX1_widthAhead_4 rfl (lv_at hl 0 rfl) ?_
      refine lv_iload_n hx hb dX1_widthAhead_5 rfl (lv_at hl 3 rfl) ?_
      refine n_icmp_ge (a := k) (b := i) (tgt := 36) hx hb (by omega) (by omega) dX1_widthAhead_6 (by decide) (fun c6 => ?_) (fun c6 => ?_)
      · refine lv_iload_n hx hb dX1_widthAhead_36 rfl (lv_at hl 1 rfl) ?_
        exact W.iret (v := (nI sm)) hx hb hr (fun tZ htZ hWZ => ⟨_, rfl, by rw [hsm, show k = i by omega], htZ⟩) (fun _ h => by cases h) dX1_widthAhead_37
      · refine lv_iload_n hx hb dX1_widthAhead_9 rfl (lv_at hl 0 rfl) ?_
        refine lv_aload_n hx hb dX1_widthAhead_10 rfl (lv_at hl 2 rfl) ?_
        refine va_get (D := G) (ci := 1) (v := .int (nI ct)) (C := RX1) (T := TX1) (N := 6) hx hb hts hin1 hown hK hP 0 rfl rfl 2 (by decide) (hts (Cond.fieldLink RX1 26 "IndentRules$Line" "count" "I") (List.mem_of_getElem? (i := 1) rfl)) (fun _ h9 => h9) rfl dX1_widthAhead_11 ?_
        refine n_icmp_ge (a := k) (b := ct) (tgt := 36) hx hb (by omega) (by omega) dX1_widthAhead_14 (by decide) (fun c14 => ?_) (fun c14 => ?_)
        · refine lv_iload_n hx hb dX1_widthAhead_36 rfl (lv_at hl 1 rfl) ?_
          exact W.iret (v := (nI sm)) hx hb hr (fun tZ htZ hWZ => ⟨_, rfl, by rw [hsm, show k = i by omega], htZ⟩) (fun _ h => by cases h) dX1_widthAhead_37
        · refine lv_iload_n hx hb dX1_widthAhead_17 rfl (lv_at hl 1 rfl) ?_
          refine va_getsN hx hb hZW hS hown (va_Nw.use rfl hNW) (fun _ h9 => h9) dX1_widthAhead_18 ?_
          refine lv_aload_n hx hb dX1_widthAhead_21 rfl (lv_at hl 2 rfl) ?_
          refine va_get (D := G) (ci := 1) (v := .ref q2) (C := RX1) (T := TX1) (N := 6) hx hb hts hin1 hown hK hP 0 rfl rfl 0 (by decide) (hts (Cond.fieldLink RX1 9 "IndentRules$Line" "tokens" "[I") (List.mem_of_getElem? (i := 2) rfl)) (fun _ h9 => h9) rfl dX1_widthAhead_22 ?_
          refine lv_iload_n hx hb dX1_widthAhead_25 rfl (lv_at hl 0 rfl) ?_
          refine k_iald (D := G) (tys := TYS E) (j := k) (f := tk) (n := 9) hx hb hK hP 1 0 rfl rfl (by omega) (by decide) dX1_widthAhead_26 ?_
          rw [htk k (by omega)]
          refine k_ti (j := (tok t k)) hx hb hTW hS (tok_lt _ _) (by decide) dX1_widthAhead_27 ?_
          refine k_iadd (a := sm) (b := (wdN (tok t k))) hx hb dX1_widthAhead_28 ?_
          refine lv_istore_n (lv' := [(2, .int (nI (sm + (wdN (tok t k))))), (3, .int (nI k)), (0, .ref q), (1, .int (nI i))]) hx hb dX1_widthAhead_29 rfl hl (by decide) rfl (fun ls hl => ?_)
          refine lv_iinc (v := (nI (k + 1))) (lv' := [(3, .int (nI (k + 1))), (2, .int (nI (sm + (wdN (tok t k))))), (0, .ref q), (1, .int (nI i))]) hx hb dX1_widthAhead_30 hl (k := 1) rfl (k_inc k) (by decide) rfl (fun ls hl => ?_)
          refine lv_goto (tgt := 4) hx hb dX1_widthAhead_33 (by decide) ?_
          exact ih4 (sm + (wdN (tok t k))) (k + 1) (by rw [hsm]; rfl) (by omega) (by omega) ls (lv_sub hl [0, 1, 2, 3] rfl)
  exact lp4 (i - 0 + 1) 0 0 rfl (Nat.zero_le _) (Nat.lt_succ_self _) ls (lv_sub hl [0, 1, 2, 3] rfl)

set_option maxHeartbeats 4000000 in
set_option maxRecDepth 100000 in
theorem c_X1_isFollowed (l : Launch) (G : va_G) (E : cEnv) (q q2 : Nat) (tl ct ps : Nat) (sn cb : Int32) (tk : Nat → Int32) (i : Nat) (t : Nat) (ht : t < 1000000000) (hct : ct = len t) (hps : ps = pres t) (htk : ∀ k, k < len t → tk k = nI (tok t k)) (hi : i < len t) : Met l yX1_isFollowed wsX1_isFollowed ({ frames := 0, cells := 0, slots := 0, locals := 0 }) (va_Pc [.ref q, .int (nI i)] (PR G E ([(q, .inr (1, [.ref q2, .int (nI tl), .int (nI ct), .int (nI ps), .int sn, .int cb])), (q2, .inl (E.1, 9, .inl tk))]))) (vp_Si (fun r => r = nI (folw t i))) 0 0 (fun _ => False) := by
  refine Met.ofW (cc := cX1_isFollowed) (maxL := 3) (ret := (some .boolean)) (by decide) rfl ?_
  intro p e s m args below meth c s₁ B hml hv
  obtain ⟨rfl, hP, hK, hZ⟩ := hv
  have hx := B.exec
  have hb := B.bytes
  have hr := B.returns
  have hts := atoms_spec (ws := wsX1_isFollowed) B.pre
  have hown : s.vm.findClass RX1 = some m.cls := findClass_of_methodNamed B.named
  have hlocks := B.notSynchronized
  have hin1 : ∀ w ∈ u_ws RX1 TX1 6, w ∈ wsX1_isFollowed := mem_pl [3, 4, 5, 6, 7, 8] (by rfl)
  have hS : va_S (fun _ => False) s.heap s.heap [] := va_S.rf
  have hl := lv_entry ([.ref q, .int (nI i)]) (n := 3) (Nat.le_of_ble_eq_true rfl)
  rw [lg_entry_eq]
  generalize (lg_sl ([.ref q, .int (nI i)]) ++ List.replicate (3 - (lg_sl ([.ref q, .int (nI i)])).length) Slot.unset).toArray = ls at hl ⊢
  have hl : lv_has ls 3 [(0, .ref q), (1, .int (nI i))] := hl
  have hl9 := (len_lt 9 t).mp ht
  have hpl := pres_le t
  refine lv_iload_n hx hb dX1_isFollowed_0 rfl (lv_at hl 1 rfl) ?_
  refine lv_iconst (v := (nI 1)) hx hb dX1_isFollowed_1 (by decide) ?_
  refine k_iadd (a := i) (b := 1) hx hb dX1_isFollowed_2 ?_
  refine lv_istore_n (lv' := [(2, .int (nI (i + 1))), (0, .ref q), (1, .int (nI i))]) hx hb dX1_isFollowed_3 rfl hl (by decide) rfl (fun ls hl => ?_)
  refine lv_iload_n hx hb dX1_isFollowed_4 rfl (lv_at hl 0 rfl) ?_
  refine lv_aload_n hx hb dX1_isFollowed_5 rfl (lv_at hl 1 rfl) ?_
  refine va_get (D := G) (ci := 1) (v := .int (nI ps)) (C := RX1) (T := TX1) (N := 6) hx hb hts hin1 hown hK hP 0 rfl rfl 3 (by decide) (hts (Cond.fieldLink RX1 29 "IndentRules$Line" "present" "I") (List.mem_of_getElem? (i := 1) rfl)) (fun _ h9 => h9) rfl dX1_isFollowed_6 ?_
  refine n_icmp_ge (a := (i + 1)) (b := ps) (tgt := 27) hx hb (by omega) (by omega) dX1_isFollowed_9 (by decide) (fun c9 => ?_) (fun c9 => ?_)
  · refine lv_iconst (v := (nI 0)) hx hb dX1_isFollowed_27 (by decide) ?_
    exact W.zret (v := (nI 0)) hx hb hr (by first | rfl | decide | assumption) (fun tZ htZ hWZ => ⟨_, rfl, by unfold folw; rw [if_neg (fun q => by omega)], htZ⟩) (fun _ h => by cases h) dX1_isFollowed_28
  · refine lv_aload_n hx hb dX1_isFollowed_12 rfl (lv_at hl 1 rfl) ?_
    refine va_get (D := G) (ci := 1) (v := .ref q2) (C := RX1) (T := TX1) (N := 6) hx hb hts hin1 hown hK hP 0 rfl rfl 0 (by decide) (hts (Cond.fieldLink RX1 9 "IndentRules$Line" "tokens" "[I") (List.mem_of_getElem? (i := 2) rfl)) (fun _ h9 => h9) rfl dX1_isFollowed_13 ?_
    refine lv_iload_n hx hb dX1_isFollowed_16 rfl (lv_at hl 0 rfl) ?_
    refine k_iald (D := G) (tys := TYS E) (j := (i + 1)) (f := tk) (n := 9) hx hb hK hP 1 0 rfl rfl (by omega) (by decide) dX1_isFollowed_17 ?_
    rw [htk (i + 1) (by omega)]
    refine lv_bipush (v := (nI 9)) hx hb dX1_isFollowed_18 (by decide) ?_
    refine n_icmp_eq (a := (tok t (i + 1))) (b := 9) (tgt := 27) hx hb (by have := tok_lt t (i + 1); omega) (by decide) dX1_isFollowed_20 (by decide) (fun c20 => ?_) (fun c20 => ?_)
    · refine lv_iconst (v := (nI 0)) hx hb dX1_isFollowed_27 (by decide) ?_
      exact W.zret (v := (nI 0)) hx hb hr (by first | rfl | decide | assumption) (fun tZ htZ hWZ => ⟨_, rfl, by unfold folw; rw [if_neg (fun q => q.2 c20)], htZ⟩) (fun _ h => by cases h) dX1_isFollowed_28
    · refine lv_iconst (v := (nI 1)) hx hb dX1_isFollowed_23 (by decide) ?_
      refine lv_goto (tgt := 28) hx hb dX1_isFollowed_24 (by decide) ?_
      exact W.zret (v := (nI 1)) hx hb hr (by first | rfl | decide | assumption) (fun tZ htZ hWZ => ⟨_, rfl, by unfold folw; rw [if_pos ⟨by omega, c20⟩], htZ⟩) (fun _ h => by cases h) dX1_isFollowed_28

set_option maxHeartbeats 4000000 in
set_option maxRecDepth 100000 in
theorem c_X1_counts (l : Launch) (G : va_G) (E : cEnv) (q q2 : Nat) (tl ct ps : Nat) (sn cb : Int32) (tk : Nat → Int32) (hct : ct < 10) : Met l yX1_counts wsX1_counts ({ frames := 0, cells := 0, slots := 0, locals := 0 }) (va_Pc [.ref q] (PR G E ([(q, .inr (1, [.ref q2, .int (nI tl), .int (nI ct), .int (nI ps), .int sn, .int cb])), (q2, .inl (E.1, 9, .inl tk))]))) (vp_Si (fun r => (¬ sn = -9 ∧ 0 < ct) ∧ r = nI 1 ∨ ¬ (¬ sn = -9 ∧ 0 < ct) ∧ r = nI 0)) 0 0 (fun _ => False) := by
  refine Met.ofW (cc := cX1_counts) (maxL := 1) (ret := (some .boolean)) (by decide) rfl ?_
  intro p e s m args below meth c s₁ B hml hv
  obtain ⟨rfl, hP, hK, hZ⟩ := hv
  have hx := B.exec
  have hb := B.bytes
  have hr := B.returns
  have hts := atoms_spec (ws := wsX1_counts) B.pre
  have hown : s.vm.findClass RX1 = some m.cls := findClass_of_methodNamed B.named
  have hlocks := B.notSynchronized
  have hin1 : ∀ w ∈ u_ws RX1 TX1 6, w ∈ wsX1_counts := mem_pl [3, 4, 5, 6, 7, 8] (by rfl)
  have hS : va_S (fun _ => False) s.heap s.heap [] := va_S.rf
  have hl := lv_entry ([.ref q]) (n := 1) (Nat.le_of_ble_eq_true rfl)
  rw [lg_entry_eq]
  generalize (lg_sl ([.ref q]) ++ List.replicate (1 - (lg_sl ([.ref q])).length) Slot.unset).toArray = ls at hl ⊢
  have hl : lv_has ls 1 [(0, .ref q)] := hl
  refine lv_aload_n hx hb dX1_counts_0 rfl (lv_at hl 0 rfl) ?_
  refine va_get (D := G) (ci := 1) (v := .int sn) (C := RX1) (T := TX1) (N := 6) hx hb hts hin1 hown hK hP 0 rfl rfl 4 (by decide) (hts (Cond.fieldLink RX1 15 "IndentRules$Line" "seen" "I") (List.mem_of_getElem? (i := 1) rfl)) (fun _ h9 => h9) rfl dX1_counts_1 ?_
  refine lv_bipush (v := (-9)) hx hb dX1_counts_4 (by decide) ?_
  refine lv_icmp_eq (x := sn) (y := (-9)) (tgt := 20) hx hb dX1_counts_6 (by decide) (fun c6 => ?_) (fun c6 => ?_)
  · refine lv_iconst (v := (nI 0)) hx hb dX1_counts_20 (by decide) ?_
    exact W.zret (v := (nI 0)) hx hb hr (by first | rfl | decide | assumption) (fun tZ htZ hWZ => ⟨_, rfl, Or.inr ⟨fun q => q.1 c6, rfl⟩, htZ⟩) (fun _ h => by cases h) dX1_counts_21
  · refine lv_aload_n hx hb dX1_counts_9 rfl (lv_at hl 0 rfl) ?_
    refine va_get (D := G) (ci := 1) (v := .int (nI ct)) (C := RX1) (T := TX1) (N := 6) hx hb hts hin1 hown hK hP 0 rfl rfl 2 (by decide) (hts (Cond.fieldLink RX1 26 "IndentRules$Line" "count" "I") (List.mem_of_getElem? (i := 2) rfl)) (fun _ h9 => h9) rfl dX1_counts_10 ?_
    refine n_if_le (a := ct) (tgt := 20) hx hb (by omega) dX1_counts_13 (by decide) (fun c13 => ?_) (fun c13 => ?_)
    · refine lv_iconst (v := (nI 0)) hx hb dX1_counts_20 (by decide) ?_
      exact W.zret (v := (nI 0)) hx hb hr (by first | rfl | decide | assumption) (fun tZ htZ hWZ => ⟨_, rfl, Or.inr ⟨fun q => by omega, rfl⟩, htZ⟩) (fun _ h => by cases h) dX1_counts_21
    · refine lv_iconst (v := (nI 1)) hx hb dX1_counts_16 (by decide) ?_
      refine lv_goto (tgt := 21) hx hb dX1_counts_17 (by decide) ?_
      exact W.zret (v := (nI 1)) hx hb hr (by first | rfl | decide | assumption) (fun tZ htZ hWZ => ⟨_, rfl, Or.inl ⟨⟨c6, c13⟩, rfl⟩, htZ⟩) (fun _ h => by cases h) dX1_counts_21

set_option maxHeartbeats 4000000 in
set_option maxRecDepth 100000 in
theorem c_X1_read (l : Launch) (G : va_G) (E : cEnv) (q q2 : Nat) (tl ct ps : Nat) (sn cb : Int32) (tk : Nat → Int32) (t : Nat) (ht : t < 1000000000) (sz : Nat) : Met l yX1_read wsX1_read ({ frames := 1, cells := 0, slots := 0, locals := 23 }) (va_Pc [.ref q, .int (nI t)] (PW G E ([(q, .inr (1, [.ref q2, .int (nI tl), .int (nI ct), .int (nI ps), .int sn, .int cb])), (q2, .inl (E.1, 9, .inl tk))]) sz)) (va_Qv (fun (tk' : Nat → Int32) => ∀ k, k < len t → tk' k = nI (tok t k)) (fun (tk' : Nat → Int32) tQ => va_P G vwCl ([(q, .inr (1, [.ref q2, .int (nI t), .int (nI (len t)), .int (nI (pres t)), .int sn, .int cb])), (q2, .inl (E.1, 9, .inl tk'))]) tQ.heap) (va_A ([(q, .inr (1, [.ref q2, .int (nI tl), .int (nI ct), .int (nI ps), .int sn, .int cb])), (q2, .inl (E.1, 9, .inl tk))]) sz)) 0 0 (va_A ([(q, .inr (1, [.ref q2, .int (nI tl), .int (nI ct), .int (nI ps), .int sn, .int cb])), (q2, .inl (E.1, 9, .inl tk))]) sz) := by
  refine Met.ofW (cc := cX1_read) (maxL := 4) (ret := none) (by decide) rfl ?_
  intro p e s m args below meth c s₁ B hml hv
  obtain ⟨rfl, hsz, hP, hK, hD0, hZ⟩ := hv
  have hx := B.exec
  have hb := B.bytes
  have hr := B.returns
  have hts := atoms_spec (ws := wsX1_read) B.pre
  have hown : s.vm.findClass RX1 = some m.cls := findClass_of_methodNamed B.named
  have hlocks := B.notSynchronized
  have hin1 : ∀ w ∈ u_ws RX1 TX1 6, w ∈ wsX1_read := mem_pl [9, 10, 11, 12, 13, 14] (by rfl)
  subst hsz
  have hD := hD0.self (sz := s.heap.size)
  generalize hAe : va_A ([(q, .inr (1, [.ref q2, .int (nI tl), .int (nI ct), .int (nI ps), .int sn, .int cb])), (q2, .inl (E.1, 9, .inl tk))]) s.heap.size = A at hD hZ ⊢
  have hA : ∀ q : Nat, s.heap.size ≤ q → A q := fun q h => by rw [← hAe]; exact Or.inr h
  have hS : va_S A s.heap s.heap [] := va_S.rf
  have hl := lv_entry ([.ref q, .int (nI t)]) (n := 4) (Nat.le_of_ble_eq_true rfl)
  rw [lg_entry_eq]
  generalize (lg_sl ([.ref q, .int (nI t)]) ++ List.replicate (4 - (lg_sl ([.ref q, .int (nI t)])).length) Slot.unset).toArray = ls at hl ⊢
  have hl : lv_has ls 4 [(0, .ref q), (1, .int (nI t))] := hl
  have hl9 := (len_lt 9 t).mp ht
  refine lv_aload_n hx hb dX1_read_0 rfl (lv_at hl 0 rfl) ?_
  refine lv_iload_n hx hb dX1_read_1 rfl (lv_at hl 1 rfl) ?_
  refine va_put (D := G) (ci := 1) (v := .int (nI t)) (ty := .int) (C := RX1) (T := TX1) (N := 6) hx hb hts hin1 tyX1 tyX1_ok nmX1 hown hK hP hD hS 0 rfl rfl 1 (by decide) (hts (Cond.fieldLink RX1 19 "IndentRules$Line" "told" "I") (List.mem_of_getElem? (i := 1) rfl)) (fun _ h9 => h9) rfl (by decide +kernel) rfl rfl (Nat.le_of_ble_eq_true rfl) dX1_read_2 (fun H locs hP hD hS => ?_)
  have hP : va_P G vwCl ([(q, .inr (1, [.ref q2, .int (nI t), .int (nI ct), .int (nI ps), .int sn, .int cb])), (q2, .inl (E.1, 9, .inl tk))]) H := hP
  have hD : va_D A ([(q, .inr (1, [.ref q2, .int (nI t), .int (nI ct), .int (nI ps), .int sn, .int cb])), (q2, .inl (E.1, 9, .inl tk))]) := hD
  refine lv_aload_n hx hb dX1_read_5 rfl (lv_at hl 0 rfl) ?_
  refine lv_iload_n hx hb dX1_read_6 rfl (lv_at hl 1 rfl) ?_
  refine rs_i (n := 1) (G := G) (E := E) (As := [.int (nI t)]) (rest := [.ref q]) ⟨hx, hb, hml, hown, hts⟩ hK hZ hS (c_X1_digitsOf l G E t (by first | assumption | omega)) gX1_read_X1_digitsOf rfl rfl rfl (by decide +kernel) ⟨Nat.le_of_ble_eq_true rfl, Nat.le_of_ble_eq_true rfl⟩ (fun k q h => by simp at h) hl.1 rfl rfl (Nat.le_of_ble_eq_true rfl) dX1_read_7 ⟨Nat.zero_le _, Nat.zero_le _⟩ (fun r7 p7 => ?_)
  subst p7
  refine va_put (D := G) (ci := 1) (v := .int (nI (len t))) (ty := .int) (C := RX1) (T := TX1) (N := 6) hx hb hts hin1 tyX1 tyX1_ok nmX1 hown hK hP hD hS 0 rfl rfl 2 (by decide) (hts (Cond.fieldLink RX1 26 "IndentRules$Line" "count" "I") (List.mem_of_getElem? (i := 2) rfl)) (fun _ h9 => h9) rfl (by decide +kernel) rfl rfl (Nat.le_of_ble_eq_true rfl) dX1_read_10 (fun H locs hP hD hS => ?_)
  have hP : va_P G vwCl ([(q, .inr (1, [.ref q2, .int (nI t), .int (nI (len t)), .int (nI ps), .int sn, .int cb])), (q2, .inl (E.1, 9, .inl tk))]) H := hP
  have hD : va_D A ([(q, .inr (1, [.ref q2, .int (nI t), .int (nI (len t)), .int (nI ps), .int sn, .int cb])), (q2, .inl (E.1, 9, .inl tk))]) := hD
  refine lv_iload_n hx hb dX1_read_13 rfl (lv_at hl 1 rfl) ?_
  refine lv_istore_n (lv' := [(2, .int (nI t)), (0, .ref q), (1, .int (nI t))]) hx hb dX1_read_14 rfl hl (by decide) rfl (fun ls hl => ?_)
  refine lv_aload_n hx hb dX1_read_15 rfl (lv_at hl 1 rfl) ?_
  refine va_get (D := G) (ci := 1) (v := .int (nI (len t))) (C := RX1) (T := TX1) (N := 6) hx hb hts hin1 hown hK hP 0 rfl rfl 2 (by decide) (hts (Cond.fieldLink RX1 26 "IndentRules$Line" "count" "I") (List.mem_of_getElem? (i := 2) rfl)) (fun _ h9 => h9) rfl dX1_read_16 ?_
  refine lv_iconst (v := (nI 1)) hx hb dX1_read_19 (by decide) ?_
  refine lv_isub hx hb dX1_read_20 ?_
  refine lv_istore_n (lv' := [(3, .int ((nI (len t)) - (nI 1))), (2, .int (nI t)), (0, .ref q), (1, .int (nI t))]) hx hb dX1_read_21 rfl hl (by decide) rfl (fun ls hl => ?_)
  have lp22 : ∀ (kk : Nat) (ii : Nat) (lf : Nat) (tkX : Nat → Int32) (H : Heap) (locs : List Loc), (ii ≤ len t) → (lf = t / 10 ^ (len t - ii)) → (lf < 1000000000) → (∀ k, ii ≤ k → k < len t → tkX k = nI (tok t k)) → ii < kk → va_P G vwCl ([(q, .inr (1, [.ref q2, .int (nI t), .int (nI (len t)), .int (nI ps), .int sn, .int cb])), (q2, .inl (E.1, 9, .inl tkX))]) H → va_D A ([(q, .inr (1, [.ref q2, .int (nI t), .int (nI (len t)), .int (nI ps), .int sn, .int cb])), (q2, .inl (E.1, 9, .inl tkX))]) → va_S A s.heap H locs → ∀ ls : Array Slot, lv_has ls 4 [(3, .int (nI ii - nI 1)), (2, .int (nI lf)), (0, .ref q), (1, .int (nI t))] → W p l e (headSpec wsX1_read ({ frames := 1, cells := 0, slots := 0, locals := 23 } : Room)).room s m ([.ref q, .int (nI t)] : List Value).toArray below meth c H locs 0 0 (MQ below (va_Qv (fun (tk' : Nat → Int32) => ∀ k, k < len t → tk' k = nI (tok t k)) (fun (tk' : Nat → Int32) tQ => va_P G vwCl ([(q, .inr (1, [.ref q2, .int (nI t), .int (nI (len t)), .int (nI (pres t)), .int sn, .int cb])), (q2, .inl (E.1, 9, .inl tk'))]) tQ.heap) A) ([.ref q, .int (nI t)] : List Value).toArray s 0 0 A) (F0 m 22 ls []) := by
    intro kk
    induction kk with
    | zero => intro ii lf tkX H locs hii hlf hf hT hkk; exact absurd hkk (Nat.not_lt_zero _)
    | succ kk ih22 =>
      intro ii lf tkX H locs hii hlf hf hT hkk hP hD hS ls hl
      refine lv_iload_n hx hb dX1_read_22 rfl (lv_at hl 0 rfl) ?_
      refine lv_if_lt (x := (nI ii - nI 1)) (tgt := 47) hx hb dX1_read_23 (by decide) (fun c23 => ?_) (fun c23 => ?_)
      · have hi0 := (sub_lt0 (by omega)).mp c23
        refine lv_aload_n hx hb dX1_read_47 rfl (lv_at hl 2 rfl) ?_
        refine lv_aload_n hx hb dX1_read_48 rfl (lv_at hl 2 rfl) ?_
        refine va_get (D := G) (ci := 1) (v := .int (nI (len t))) (C := RX1) (T := TX1) (N := 6) hx hb hts hin1 hown hK hP 0 rfl rfl 2 (by decide) (hts (Cond.fieldLink RX1 26 "IndentRules$Line" "count" "I") (List.mem_of_getElem? (i := 2) rfl)) (fun _ h9 => h9) rfl dX1_read_49 ?_
        refine va_put (D := G) (ci := 1) (v := .int (nI (len t))) (ty := .int) (C := RX1) (T := TX1) (N := 6) hx hb hts hin1 tyX1 tyX1_ok nmX1 hown hK hP hD hS 0 rfl rfl 3 (by decide) (hts (Cond.fieldLink RX1 29 "IndentRules$Line" "present" "I") (List.mem_of_getElem? (i := 4) rfl)) (fun _ h9 => h9) rfl (by decide +kernel) rfl rfl (Nat.le_of_ble_eq_true rfl) dX1_read_52 (fun H locs hP hD hS => ?_)
        have hP : va_P G vwCl ([(q, .inr (1, [.ref q2, .int (nI t), .int (nI (len t)), .int (nI (len t)), .int sn, .int cb])), (q2, .inl (E.1, 9, .inl tkX))]) H := hP
        have hD : va_D A ([(q, .inr (1, [.ref q2, .int (nI t), .int (nI (len t)), .int (nI (len t)), .int sn, .int cb])), (q2, .inl (E.1, 9, .inl tkX))]) := hD
        refine lv_aload_n hx hb dX1_read_55 rfl (lv_at hl 2 rfl) ?_
        refine va_get (D := G) (ci := 1) (v := .int (nI (len t))) (C := RX1) (T := TX1) (N := 6) hx hb hts hin1 hown hK hP 0 rfl rfl 2 (by decide) (hts (Cond.fieldLink RX1 26 "IndentRules$Line" "count" "I") (List.mem_of_getElem? (i := 2) rfl)) (fun _ h9 => h9) rfl dX1_read_56 ?_
        refine lv_iconst (v := (nI 1)) hx hb dX1_read_59 (by decide) ?_
        refine lv_isub hx hb dX1_read_60 ?_
        refine lv_istore_n (lv' := [(3, .int ((nI (len t)) - (nI 1))), (2, .int (nI lf)), (0, .ref q), (1, .int (nI t))]) hx hb dX1_read_61 rfl hl (by decide) rfl (fun ls hl => ?_)
        have lp62 : ∀ (kk : Nat) (ii : Nat) (pX : Nat) (H : Heap) (locs : List Loc), (ii ≤ len t) → (pX = pr t (len t) (len t - ii)) → ii < kk → va_P G vwCl ([(q, .inr (1, [.ref q2, .int (nI t), .int (nI (len t)), .int (nI pX), .int sn, .int cb])), (q2, .inl (E.1, 9, .inl tkX))]) H → va_D A ([(q, .inr (1, [.ref q2, .int (nI t), .int (nI (len t)), .int (nI pX), .int sn, .int cb])), (q2, .inl (E.1, 9, .inl tkX))]) → va_S A s.heap H locs → ∀ ls : Array Slot, lv_has ls 4 [(3, .int (nI ii - nI 1)), (0, .ref q), (1, .int (nI t))] → W p l e (headSpec wsX1_read ({ frames := 1, cells := 0, slots := 0, locals := 23 } : Room)).room s m ([.ref q, .int (nI t)] : List Value).toArray below meth c H locs 0 0 (MQ below (va_Qv (fun (tk' : Nat → Int32) => ∀ k, k < len t → tk' k = nI (tok t k)) (fun (tk' : Nat → Int32) tQ => va_P G vwCl ([(q, .inr (1, [.ref q2, .int (nI t), .int (nI (len t)), .int (nI (pres t)), .int sn, .int cb])), (q2, .inl (E.1, 9, .inl tk'))]) tQ.heap) A) ([.ref q, .int (nI t)] : List Value).toArray s 0 0 A) (F0 m 62 ls []) := by
          intro kk
          induction kk with
          | zero => intro ii pX H locs hii hpX hkk; exact absurd hkk (Nat.not_lt_zero _)
          | succ kk ih62 =>
            intro ii pX H locs hii hpX hkk hP hD hS ls hl
            refine lv_iload_n hx hb dX1_read_62 rfl (lv_at hl 0 rfl) ?_
            refine lv_if_lt (x := (nI ii - nI 1)) (tgt := 90) hx hb dX1_read_63 (by decide) (fun c63 => ?_) (fun c63 => ?_)
            · have hi0 := (sub_lt0 (by omega)).mp c63
              exact W.vret hx hb hr (fun tZ htZ hWZ => ⟨⟨tkX, rfl, fun k hk => hT k (by omega) hk, by rw [hpX, hi0] at hP; show va_P G vwCl _ tZ.heap; rw [htZ]; exact hP⟩, hS.F htZ⟩) hS.2.2 dX1_read_90
            · have hi0 : ¬ ii = 0 := fun q => c63 ((sub_lt0 (by omega)).mpr q)
              obtain ⟨i, rfl⟩ : ∃ i, ii = i + 1 := ⟨ii - 1, by omega⟩
              rw [show nI (i + 1) - nI 1 = nI i from pk_sub (by omega)] at hl
              refine lv_aload_n hx hb dX1_read_66 rfl (lv_at hl 1 rfl) ?_
              refine va_get (D := G) (ci := 1) (v := .ref q2) (C := RX1) (T := TX1) (N := 6) hx hb hts hin1 hown hK hP 0 rfl rfl 0 (by decide) (hts (Cond.fieldLink RX1 9 "IndentRules$Line" "tokens" "[I") (List.mem_of_getElem? (i := 3) rfl)) (fun _ h9 => h9) rfl dX1_read_67 ?_
              refine lv_iload_n hx hb dX1_read_70 rfl (lv_at hl 0 rfl) ?_
              refine k_iald (D := G) (tys := TYS E) (j := i) (f := tkX) (n := 9) hx hb hK hP 1 0 rfl rfl (by omega) (by decide) dX1_read_71 ?_
              rw [hT i (by omega) (by omega)]
              refine lv_bipush (v := (nI 9)) hx hb dX1_read_72 (by decide) ?_
              refine n_icmp_ne (a := (tok t i)) (b := 9) (tgt := 84) hx hb (by have := tok_lt t i; omega) (by decide) dX1_read_74 (by decide) (fun c74 => ?_) (fun c74 => ?_)
              · refine lv_iinc (v := (nI i - nI 1)) (lv' := [(3, .int (nI i - nI 1)), (0, .ref q), (1, .int (nI t))]) hx hb dX1_read_84 hl (k := 0) rfl (dec_s i) (by decide) rfl (fun ls hl => ?_)
                refine lv_goto (tgt := 62) hx hb dX1_read_87 (by decide) ?_
                exact ih62 i pX _ _ (by omega) (by rw [show len t - i = len t - (i + 1) + 1 by omega, pr_s, show len t - (len t - (i + 1) + 1) = i by omega, if_neg c74, hpX]) (by omega) hP hD hS ls (lv_sub hl [0, 1, 2] rfl)
              · refine lv_aload_n hx hb dX1_read_77 rfl (lv_at hl 1 rfl) ?_
                refine lv_iload_n hx hb dX1_read_78 rfl (lv_at hl 0 rfl) ?_
                refine lv_iconst (v := (nI 1)) hx hb dX1_read_79 (by decide) ?_
                refine k_iadd (a := i) (b := 1) hx hb dX1_read_80 ?_
                refine va_put (D := G) (ci := 1) (v := .int (nI (i + 1))) (ty := .int) (C := RX1) (T := TX1) (N := 6) hx hb hts hin1 tyX1 tyX1_ok nmX1 hown hK hP hD hS 0 rfl rfl 3 (by decide) (hts (Cond.fieldLink RX1 29 "IndentRules$Line" "present" "I") (List.mem_of_getElem? (i := 4) rfl)) (fun _ h9 => h9) rfl (by decide +kernel) rfl rfl (Nat.le_of_ble_eq_true rfl) dX1_read_81 (fun H locs hP hD hS => ?_)
                have hP : va_P G vwCl ([(q, .inr (1, [.ref q2, .int (nI t), .int (nI (len t)), .int (nI (i + 1)), .int sn, .int cb])), (q2, .inl (E.1, 9, .inl tkX))]) H := hP
                have hD : va_D A ([(q, .inr (1, [.ref q2, .int (nI t), .int (nI (len t)), .int (nI (i + 1)), .int sn, .int cb])), (q2, .inl (E.1, 9, .inl tkX))]) := hD
                refine lv_iinc (v := (nI i - nI 1)) (lv' := [(3, .int (nI i - nI 1)), (0, .ref q), (1, .int (nI t))]) hx hb dX1_read_84 hl (k := 0) rfl (dec_s i) (by decide) rfl (fun ls hl => ?_)
                refine lv_goto (tgt := 62) hx hb dX1_read_87 (by decide) ?_
                exact ih62 i (i + 1) _ _ (by omega) (by rw [show len t - i = len t - (i + 1) + 1 by omega, pr_s, show len t - (len t - (i + 1) + 1) = i by omega, if_pos c74, show len t - (len t - (i + 1)) = i + 1 by omega]) (by omega) hP hD hS ls (lv_sub hl [0, 1, 2] rfl)
        exact lp62 ((len t) + 1) (len t) (len t) _ _ (Nat.le_refl _) (by rw [Nat.sub_self]; rfl) (Nat.lt_succ_self _) hP hD hS ls (lv_sub hl [0, 2, 3] rfl)
      · have hi0 : ¬ ii = 0 := fun q => c23 ((sub_lt0 (by omega)).mpr q)
        obtain ⟨i, rfl⟩ : ∃ i, ii = i + 1 := ⟨ii - 1, by omega⟩
        rw [show nI (i + 1) - nI 1 = nI i from pk_sub (by omega)] at hl
        refine lv_aload_n hx hb dX1_read_26 rfl (lv_at hl 2 rfl) ?_
        refine va_get (D := G) (ci := 1) (v := .ref q2) (C := RX1) (T := TX1) (N := 6) hx hb hts hin1 hown hK hP 0 rfl rfl 0 (by decide) (hts (Cond.fieldLink RX1 9 "IndentRules$Line" "tokens" "[I") (List.mem_of_getElem? (i := 3) rfl)) (fun _ h9 => h9) rfl dX1_read_27 ?_
        refine lv_iload_n hx hb dX1_read_30 rfl (lv_at hl 0 rfl) ?_
        refine lv_iload_n hx hb dX1_read_31 rfl (lv_at hl 1 rfl) ?_
        refine lv_bipush (v := (nI 10)) hx hb dX1_read_32 (by decide) ?_
        refine k_irem (a := lf) (b := 10) hx hb (by omega) (by decide) (by decide) dX1_read_34 ?_
        refine k_iast (D := G) (tys := TYS E) (j := i) (x := (nI (lf % 10))) (f := tkX) (n := 9) hx hb hK hP hD hS 1 0 rfl rfl (by omega) (by decide) dX1_read_35 (fun H locs hP hD hS => ?_)
        have hP : va_P G vwCl ([(q, .inr (1, [.ref q2, .int (nI t), .int (nI (len t)), .int (nI ps), .int sn, .int cb])), (q2, .inl (E.1, 9, .inl (upd tkX i (nI (lf % 10)))))]) H := hP
        have hD : va_D A ([(q, .inr (1, [.ref q2, .int (nI t), .int (nI (len t)), .int (nI ps), .int sn, .int cb])), (q2, .inl (E.1, 9, .inl (upd tkX i (nI (lf % 10)))))]) := hD
        obtain ⟨f35, ef35⟩ : ∃ z : Nat → Int32, z = upd tkX i (nI (lf % 10)) := ⟨_, rfl⟩
        rw [← ef35] at hP hD
        refine lv_iload_n hx hb dX1_read_36 rfl (lv_at hl 1 rfl) ?_
        refine lv_bipush (v := (nI 10)) hx hb dX1_read_37 (by decide) ?_
        refine k_idiv (a := lf) (b := 10) hx hb (by omega) (by decide) (by decide) dX1_read_39 ?_
        refine lv_istore_n (lv' := [(2, .int (nI (lf / 10))), (3, .int (nI i)), (0, .ref q), (1, .int (nI t))]) hx hb dX1_read_40 rfl hl (by decide) rfl (fun ls hl => ?_)
        refine lv_iinc (v := (nI i - nI 1)) (lv' := [(3, .int (nI i - nI 1)), (2, .int (nI (lf / 10))), (0, .ref q), (1, .int (nI t))]) hx hb dX1_read_41 hl (k := 1) rfl (dec_s i) (by decide) rfl (fun ls hl => ?_)
        refine lv_goto (tgt := 22) hx hb dX1_read_44 (by decide) ?_
        exact ih22 i (lf / 10) f35 _ _ (by omega) (by rw [hlf, Nat.div_div_eq_div_mul, ← Nat.pow_succ]; congr 2; omega) (by omega) (upd_dn ef35 (by rw [hlf]; unfold tok; rw [show len t - (i + 1) = len t - 1 - i by omega]) hT) (by omega) hP hD hS ls (lv_sub hl [0, 1, 2, 3] rfl)
  exact lp22 ((len t) + 1) (len t) t tk _ _ (Nat.le_refl _) (by simp) ht (fun k h1 h2 => by omega) (Nat.lt_succ_self _) hP hD hS ls (lv_sub hl [0, 1, 2, 3] rfl)

set_option maxHeartbeats 4000000 in
set_option maxRecDepth 100000 in
theorem c_X0_baseOf (l : Launch) (G : va_G) (E : cEnv) (y : Nat → Nat) (sett clA : Nat → Int32) (z : Nat → Nat) (op hg la : Nat) (tops dpt lst stry srt lin tokA wah fol par_ opn : Nat → Int32) (k : Nat) (F : Nat → Nat → Nat) (oo : Nat) (hLN : LN F oo srt lin wah fol) (hk : k < oo) : Met l yX0_baseOf wsX0_baseOf ({ frames := 0, cells := 0, slots := 0, locals := 0 }) (va_Pc [.ref (y 0), .ref (z 0), .int (nI k)] (PR G E ((lyW E y sett clA) ++ (neW E z op hg la tops dpt lst stry srt lin tokA wah fol par_ opn)))) (vp_Si (fun r => r = clA (F 1 k))) 0 0 (fun _ => False) := by
  refine Met.ofW (cc := cX0_baseOf) (maxL := 3) (ret := (some .int)) (by decide) rfl ?_
  intro p e s m args below meth c s₁ B hml hv
  obtain ⟨rfl, hP, hK, hZ⟩ := hv
  have hx := B.exec
  have hb := B.bytes
  have hr := B.returns
  have hts := atoms_spec (ws := wsX0_baseOf) B.pre
  have hown : s.vm.findClass RX0 = some m.cls := findClass_of_methodNamed B.named
  have hlocks := B.notSynchronized
  have hin0 : ∀ w ∈ u_ws RX0 TX0 2, w ∈ wsX0_baseOf := mem_pl [3, 4] (by rfl)
  have hin2 : ∀ w ∈ u_ws RX2 TX2 14, w ∈ wsX0_baseOf := mem_pl [5, 6, 7, 8, 9, 10, 11, 12, 13, 14, 15, 16, 17, 18] (by rfl)
  have hS : va_S (fun _ => False) s.heap s.heap [] := va_S.rf
  have hl := lv_entry ([.ref (y 0), .ref (z 0), .int (nI k)]) (n := 3) (Nat.le_of_ble_eq_true rfl)
  rw [lg_entry_eq]
  generalize (lg_sl ([.ref (y 0), .ref (z 0), .int (nI k)]) ++ List.replicate (3 - (lg_sl ([.ref (y 0), .ref (z 0), .int (nI k)])).length) Slot.unset).toArray = ls at hl ⊢
  have hl : lv_has ls 3 [(0, .ref (y 0)), (1, .ref (z 0)), (2, .int (nI k))] := hl
  have ho := hLN.1
  obtain ⟨e0, e1, e3, e4, b1, b0, b4⟩ := hLN.2 k hk
  refine lv_aload_n hx hb dX0_baseOf_0 rfl (lv_at hl 0 rfl) ?_
  refine va_get (D := G) (ci := 0) (v := .ref (y 2)) (C := RX0) (T := TX0) (N := 2) hx hb hts hin0 hown hK hP 0 rfl rfl 1 (by decide) (hts (Cond.fieldLink RX0 15 "IndentRules$Layout" "columns" "[I") (List.mem_of_getElem? (i := 1) rfl)) (fun _ h9 => h9) rfl dX0_baseOf_1 ?_
  refine lv_aload_n hx hb dX0_baseOf_4 rfl (lv_at hl 1 rfl) ?_
  refine va_get (D := G) (ci := 2) (v := .ref (z 7)) (C := RX2) (T := TX2) (N := 14) hx hb hts hin2 hown hK hP 3 rfl rfl 6 (by decide) (hts (Cond.fieldLink RX0 73 "IndentRules$Nesting" "lineOf" "[I") (List.mem_of_getElem? (i := 2) rfl)) (fun _ h9 => h9) rfl dX0_baseOf_5 ?_
  refine lv_iload_n hx hb dX0_baseOf_8 rfl (lv_at hl 2 rfl) ?_
  refine k_iald (D := G) (tys := TYS E) (j := k) (f := lin) (n := 180) hx hb hK hP 9 0 rfl rfl (by omega) (by decide) dX0_baseOf_9 ?_
  rw [e1]
  refine k_iald (D := G) (tys := TYS E) (j := (F 1 k)) (f := clA) (n := 20) hx hb hK hP 2 0 rfl rfl (by omega) (by decide) dX0_baseOf_10 ?_
  exact W.iret (v := (clA (F 1 k))) hx hb hr (fun tZ htZ hWZ => ⟨_, rfl, rfl, htZ⟩) (fun _ h => by cases h) dX0_baseOf_11

set_option maxHeartbeats 4000000 in
set_option maxRecDepth 100000 in
theorem c_X0_placeOf (l : Launch) (G : va_G) (E : cEnv) (y : Nat → Nat) (sett clA : Nat → Int32) (z : Nat → Nat) (op hg la : Nat) (tops dpt lst stry srt lin tokA wah fol par_ opn : Nat → Int32) (k : Nat) (F : Nat → Nat → Nat) (oo : Nat) (hLN : LN F oo srt lin wah fol) (hk : k < oo) : Met l yX0_placeOf wsX0_placeOf ({ frames := 0, cells := 0, slots := 0, locals := 0 }) (va_Pc [.ref (y 0), .ref (z 0), .int (nI k)] (PR G E ((lyW E y sett clA) ++ (neW E z op hg la tops dpt lst stry srt lin tokA wah fol par_ opn)))) (vp_Si (fun r => r = clA (F 1 k) + nI (F 3 k))) 0 0 (fun _ => False) := by
  refine Met.ofW (cc := cX0_placeOf) (maxL := 3) (ret := (some .int)) (by decide) rfl ?_
  intro p e s m args below meth c s₁ B hml hv
  obtain ⟨rfl, hP, hK, hZ⟩ := hv
  have hx := B.exec
  have hb := B.bytes
  have hr := B.returns
  have hts := atoms_spec (ws := wsX0_placeOf) B.pre
  have hown : s.vm.findClass RX0 = some m.cls := findClass_of_methodNamed B.named
  have hlocks := B.notSynchronized
  have hin0 : ∀ w ∈ u_ws RX0 TX0 2, w ∈ wsX0_placeOf := mem_pl [4, 5] (by rfl)
  have hin2 : ∀ w ∈ u_ws RX2 TX2 14, w ∈ wsX0_placeOf := mem_pl [6, 7, 8, 9, 10, 11, 12, 13, 14, 15, 16, 17, 18, 19] (by rfl)
  have hS : va_S (fun _ => False) s.heap s.heap [] := va_S.rf
  have hl := lv_entry ([.ref (y 0), .ref (z 0), .int (nI k)]) (n := 3) (Nat.le_of_ble_eq_true rfl)
  rw [lg_entry_eq]
  generalize (lg_sl ([.ref (y 0), .ref (z 0), .int (nI k)]) ++ List.replicate (3 - (lg_sl ([.ref (y 0), .ref (z 0), .int (nI k)])).length) Slot.unset).toArray = ls at hl ⊢
  have hl : lv_has ls 3 [(0, .ref (y 0)), (1, .ref (z 0)), (2, .int (nI k))] := hl
  have ho := hLN.1
  obtain ⟨e0, e1, e3, e4, b1, b0, b4⟩ := hLN.2 k hk
  refine lv_aload_n hx hb dX0_placeOf_0 rfl (lv_at hl 0 rfl) ?_
  refine va_get (D := G) (ci := 0) (v := .ref (y 2)) (C := RX0) (T := TX0) (N := 2) hx hb hts hin0 hown hK hP 0 rfl rfl 1 (by decide) (hts (Cond.fieldLink RX0 15 "IndentRules$Layout" "columns" "[I") (List.mem_of_getElem? (i := 1) rfl)) (fun _ h9 => h9) rfl dX0_placeOf_1 ?_
  refine lv_aload_n hx hb dX0_placeOf_4 rfl (lv_at hl 1 rfl) ?_
  refine va_get (D := G) (ci := 2) (v := .ref (z 7)) (C := RX2) (T := TX2) (N := 14) hx hb hts hin2 hown hK hP 3 rfl rfl 6 (by decide) (hts (Cond.fieldLink RX0 73 "IndentRules$Nesting" "lineOf" "[I") (List.mem_of_getElem? (i := 2) rfl)) (fun _ h9 => h9) rfl dX0_placeOf_5 ?_
  refine lv_iload_n hx hb dX0_placeOf_8 rfl (lv_at hl 2 rfl) ?_
  refine k_iald (D := G) (tys := TYS E) (j := k) (f := lin) (n := 180) hx hb hK hP 9 0 rfl rfl (by omega) (by decide) dX0_placeOf_9 ?_
  rw [e1]
  refine k_iald (D := G) (tys := TYS E) (j := (F 1 k)) (f := clA) (n := 20) hx hb hK hP 2 0 rfl rfl (by omega) (by decide) dX0_placeOf_10 ?_
  refine lv_aload_n hx hb dX0_placeOf_11 rfl (lv_at hl 1 rfl) ?_
  refine va_get (D := G) (ci := 2) (v := .ref (z 9)) (C := RX2) (T := TX2) (N := 14) hx hb hts hin2 hown hK hP 3 rfl rfl 8 (by decide) (hts (Cond.fieldLink RX0 76 "IndentRules$Nesting" "widthAheadOf" "[I") (List.mem_of_getElem? (i := 3) rfl)) (fun _ h9 => h9) rfl dX0_placeOf_12 ?_
  refine lv_iload_n hx hb dX0_placeOf_15 rfl (lv_at hl 2 rfl) ?_
  refine k_iald (D := G) (tys := TYS E) (j := k) (f := wah) (n := 180) hx hb hK hP 11 0 rfl rfl (by omega) (by decide) dX0_placeOf_16 ?_
  rw [e3]
  refine lv_iadd hx hb dX0_placeOf_17 ?_
  refine lv_topi (fun v17 ev17 => ?_)
  exact W.iret (v := v17) hx hb hr (fun tZ htZ hWZ => ⟨_, rfl, ev17, htZ⟩) (fun _ h => by cases h) dX0_placeOf_18

set_option maxHeartbeats 4000000 in
set_option maxRecDepth 100000 in
theorem c_X0_isAligned (l : Launch) (G : va_G) (E : cEnv) (y : Nat → Nat) (sett clA : Nat → Int32) (z : Nat → Nat) (op hg la : Nat) (tops dpt lst stry srt lin tokA wah fol par_ opn : Nat → Int32) (k : Nat) (F : Nat → Nat → Nat) (oo : Nat) (hLN : LN F oo srt lin wah fol) (hk : k < oo) : Met l yX0_isAligned wsX0_isAligned ({ frames := 0, cells := 0, slots := 0, locals := 0 }) (va_Pc [.ref (y 0), .ref (z 0), .int (nI k)] (PR G E ((lyW E y sett clA) ++ (neW E z op hg la tops dpt lst stry srt lin tokA wah fol par_ opn)))) (vp_Si (fun r => (F 0 k = 4 ∧ sett 2 = nI 1 ∧ F 4 k = 1) ∧ r = nI 1 ∨ ¬ (F 0 k = 4 ∧ sett 2 = nI 1 ∧ F 4 k = 1) ∧ r = nI 0)) 0 0 (fun _ => False) := by
  refine Met.ofW (cc := cX0_isAligned) (maxL := 3) (ret := (some .boolean)) (by decide) rfl ?_
  intro p e s m args below meth c s₁ B hml hv
  obtain ⟨rfl, hP, hK, hZ⟩ := hv
  have hx := B.exec
  have hb := B.bytes
  have hr := B.returns
  have hts := atoms_spec (ws := wsX0_isAligned) B.pre
  have hown : s.vm.findClass RX0 = some m.cls := findClass_of_methodNamed B.named
  have hlocks := B.notSynchronized
  have hin0 : ∀ w ∈ u_ws RX0 TX0 2, w ∈ wsX0_isAligned := mem_pl [18, 19] (by rfl)
  have hin2 : ∀ w ∈ u_ws RX2 TX2 14, w ∈ wsX0_isAligned := mem_pl [4, 5, 6, 7, 8, 9, 10, 11, 12, 13, 14, 15, 16, 17] (by rfl)
  have hS : va_S (fun _ => False) s.heap s.heap [] := va_S.rf
  have hl := lv_entry ([.ref (y 0), .ref (z 0), .int (nI k)]) (n := 3) (Nat.le_of_ble_eq_true rfl)
  rw [lg_entry_eq]
  generalize (lg_sl ([.ref (y 0), .ref (z 0), .int (nI k)]) ++ List.replicate (3 - (lg_sl ([.ref (y 0), .ref (z 0), .int (nI k)])).length) Slot.unset).toArray = ls at hl ⊢
  have hl : lv_has ls 3 [(0, .ref (y 0)), (1, .ref (z 0)), (2, .int (nI k))] := hl
  have ho := hLN.1
  obtain ⟨e0, e1, e3, e4, b1, b0, b4⟩ := hLN.2 k hk
  refine lv_aload_n hx hb dX0_isAligned_0 rfl (lv_at hl 1 rfl) ?_
  refine va_get (D := G) (ci := 2) (v := .ref (z 6)) (C := RX2) (T := TX2) (N := 14) hx hb hts hin2 hown hK hP 3 rfl rfl 5 (by decide) (hts (Cond.fieldLink RX0 52 "IndentRules$Nesting" "sortOf" "[I") (List.mem_of_getElem? (i := 1) rfl)) (fun _ h9 => h9) rfl dX0_isAligned_1 ?_
  refine lv_iload_n hx hb dX0_isAligned_4 rfl (lv_at hl 2 rfl) ?_
  refine k_iald (D := G) (tys := TYS E) (j := k) (f := srt) (n := 180) hx hb hK hP 8 0 rfl rfl (by omega) (by decide) dX0_isAligned_5 ?_
  rw [e0]
  refine lv_iconst (v := (nI 4)) hx hb dX0_isAligned_6 (by decide) ?_
  refine n_icmp_ne (a := (F 0 k)) (b := 4) (tgt := 33) hx hb (by omega) (by decide) dX0_isAligned_7 (by decide) (fun c7 => ?_) (fun c7 => ?_)
  · refine lv_iconst (v := (nI 0)) hx hb dX0_isAligned_33 (by decide) ?_
    exact W.zret (v := (nI 0)) hx hb hr (by first | rfl | decide | assumption) (fun tZ htZ hWZ => ⟨_, rfl, Or.inr ⟨fun q => c7 q.1, rfl⟩, htZ⟩) (fun _ h => by cases h) dX0_isAligned_34
  · refine lv_aload_n hx hb dX0_isAligned_10 rfl (lv_at hl 0 rfl) ?_
    refine va_get (D := G) (ci := 0) (v := .ref (y 1)) (C := RX0) (T := TX0) (N := 2) hx hb hts hin0 hown hK hP 0 rfl rfl 0 (by decide) (hts (Cond.fieldLink RX0 9 "IndentRules$Layout" "settings" "[I") (List.mem_of_getElem? (i := 2) rfl)) (fun _ h9 => h9) rfl dX0_isAligned_11 ?_
    refine lv_iconst (v := (nI 2)) hx hb dX0_isAligned_14 (by decide) ?_
    refine k_iald (D := G) (tys := TYS E) (j := 2) (f := sett) (n := 4) hx hb hK hP 1 0 rfl rfl (by decide) (by decide) dX0_isAligned_15 ?_
    refine lv_iconst (v := (nI 1)) hx hb dX0_isAligned_16 (by decide) ?_
    refine lv_icmp_ne (x := (sett 2)) (y := (nI 1)) (tgt := 33) hx hb dX0_isAligned_17 (by decide) (fun c17 => ?_) (fun c17 => ?_)
    · refine lv_iconst (v := (nI 0)) hx hb dX0_isAligned_33 (by decide) ?_
      exact W.zret (v := (nI 0)) hx hb hr (by first | rfl | decide | assumption) (fun tZ htZ hWZ => ⟨_, rfl, Or.inr ⟨fun q => c17 q.2.1, rfl⟩, htZ⟩) (fun _ h => by cases h) dX0_isAligned_34
    · refine lv_aload_n hx hb dX0_isAligned_20 rfl (lv_at hl 1 rfl) ?_
      refine va_get (D := G) (ci := 2) (v := .ref (z 10)) (C := RX2) (T := TX2) (N := 14) hx hb hts hin2 hown hK hP 3 rfl rfl 9 (by decide) (hts (Cond.fieldLink RX0 69 "IndentRules$Nesting" "followed" "[Z") (List.mem_of_getElem? (i := 3) rfl)) (fun _ h9 => h9) rfl dX0_isAligned_21 ?_
      refine lv_iload_n hx hb dX0_isAligned_24 rfl (lv_at hl 2 rfl) ?_
      refine k_zald (D := G) (tys := TYS E) (j := k) (f := fol) (n := 180) hx hb hK hP 12 1 rfl rfl (by omega) (by decide) dX0_isAligned_25 ?_
      rw [e4]
      refine n_if_eq (a := (F 4 k)) (tgt := 33) hx hb (by omega) dX0_isAligned_26 (by decide) (fun c26 => ?_) (fun c26 => ?_)
      · refine lv_iconst (v := (nI 0)) hx hb dX0_isAligned_33 (by decide) ?_
        exact W.zret (v := (nI 0)) hx hb hr (by first | rfl | decide | assumption) (fun tZ htZ hWZ => ⟨_, rfl, Or.inr ⟨fun q => by omega, rfl⟩, htZ⟩) (fun _ h => by cases h) dX0_isAligned_34
      · refine lv_iconst (v := (nI 1)) hx hb dX0_isAligned_29 (by decide) ?_
        refine lv_goto (tgt := 34) hx hb dX0_isAligned_30 (by decide) ?_
        exact W.zret (v := (nI 1)) hx hb hr (by first | rfl | decide | assumption) (fun tZ htZ hWZ => ⟨_, rfl, Or.inl ⟨⟨c7, c17, by omega⟩, rfl⟩, htZ⟩) (fun _ h => by cases h) dX0_isAligned_34

set_option maxHeartbeats 4000000 in
set_option maxRecDepth 100000 in
theorem c_X0_kindOf (l : Launch) (G : va_G) (E : cEnv) (y : Nat → Nat) (sett clA : Nat → Int32) (z : Nat → Nat) (op hg la : Nat) (tops dpt lst stry srt lin tokA wah fol par_ opn : Nat → Int32) (k : Nat) (F : Nat → Nat → Nat) (oo : Nat) (hLN : LN F oo srt lin wah fol) (hk : k < oo) : Met l yX0_kindOf wsX0_kindOf ({ frames := 1, cells := 0, slots := 0, locals := 22 }) (va_Pc [.ref (y 0), .ref (z 0), .int (nI k)] (PR G E ((lyW E y sett clA) ++ (neW E z op hg la tops dpt lst stry srt lin tokA wah fol par_ opn)))) (vp_Si (fun r => r = nI (kd (sett 2) F k))) 0 0 (fun _ => False) := by
  refine Met.ofW (cc := cX0_kindOf) (maxL := 3) (ret := (some .int)) (by decide) rfl ?_
  intro p e s m args below meth c s₁ B hml hv
  obtain ⟨rfl, hP, hK, hZ⟩ := hv
  have hx := B.exec
  have hb := B.bytes
  have hr := B.returns
  have hts := atoms_spec (ws := wsX0_kindOf) B.pre
  have hown : s.vm.findClass RX0 = some m.cls := findClass_of_methodNamed B.named
  have hlocks := B.notSynchronized
  have hin2 : ∀ w ∈ u_ws RX2 TX2 14, w ∈ wsX0_kindOf := mem_pl [9, 10, 11, 12, 13, 14, 15, 16, 17, 18, 19, 20, 21, 22] (by rfl)
  have hS : va_S (fun _ => False) s.heap s.heap [] := va_S.rf
  have hl := lv_entry ([.ref (y 0), .ref (z 0), .int (nI k)]) (n := 3) (Nat.le_of_ble_eq_true rfl)
  rw [lg_entry_eq]
  generalize (lg_sl ([.ref (y 0), .ref (z 0), .int (nI k)]) ++ List.replicate (3 - (lg_sl ([.ref (y 0), .ref (z 0), .int (nI k)])).length) Slot.unset).toArray = ls at hl ⊢
  have hl : lv_has ls 3 [(0, .ref (y 0)), (1, .ref (z 0)), (2, .int (nI k))] := hl
  have ho := hLN.1
  obtain ⟨e0, e1, e3, e4, b1, b0, b4⟩ := hLN.2 k hk
  refine lv_aload_n hx hb dX0_kindOf_0 rfl (lv_at hl 1 rfl) ?_
  refine va_get (D := G) (ci := 2) (v := .ref (z 6)) (C := RX2) (T := TX2) (N := 14) hx hb hts hin2 hown hK hP 3 rfl rfl 5 (by decide) (hts (Cond.fieldLink RX0 52 "IndentRules$Nesting" "sortOf" "[I") (List.mem_of_getElem? (i := 1) rfl)) (fun _ h9 => h9) rfl dX0_kindOf_1 ?_
  refine lv_iload_n hx hb dX0_kindOf_4 rfl (lv_at hl 2 rfl) ?_
  refine k_iald (D := G) (tys := TYS E) (j := k) (f := srt) (n := 180) hx hb hK hP 8 0 rfl rfl (by omega) (by decide) dX0_kindOf_5 ?_
  rw [e0]
  refine lv_iconst (v := (nI 2)) hx hb dX0_kindOf_6 (by decide) ?_
  refine n_icmp_ne (a := (F 0 k)) (b := 2) (tgt := 12) hx hb (by omega) (by decide) dX0_kindOf_7 (by decide) (fun c7 => ?_) (fun c7 => ?_)
  · refine lv_aload_n hx hb dX0_kindOf_12 rfl (lv_at hl 0 rfl) ?_
    refine lv_aload_n hx hb dX0_kindOf_13 rfl (lv_at hl 1 rfl) ?_
    refine lv_iload_n hx hb dX0_kindOf_14 rfl (lv_at hl 2 rfl) ?_
    refine rv_i (n := 2) (G := G) (E := E) (As := [.ref (z 0), .int (nI k)]) (rest := []) (ci := 0) (q0 := 0) ⟨hx, hb, hml, hown, hts⟩ hK hZ hS (c_X0_isAligned l G E y sett clA z op hg la tops dpt lst stry srt lin tokA wah fol par_ opn k F oo (by first | assumption | omega) (by first | assumption | omega)) gX0_kindOf_X0_isAligned rfl rfl rfl (by decide +kernel) ⟨Nat.le_of_ble_eq_true rfl, Nat.le_of_ble_eq_true rfl⟩ hP rfl rfl hl.1 rfl rfl (Nat.le_of_ble_eq_true rfl) dX0_kindOf_15 ⟨Nat.zero_le _, Nat.zero_le _⟩ (fun r15 p15 => ?_)
    rcases p15 with ⟨h15, rfl⟩ | ⟨h15, rfl⟩
    · refine n_if_eq (a := 1) (tgt := 25) hx hb (by decide) dX0_kindOf_18 (by decide) (fun c18 => absurd c18 (by decide)) (fun c18 => ?_)
      refine lv_iconst (v := (nI 3)) hx hb dX0_kindOf_21 (by decide) ?_
      refine lv_goto (tgt := 26) hx hb dX0_kindOf_22 (by decide) ?_
      exact W.iret (v := (nI 3)) hx hb hr (fun tZ htZ hWZ => ⟨_, rfl, by unfold kd; rw [if_neg c7, if_pos ⟨h15.2.1, h15.2.2⟩], htZ⟩) (fun _ h => by cases h) dX0_kindOf_26
    · refine n_if_eq (a := 0) (tgt := 25) hx hb (by decide) dX0_kindOf_18 (by decide) (fun c18 => ?_) (fun c18 => absurd c18 (by decide))
      refine lv_iconst (v := (nI 2)) hx hb dX0_kindOf_25 (by decide) ?_
      exact W.iret (v := (nI 2)) hx hb hr (fun tZ htZ hWZ => ⟨_, rfl, by unfold kd; rw [if_neg c7, if_neg (fun q => h15 ⟨b0.resolve_left c7, q.1, q.2⟩)], htZ⟩) (fun _ h => by cases h) dX0_kindOf_26
  · refine lv_iconst (v := (nI 1)) hx hb dX0_kindOf_10 (by decide) ?_
    exact W.iret (v := (nI 1)) hx hb hr (fun tZ htZ hWZ => ⟨_, rfl, by unfold kd; rw [if_pos c7], htZ⟩) (fun _ h => by cases h) dX0_kindOf_11

set_option maxHeartbeats 4000000 in
set_option maxRecDepth 100000 in
theorem c_X0_goingOn (l : Launch) (G : va_G) (E : cEnv) (y : Nat → Nat) (sett clA : Nat → Int32) (x : Int32) (v : Nat) (hv : v < 10) : Met l yX0_goingOn wsX0_goingOn ({ frames := 0, cells := 0, slots := 0, locals := 0 }) (va_Pc [.ref (y 0), .int x, .int (nI v)] (PR G E (lyW E y sett clA))) (vp_Si (fun r => r = gO sett x v)) 0 0 (fun _ => False) := by
  refine Met.ofW (cc := cX0_goingOn) (maxL := 3) (ret := (some .int)) (by decide) rfl ?_
  intro p e s m args below meth c s₁ B hml hv
  obtain ⟨rfl, hP, hK, hZ⟩ := hv
  have hx := B.exec
  have hb := B.bytes
  have hr := B.returns
  have hts := atoms_spec (ws := wsX0_goingOn) B.pre
  have hown : s.vm.findClass RX0 = some m.cls := findClass_of_methodNamed B.named
  have hlocks := B.notSynchronized
  have hin0 : ∀ w ∈ u_ws RX0 TX0 2, w ∈ wsX0_goingOn := mem_pl [2, 3] (by rfl)
  have hS : va_S (fun _ => False) s.heap s.heap [] := va_S.rf
  have hl := lv_entry ([.ref (y 0), .int x, .int (nI v)]) (n := 3) (Nat.le_of_ble_eq_true rfl)
  rw [lg_entry_eq]
  generalize (lg_sl ([.ref (y 0), .int x, .int (nI v)]) ++ List.replicate (3 - (lg_sl ([.ref (y 0), .int x, .int (nI v)])).length) Slot.unset).toArray = ls at hl ⊢
  have hl : lv_has ls 3 [(0, .ref (y 0)), (1, .int x), (2, .int (nI v))] := hl
  refine lv_iload_n hx hb dX0_goingOn_0 rfl (lv_at hl 2 rfl) ?_
  refine lv_iconst (v := (nI 1)) hx hb dX0_goingOn_1 (by decide) ?_
  refine n_icmp_eq (a := v) (b := 1) (tgt := 16) hx hb (by omega) (by decide) dX0_goingOn_2 (by decide) (fun c2 => ?_) (fun c2 => ?_)
  · refine lv_iload_n hx hb dX0_goingOn_16 rfl (lv_at hl 1 rfl) ?_
    refine lv_aload_n hx hb dX0_goingOn_17 rfl (lv_at hl 0 rfl) ?_
    refine va_get (D := G) (ci := 0) (v := .ref (y 1)) (C := RX0) (T := TX0) (N := 2) hx hb hts hin0 hown hK hP 0 rfl rfl 0 (by decide) (hts (Cond.fieldLink RX0 9 "IndentRules$Layout" "settings" "[I") (List.mem_of_getElem? (i := 1) rfl)) (fun _ h9 => h9) rfl dX0_goingOn_18 ?_
    refine lv_iconst (v := (nI 1)) hx hb dX0_goingOn_21 (by decide) ?_
    refine k_iald (D := G) (tys := TYS E) (j := 1) (f := sett) (n := 4) hx hb hK hP 1 0 rfl rfl (by decide) (by decide) dX0_goingOn_22 ?_
    refine lv_iadd hx hb dX0_goingOn_23 ?_
    refine lv_topi (fun v23 ev23 => ?_)
    exact W.iret (v := v23) hx hb hr (fun tZ htZ hWZ => ⟨_, rfl, by unfold gO; rw [if_pos (Or.inl c2)]; exact ev23, htZ⟩) (fun _ h => by cases h) dX0_goingOn_24
  · refine lv_iload_n hx hb dX0_goingOn_5 rfl (lv_at hl 2 rfl) ?_
    refine lv_iconst (v := (nI 5)) hx hb dX0_goingOn_6 (by decide) ?_
    refine n_icmp_eq (a := v) (b := 5) (tgt := 16) hx hb (by omega) (by decide) dX0_goingOn_7 (by decide) (fun c7 => ?_) (fun c7 => ?_)
    · refine lv_iload_n hx hb dX0_goingOn_16 rfl (lv_at hl 1 rfl) ?_
      refine lv_aload_n hx hb dX0_goingOn_17 rfl (lv_at hl 0 rfl) ?_
      refine va_get (D := G) (ci := 0) (v := .ref (y 1)) (C := RX0) (T := TX0) (N := 2) hx hb hts hin0 hown hK hP 0 rfl rfl 0 (by decide) (hts (Cond.fieldLink RX0 9 "IndentRules$Layout" "settings" "[I") (List.mem_of_getElem? (i := 1) rfl)) (fun _ h9 => h9) rfl dX0_goingOn_18 ?_
      refine lv_iconst (v := (nI 1)) hx hb dX0_goingOn_21 (by decide) ?_
      refine k_iald (D := G) (tys := TYS E) (j := 1) (f := sett) (n := 4) hx hb hK hP 1 0 rfl rfl (by decide) (by decide) dX0_goingOn_22 ?_
      refine lv_iadd hx hb dX0_goingOn_23 ?_
      refine lv_topi (fun v23 ev23 => ?_)
      exact W.iret (v := v23) hx hb hr (fun tZ htZ hWZ => ⟨_, rfl, by unfold gO; rw [if_pos (Or.inr (Or.inl c7))]; exact ev23, htZ⟩) (fun _ h => by cases h) dX0_goingOn_24
    · refine lv_iload_n hx hb dX0_goingOn_10 rfl (lv_at hl 2 rfl) ?_
      refine lv_bipush (v := (nI 6)) hx hb dX0_goingOn_11 (by decide) ?_
      refine n_icmp_ne (a := v) (b := 6) (tgt := 25) hx hb (by omega) (by decide) dX0_goingOn_13 (by decide) (fun c13 => ?_) (fun c13 => ?_)
      · refine lv_iload_n hx hb dX0_goingOn_25 rfl (lv_at hl 2 rfl) ?_
        refine lv_bipush (v := (nI 7)) hx hb dX0_goingOn_26 (by decide) ?_
        refine n_icmp_ne (a := v) (b := 7) (tgt := 42) hx hb (by omega) (by decide) dX0_goingOn_28 (by decide) (fun c28 => ?_) (fun c28 => ?_)
        · refine lv_iload_n hx hb dX0_goingOn_42 rfl (lv_at hl 1 rfl) ?_
          exact W.iret (v := x) hx hb hr (fun tZ htZ hWZ => ⟨_, rfl, by unfold gO; rw [if_neg (fun q => by omega), if_neg c28], htZ⟩) (fun _ h => by cases h) dX0_goingOn_43
        · refine lv_iload_n hx hb dX0_goingOn_31 rfl (lv_at hl 1 rfl) ?_
          refine lv_aload_n hx hb dX0_goingOn_32 rfl (lv_at hl 0 rfl) ?_
          refine va_get (D := G) (ci := 0) (v := .ref (y 1)) (C := RX0) (T := TX0) (N := 2) hx hb hts hin0 hown hK hP 0 rfl rfl 0 (by decide) (hts (Cond.fieldLink RX0 9 "IndentRules$Layout" "settings" "[I") (List.mem_of_getElem? (i := 1) rfl)) (fun _ h9 => h9) rfl dX0_goingOn_33 ?_
          refine lv_iconst (v := (nI 0)) hx hb dX0_goingOn_36 (by decide) ?_
          refine k_iald (D := G) (tys := TYS E) (j := 0) (f := sett) (n := 4) hx hb hK hP 1 0 rfl rfl (by decide) (by decide) dX0_goingOn_37 ?_
          refine lv_iadd hx hb dX0_goingOn_38 ?_
          refine lv_topi (fun v38 ev38 => ?_)
          refine lv_goto (tgt := 43) hx hb dX0_goingOn_39 (by decide) ?_
          exact W.iret (v := v38) hx hb hr (fun tZ htZ hWZ => ⟨_, rfl, by unfold gO; rw [if_neg (fun q => by omega), if_pos c28]; exact ev38, htZ⟩) (fun _ h => by cases h) dX0_goingOn_43
      · refine lv_iload_n hx hb dX0_goingOn_16 rfl (lv_at hl 1 rfl) ?_
        refine lv_aload_n hx hb dX0_goingOn_17 rfl (lv_at hl 0 rfl) ?_
        refine va_get (D := G) (ci := 0) (v := .ref (y 1)) (C := RX0) (T := TX0) (N := 2) hx hb hts hin0 hown hK hP 0 rfl rfl 0 (by decide) (hts (Cond.fieldLink RX0 9 "IndentRules$Layout" "settings" "[I") (List.mem_of_getElem? (i := 1) rfl)) (fun _ h9 => h9) rfl dX0_goingOn_18 ?_
        refine lv_iconst (v := (nI 1)) hx hb dX0_goingOn_21 (by decide) ?_
        refine k_iald (D := G) (tys := TYS E) (j := 1) (f := sett) (n := 4) hx hb hK hP 1 0 rfl rfl (by decide) (by decide) dX0_goingOn_22 ?_
        refine lv_iadd hx hb dX0_goingOn_23 ?_
        refine lv_topi (fun v23 ev23 => ?_)
        exact W.iret (v := v23) hx hb hr (fun tZ htZ hWZ => ⟨_, rfl, by unfold gO; rw [if_pos (Or.inr (Or.inr c13))]; exact ev23, htZ⟩) (fun _ h => by cases h) dX0_goingOn_24

set_option maxHeartbeats 4000000 in
set_option maxRecDepth 100000 in
theorem c_X0_columnInBracket (l : Launch) (G : va_G) (E : cEnv) (y : Nat → Nat) (sett clA : Nat → Int32) (z : Nat → Nat) (op hg la : Nat) (tops dpt lst stry srt lin tokA wah fol par_ opn : Nat → Int32) (k x : Nat) (F : Nat → Nat → Nat) (oo : Nat) (hLN : LN F oo srt lin wah fol) (hk : k < oo) (hx0 : x < 10) (hb4 : F 0 k = 4) : Met l yX0_columnInBracket wsX0_columnInBracket ({ frames := 1, cells := 0, slots := 0, locals := 22 }) (va_Pc [.ref (y 0), .ref (z 0), .int (nI k), .int (nI x)] (PR G E ((lyW E y sett clA) ++ (neW E z op hg la tops dpt lst stry srt lin tokA wah fol par_ opn)))) (vp_Si (fun r => r = (if sett 2 = nI 1 ∧ F 4 k = 1 then (if x = 5 then clA (F 1 k) + nI (F 3 k) else clA (F 1 k) + nI (F 3 k) + nI 1) else (if x = 5 then clA (F 1 k) else clA (F 1 k) + sett 1)))) 0 0 (fun _ => False) := by
  refine Met.ofW (cc := cX0_columnInBracket) (maxL := 6) (ret := (some .int)) (by decide) rfl ?_
  intro p e s m args below meth c s₁ B hml hv
  obtain ⟨rfl, hP, hK, hZ⟩ := hv
  have hx := B.exec
  have hb := B.bytes
  have hr := B.returns
  have hts := atoms_spec (ws := wsX0_columnInBracket) B.pre
  have hown : s.vm.findClass RX0 = some m.cls := findClass_of_methodNamed B.named
  have hlocks := B.notSynchronized
  have hin0 : ∀ w ∈ u_ws RX0 TX0 2, w ∈ wsX0_columnInBracket := mem_pl [20, 21] (by rfl)
  have hS : va_S (fun _ => False) s.heap s.heap [] := va_S.rf
  have hl := lv_entry ([.ref (y 0), .ref (z 0), .int (nI k), .int (nI x)]) (n := 6) (Nat.le_of_ble_eq_true rfl)
  rw [lg_entry_eq]
  generalize (lg_sl ([.ref (y 0), .ref (z 0), .int (nI k), .int (nI x)]) ++ List.replicate (6 - (lg_sl ([.ref (y 0), .ref (z 0), .int (nI k), .int (nI x)])).length) Slot.unset).toArray = ls at hl ⊢
  have hl : lv_has ls 6 [(0, .ref (y 0)), (1, .ref (z 0)), (2, .int (nI k)), (3, .int (nI x))] := hl
  refine lv_iload_n hx hb dX0_columnInBracket_0 rfl (lv_at hl 3 rfl) ?_
  refine lv_iconst (v := (nI 5)) hx hb dX0_columnInBracket_1 (by decide) ?_
  refine n_icmp_ne (a := x) (b := 5) (tgt := 9) hx hb (by omega) (by decide) dX0_columnInBracket_2 (by decide) (fun c2 => ?_) (fun c2 => ?_)
  · refine lv_iconst (v := (nI 0)) hx hb dX0_columnInBracket_9 (by decide) ?_
    refine lv_istore (lv' := [(4, .int (nI 0)), (0, .ref (y 0)), (1, .ref (z 0)), (2, .int (nI k)), (3, .int (nI x))]) hx hb dX0_columnInBracket_10 hl (by decide) rfl (fun ls hl => ?_)
    refine lv_aload_n hx hb dX0_columnInBracket_12 rfl (lv_at hl 1 rfl) ?_
    refine lv_aload_n hx hb dX0_columnInBracket_13 rfl (lv_at hl 2 rfl) ?_
    refine lv_iload_n hx hb dX0_columnInBracket_14 rfl (lv_at hl 3 rfl) ?_
    refine rv_i (n := 2) (G := G) (E := E) (As := [.ref (z 0), .int (nI k)]) (rest := []) (ci := 0) (q0 := 0) ⟨hx, hb, hml, hown, hts⟩ hK hZ hS (c_X0_isAligned l G E y sett clA z op hg la tops dpt lst stry srt lin tokA wah fol par_ opn k F oo (by first | assumption | omega) (by first | assumption | omega)) gX0_columnInBracket_X0_isAligned rfl rfl rfl (by decide +kernel) ⟨Nat.le_of_ble_eq_true rfl, Nat.le_of_ble_eq_true rfl⟩ hP rfl rfl hl.1 rfl rfl (Nat.le_of_ble_eq_true rfl) dX0_columnInBracket_15 ⟨Nat.zero_le _, Nat.zero_le _⟩ (fun r15 p15 => ?_)
    rcases p15 with ⟨h15, rfl⟩ | ⟨h15, rfl⟩
    · refine n_if_eq (a := 1) (tgt := 44) hx hb (by decide) dX0_columnInBracket_18 (by decide) (fun c18 => absurd c18 (by decide)) (fun c18 => ?_)
      refine lv_aload_n hx hb dX0_columnInBracket_21 rfl (lv_at hl 1 rfl) ?_
      refine lv_aload_n hx hb dX0_columnInBracket_22 rfl (lv_at hl 2 rfl) ?_
      refine lv_iload_n hx hb dX0_columnInBracket_23 rfl (lv_at hl 3 rfl) ?_
      refine rv_i (n := 2) (G := G) (E := E) (As := [.ref (z 0), .int (nI k)]) (rest := []) (ci := 0) (q0 := 0) ⟨hx, hb, hml, hown, hts⟩ hK hZ hS (c_X0_placeOf l G E y sett clA z op hg la tops dpt lst stry srt lin tokA wah fol par_ opn k F oo (by first | assumption | omega) (by first | assumption | omega)) gX0_columnInBracket_X0_placeOf rfl rfl rfl (by decide +kernel) ⟨Nat.le_of_ble_eq_true rfl, Nat.le_of_ble_eq_true rfl⟩ hP rfl rfl hl.1 rfl rfl (Nat.le_of_ble_eq_true rfl) dX0_columnInBracket_24 ⟨Nat.zero_le _, Nat.zero_le _⟩ (fun r24 p24 => ?_)
      subst p24
      refine lv_istore (lv' := [(5, .int (clA (F 1 k) + nI (F 3 k))), (4, .int (nI 0)), (0, .ref (y 0)), (1, .ref (z 0)), (2, .int (nI k)), (3, .int (nI x))]) hx hb dX0_columnInBracket_27 hl (by decide) rfl (fun ls hl => ?_)
      refine lv_iload hx hb dX0_columnInBracket_29 (lv_at hl 1 rfl) ?_
      refine n_if_eq (a := 0) (tgt := 39) hx hb (by decide) dX0_columnInBracket_31 (by decide) (fun c31 => ?_) (fun c31 => absurd c31 (by decide))
      refine lv_iload hx hb dX0_columnInBracket_39 (lv_at hl 0 rfl) ?_
      refine lv_iconst (v := (nI 1)) hx hb dX0_columnInBracket_41 (by decide) ?_
      refine lv_iadd hx hb dX0_columnInBracket_42 ?_
      refine lv_topi (fun v42 ev42 => ?_)
      exact W.iret (v := v42) hx hb hr (fun tZ htZ hWZ => ⟨_, rfl, by rw [if_pos ⟨h15.2.1, h15.2.2⟩, if_neg c2]; exact ev42, htZ⟩) (fun _ h => by cases h) dX0_columnInBracket_43
    · refine n_if_eq (a := 0) (tgt := 44) hx hb (by decide) dX0_columnInBracket_18 (by decide) (fun c18 => ?_) (fun c18 => absurd c18 (by decide))
      refine lv_aload_n hx hb dX0_columnInBracket_44 rfl (lv_at hl 1 rfl) ?_
      refine lv_aload_n hx hb dX0_columnInBracket_45 rfl (lv_at hl 2 rfl) ?_
      refine lv_iload_n hx hb dX0_columnInBracket_46 rfl (lv_at hl 3 rfl) ?_
      refine rv_i (n := 2) (G := G) (E := E) (As := [.ref (z 0), .int (nI k)]) (rest := []) (ci := 0) (q0 := 0) ⟨hx, hb, hml, hown, hts⟩ hK hZ hS (c_X0_baseOf l G E y sett clA z op hg la tops dpt lst stry srt lin tokA wah fol par_ opn k F oo (by first | assumption | omega) (by first | assumption | omega)) gX0_columnInBracket_X0_baseOf rfl rfl rfl (by decide +kernel) ⟨Nat.le_of_ble_eq_true rfl, Nat.le_of_ble_eq_true rfl⟩ hP rfl rfl hl.1 rfl rfl (Nat.le_of_ble_eq_true rfl) dX0_columnInBracket_47 ⟨Nat.zero_le _, Nat.zero_le _⟩ (fun r47 p47 => ?_)
      subst p47
      refine lv_istore (lv' := [(5, .int (clA (F 1 k))), (4, .int (nI 0)), (0, .ref (y 0)), (1, .ref (z 0)), (2, .int (nI k)), (3, .int (nI x))]) hx hb dX0_columnInBracket_50 hl (by decide) rfl (fun ls hl => ?_)
      refine lv_iload hx hb dX0_columnInBracket_52 (lv_at hl 1 rfl) ?_
      refine n_if_eq (a := 0) (tgt := 62) hx hb (by decide) dX0_columnInBracket_54 (by decide) (fun c54 => ?_) (fun c54 => absurd c54 (by decide))
      refine lv_iload hx hb dX0_columnInBracket_62 (lv_at hl 0 rfl) ?_
      refine lv_aload_n hx hb dX0_columnInBracket_64 rfl (lv_at hl 2 rfl) ?_
      refine va_get (D := G) (ci := 0) (v := .ref (y 1)) (C := RX0) (T := TX0) (N := 2) hx hb hts hin0 hown hK hP 0 rfl rfl 0 (by decide) (hts (Cond.fieldLink RX0 9 "IndentRules$Layout" "settings" "[I") (List.mem_of_getElem? (i := 1) rfl)) (fun _ h9 => h9) rfl dX0_columnInBracket_65 ?_
      refine lv_iconst (v := (nI 1)) hx hb dX0_columnInBracket_68 (by decide) ?_
      refine k_iald (D := G) (tys := TYS E) (j := 1) (f := sett) (n := 4) hx hb hK hP 1 0 rfl rfl (by decide) (by decide) dX0_columnInBracket_69 ?_
      refine lv_iadd hx hb dX0_columnInBracket_70 ?_
      refine lv_topi (fun v70 ev70 => ?_)
      exact W.iret (v := v70) hx hb hr (fun tZ htZ hWZ => ⟨_, rfl, by rw [if_neg (fun q => h15 ⟨hb4, q.1, q.2⟩), if_neg c2]; exact ev70, htZ⟩) (fun _ h => by cases h) dX0_columnInBracket_71
  · refine lv_iconst (v := (nI 1)) hx hb dX0_columnInBracket_5 (by decide) ?_
    refine lv_goto (tgt := 10) hx hb dX0_columnInBracket_6 (by decide) ?_
    refine lv_istore (lv' := [(4, .int (nI 1)), (0, .ref (y 0)), (1, .ref (z 0)), (2, .int (nI k)), (3, .int (nI x))]) hx hb dX0_columnInBracket_10 hl (by decide) rfl (fun ls hl => ?_)
    refine lv_aload_n hx hb dX0_columnInBracket_12 rfl (lv_at hl 1 rfl) ?_
    refine lv_aload_n hx hb dX0_columnInBracket_13 rfl (lv_at hl 2 rfl) ?_
    refine lv_iload_n hx hb dX0_columnInBracket_14 rfl (lv_at hl 3 rfl) ?_
    refine rv_i (n := 2) (G := G) (E := E) (As := [.ref (z 0), .int (nI k)]) (rest := []) (ci := 0) (q0 := 0) ⟨hx, hb, hml, hown, hts⟩ hK hZ hS (c_X0_isAligned l G E y sett clA z op hg la tops dpt lst stry srt lin tokA wah fol par_ opn k F oo (by first | assumption | omega) (by first | assumption | omega)) gX0_columnInBracket_X0_isAligned rfl rfl rfl (by decide +kernel) ⟨Nat.le_of_ble_eq_true rfl, Nat.le_of_ble_eq_true rfl⟩ hP rfl rfl hl.1 rfl rfl (Nat.le_of_ble_eq_true rfl) dX0_columnInBracket_15 ⟨Nat.zero_le _, Nat.zero_le _⟩ (fun r15 p15 => ?_)
    rcases p15 with ⟨h15, rfl⟩ | ⟨h15, rfl⟩
    · refine n_if_eq (a := 1) (tgt := 44) hx hb (by decide) dX0_columnInBracket_18 (by decide) (fun c18 => absurd c18 (by decide)) (fun c18 => ?_)
      refine lv_aload_n hx hb dX0_columnInBracket_21 rfl (lv_at hl 1 rfl) ?_
      refine lv_aload_n hx hb dX0_columnInBracket_22 rfl (lv_at hl 2 rfl) ?_
      refine lv_iload_n hx hb dX0_columnInBracket_23 rfl (lv_at hl 3 rfl) ?_
      refine rv_i (n := 2) (G := G) (E := E) (As := [.ref (z 0), .int (nI k)]) (rest := []) (ci := 0) (q0 := 0) ⟨hx, hb, hml, hown, hts⟩ hK hZ hS (c_X0_placeOf l G E y sett clA z op hg la tops dpt lst stry srt lin tokA wah fol par_ opn k F oo (by first | assumption | omega) (by first | assumption | omega)) gX0_columnInBracket_X0_placeOf rfl rfl rfl (by decide +kernel) ⟨Nat.le_of_ble_eq_true rfl, Nat.le_of_ble_eq_true rfl⟩ hP rfl rfl hl.1 rfl rfl (Nat.le_of_ble_eq_true rfl) dX0_columnInBracket_24 ⟨Nat.zero_le _, Nat.zero_le _⟩ (fun r24 p24 => ?_)
      subst p24
      refine lv_istore (lv' := [(5, .int (clA (F 1 k) + nI (F 3 k))), (4, .int (nI 1)), (0, .ref (y 0)), (1, .ref (z 0)), (2, .int (nI k)), (3, .int (nI x))]) hx hb dX0_columnInBracket_27 hl (by decide) rfl (fun ls hl => ?_)
      refine lv_iload hx hb dX0_columnInBracket_29 (lv_at hl 1 rfl) ?_
      refine n_if_eq (a := 1) (tgt := 39) hx hb (by decide) dX0_columnInBracket_31 (by decide) (fun c31 => absurd c31 (by decide)) (fun c31 => ?_)
      refine lv_iload hx hb dX0_columnInBracket_34 (lv_at hl 0 rfl) ?_
      refine lv_goto (tgt := 43) hx hb dX0_columnInBracket_36 (by decide) ?_
      exact W.iret (v := (clA (F 1 k) + nI (F 3 k))) hx hb hr (fun tZ htZ hWZ => ⟨_, rfl, by rw [if_pos ⟨h15.2.1, h15.2.2⟩, if_pos c2], htZ⟩) (fun _ h => by cases h) dX0_columnInBracket_43
    · refine n_if_eq (a := 0) (tgt := 44) hx hb (by decide) dX0_columnInBracket_18 (by decide) (fun c18 => ?_) (fun c18 => absurd c18 (by decide))
      refine lv_aload_n hx hb dX0_columnInBracket_44 rfl (lv_at hl 1 rfl) ?_
      refine lv_aload_n hx hb dX0_columnInBracket_45 rfl (lv_at hl 2 rfl) ?_
      refine lv_iload_n hx hb dX0_columnInBracket_46 rfl (lv_at hl 3 rfl) ?_
      refine rv_i (n := 2) (G := G) (E := E) (As := [.ref (z 0), .int (nI k)]) (rest := []) (ci := 0) (q0 := 0) ⟨hx, hb, hml, hown, hts⟩ hK hZ hS (c_X0_baseOf l G E y sett clA z op hg la tops dpt lst stry srt lin tokA wah fol par_ opn k F oo (by first | assumption | omega) (by first | assumption | omega)) gX0_columnInBracket_X0_baseOf rfl rfl rfl (by decide +kernel) ⟨Nat.le_of_ble_eq_true rfl, Nat.le_of_ble_eq_true rfl⟩ hP rfl rfl hl.1 rfl rfl (Nat.le_of_ble_eq_true rfl) dX0_columnInBracket_47 ⟨Nat.zero_le _, Nat.zero_le _⟩ (fun r47 p47 => ?_)
      subst p47
      refine lv_istore (lv' := [(5, .int (clA (F 1 k))), (4, .int (nI 1)), (0, .ref (y 0)), (1, .ref (z 0)), (2, .int (nI k)), (3, .int (nI x))]) hx hb dX0_columnInBracket_50 hl (by decide) rfl (fun ls hl => ?_)
      refine lv_iload hx hb dX0_columnInBracket_52 (lv_at hl 1 rfl) ?_
      refine n_if_eq (a := 1) (tgt := 62) hx hb (by decide) dX0_columnInBracket_54 (by decide) (fun c54 => absurd c54 (by decide)) (fun c54 => ?_)
      refine lv_iload hx hb dX0_columnInBracket_57 (lv_at hl 0 rfl) ?_
      refine lv_goto (tgt := 71) hx hb dX0_columnInBracket_59 (by decide) ?_
      exact W.iret (v := (clA (F 1 k))) hx hb hr (fun tZ htZ hWZ => ⟨_, rfl, by rw [if_neg (fun q => h15 ⟨hb4, q.1, q.2⟩), if_pos c2], htZ⟩) (fun _ h => by cases h) dX0_columnInBracket_71

set_option maxHeartbeats 4000000 in
set_option maxRecDepth 100000 in
theorem c_X0_columnBehind (l : Launch) (G : va_G) (E : cEnv) (y : Nat → Nat) (sett clA : Nat → Int32) (z : Nat → Nat) (op hg la : Nat) (tops dpt lst stry srt lin tokA wah fol par_ opn : Nat → Int32) (li x top v : Nat) (F : Nat → Nat → Nat) (oo : Nat) (hLN : LN F oo srt lin wah fol) (hli : li < 20) (hx0 : x < 10) (htop : tops li = pv top) (htl : top ≤ oo) (hlst : lst li = nI v) (hv : v < 10) : Met l yX0_columnBehind wsX0_columnBehind ({ frames := 2, cells := 0, slots := 0, locals := 47 }) (va_Pc [.ref (y 0), .ref (z 0), .int (nI li), .int (nI x)] (PR G E ((lyW E y sett clA) ++ (neW E z op hg la tops dpt lst stry srt lin tokA wah fol par_ opn)))) (vp_Si (fun r => r = cvt sett F clA top v x)) 0 0 (fun _ => False) := by
  refine Met.ofW (cc := cX0_columnBehind) (maxL := 6) (ret := (some .int)) (by decide) rfl ?_
  intro p e s m args below meth c s₁ B hml hv
  obtain ⟨rfl, hP, hK, hZ⟩ := hv
  have hx := B.exec
  have hb := B.bytes
  have hr := B.returns
  have hts := atoms_spec (ws := wsX0_columnBehind) B.pre
  have hown : s.vm.findClass RX0 = some m.cls := findClass_of_methodNamed B.named
  have hlocks := B.notSynchronized
  have hin0 : ∀ w ∈ u_ws RX0 TX0 2, w ∈ wsX0_columnBehind := mem_pl [44, 45] (by rfl)
  have hin2 : ∀ w ∈ u_ws RX2 TX2 14, w ∈ wsX0_columnBehind := mem_pl [30, 31, 32, 33, 34, 35, 36, 37, 38, 39, 40, 41, 42, 43] (by rfl)
  have hS : va_S (fun _ => False) s.heap s.heap [] := va_S.rf
  have hl := lv_entry ([.ref (y 0), .ref (z 0), .int (nI li), .int (nI x)]) (n := 6) (Nat.le_of_ble_eq_true rfl)
  rw [lg_entry_eq]
  generalize (lg_sl ([.ref (y 0), .ref (z 0), .int (nI li), .int (nI x)]) ++ List.replicate (6 - (lg_sl ([.ref (y 0), .ref (z 0), .int (nI li), .int (nI x)])).length) Slot.unset).toArray = ls at hl ⊢
  have hl : lv_has ls 6 [(0, .ref (y 0)), (1, .ref (z 0)), (2, .int (nI li)), (3, .int (nI x))] := hl
  have ho := hLN.1
  refine lv_aload_n hx hb dX0_columnBehind_0 rfl (lv_at hl 1 rfl) ?_
  refine va_get (D := G) (ci := 2) (v := .ref (z 1)) (C := RX2) (T := TX2) (N := 14) hx hb hts hin2 hown hK hP 3 rfl rfl 0 (by decide) (hts (Cond.fieldLink RX0 40 "IndentRules$Nesting" "tops" "[I") (List.mem_of_getElem? (i := 1) rfl)) (fun _ h9 => h9) rfl dX0_columnBehind_1 ?_
  refine lv_iload_n hx hb dX0_columnBehind_4 rfl (lv_at hl 2 rfl) ?_
  refine k_iald (D := G) (tys := TYS E) (j := li) (f := tops) (n := 20) hx hb hK hP 4 0 rfl rfl (by omega) (by decide) dX0_columnBehind_5 ?_
  rw [htop]
  rcases (show top = 0 ∨ ∃ k, top = k + 1 from (Nat.eq_zero_or_pos top).imp id (fun q => ⟨top - 1, by omega⟩)) with rfl | ⟨k, rfl⟩
  · refine W.eq (g2 := F0 m 6 ls [.int (-9)]) rfl ?_
    refine lv_istore (lv' := [(4, .int (-9)), (0, .ref (y 0)), (1, .ref (z 0)), (2, .int (nI li)), (3, .int (nI x))]) hx hb dX0_columnBehind_6 hl (by decide) rfl (fun ls hl => ?_)
    refine lv_iload hx hb dX0_columnBehind_8 (lv_at hl 0 rfl) ?_
    refine lv_bipush (v := (-9)) hx hb dX0_columnBehind_10 (by decide) ?_
    refine lv_icmp_ne (x := (-9)) (y := (-9)) (tgt := 27) hx hb dX0_columnBehind_12 (by decide) (fun c12 => absurd c12 (by decide)) (fun c12 => ?_)
    refine lv_aload_n hx hb dX0_columnBehind_15 rfl (lv_at hl 1 rfl) ?_
    refine lv_iconst (v := (nI 0)) hx hb dX0_columnBehind_16 (by decide) ?_
    refine lv_aload_n hx hb dX0_columnBehind_17 rfl (lv_at hl 2 rfl) ?_
    refine va_get (D := G) (ci := 2) (v := .ref (z 3)) (C := RX2) (T := TX2) (N := 14) hx hb hts hin2 hown hK hP 3 rfl rfl 2 (by decide) (hts (Cond.fieldLink RX0 45 "IndentRules$Nesting" "lasts" "[I") (List.mem_of_getElem? (i := 2) rfl)) (fun _ h9 => h9) rfl dX0_columnBehind_18 ?_
    refine lv_iload_n hx hb dX0_columnBehind_21 rfl (lv_at hl 3 rfl) ?_
    refine k_iald (D := G) (tys := TYS E) (j := li) (f := lst) (n := 20) hx hb hK hP 6 0 rfl rfl (by omega) (by decide) dX0_columnBehind_22 ?_
    rw [hlst]
    refine rv_i (n := 2) (G := G) (E := E) (As := [.int (nI 0), .int (nI v)]) (rest := []) (ci := 0) (q0 := 0) ⟨hx, hb, hml, hown, hts⟩ hK hZ hS (c_X0_goingOn l G E y sett clA (nI 0) v (by first | assumption | omega)) gX0_columnBehind_X0_goingOn rfl rfl rfl (by decide +kernel) ⟨Nat.le_of_ble_eq_true rfl, Nat.le_of_ble_eq_true rfl⟩ (hP.sub (ws' := (lyW E y sett clA)) [0, 1, 2] rfl) rfl rfl hl.1 rfl rfl (Nat.le_of_ble_eq_true rfl) dX0_columnBehind_23 ⟨Nat.zero_le _, Nat.zero_le _⟩ (fun r23 p23 => ?_)
    subst p23
    exact W.iret (v := (gO sett (nI 0) v)) hx hb hr (fun tZ htZ hWZ => ⟨_, rfl, rfl, htZ⟩) (fun _ h => by cases h) dX0_columnBehind_26
  · refine W.eq (g2 := F0 m 6 ls [.int (nI k)]) rfl ?_
    have hk : k < oo := by omega
    obtain ⟨e0, e1, e3, e4, b1, b0, b4⟩ := hLN.2 k hk
    refine lv_istore (lv' := [(4, .int (nI k)), (0, .ref (y 0)), (1, .ref (z 0)), (2, .int (nI li)), (3, .int (nI x))]) hx hb dX0_columnBehind_6 hl (by decide) rfl (fun ls hl => ?_)
    refine lv_iload hx hb dX0_columnBehind_8 (lv_at hl 0 rfl) ?_
    refine lv_bipush (v := (-9)) hx hb dX0_columnBehind_10 (by decide) ?_
    refine lv_icmp_ne (x := (nI k)) (y := (-9)) (tgt := 27) hx hb dX0_columnBehind_12 (by decide) (fun c12 => ?_) (fun c12 => absurd c12 (k_nneg (by decide) (by omega)))
    refine lv_aload_n hx hb dX0_columnBehind_27 rfl (lv_at hl 2 rfl) ?_
    refine va_get (D := G) (ci := 2) (v := .ref (z 6)) (C := RX2) (T := TX2) (N := 14) hx hb hts hin2 hown hK hP 3 rfl rfl 5 (by decide) (hts (Cond.fieldLink RX0 52 "IndentRules$Nesting" "sortOf" "[I") (List.mem_of_getElem? (i := 3) rfl)) (fun _ h9 => h9) rfl dX0_columnBehind_28 ?_
    refine lv_iload hx hb dX0_columnBehind_31 (lv_at hl 0 rfl) ?_
    refine k_iald (D := G) (tys := TYS E) (j := k) (f := srt) (n := 180) hx hb hK hP 8 0 rfl rfl (by omega) (by decide) dX0_columnBehind_33 ?_
    rw [e0]
    refine lv_iconst (v := (nI 4)) hx hb dX0_columnBehind_34 (by decide) ?_
    refine n_icmp_ne (a := (F 0 k)) (b := 4) (tgt := 47) hx hb (by omega) (by decide) dX0_columnBehind_35 (by decide) (fun c35 => ?_) (fun c35 => ?_)
    · refine lv_aload_n hx hb dX0_columnBehind_47 rfl (lv_at hl 1 rfl) ?_
      refine lv_aload_n hx hb dX0_columnBehind_48 rfl (lv_at hl 2 rfl) ?_
      refine lv_iload hx hb dX0_columnBehind_49 (lv_at hl 0 rfl) ?_
      refine rv_i (n := 2) (G := G) (E := E) (As := [.ref (z 0), .int (nI k)]) (rest := []) (ci := 0) (q0 := 0) ⟨hx, hb, hml, hown, hts⟩ hK hZ hS (c_X0_baseOf l G E y sett clA z op hg la tops dpt lst stry srt lin tokA wah fol par_ opn k F oo (by first | assumption | omega) (by first | assumption | omega)) gX0_columnBehind_X0_baseOf rfl rfl rfl (by decide +kernel) ⟨Nat.le_of_ble_eq_true rfl, Nat.le_of_ble_eq_true rfl⟩ hP rfl rfl hl.1 rfl rfl (Nat.le_of_ble_eq_true rfl) dX0_columnBehind_51 ⟨Nat.zero_le _, Nat.zero_le _⟩ (fun r51 p51 => ?_)
      subst p51
      refine lv_istore (lv' := [(5, .int (clA (F 1 k))), (4, .int (nI k)), (0, .ref (y 0)), (1, .ref (z 0)), (2, .int (nI li)), (3, .int (nI x))]) hx hb dX0_columnBehind_54 hl (by decide) rfl (fun ls hl => ?_)
      refine lv_iload_n hx hb dX0_columnBehind_56 rfl (lv_at hl 5 rfl) ?_
      refine lv_iconst (v := (nI 3)) hx hb dX0_columnBehind_57 (by decide) ?_
      refine n_icmp_ne (a := x) (b := 3) (tgt := 86) hx hb (by omega) (by decide) dX0_columnBehind_58 (by decide) (fun c58 => ?_) (fun c58 => ?_)
      · refine lv_aload_n hx hb dX0_columnBehind_86 rfl (lv_at hl 2 rfl) ?_
        refine lv_iload hx hb dX0_columnBehind_87 (lv_at hl 0 rfl) ?_
        refine lv_aload_n hx hb dX0_columnBehind_89 rfl (lv_at hl 2 rfl) ?_
        refine va_get (D := G) (ci := 0) (v := .ref (y 1)) (C := RX0) (T := TX0) (N := 2) hx hb hts hin0 hown hK hP 0 rfl rfl 0 (by decide) (hts (Cond.fieldLink RX0 9 "IndentRules$Layout" "settings" "[I") (List.mem_of_getElem? (i := 4) rfl)) (fun _ h9 => h9) rfl dX0_columnBehind_90 ?_
        refine lv_iconst (v := (nI 0)) hx hb dX0_columnBehind_93 (by decide) ?_
        refine k_iald (D := G) (tys := TYS E) (j := 0) (f := sett) (n := 4) hx hb hK hP 1 0 rfl rfl (by decide) (by decide) dX0_columnBehind_94 ?_
        refine lv_iadd hx hb dX0_columnBehind_95 ?_
        refine lv_topi (fun v95 ev95 => ?_)
        refine lv_aload_n hx hb dX0_columnBehind_96 rfl (lv_at hl 3 rfl) ?_
        refine va_get (D := G) (ci := 2) (v := .ref (z 3)) (C := RX2) (T := TX2) (N := 14) hx hb hts hin2 hown hK hP 3 rfl rfl 2 (by decide) (hts (Cond.fieldLink RX0 45 "IndentRules$Nesting" "lasts" "[I") (List.mem_of_getElem? (i := 2) rfl)) (fun _ h9 => h9) rfl dX0_columnBehind_97 ?_
        refine lv_iload_n hx hb dX0_columnBehind_100 rfl (lv_at hl 4 rfl) ?_
        refine k_iald (D := G) (tys := TYS E) (j := li) (f := lst) (n := 20) hx hb hK hP 6 0 rfl rfl (by omega) (by decide) dX0_columnBehind_101 ?_
        rw [hlst]
        refine rv_i (n := 2) (G := G) (E := E) (As := [.int v95, .int (nI v)]) (rest := []) (ci := 0) (q0 := 0) ⟨hx, hb, hml, hown, hts⟩ hK hZ hS (c_X0_goingOn l G E y sett clA v95 v (by first | assumption | omega)) gX0_columnBehind_X0_goingOn rfl rfl rfl (by decide +kernel) ⟨Nat.le_of_ble_eq_true rfl, Nat.le_of_ble_eq_true rfl⟩ (hP.sub (ws' := (lyW E y sett clA)) [0, 1, 2] rfl) rfl rfl hl.1 rfl rfl (Nat.le_of_ble_eq_true rfl) dX0_columnBehind_102 ⟨Nat.zero_le _, Nat.zero_le _⟩ (fun r102 p102 => ?_)
        subst p102
        exact W.iret (v := (gO sett v95 v)) hx hb hr (fun tZ htZ hWZ => ⟨_, rfl, by rw [cvt_s]; unfold cvB; rw [if_neg c35, if_neg c58, ev95], htZ⟩) (fun _ h => by cases h) dX0_columnBehind_105
      · refine lv_aload_n hx hb dX0_columnBehind_61 rfl (lv_at hl 2 rfl) ?_
        refine va_get (D := G) (ci := 0) (v := .ref (y 1)) (C := RX0) (T := TX0) (N := 2) hx hb hts hin0 hown hK hP 0 rfl rfl 0 (by decide) (hts (Cond.fieldLink RX0 9 "IndentRules$Layout" "settings" "[I") (List.mem_of_getElem? (i := 4) rfl)) (fun _ h9 => h9) rfl dX0_columnBehind_62 ?_
        refine lv_iconst (v := (nI 3)) hx hb dX0_columnBehind_65 (by decide) ?_
        refine k_iald (D := G) (tys := TYS E) (j := 3) (f := sett) (n := 4) hx hb hK hP 1 0 rfl rfl (by decide) (by decide) dX0_columnBehind_66 ?_
        refine lv_iconst (v := (nI 1)) hx hb dX0_columnBehind_67 (by decide) ?_
        refine lv_icmp_ne (x := (sett 3)) (y := (nI 1)) (tgt := 83) hx hb dX0_columnBehind_68 (by decide) (fun c68 => ?_) (fun c68 => ?_)
        · refine lv_iload hx hb dX0_columnBehind_83 (lv_at hl 0 rfl) ?_
          exact W.iret (v := (clA (F 1 k))) hx hb hr (fun tZ htZ hWZ => ⟨_, rfl, by rw [cvt_s]; unfold cvB; rw [if_neg c35, if_pos c58, if_neg c68], htZ⟩) (fun _ h => by cases h) dX0_columnBehind_85
        · refine lv_iload hx hb dX0_columnBehind_71 (lv_at hl 0 rfl) ?_
          refine lv_aload_n hx hb dX0_columnBehind_73 rfl (lv_at hl 2 rfl) ?_
          refine va_get (D := G) (ci := 0) (v := .ref (y 1)) (C := RX0) (T := TX0) (N := 2) hx hb hts hin0 hown hK hP 0 rfl rfl 0 (by decide) (hts (Cond.fieldLink RX0 9 "IndentRules$Layout" "settings" "[I") (List.mem_of_getElem? (i := 4) rfl)) (fun _ h9 => h9) rfl dX0_columnBehind_74 ?_
          refine lv_iconst (v := (nI 0)) hx hb dX0_columnBehind_77 (by decide) ?_
          refine k_iald (D := G) (tys := TYS E) (j := 0) (f := sett) (n := 4) hx hb hK hP 1 0 rfl rfl (by decide) (by decide) dX0_columnBehind_78 ?_
          refine lv_iadd hx hb dX0_columnBehind_79 ?_
          refine lv_topi (fun v79 ev79 => ?_)
          refine lv_goto (tgt := 85) hx hb dX0_columnBehind_80 (by decide) ?_
          exact W.iret (v := v79) hx hb hr (fun tZ htZ hWZ => ⟨_, rfl, by rw [cvt_s]; unfold cvB; rw [if_neg c35, if_pos c58, if_pos c68]; exact ev79, htZ⟩) (fun _ h => by cases h) dX0_columnBehind_85
    · refine lv_aload_n hx hb dX0_columnBehind_38 rfl (lv_at hl 1 rfl) ?_
      refine lv_aload_n hx hb dX0_columnBehind_39 rfl (lv_at hl 2 rfl) ?_
      refine lv_iload hx hb dX0_columnBehind_40 (lv_at hl 0 rfl) ?_
      refine lv_iload_n hx hb dX0_columnBehind_42 rfl (lv_at hl 4 rfl) ?_
      refine rv_i (n := 3) (G := G) (E := E) (As := [.ref (z 0), .int (nI k), .int (nI x)]) (rest := []) (ci := 0) (q0 := 0) ⟨hx, hb, hml, hown, hts⟩ hK hZ hS (c_X0_columnInBracket l G E y sett clA z op hg la tops dpt lst stry srt lin tokA wah fol par_ opn k x F oo (by first | assumption | omega) (by first | assumption | omega) (by first | assumption | omega) (by first | assumption | omega)) gX0_columnBehind_X0_columnInBracket rfl rfl rfl (by decide +kernel) ⟨Nat.le_of_ble_eq_true rfl, Nat.le_of_ble_eq_true rfl⟩ hP rfl rfl hl.1 rfl rfl (Nat.le_of_ble_eq_true rfl) dX0_columnBehind_43 ⟨Nat.zero_le _, Nat.zero_le _⟩ (fun r43 p43 => ?_)
      exact W.iret (v := r43) hx hb hr (fun tZ htZ hWZ => ⟨_, rfl, by rw [cvt_s]; unfold cvB; rw [if_pos c35]; exact p43, htZ⟩) (fun _ h => by cases h) dX0_columnBehind_46
