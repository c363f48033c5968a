set_option maxHeartbeats 4000000 in
set_option maxRecDepth 100000 in
theorem c_X6_within (l : Launch) (G : va_G) (E : cEnv) (v x y : Int32) : Met l yX6_within wsX6_within ({ frames := 0, cells := 0, slots := 0, locals := 0 }) (va_Pc [.int v, .int x, .int y] (PR G E ([]))) (vp_Si (fun r => (x ≤ v ∧ v ≤ y) ∧ r = nI 1 ∨ ¬ (x ≤ v ∧ v ≤ y) ∧ r = nI 0)) 0 0 (fun _ => False) := by
  refine Met.ofW (cc := cX6_within) (maxL := 3) (ret := (some .boolean)) (by decide) rfl ?_
  intro p e s m args below meth c s₁ B hml hv
  obtain ⟨rfl, hP, hK, hZ⟩ := hv
  have hx := B.exec
  have hb := B.bytes
  have hr := B.returns
  have hts := atoms_spec (ws := wsX6_within) B.pre
  have hown : s.vm.findClass RX6 = some m.cls := findClass_of_methodNamed B.named
  have hlocks := B.notSynchronized
  have hS : va_S (fun _ => False) s.heap s.heap [] := va_S.rf
  have hl := lv_entry ([.int v, .int x, .int y]) (n := 3) (Nat.le_of_ble_eq_true rfl)
  rw [lg_entry_eq]
  generalize (lg_sl ([.int v, .int x, .int y]) ++ List.replicate (3 - (lg_sl ([.int v, .int x, .int y])).length) Slot.unset).toArray = ls at hl ⊢
  have hl : lv_has ls 3 [(0, .int v), (1, .int x), (2, .int y)] := hl
  refine lv_iload_n hx hb dX6_within_0 rfl (lv_at hl 0 rfl) ?_
  refine lv_iload_n hx hb dX6_within_1 rfl (lv_at hl 1 rfl) ?_
  refine lv_icmp_lt (x := v) (y := x) (tgt := 14) hx hb dX6_within_2 (by decide) (fun c2 => ?_) (fun c2 => ?_)
  · refine lv_iconst (v := (nI 0)) hx hb dX6_within_14 (by decide) ?_
    exact W.zret (v := (nI 0)) hx hb hr (by first | rfl | decide | assumption) (fun tZ htZ hWZ => ⟨_, rfl, Or.inr ⟨by simp only [i_lt, i_le] at c2 ⊢; omega, rfl⟩, htZ⟩) (fun _ h => by cases h) dX6_within_15
  · refine lv_iload_n hx hb dX6_within_5 rfl (lv_at hl 0 rfl) ?_
    refine lv_iload_n hx hb dX6_within_6 rfl (lv_at hl 2 rfl) ?_
    refine lv_icmp_gt (x := v) (y := y) (tgt := 14) hx hb dX6_within_7 (by decide) (fun c7 => ?_) (fun c7 => ?_)
    · refine lv_iconst (v := (nI 0)) hx hb dX6_within_14 (by decide) ?_
      exact W.zret (v := (nI 0)) hx hb hr (by first | rfl | decide | assumption) (fun tZ htZ hWZ => ⟨_, rfl, Or.inr ⟨by simp only [i_lt, i_le] at c2 c7 ⊢; omega, rfl⟩, htZ⟩) (fun _ h => by cases h) dX6_within_15
    · refine lv_iconst (v := (nI 1)) hx hb dX6_within_10 (by decide) ?_
      refine lv_goto (tgt := 15) hx hb dX6_within_11 (by decide) ?_
      exact W.zret (v := (nI 1)) hx hb hr (by first | rfl | decide | assumption) (fun tZ htZ hWZ => ⟨_, rfl, Or.inl ⟨by simp only [i_lt, i_le] at c2 c7 ⊢; omega, rfl⟩, htZ⟩) (fun _ h => by cases h) dX6_within_15

set_option maxHeartbeats 4000000 in
set_option maxRecDepth 100000 in
theorem c_X6_lengthOf (l : Launch) (G : va_G) (E : cEnv) (t : Nat) (ht : t < 2 ^ 31) : Met l yX6_lengthOf wsX6_lengthOf ({ frames := 0, cells := 0, slots := 0, locals := 0 }) (va_Pc [.int (nI t)] (PR G E ([]))) (vp_Si (fun r => r = nI (len t))) 0 0 (fun _ => False) := by
  refine Met.ofW (cc := cX6_lengthOf) (maxL := 3) (ret := (some .int)) (by decide) rfl ?_
  intro p e s m args below meth c s₁ B hml hv
  obtain ⟨rfl, hP, hK, hZ⟩ := hv
  have hx := B.exec
  have hb := B.bytes
  have hr := B.returns
  have hts := atoms_spec (ws := wsX6_lengthOf) B.pre
  have hown : s.vm.findClass RX6 = some m.cls := findClass_of_methodNamed B.named
  have hlocks := B.notSynchronized
  have hS : va_S (fun _ => False) s.heap s.heap [] := va_S.rf
  have hl := lv_entry ([.int (nI t)]) (n := 3) (Nat.le_of_ble_eq_true rfl)
  rw [lg_entry_eq]
  generalize (lg_sl ([.int (nI t)]) ++ List.replicate (3 - (lg_sl ([.int (nI t)])).length) Slot.unset).toArray = ls at hl ⊢
  have hl : lv_has ls 3 [(0, .int (nI t))] := hl
  refine lv_iconst (v := (nI 0)) hx hb dX6_lengthOf_0 (by decide) ?_
  refine lv_istore_n (lv' := [(1, .int (nI 0)), (0, .int (nI t))]) hx hb dX6_lengthOf_1 rfl hl (by decide) rfl (fun ls hl => ?_)
  refine lv_iload_n hx hb dX6_lengthOf_2 rfl (lv_at hl 1 rfl) ?_
  refine lv_istore_n (lv' := [(2, .int (nI t)), (1, .int (nI 0)), (0, .int (nI t))]) hx hb dX6_lengthOf_3 rfl hl (by decide) rfl (fun ls hl => ?_)
  have lp4 : ∀ (kk : Nat) (n : Nat) (lf : Nat), (n + len lf = len t) → (lf < 2 ^ 31) → lf < kk → ∀ ls : Array Slot, lv_has ls 3 [(2, .int (nI lf)), (1, .int (nI n)), (0, .int (nI t))] → W p l e (headSpec wsX6_lengthOf ({ frames := 0, cells := 0, slots := 0, locals := 0 } : Room)).room s m ([.int (nI t)] : List Value).toArray below meth c s.heap [] 0 0 (MQ below (vp_Si (fun r => r = nI (len t))) ([.int (nI t)] : List Value).toArray s 0 0 (fun _ => False)) (F0 m 4 ls []) := by
    intro kk
    induction kk with
    | zero => intro n lf  hn hf hkk; exact absurd hkk (Nat.not_lt_zero _)
    | succ kk ih4 =>
      intro n lf hn hf hkk ls hl
      refine lv_iload_n hx hb dX6_lengthOf_4 rfl (lv_at hl 0 rfl) ?_
      refine n_if_le (a := lf) (tgt := 19) hx hb (by omega) dX6_lengthOf_5 (by decide) (fun c5 => ?_) (fun c5 => ?_)
      · refine lv_iload_n hx hb dX6_lengthOf_19 rfl (lv_at hl 1 rfl) ?_
        exact W.iret (v := (nI n)) hx hb hr (fun tZ htZ hWZ => ⟨_, rfl, by rw [c5, len_0] at hn; rw [← hn]; rfl, htZ⟩) (fun _ h => by cases h) dX6_lengthOf_20
      · refine lv_iinc (v := (nI (n + 1))) (lv' := [(1, .int (nI (n + 1))), (2, .int (nI lf)), (0, .int (nI t))]) hx hb dX6_lengthOf_8 hl (k := 1) rfl (k_inc n) (by decide) rfl (fun ls hl => ?_)
        refine lv_iload_n hx hb dX6_lengthOf_11 rfl (lv_at hl 1 rfl) ?_
        refine lv_bipush (v := (nI 10)) hx hb dX6_lengthOf_12 (by decide) ?_
        refine k_idiv (a := lf) (b := 10) hx hb (by omega) (by decide) (by decide) dX6_lengthOf_14 ?_
        refine lv_istore_n (lv' := [(2, .int (nI (lf / 10))), (1, .int (nI (n + 1))), (0, .int (nI t))]) hx hb dX6_lengthOf_15 rfl hl (by decide) rfl (fun ls hl => ?_)
        refine lv_goto (tgt := 4) hx hb dX6_lengthOf_16 (by decide) ?_
        exact ih4 (n + 1) (lf / 10) (by rw [len_s c5] at hn; omega) (by omega) (by omega) ls (lv_sub hl [0, 1, 2] rfl)
  exact lp4 (t + 1) 0 t (by simp) ht (Nat.lt_succ_self _) ls (lv_sub hl [0, 1, 2] rfl)

set_option maxHeartbeats 4000000 in
set_option maxRecDepth 100000 in
theorem c_X6_areTokens (l : Launch) (G : va_G) (E : cEnv) (x : Int32) : Met l yX6_areTokens wsX6_areTokens ({ frames := 1, cells := 0, slots := 0, locals := 22 }) (va_Pc [.int x] (PR G E ([]))) (vp_Si (fun r => okT x ∧ r = nI 1 ∨ ¬ okT x ∧ r = nI 0)) 0 0 (fun _ => False) := by
  refine Met.ofW (cc := cX6_areTokens) (maxL := 2) (ret := (some .boolean)) (by decide) rfl ?_
  intro p e s m args below meth c s₁ B hml hv
  obtain ⟨rfl, hP, hK, hZ⟩ := hv
  have hx := B.exec
  have hb := B.bytes
  have hr := B.returns
  have hts := atoms_spec (ws := wsX6_areTokens) B.pre
  have hown : s.vm.findClass RX6 = some m.cls := findClass_of_methodNamed B.named
  have hlocks := B.notSynchronized
  have hS : va_S (fun _ => False) s.heap s.heap [] := va_S.rf
  have hl := lv_entry ([.int x]) (n := 2) (Nat.le_of_ble_eq_true rfl)
  rw [lg_entry_eq]
  generalize (lg_sl ([.int x]) ++ List.replicate (2 - (lg_sl ([.int x])).length) Slot.unset).toArray = ls at hl ⊢
  have hl : lv_has ls 2 [(0, .int x)] := hl
  rcases Int32.lt_or_le x 0 with hneg | hneg
  · have hno : ¬ okT x := fun ⟨t, h1, _, h3⟩ => by rw [h3] at hneg; exact nI_pos (by omega) hneg
    refine lv_iload_n hx hb dX6_areTokens_0 rfl (lv_at hl 0 rfl) ?_
    refine lv_istore_n (lv' := [(1, .int x), (0, .int x)]) hx hb dX6_areTokens_1 rfl hl (by decide) rfl (fun ls hl => ?_)
    refine lv_iload_n hx hb dX6_areTokens_2 rfl (lv_at hl 0 rfl) ?_
    refine lv_if_le (x := x) (tgt := 23) hx hb dX6_areTokens_3 (by decide) (fun c3 => ?_) (fun c3 => absurd (Int32.le_of_lt hneg) c3)
    refine lv_iload_n hx hb dX6_areTokens_23 rfl (lv_at hl 1 rfl) ?_
    refine lv_if_lt (x := x) (tgt := 40) hx hb dX6_areTokens_24 (by decide) (fun c24 => ?_) (fun c24 => absurd hneg c24)
    refine lv_iconst (v := (nI 0)) hx hb dX6_areTokens_40 (by decide) ?_
    exact W.zret (v := (nI 0)) hx hb hr (by first | rfl | decide | assumption) (fun tZ htZ hWZ => ⟨_, rfl, Or.inr ⟨hno, rfl⟩, htZ⟩) (fun _ h => by cases h) dX6_areTokens_41
  · obtain ⟨t, ht, rfl⟩ := nI_of (x := x) (fun q => by have a := i_le.mp hneg; have b := i_lt.mp q; omega)
    refine lv_iload_n hx hb dX6_areTokens_0 rfl (lv_at hl 0 rfl) ?_
    refine lv_istore_n (lv' := [(1, .int (nI t)), (0, .int (nI t))]) hx hb dX6_areTokens_1 rfl hl (by decide) rfl (fun ls hl => ?_)
    have lp2 : ∀ (kk : Nat) (lf : Nat), (nzb lf = nzb t) → (lf < 2 ^ 31) → lf < kk → ∀ ls : Array Slot, lv_has ls 2 [(1, .int (nI lf)), (0, .int (nI t))] → W p l e (headSpec wsX6_areTokens ({ frames := 1, cells := 0, slots := 0, locals := 22 } : Room)).room s m ([.int (nI t)] : List Value).toArray below meth c s.heap [] 0 0 (MQ below (vp_Si (fun r => okT (nI t) ∧ r = nI 1 ∨ ¬ okT (nI t) ∧ r = nI 0)) ([.int (nI t)] : List Value).toArray s 0 0 (fun _ => False)) (F0 m 2 ls []) := by
      intro kk
      induction kk with
      | zero => intro lf  hz hf hkk; exact absurd hkk (Nat.not_lt_zero _)
      | succ kk ih2 =>
        intro lf hz hf hkk ls hl
        refine lv_iload_n hx hb dX6_areTokens_2 rfl (lv_at hl 0 rfl) ?_
        refine n_if_le (a := lf) (tgt := 23) hx hb (by omega) dX6_areTokens_3 (by decide) (fun c3 => ?_) (fun c3 => ?_)
        · refine lv_iload_n hx hb dX6_areTokens_23 rfl (lv_at hl 1 rfl) ?_
          refine n_if_lt (a := t) (tgt := 40) hx hb (by omega) dX6_areTokens_24 (by decide) ?_
          refine lv_iload_n hx hb dX6_areTokens_27 rfl (lv_at hl 1 rfl) ?_
          refine rs_i (n := 1) (G := G) (E := E) (As := [.int (nI t)]) (rest := []) ⟨hx, hb, hml, hown, hts⟩ hK hZ hS (c_X6_lengthOf l G E t (by first | assumption | omega)) gX6_areTokens_X6_lengthOf rfl rfl rfl (by decide +kernel) ⟨Nat.le_of_ble_eq_true rfl, Nat.le_of_ble_eq_true rfl⟩ hP hl.1 rfl rfl (Nat.le_of_ble_eq_true rfl) dX6_areTokens_28 ⟨Nat.zero_le _, Nat.zero_le _⟩ (fun r28 p28 => ?_)
          subst p28
          refine lv_bipush (v := (nI 9)) hx hb dX6_areTokens_31 (by decide) ?_
          refine n_icmp_gt (a := (len t)) (b := 9) (tgt := 40) hx hb (by have := (len_lt 10 t).mp (by omega); omega) (by decide) dX6_areTokens_33 (by decide) (fun c33 => ?_) (fun c33 => ?_)
          · refine lv_iconst (v := (nI 0)) hx hb dX6_areTokens_40 (by decide) ?_
            exact W.zret (v := (nI 0)) hx hb hr (by first | rfl | decide | assumption) (fun tZ htZ hWZ => ⟨_, rfl, Or.inr ⟨fun ⟨t2, h1, _, h3⟩ => by have q := (nI_eq ht (by omega)).mp h3; subst q; have := (len_lt 9 t).mp h1; omega, rfl⟩, htZ⟩) (fun _ h => by cases h) dX6_areTokens_41
          · refine lv_iconst (v := (nI 1)) hx hb dX6_areTokens_36 (by decide) ?_
            refine lv_goto (tgt := 41) hx hb dX6_areTokens_37 (by decide) ?_
            exact W.zret (v := (nI 1)) hx hb hr (by first | rfl | decide | assumption) (fun tZ htZ hWZ => ⟨_, rfl, Or.inl ⟨⟨t, (len_lt 9 t).mpr (by omega), by rw [← hz, c3]; exact nzb_0, rfl⟩, rfl⟩, htZ⟩) (fun _ h => by cases h) dX6_areTokens_41
        · refine lv_iload_n hx hb dX6_areTokens_6 rfl (lv_at hl 0 rfl) ?_
          refine lv_bipush (v := (nI 10)) hx hb dX6_areTokens_7 (by decide) ?_
          refine k_irem (a := lf) (b := 10) hx hb (by omega) (by decide) (by decide) dX6_areTokens_9 ?_
          refine n_if_ne (a := (lf % 10)) (tgt := 15) hx hb (by omega) dX6_areTokens_10 (by decide) (fun c10 => ?_) (fun c10 => ?_)
          · refine lv_iload_n hx hb dX6_areTokens_15 rfl (lv_at hl 0 rfl) ?_
            refine lv_bipush (v := (nI 10)) hx hb dX6_areTokens_16 (by decide) ?_
            refine k_idiv (a := lf) (b := 10) hx hb (by omega) (by decide) (by decide) dX6_areTokens_18 ?_
            refine lv_istore_n (lv' := [(1, .int (nI (lf / 10))), (0, .int (nI t))]) hx hb dX6_areTokens_19 rfl hl (by decide) rfl (fun ls hl => ?_)
            refine lv_goto (tgt := 2) hx hb dX6_areTokens_20 (by decide) ?_
            exact ih2 (lf / 10) (by rw [← hz, nzb_s c3, show (lf % 10 != 0) = true from bne_iff_ne.mpr (by omega)]; rfl) (by omega) (by omega) ls (lv_sub hl [0, 1] rfl)
          · refine lv_iconst (v := (nI 0)) hx hb dX6_areTokens_13 (by decide) ?_
            exact W.zret (v := (nI 0)) hx hb hr (by first | rfl | decide | assumption) (fun tZ htZ hWZ => ⟨_, rfl, Or.inr ⟨fun ⟨t2, h1, h2, h3⟩ => by have q := (nI_eq ht (by omega)).mp h3; subst q; rw [← hz, nzb_s c3, c10] at h2; simp at h2, rfl⟩, htZ⟩) (fun _ h => by cases h) dX6_areTokens_14
    exact lp2 (t + 1) t rfl ht (Nat.lt_succ_self _) ls (lv_sub hl [0, 1] rfl)

set_option maxHeartbeats 4000000 in
set_option maxRecDepth 100000 in
theorem c_X6_tokenAt (l : Launch) (G : va_G) (E : cEnv) (t k : Nat) (ht : t < 2 ^ 31) (hk : k < len t) : Met l yX6_tokenAt wsX6_tokenAt ({ frames := 1, cells := 0, slots := 0, locals := 22 }) (va_Pc [.int (nI t), .int (nI k)] (PR G E ([]))) (vp_Si (fun r => r = nI (tok t k))) 0 0 (fun _ => False) := by
  refine Met.ofW (cc := cX6_tokenAt) (maxL := 4) (ret := (some .int)) (by decide) rfl ?_
  intro p e s m args below meth c s₁ B hml hv
  obtain ⟨rfl, hP, hK, hZ⟩ := hv
  have hx := B.exec
  have hb := B.bytes
  have hr := B.returns
  have hts := atoms_spec (ws := wsX6_tokenAt) B.pre
  have hown : s.vm.findClass RX6 = some m.cls := findClass_of_methodNamed B.named
  have hlocks := B.notSynchronized
  have hS : va_S (fun _ => False) s.heap s.heap [] := va_S.rf
  have hl := lv_entry ([.int (nI t), .int (nI k)]) (n := 4) (Nat.le_of_ble_eq_true rfl)
  rw [lg_entry_eq]
  generalize (lg_sl ([.int (nI t), .int (nI k)]) ++ List.replicate (4 - (lg_sl ([.int (nI t), .int (nI k)])).length) Slot.unset).toArray = ls at hl ⊢
  have hl : lv_has ls 4 [(0, .int (nI t)), (1, .int (nI k))] := hl
  have hlb := (len_lt 10 t).mp (by omega)
  refine lv_iload_n hx hb dX6_tokenAt_0 rfl (lv_at hl 0 rfl) ?_
  refine lv_istore_n (lv' := [(2, .int (nI t)), (0, .int (nI t)), (1, .int (nI k))]) hx hb dX6_tokenAt_1 rfl hl (by decide) rfl (fun ls hl => ?_)
  refine lv_iload_n hx hb dX6_tokenAt_2 rfl (lv_at hl 1 rfl) ?_
  refine rs_i (n := 1) (G := G) (E := E) (As := [.int (nI t)]) (rest := []) ⟨hx, hb, hml, hown, hts⟩ hK hZ hS (c_X6_lengthOf l G E t (by first | assumption | omega)) gX6_tokenAt_X6_lengthOf rfl rfl rfl (by decide +kernel) ⟨Nat.le_of_ble_eq_true rfl, Nat.le_of_ble_eq_true rfl⟩ hP hl.1 rfl rfl (Nat.le_of_ble_eq_true rfl) dX6_tokenAt_3 ⟨Nat.zero_le _, Nat.zero_le _⟩ (fun r3 p3 => ?_)
  subst p3
  refine lv_iconst (v := (nI 1)) hx hb dX6_tokenAt_6 (by decide) ?_
  refine k_isub (a := (len t)) (b := 1) hx hb (by omega) dX6_tokenAt_7 ?_
  refine lv_istore_n (lv' := [(3, .int (nI ((len t) - 1))), (2, .int (nI t)), (0, .int (nI t)), (1, .int (nI k))]) hx hb dX6_tokenAt_8 rfl hl (by decide) rfl (fun ls hl => ?_)
  have lp9 : ∀ (kk : Nat) (lf : Nat) (x : Nat), (lf = t / 10 ^ (len t - 1 - x)) → (x ≤ len t - 1) → (k ≤ x) → (lf < 2 ^ 31) → x < kk → ∀ ls : Array Slot, lv_has ls 4 [(3, .int (nI x)), (2, .int (nI lf)), (0, .int (nI t)), (1, .int (nI k))] → W p l e (headSpec wsX6_tokenAt ({ frames := 1, cells := 0, slots := 0, locals := 22 } : Room)).room s m ([.int (nI t), .int (nI k)] : List Value).toArray below meth c s.heap [] 0 0 (MQ below (vp_Si (fun r => r = nI (tok t k))) ([.int (nI t), .int (nI k)] : List Value).toArray s 0 0 (fun _ => False)) (F0 m 9 ls []) := by
    intro kk
    induction kk with
    | zero => intro lf x  hlf hx1 hx2 hf hkk; exact absurd hkk (Nat.not_lt_zero _)
    | succ kk ih9 =>
      intro lf x hlf hx1 hx2 hf hkk ls hl
      refine lv_iload_n hx hb dX6_tokenAt_9 rfl (lv_at hl 0 rfl) ?_
      refine lv_iload_n hx hb dX6_tokenAt_10 rfl (lv_at hl 3 rfl) ?_
      refine n_icmp_le (a := x) (b := k) (tgt := 25) hx hb (by omega) (by omega) dX6_tokenAt_11 (by decide) (fun c11 => ?_) (fun c11 => ?_)
      · refine lv_iload_n hx hb dX6_tokenAt_25 rfl (lv_at hl 1 rfl) ?_
        refine lv_bipush (v := (nI 10)) hx hb dX6_tokenAt_26 (by decide) ?_
        refine k_irem (a := lf) (b := 10) hx hb (by omega) (by decide) (by decide) dX6_tokenAt_28 ?_
        exact W.iret (v := (nI (lf % 10))) hx hb hr (fun tZ htZ hWZ => ⟨_, rfl, by rw [hlf, show x = k by omega]; rfl, htZ⟩) (fun _ h => by cases h) dX6_tokenAt_29
      · refine lv_iload_n hx hb dX6_tokenAt_14 rfl (lv_at hl 1 rfl) ?_
        refine lv_bipush (v := (nI 10)) hx hb dX6_tokenAt_15 (by decide) ?_
        refine k_idiv (a := lf) (b := 10) hx hb (by omega) (by decide) (by decide) dX6_tokenAt_17 ?_
        refine lv_istore_n (lv' := [(2, .int (nI (lf / 10))), (3, .int (nI x)), (0, .int (nI t)), (1, .int (nI k))]) hx hb dX6_tokenAt_18 rfl hl (by decide) rfl (fun ls hl => ?_)
        obtain ⟨y, rfl⟩ : ∃ y, x = y + 1 := ⟨x - 1, by omega⟩
        refine lv_iinc (v := (nI y)) (lv' := [(3, .int (nI y)), (2, .int (nI (lf / 10))), (0, .int (nI t)), (1, .int (nI k))]) hx hb dX6_tokenAt_19 hl (k := 1) rfl (k_dec y) (by decide) rfl (fun ls hl => ?_)
        refine lv_goto (tgt := 9) hx hb dX6_tokenAt_22 (by decide) ?_
        exact ih9 (lf / 10) y (by rw [hlf, Nat.div_div_eq_div_mul, ← Nat.pow_succ]; congr 2; omega) (by omega) (by omega) (by omega) (by omega) ls (lv_sub hl [0, 1, 2, 3] rfl)
  exact lp9 (((len t) - 1) + 1) t ((len t) - 1) (by simp) (Nat.le_refl _) (by omega) ht (Nat.lt_succ_self _) ls (lv_sub hl [0, 1, 2, 3] rfl)

set_option maxHeartbeats 4000000 in
set_option maxRecDepth 100000 in
theorem c_X6_widthOf (l : Launch) (G : va_G) (E : cEnv) (k : Nat) (hk : k < 10) : Met l yX6_widthOf wsX6_widthOf ({ frames := 0, cells := 0, slots := 0, locals := 0 }) (va_Pc [.int (nI k)] (PR G E ([]))) (vp_Si (fun r => r = nI (wd1 k))) 0 0 (fun _ => False) := by
  refine Met.ofW (cc := cX6_widthOf) (maxL := 1) (ret := (some .int)) (by decide) rfl ?_
  intro p e s m args below meth c s₁ B hml hv
  obtain ⟨rfl, hP, hK, hZ⟩ := hv
  have hx := B.exec
  have hb := B.bytes
  have hr := B.returns
  have hts := atoms_spec (ws := wsX6_widthOf) B.pre
  have hown : s.vm.findClass RX6 = some m.cls := findClass_of_methodNamed B.named
  have hlocks := B.notSynchronized
  have hS : va_S (fun _ => False) s.heap s.heap [] := va_S.rf
  have hl := lv_entry ([.int (nI k)]) (n := 1) (Nat.le_of_ble_eq_true rfl)
  rw [lg_entry_eq]
  generalize (lg_sl ([.int (nI k)]) ++ List.replicate (1 - (lg_sl ([.int (nI k)])).length) Slot.unset).toArray = ls at hl ⊢
  have hl : lv_has ls 1 [(0, .int (nI k))] := hl
  refine lv_iload_n hx hb dX6_widthOf_0 rfl (lv_at hl 0 rfl) ?_
  refine lv_iconst (v := (nI 1)) hx hb dX6_widthOf_1 (by decide) ?_
  refine n_icmp_ne (a := k) (b := 1) (tgt := 9) hx hb (by omega) (by decide) dX6_widthOf_2 (by decide) (fun c2 => ?_) (fun c2 => ?_)
  · refine lv_iload_n hx hb dX6_widthOf_9 rfl (lv_at hl 0 rfl) ?_
    refine lv_bipush (v := (nI 7)) hx hb dX6_widthOf_10 (by decide) ?_
    refine n_icmp_ne (a := k) (b := 7) (tgt := 19) hx hb (by omega) (by decide) dX6_widthOf_12 (by decide) (fun c12 => ?_) (fun c12 => ?_)
    · refine lv_iload_n hx hb dX6_widthOf_19 rfl (lv_at hl 0 rfl) ?_
      refine lv_bipush (v := (nI 9)) hx hb dX6_widthOf_20 (by decide) ?_
      refine n_icmp_ne (a := k) (b := 9) (tgt := 29) hx hb (by omega) (by decide) dX6_widthOf_22 (by decide) (fun c22 => ?_) (fun c22 => ?_)
      · refine lv_iconst (v := (nI 1)) hx hb dX6_widthOf_29 (by decide) ?_
        exact W.iret (v := (nI 1)) hx hb hr (fun tZ htZ hWZ => ⟨_, rfl, by unfold wd1; simp [c2, c12, c22], htZ⟩) (fun _ h => by cases h) dX6_widthOf_30
      · refine lv_iconst (v := (nI 4)) hx hb dX6_widthOf_25 (by decide) ?_
        refine lv_goto (tgt := 30) hx hb dX6_widthOf_26 (by decide) ?_
        exact W.iret (v := (nI 4)) hx hb hr (fun tZ htZ hWZ => ⟨_, rfl, by unfold wd1; simp [c2, c12, c22], htZ⟩) (fun _ h => by cases h) dX6_widthOf_30
    · refine lv_iconst (v := (nI 2)) hx hb dX6_widthOf_15 (by decide) ?_
      refine lv_goto (tgt := 30) hx hb dX6_widthOf_16 (by decide) ?_
      exact W.iret (v := (nI 2)) hx hb hr (fun tZ htZ hWZ => ⟨_, rfl, by unfold wd1; simp [c2, c12], htZ⟩) (fun _ h => by cases h) dX6_widthOf_30
  · refine lv_iconst (v := (nI 3)) hx hb dX6_widthOf_5 (by decide) ?_
    refine lv_goto (tgt := 30) hx hb dX6_widthOf_6 (by decide) ?_
    exact W.iret (v := (nI 3)) hx hb hr (fun tZ htZ hWZ => ⟨_, rfl, by unfold wd1; simp [c2], htZ⟩) (fun _ h => by cases h) dX6_widthOf_30

set_option maxHeartbeats 4000000 in
set_option maxRecDepth 100000 in
theorem c_X6_isLine (l : Launch) (G : va_G) (E : cEnv) (a : Nat → Nat) (ln op dp la : Nat) (row seen sty lineO tokO atO baseO kindO partO colO openO strayO stk bys was gsd cellsO sortO kLine kAt kKind : Nat → Int32) (x : Int32) (hln : ln ≤ 20) : Met l yX6_isLine wsX6_isLine ({ frames := 1, cells := 0, slots := 0, locals := 22 }) (va_Pc [.ref (a 0), .int x] (PR G E (rW E a ln op dp la row seen sty lineO tokO atO baseO kindO partO colO openO strayO stk bys was gsd cellsO sortO kLine kAt kKind))) (vp_Si (fun r => (∃ j : Nat, j < ln ∧ x = nI j) ∧ r = nI 1 ∨ ¬ (∃ j : Nat, j < ln ∧ x = nI j) ∧ r = nI 0)) 0 0 (fun _ => False) := by
  refine Met.ofW (cc := cX6_isLine) (maxL := 2) (ret := (some .boolean)) (by decide) rfl ?_
  intro p e s m args below meth c s₁ B hml hv
  obtain ⟨rfl, hP, hK, hZ⟩ := hv
  have hx := B.exec
  have hb := B.bytes
  have hr := B.returns
  have hts := atoms_spec (ws := wsX6_isLine) B.pre
  have hown : s.vm.findClass RX6 = some m.cls := findClass_of_methodNamed B.named
  have hlocks := B.notSynchronized
  have hin6 : ∀ w ∈ u_ws RX6 TX6 25, w ∈ wsX6_isLine := mem_pl [6, 7, 8, 9, 10, 11, 12, 13, 14, 15, 16, 17, 18, 19, 20, 21, 22, 23, 24, 25, 26, 27, 28, 29, 30] (by rfl)
  have hS : va_S (fun _ => False) s.heap s.heap [] := va_S.rf
  have hl := lv_entry ([.ref (a 0), .int x]) (n := 2) (Nat.le_of_ble_eq_true rfl)
  rw [lg_entry_eq]
  generalize (lg_sl ([.ref (a 0), .int x]) ++ List.replicate (2 - (lg_sl ([.ref (a 0), .int x])).length) Slot.unset).toArray = ls at hl ⊢
  have hl : lv_has ls 2 [(0, .ref (a 0)), (1, .int x)] := hl
  refine lv_iload_n hx hb dX6_isLine_0 rfl (lv_at hl 1 rfl) ?_
  refine lv_iconst (v := (nI 0)) hx hb dX6_isLine_1 (by decide) ?_
  refine lv_aload_n hx hb dX6_isLine_2 rfl (lv_at hl 0 rfl) ?_
  refine va_get (D := G) (ci := 6) (v := .int (nI ln)) (C := RX6) (T := TX6) (N := 25) hx hb hts hin6 hown hK hP 0 rfl rfl 0 (by decide) (hts (Cond.fieldLink RX6 73 "IndentRulesModel" "lines" "I") (List.mem_of_getElem? (i := 1) rfl)) (fun _ h9 => h9) rfl dX6_isLine_3 ?_
  refine lv_iconst (v := (nI 1)) hx hb dX6_isLine_6 (by decide) ?_
  refine lv_isub hx hb dX6_isLine_7 ?_
  refine rs_i (n := 3) (G := G) (E := E) (As := [.int x, .int (nI 0), .int ((nI ln) - (nI 1))]) (rest := []) ⟨hx, hb, hml, hown, hts⟩ hK hZ hS (c_X6_within l G E x (nI 0) ((nI ln) - (nI 1))) gX6_isLine_X6_within rfl rfl rfl (by decide +kernel) ⟨Nat.le_of_ble_eq_true rfl, Nat.le_of_ble_eq_true rfl⟩ (fun k q h => by simp at h) hl.1 rfl rfl (Nat.le_of_ble_eq_true rfl) dX6_isLine_8 ⟨Nat.zero_le _, Nat.zero_le _⟩ (fun r8 p8 => ?_)
  rcases p8 with ⟨h8, rfl⟩ | ⟨h8, rfl⟩
  · exact W.zret (v := (nI 1)) hx hb hr (by first | rfl | decide | assumption) (fun tZ htZ hWZ => ⟨_, rfl, Or.inl ⟨(w_ix (by omega)).mp h8, rfl⟩, htZ⟩) (fun _ h => by cases h) dX6_isLine_11
  · exact W.zret (v := (nI 0)) hx hb hr (by first | rfl | decide | assumption) (fun tZ htZ hWZ => ⟨_, rfl, Or.inr ⟨fun q => h8 ((w_ix (by omega)).mpr q), rfl⟩, htZ⟩) (fun _ h => by cases h) dX6_isLine_11

set_option maxHeartbeats 4000000 in
set_option maxRecDepth 100000 in
theorem c_X6_top (l : Launch) (G : va_G) (E : cEnv) (a : Nat → Nat) (ln op dp la : Nat) (row seen sty lineO tokO atO baseO kindO partO colO openO strayO stk bys was gsd cellsO sortO kLine kAt kKind : Nat → Int32) (hdp : dp ≤ 180) : Met l yX6_top wsX6_top ({ frames := 0, cells := 0, slots := 0, locals := 0 }) (va_Pc [.ref (a 0)] (PR G E (rW E a ln op dp la row seen sty lineO tokO atO baseO kindO partO colO openO strayO stk bys was gsd cellsO sortO kLine kAt kKind))) (vp_Si (fun r => (dp = 0 ∧ r = -9) ∨ (0 < dp ∧ r = stk (dp - 1)))) 0 0 (fun _ => False) := by
  refine Met.ofW (cc := cX6_top) (maxL := 1) (ret := (some .int)) (by decide) rfl ?_
  intro p e s m args below meth c s₁ B hml hv
  obtain ⟨rfl, hP, hK, hZ⟩ := hv
  have hx := B.exec
  have hb := B.bytes
  have hr := B.returns
  have hts := atoms_spec (ws := wsX6_top) B.pre
  have hown : s.vm.findClass RX6 = some m.cls := findClass_of_methodNamed B.named
  have hlocks := B.notSynchronized
  have hin6 : ∀ w ∈ u_ws RX6 TX6 25, w ∈ wsX6_top := mem_pl [3, 4, 5, 6, 7, 8, 9, 10, 11, 12, 13, 14, 15, 16, 17, 18, 19, 20, 21, 22, 23, 24, 25, 26, 27] (by rfl)
  have hS : va_S (fun _ => False) s.heap s.heap [] := va_S.rf
  have hl := lv_entry ([.ref (a 0)]) (n := 1) (Nat.le_of_ble_eq_true rfl)
  rw [lg_entry_eq]
  generalize (lg_sl ([.ref (a 0)]) ++ List.replicate (1 - (lg_sl ([.ref (a 0)])).length) Slot.unset).toArray = ls at hl ⊢
  have hl : lv_has ls 1 [(0, .ref (a 0))] := hl
  refine lv_aload_n hx hb dX6_top_0 rfl (lv_at hl 0 rfl) ?_
  refine va_get (D := G) (ci := 6) (v := .int (nI dp)) (C := RX6) (T := TX6) (N := 25) hx hb hts hin6 hown hK hP 0 rfl rfl 14 (by decide) (hts (Cond.fieldLink RX6 85 "IndentRulesModel" "deep" "I") (List.mem_of_getElem? (i := 1) rfl)) (fun _ h9 => h9) rfl dX6_top_1 ?_
  refine n_if_ne (a := dp) (tgt := 12) hx hb (by omega) dX6_top_4 (by decide) (fun c4 => ?_) (fun c4 => ?_)
  · refine lv_aload_n hx hb dX6_top_12 rfl (lv_at hl 0 rfl) ?_
    refine va_get (D := G) (ci := 6) (v := .ref (a 15)) (C := RX6) (T := TX6) (N := 25) hx hb hts hin6 hown hK hP 0 rfl rfl 15 (by decide) (hts (Cond.fieldLink RX6 46 "IndentRulesModel" "stack" "[I") (List.mem_of_getElem? (i := 2) rfl)) (fun _ h9 => h9) rfl dX6_top_13 ?_
    refine lv_aload_n hx hb dX6_top_16 rfl (lv_at hl 0 rfl) ?_
    refine va_get (D := G) (ci := 6) (v := .int (nI dp)) (C := RX6) (T := TX6) (N := 25) hx hb hts hin6 hown hK hP 0 rfl rfl 14 (by decide) (hts (Cond.fieldLink RX6 85 "IndentRulesModel" "deep" "I") (List.mem_of_getElem? (i := 1) rfl)) (fun _ h9 => h9) rfl dX6_top_17 ?_
    refine lv_iconst (v := (nI 1)) hx hb dX6_top_20 (by decide) ?_
    refine k_isub (a := dp) (b := 1) hx hb (by omega) dX6_top_21 ?_
    refine k_iald (D := G) (tys := TYS E) (j := (dp - 1)) (f := stk) (n := 180) hx hb hK hP 13 0 rfl rfl (by omega) (by decide) dX6_top_22 ?_
    exact W.iret (v := (stk (dp - 1))) hx hb hr (fun tZ htZ hWZ => ⟨_, rfl, Or.inr ⟨c4, rfl⟩, htZ⟩) (fun _ h => by cases h) dX6_top_23
  · refine lv_bipush (v := (-9)) hx hb dX6_top_7 (by decide) ?_
    refine lv_goto (tgt := 23) hx hb dX6_top_9 (by decide) ?_
    exact W.iret (v := (-9)) hx hb hr (fun tZ htZ hWZ => ⟨_, rfl, Or.inl ⟨c4, rfl⟩, htZ⟩) (fun _ h => by cases h) dX6_top_23

set_option maxHeartbeats 4000000 in
set_option maxRecDepth 100000 in
theorem c_X6_counts (l : Launch) (G : va_G) (E : cEnv) (a : Nat → Nat) (ln op dp la : Nat) (row seen sty lineO tokO atO baseO kindO partO colO openO strayO stk bys was gsd cellsO sortO kLine kAt kKind : Nat → Int32) (x : Nat) (hxl : x < 20) : Met l yX6_counts wsX6_counts ({ frames := 0, cells := 0, slots := 0, locals := 0 }) (va_Pc [.ref (a 0), .int (nI x)] (PR G E (rW E a ln op dp la row seen sty lineO tokO atO baseO kindO partO colO openO strayO stk bys was gsd cellsO sortO kLine kAt kKind))) (vp_Si (fun r => (¬ seen x = -9 ∧ ¬ row x = 0) ∧ r = nI 1 ∨ ¬ (¬ seen x = -9 ∧ ¬ row x = 0) ∧ r = nI 0)) 0 0 (fun _ => False) := by
  refine Met.ofW (cc := cX6_counts) (maxL := 2) (ret := (some .boolean)) (by decide) rfl ?_
  intro p e s m args below meth c s₁ B hml hv
  obtain ⟨rfl, hP, hK, hZ⟩ := hv
  have hx := B.exec
  have hb := B.bytes
  have hr := B.returns
  have hts := atoms_spec (ws := wsX6_counts) B.pre
  have hown : s.vm.findClass RX6 = some m.cls := findClass_of_methodNamed B.named
  have hlocks := B.notSynchronized
  have hin6 : ∀ w ∈ u_ws RX6 TX6 25, w ∈ wsX6_counts := mem_pl [3, 4, 5, 6, 7, 8, 9, 10, 11, 12, 13, 14, 15, 16, 17, 18, 19, 20, 21, 22, 23, 24, 25, 26, 27] (by rfl)
  have hS : va_S (fun _ => False) s.heap s.heap [] := va_S.rf
  have hl := lv_entry ([.ref (a 0), .int (nI x)]) (n := 2) (Nat.le_of_ble_eq_true rfl)
  rw [lg_entry_eq]
  generalize (lg_sl ([.ref (a 0), .int (nI x)]) ++ List.replicate (2 - (lg_sl ([.ref (a 0), .int (nI x)])).length) Slot.unset).toArray = ls at hl ⊢
  have hl : lv_has ls 2 [(0, .ref (a 0)), (1, .int (nI x))] := hl
  refine lv_aload_n hx hb dX6_counts_0 rfl (lv_at hl 0 rfl) ?_
  refine va_get (D := G) (ci := 6) (v := .ref (a 2)) (C := RX6) (T := TX6) (N := 25) hx hb hts hin6 hown hK hP 0 rfl rfl 2 (by decide) (hts (Cond.fieldLink RX6 13 "IndentRulesModel" "seen" "[I") (List.mem_of_getElem? (i := 1) rfl)) (fun _ h9 => h9) rfl dX6_counts_1 ?_
  refine lv_iload_n hx hb dX6_counts_4 rfl (lv_at hl 1 rfl) ?_
  refine k_iald (D := G) (tys := TYS E) (j := x) (f := seen) (n := 20) hx hb hK hP 2 0 rfl rfl (by omega) (by decide) dX6_counts_5 ?_
  refine lv_bipush (v := (-9)) hx hb dX6_counts_6 (by decide) ?_
  refine lv_icmp_eq (x := (seen x)) (y := (-9)) (tgt := 24) hx hb dX6_counts_8 (by decide) (fun c8 => ?_) (fun c8 => ?_)
  · refine lv_iconst (v := (nI 0)) hx hb dX6_counts_24 (by decide) ?_
    exact W.zret (v := (nI 0)) hx hb hr (by first | rfl | decide | assumption) (fun tZ htZ hWZ => ⟨_, rfl, Or.inr ⟨fun q => q.1 c8, rfl⟩, htZ⟩) (fun _ h => by cases h) dX6_counts_25
  · refine lv_aload_n hx hb dX6_counts_11 rfl (lv_at hl 0 rfl) ?_
    refine va_get (D := G) (ci := 6) (v := .ref (a 1)) (C := RX6) (T := TX6) (N := 25) hx hb hts hin6 hown hK hP 0 rfl rfl 1 (by decide) (hts (Cond.fieldLink RX6 7 "IndentRulesModel" "row" "[I") (List.mem_of_getElem? (i := 2) rfl)) (fun _ h9 => h9) rfl dX6_counts_12 ?_
    refine lv_iload_n hx hb dX6_counts_15 rfl (lv_at hl 1 rfl) ?_
    refine k_iald (D := G) (tys := TYS E) (j := x) (f := row) (n := 20) hx hb hK hP 1 0 rfl rfl (by omega) (by decide) dX6_counts_16 ?_
    refine lv_if_eq (x := (row x)) (tgt := 24) hx hb dX6_counts_17 (by decide) (fun c17 => ?_) (fun c17 => ?_)
    · refine lv_iconst (v := (nI 0)) hx hb dX6_counts_24 (by decide) ?_
      exact W.zret (v := (nI 0)) hx hb hr (by first | rfl | decide | assumption) (fun tZ htZ hWZ => ⟨_, rfl, Or.inr ⟨fun q => q.2 c17, rfl⟩, htZ⟩) (fun _ h => by cases h) dX6_counts_25
    · refine lv_iconst (v := (nI 1)) hx hb dX6_counts_20 (by decide) ?_
      refine lv_goto (tgt := 25) hx hb dX6_counts_21 (by decide) ?_
      exact W.zret (v := (nI 1)) hx hb hr (by first | rfl | decide | assumption) (fun tZ htZ hWZ => ⟨_, rfl, Or.inl ⟨⟨c8, c17⟩, rfl⟩, htZ⟩) (fun _ h => by cases h) dX6_counts_25

set_option maxHeartbeats 4000000 in
set_option maxRecDepth 100000 in
theorem c_X6_isPocket (l : Launch) (G : va_G) (E : cEnv) (x : Int32) : Met l yX6_isPocket wsX6_isPocket ({ frames := 1, cells := 0, slots := 0, locals := 22 }) (va_Pc [.int x] (PR G E ([]))) (vp_Si (fun r => (∃ j : Nat, j < 3 ∧ x = nI j) ∧ r = nI 1 ∨ ¬ (∃ j : Nat, j < 3 ∧ x = nI j) ∧ r = nI 0)) 0 0 (fun _ => False) := by
  refine Met.ofW (cc := cX6_isPocket) (maxL := 1) (ret := (some .boolean)) (by decide) rfl ?_
  intro p e s m args below meth c s₁ B hml hv
  obtain ⟨rfl, hP, hK, hZ⟩ := hv
  have hx := B.exec
  have hb := B.bytes
  have hr := B.returns
  have hts := atoms_spec (ws := wsX6_isPocket) B.pre
  have hown : s.vm.findClass RX6 = some m.cls := findClass_of_methodNamed B.named
  have hlocks := B.notSynchronized
  have hS : va_S (fun _ => False) s.heap s.heap [] := va_S.rf
  have hl := lv_entry ([.int x]) (n := 1) (Nat.le_of_ble_eq_true rfl)
  rw [lg_entry_eq]
  generalize (lg_sl ([.int x]) ++ List.replicate (1 - (lg_sl ([.int x])).length) Slot.unset).toArray = ls at hl ⊢
  have hl : lv_has ls 1 [(0, .int x)] := hl
  refine lv_iload_n hx hb dX6_isPocket_0 rfl (lv_at hl 0 rfl) ?_
  refine lv_iconst (v := (nI 0)) hx hb dX6_isPocket_1 (by decide) ?_
  refine lv_iconst (v := (nI 2)) hx hb dX6_isPocket_2 (by decide) ?_
  refine rs_i (n := 3) (G := G) (E := E) (As := [.int x, .int (nI 0), .int (nI 2)]) (rest := []) ⟨hx, hb, hml, hown, hts⟩ hK hZ hS (c_X6_within l G E x (nI 0) (nI 2)) gX6_isPocket_X6_within rfl rfl rfl (by decide +kernel) ⟨Nat.le_of_ble_eq_true rfl, Nat.le_of_ble_eq_true rfl⟩ hP hl.1 rfl rfl (Nat.le_of_ble_eq_true rfl) dX6_isPocket_3 ⟨Nat.zero_le _, Nat.zero_le _⟩ (fun r3 p3 => ?_)
  rcases p3 with ⟨h3, rfl⟩ | ⟨h3, rfl⟩
  · exact W.zret (v := (nI 1)) hx hb hr (by first | rfl | decide | assumption) (fun tZ htZ hWZ => ⟨_, rfl, Or.inl ⟨by obtain ⟨j, _, q2, q3⟩ := (w_rg (by decide) (by decide)).mp h3; exact ⟨j, by omega, q3⟩, rfl⟩, htZ⟩) (fun _ h => by cases h) dX6_isPocket_6
  · exact W.zret (v := (nI 0)) hx hb hr (by first | rfl | decide | assumption) (fun tZ htZ hWZ => ⟨_, rfl, Or.inr ⟨fun ⟨j, q1, q2⟩ => h3 ((w_rg (by decide) (by decide)).mpr ⟨j, by omega, by omega, q2⟩), rfl⟩, htZ⟩) (fun _ h => by cases h) dX6_isPocket_6

set_option maxHeartbeats 4000000 in
set_option maxRecDepth 100000 in
theorem c_X6_maySet (l : Launch) (G : va_G) (E : cEnv) (k : Nat) (x : Int32) (hk : k < 4) : Met l yX6_maySet wsX6_maySet ({ frames := 1, cells := 0, slots := 0, locals := 22 }) (va_Pc [.int (nI k), .int x] (PR G E ([]))) (vp_Si (fun r => okS k x ∧ r = nI 1 ∨ ¬ okS k x ∧ r = nI 0)) 0 0 (fun _ => False) := by
  refine Met.ofW (cc := cX6_maySet) (maxL := 2) (ret := (some .boolean)) (by decide) rfl ?_
  intro p e s m args below meth c s₁ B hml hv
  obtain ⟨rfl, hP, hK, hZ⟩ := hv
  have hx := B.exec
  have hb := B.bytes
  have hr := B.returns
  have hts := atoms_spec (ws := wsX6_maySet) B.pre
  have hown : s.vm.findClass RX6 = some m.cls := findClass_of_methodNamed B.named
  have hlocks := B.notSynchronized
  have hS : va_S (fun _ => False) s.heap s.heap [] := va_S.rf
  have hl := lv_entry ([.int (nI k), .int x]) (n := 2) (Nat.le_of_ble_eq_true rfl)
  rw [lg_entry_eq]
  generalize (lg_sl ([.int (nI k), .int x]) ++ List.replicate (2 - (lg_sl ([.int (nI k), .int x])).length) Slot.unset).toArray = ls at hl ⊢
  have hl : lv_has ls 2 [(0, .int (nI k)), (1, .int x)] := hl
  refine lv_iload_n hx hb dX6_maySet_0 rfl (lv_at hl 0 rfl) ?_
  refine lv_iconst (v := (nI 2)) hx hb dX6_maySet_1 (by decide) ?_
  refine n_icmp_ge (a := k) (b := 2) (tgt := 15) hx hb (by omega) (by decide) dX6_maySet_2 (by decide) (fun c2 => ?_) (fun c2 => ?_)
  · refine lv_iload_n hx hb dX6_maySet_15 rfl (lv_at hl 1 rfl) ?_
    refine lv_iconst (v := (nI 0)) hx hb dX6_maySet_16 (by decide) ?_
    refine lv_iconst (v := (nI 1)) hx hb dX6_maySet_17 (by decide) ?_
    refine rs_i (n := 3) (G := G) (E := E) (As := [.int x, .int (nI 0), .int (nI 1)]) (rest := []) ⟨hx, hb, hml, hown, hts⟩ hK hZ hS (c_X6_within l G E x (nI 0) (nI 1)) gX6_maySet_X6_within rfl rfl rfl (by decide +kernel) ⟨Nat.le_of_ble_eq_true rfl, Nat.le_of_ble_eq_true rfl⟩ hP hl.1 rfl rfl (Nat.le_of_ble_eq_true rfl) dX6_maySet_18 ⟨Nat.zero_le _, Nat.zero_le _⟩ (fun r18 p18 => ?_)
    rcases p18 with ⟨h18, rfl⟩ | ⟨h18, rfl⟩
    · exact W.zret (v := (nI 1)) hx hb hr (by first | rfl | decide | assumption) (fun tZ htZ hWZ => ⟨_, rfl, Or.inl ⟨by rw [okS, if_neg (by omega)]; exact h18, rfl⟩, htZ⟩) (fun _ h => by cases h) dX6_maySet_21
    · exact W.zret (v := (nI 0)) hx hb hr (by first | rfl | decide | assumption) (fun tZ htZ hWZ => ⟨_, rfl, Or.inr ⟨by rw [okS, if_neg (by omega)]; exact h18, rfl⟩, htZ⟩) (fun _ h => by cases h) dX6_maySet_21
  · refine lv_iload_n hx hb dX6_maySet_5 rfl (lv_at hl 1 rfl) ?_
    refine lv_iconst (v := (nI 1)) hx hb dX6_maySet_6 (by decide) ?_
    refine lv_bipush (v := (nI 8)) hx hb dX6_maySet_7 (by decide) ?_
    refine rs_i (n := 3) (G := G) (E := E) (As := [.int x, .int (nI 1), .int (nI 8)]) (rest := []) ⟨hx, hb, hml, hown, hts⟩ hK hZ hS (c_X6_within l G E x (nI 1) (nI 8)) gX6_maySet_X6_within rfl rfl rfl (by decide +kernel) ⟨Nat.le_of_ble_eq_true rfl, Nat.le_of_ble_eq_true rfl⟩ hP hl.1 rfl rfl (Nat.le_of_ble_eq_true rfl) dX6_maySet_9 ⟨Nat.zero_le _, Nat.zero_le _⟩ (fun r9 p9 => ?_)
    rcases p9 with ⟨h9, rfl⟩ | ⟨h9, rfl⟩
    · refine lv_goto (tgt := 21) hx hb dX6_maySet_12 (by decide) ?_
      exact W.zret (v := (nI 1)) hx hb hr (by first | rfl | decide | assumption) (fun tZ htZ hWZ => ⟨_, rfl, Or.inl ⟨by rw [okS, if_pos c2]; exact h9, rfl⟩, htZ⟩) (fun _ h => by cases h) dX6_maySet_21
    · refine lv_goto (tgt := 21) hx hb dX6_maySet_12 (by decide) ?_
      exact W.zret (v := (nI 0)) hx hb hr (by first | rfl | decide | assumption) (fun tZ htZ hWZ => ⟨_, rfl, Or.inr ⟨by rw [okS, if_pos c2]; exact h9, rfl⟩, htZ⟩) (fun _ h => by cases h) dX6_maySet_21

set_option maxHeartbeats 4000000 in
set_option maxRecDepth 100000 in
theorem c_X6_isStyle (l : Launch) (G : va_G) (E : cEnv) (x0 x1 x2 x3 : Int32) : Met l yX6_isStyle wsX6_isStyle ({ frames := 2, cells := 0, slots := 0, locals := 43 }) (va_Pc [.int x0, .int x1, .int x2, .int x3] (PR G E ([]))) (vp_Si (fun r => okSt x0 x1 x2 x3 ∧ r = nI 1 ∨ ¬ okSt x0 x1 x2 x3 ∧ r = nI 0)) 0 0 (fun _ => False) := by
  refine Met.ofW (cc := cX6_isStyle) (maxL := 4) (ret := (some .boolean)) (by decide) rfl ?_
  intro p e s m args below meth c s₁ B hml hv
  obtain ⟨rfl, hP, hK, hZ⟩ := hv
  have hx := B.exec
  have hb := B.bytes
  have hr := B.returns
  have hts := atoms_spec (ws := wsX6_isStyle) B.pre
  have hown : s.vm.findClass RX6 = some m.cls := findClass_of_methodNamed B.named
  have hlocks := B.notSynchronized
  have hS : va_S (fun _ => False) s.heap s.heap [] := va_S.rf
  have hl := lv_entry ([.int x0, .int x1, .int x2, .int x3]) (n := 4) (Nat.le_of_ble_eq_true rfl)
  rw [lg_entry_eq]
  generalize (lg_sl ([.int x0, .int x1, .int x2, .int x3]) ++ List.replicate (4 - (lg_sl ([.int x0, .int x1, .int x2, .int x3])).length) Slot.unset).toArray = ls at hl ⊢
  have hl : lv_has ls 4 [(0, .int x0), (1, .int x1), (2, .int x2), (3, .int x3)] := hl
  refine lv_iconst (v := (nI 0)) hx hb dX6_isStyle_0 (by decide) ?_
  refine lv_iload_n hx hb dX6_isStyle_1 rfl (lv_at hl 0 rfl) ?_
  refine rs_i (n := 2) (G := G) (E := E) (As := [.int (nI 0), .int x0]) (rest := []) ⟨hx, hb, hml, hown, hts⟩ hK hZ hS (c_X6_maySet l G E 0 x0 (by first | assumption | omega)) gX6_isStyle_X6_maySet rfl rfl rfl (by decide +kernel) ⟨Nat.le_of_ble_eq_true rfl, Nat.le_of_ble_eq_true rfl⟩ hP hl.1 rfl rfl (Nat.le_of_ble_eq_true rfl) dX6_isStyle_2 ⟨Nat.zero_le _, Nat.zero_le _⟩ (fun r2 p2 => ?_)
  rcases p2 with ⟨h2, rfl⟩ | ⟨h2, rfl⟩
  · refine n_if_eq (a := 1) (tgt := 36) hx hb (by decide) dX6_isStyle_5 (by decide) (fun c5 => absurd c5 (by decide)) (fun c5 => ?_)
    refine lv_iconst (v := (nI 1)) hx hb dX6_isStyle_8 (by decide) ?_
    refine lv_iload_n hx hb dX6_isStyle_9 rfl (lv_at hl 1 rfl) ?_
    refine rs_i (n := 2) (G := G) (E := E) (As := [.int (nI 1), .int x1]) (rest := []) ⟨hx, hb, hml, hown, hts⟩ hK hZ hS (c_X6_maySet l G E 1 x1 (by first | assumption | omega)) gX6_isStyle_X6_maySet rfl rfl rfl (by decide +kernel) ⟨Nat.le_of_ble_eq_true rfl, Nat.le_of_ble_eq_true rfl⟩ hP hl.1 rfl rfl (Nat.le_of_ble_eq_true rfl) dX6_isStyle_10 ⟨Nat.zero_le _, Nat.zero_le _⟩ (fun r10 p10 => ?_)
    rcases p10 with ⟨h10, rfl⟩ | ⟨h10, rfl⟩
    · refine n_if_eq (a := 1) (tgt := 36) hx hb (by decide) dX6_isStyle_13 (by decide) (fun c13 => absurd c13 (by decide)) (fun c13 => ?_)
      refine lv_iconst (v := (nI 2)) hx hb dX6_isStyle_16 (by decide) ?_
      refine lv_iload_n hx hb dX6_isStyle_17 rfl (lv_at hl 2 rfl) ?_
      refine rs_i (n := 2) (G := G) (E := E) (As := [.int (nI 2), .int x2]) (rest := []) ⟨hx, hb, hml, hown, hts⟩ hK hZ hS (c_X6_maySet l G E 2 x2 (by first | assumption | omega)) gX6_isStyle_X6_maySet rfl rfl rfl (by decide +kernel) ⟨Nat.le_of_ble_eq_true rfl, Nat.le_of_ble_eq_true rfl⟩ hP hl.1 rfl rfl (Nat.le_of_ble_eq_true rfl) dX6_isStyle_18 ⟨Nat.zero_le _, Nat.zero_le _⟩ (fun r18 p18 => ?_)
      rcases p18 with ⟨h18, rfl⟩ | ⟨h18, rfl⟩
      · refine n_if_eq (a := 1) (tgt := 36) hx hb (by decide) dX6_isStyle_21 (by decide) (fun c21 => absurd c21 (by decide)) (fun c21 => ?_)
        refine lv_iconst (v := (nI 3)) hx hb dX6_isStyle_24 (by decide) ?_
        refine lv_iload_n hx hb dX6_isStyle_25 rfl (lv_at hl 3 rfl) ?_
        refine rs_i (n := 2) (G := G) (E := E) (As := [.int (nI 3), .int x3]) (rest := []) ⟨hx, hb, hml, hown, hts⟩ hK hZ hS (c_X6_maySet l G E 3 x3 (by first | assumption | omega)) gX6_isStyle_X6_maySet rfl rfl rfl (by decide +kernel) ⟨Nat.le_of_ble_eq_true rfl, Nat.le_of_ble_eq_true rfl⟩ hP hl.1 rfl rfl (Nat.le_of_ble_eq_true rfl) dX6_isStyle_26 ⟨Nat.zero_le _, Nat.zero_le _⟩ (fun r26 p26 => ?_)
        rcases p26 with ⟨h26, rfl⟩ | ⟨h26, rfl⟩
        · refine n_if_eq (a := 1) (tgt := 36) hx hb (by decide) dX6_isStyle_29 (by decide) (fun c29 => absurd c29 (by decide)) (fun c29 => ?_)
          refine lv_iconst (v := (nI 1)) hx hb dX6_isStyle_32 (by decide) ?_
          refine lv_goto (tgt := 37) hx hb dX6_isStyle_33 (by decide) ?_
          exact W.zret (v := (nI 1)) hx hb hr (by first | rfl | decide | assumption) (fun tZ htZ hWZ => ⟨_, rfl, Or.inl ⟨⟨h2, h10, h18, h26⟩, rfl⟩, htZ⟩) (fun _ h => by cases h) dX6_isStyle_37
        · refine n_if_eq (a := 0) (tgt := 36) hx hb (by decide) dX6_isStyle_29 (by decide) (fun c29 => ?_) (fun c29 => absurd c29 (by decide))
          refine lv_iconst (v := (nI 0)) hx hb dX6_isStyle_36 (by decide) ?_
          exact W.zret (v := (nI 0)) hx hb hr (by first | rfl | decide | assumption) (fun tZ htZ hWZ => ⟨_, rfl, Or.inr ⟨fun q => h26 q.2.2.2, rfl⟩, htZ⟩) (fun _ h => by cases h) dX6_isStyle_37
      · refine n_if_eq (a := 0) (tgt := 36) hx hb (by decide) dX6_isStyle_21 (by decide) (fun c21 => ?_) (fun c21 => absurd c21 (by decide))
        refine lv_iconst (v := (nI 0)) hx hb dX6_isStyle_36 (by decide) ?_
        exact W.zret (v := (nI 0)) hx hb hr (by first | rfl | decide | assumption) (fun tZ htZ hWZ => ⟨_, rfl, Or.inr ⟨fun q => h18 q.2.2.1, rfl⟩, htZ⟩) (fun _ h => by cases h) dX6_isStyle_37
    · refine n_if_eq (a := 0) (tgt := 36) hx hb (by decide) dX6_isStyle_13 (by decide) (fun c13 => ?_) (fun c13 => absurd c13 (by decide))
      refine lv_iconst (v := (nI 0)) hx hb dX6_isStyle_36 (by decide) ?_
      exact W.zret (v := (nI 0)) hx hb hr (by first | rfl | decide | assumption) (fun tZ htZ hWZ => ⟨_, rfl, Or.inr ⟨fun q => h10 q.2.1, rfl⟩, htZ⟩) (fun _ h => by cases h) dX6_isStyle_37
  · refine n_if_eq (a := 0) (tgt := 36) hx hb (by decide) dX6_isStyle_5 (by decide) (fun c5 => ?_) (fun c5 => absurd c5 (by decide))
    refine lv_iconst (v := (nI 0)) hx hb dX6_isStyle_36 (by decide) ?_
    exact W.zret (v := (nI 0)) hx hb hr (by first | rfl | decide | assumption) (fun tZ htZ hWZ => ⟨_, rfl, Or.inr ⟨fun q => h2 q.1, rfl⟩, htZ⟩) (fun _ h => by cases h) dX6_isStyle_37

set_option maxHeartbeats 4000000 in
set_option maxRecDepth 100000 in
theorem c_X6_isOf (l : Launch) (G : va_G) (E : cEnv) (x y : Int32) : Met l yX6_isOf wsX6_isOf ({ frames := 0, cells := 0, slots := 0, locals := 0 }) (va_Pc [.int x, .int y] (PR G E ([]))) (vp_Si (fun r => tkO x y ∧ r = nI 1 ∨ ¬ tkO x y ∧ r = nI 0)) 0 0 (fun _ => False) := by
  refine Met.ofW (cc := cX6_isOf) (maxL := 2) (ret := (some .boolean)) (by decide) rfl ?_
  intro p e s m args below meth c s₁ B hml hv
  obtain ⟨rfl, hP, hK, hZ⟩ := hv
  have hx := B.exec
  have hb := B.bytes
  have hr := B.returns
  have hts := atoms_spec (ws := wsX6_isOf) B.pre
  have hown : s.vm.findClass RX6 = some m.cls := findClass_of_methodNamed B.named
  have hlocks := B.notSynchronized
  have hS : va_S (fun _ => False) s.heap s.heap [] := va_S.rf
  have hl := lv_entry ([.int x, .int y]) (n := 2) (Nat.le_of_ble_eq_true rfl)
  rw [lg_entry_eq]
  generalize (lg_sl ([.int x, .int y]) ++ List.replicate (2 - (lg_sl ([.int x, .int y])).length) Slot.unset).toArray = ls at hl ⊢
  have hl : lv_has ls 2 [(0, .int x), (1, .int y)] := hl
  refine lv_iload_n hx hb dX6_isOf_0 rfl (lv_at hl 1 rfl) ?_
  refine lv_if_eq (x := y) (tgt := 19) hx hb dX6_isOf_1 (by decide) (fun c1 => ?_) (fun c1 => ?_)
  · refine lv_iconst (v := (nI 1)) hx hb dX6_isOf_19 (by decide) ?_
    refine lv_goto (tgt := 24) hx hb dX6_isOf_20 (by decide) ?_
    exact W.zret (v := (nI 1)) hx hb hr (by first | rfl | decide | assumption) (fun tZ htZ hWZ => ⟨_, rfl, Or.inl ⟨Or.inl c1, rfl⟩, htZ⟩) (fun _ h => by cases h) dX6_isOf_24
  · refine lv_iload_n hx hb dX6_isOf_4 rfl (lv_at hl 0 rfl) ?_
    refine lv_iload_n hx hb dX6_isOf_5 rfl (lv_at hl 1 rfl) ?_
    refine lv_icmp_eq (x := x) (y := y) (tgt := 19) hx hb dX6_isOf_6 (by decide) (fun c6 => ?_) (fun c6 => ?_)
    · refine lv_iconst (v := (nI 1)) hx hb dX6_isOf_19 (by decide) ?_
      refine lv_goto (tgt := 24) hx hb dX6_isOf_20 (by decide) ?_
      exact W.zret (v := (nI 1)) hx hb hr (by first | rfl | decide | assumption) (fun tZ htZ hWZ => ⟨_, rfl, Or.inl ⟨Or.inr (Or.inl c6), rfl⟩, htZ⟩) (fun _ h => by cases h) dX6_isOf_24
    · refine lv_iload_n hx hb dX6_isOf_9 rfl (lv_at hl 1 rfl) ?_
      refine lv_iconst (v := (nI 2)) hx hb dX6_isOf_10 (by decide) ?_
      refine lv_icmp_ne (x := y) (y := (nI 2)) (tgt := 23) hx hb dX6_isOf_11 (by decide) (fun c11 => ?_) (fun c11 => ?_)
      · refine lv_iconst (v := (nI 0)) hx hb dX6_isOf_23 (by decide) ?_
        exact W.zret (v := (nI 0)) hx hb hr (by first | rfl | decide | assumption) (fun tZ htZ hWZ => ⟨_, rfl, Or.inr ⟨fun q => q.elim c1 (fun q => q.elim c6 (fun q => c11 q.1)), rfl⟩, htZ⟩) (fun _ h => by cases h) dX6_isOf_24
      · refine lv_iload_n hx hb dX6_isOf_14 rfl (lv_at hl 0 rfl) ?_
        refine lv_iconst (v := (nI 3)) hx hb dX6_isOf_15 (by decide) ?_
        refine lv_icmp_ne (x := x) (y := (nI 3)) (tgt := 23) hx hb dX6_isOf_16 (by decide) (fun c16 => ?_) (fun c16 => ?_)
        · refine lv_iconst (v := (nI 0)) hx hb dX6_isOf_23 (by decide) ?_
          exact W.zret (v := (nI 0)) hx hb hr (by first | rfl | decide | assumption) (fun tZ htZ hWZ => ⟨_, rfl, Or.inr ⟨fun q => q.elim c1 (fun q => q.elim c6 (fun q => c16 q.2)), rfl⟩, htZ⟩) (fun _ h => by cases h) dX6_isOf_24
        · refine lv_iconst (v := (nI 1)) hx hb dX6_isOf_19 (by decide) ?_
          refine lv_goto (tgt := 24) hx hb dX6_isOf_20 (by decide) ?_
          exact W.zret (v := (nI 1)) hx hb hr (by first | rfl | decide | assumption) (fun tZ htZ hWZ => ⟨_, rfl, Or.inl ⟨Or.inr (Or.inr ⟨c11, c16⟩), rfl⟩, htZ⟩) (fun _ h => by cases h) dX6_isOf_24

set_option maxHeartbeats 4000000 in
set_option maxRecDepth 100000 in
theorem c_X6_widthsOf (l : Launch) (G : va_G) (E : cEnv) (a : Nat → Nat) (ln op dp la : Nat) (row seen sty lineO tokO atO baseO kindO partO colO openO strayO stk bys was gsd cellsO sortO kLine kAt kKind : Nat → Int32) (t : Nat) (ht : t < 2 ^ 31) (hz : nzb t = true) : Met l yX6_widthsOf wsX6_widthsOf ({ frames := 2, cells := 0, slots := 0, locals := 45 }) (va_Pc [.ref (a 0), .int (nI t)] (PR G E (rW E a ln op dp la row seen sty lineO tokO atO baseO kindO partO colO openO strayO stk bys was gsd cellsO sortO kLine kAt kKind))) (vp_Si (fun r => r = nI (wsum t (len t)))) 0 0 (fun _ => False) := by
  refine Met.ofW (cc := cX6_widthsOf) (maxL := 4) (ret := (some .int)) (by decide) rfl ?_
  intro p e s m args below meth c s₁ B hml hv
  obtain ⟨rfl, hP, hK, hZ⟩ := hv
  have hx := B.exec
  have hb := B.bytes
  have hr := B.returns
  have hts := atoms_spec (ws := wsX6_widthsOf) B.pre
  have hown : s.vm.findClass RX6 = some m.cls := findClass_of_methodNamed B.named
  have hlocks := B.notSynchronized
  have hS : va_S (fun _ => False) s.heap s.heap [] := va_S.rf
  have hl := lv_entry ([.ref (a 0), .int (nI t)]) (n := 4) (Nat.le_of_ble_eq_true rfl)
  rw [lg_entry_eq]
  generalize (lg_sl ([.ref (a 0), .int (nI t)]) ++ List.replicate (4 - (lg_sl ([.ref (a 0), .int (nI t)])).length) Slot.unset).toArray = ls at hl ⊢
  have hl : lv_has ls 4 [(0, .ref (a 0)), (1, .int (nI t))] := hl
  have hlb := (len_lt 10 t).mp (by omega)
  refine lv_iconst (v := (nI 0)) hx hb dX6_widthsOf_0 (by decide) ?_
  refine lv_istore_n (lv' := [(2, .int (nI 0)), (0, .ref (a 0)), (1, .int (nI t))]) hx hb dX6_widthsOf_1 rfl hl (by decide) rfl (fun ls hl => ?_)
  refine lv_iconst (v := (nI 0)) hx hb dX6_widthsOf_2 (by decide) ?_
  refine lv_istore_n (lv' := [(3, .int (nI 0)), (2, .int (nI 0)), (0, .ref (a 0)), (1, .int (nI t))]) hx hb dX6_widthsOf_3 rfl hl (by decide) rfl (fun ls hl => ?_)
  have lp4 : ∀ (kk : Nat) (sm : Nat) (k : Nat), (sm = wsum t k) → (k ≤ len t) → len t - k < kk → ∀ ls : Array Slot, lv_has ls 4 [(3, .int (nI k)), (2, .int (nI sm)), (0, .ref (a 0)), (1, .int (nI t))] → W p l e (headSpec wsX6_widthsOf ({ frames := 2, cells := 0, slots := 0, locals := 45 } : Room)).room s m ([.ref (a 0), .int (nI t)] : List Value).toArray below meth c s.heap [] 0 0 (MQ below (vp_Si (fun r => r = nI (wsum t (len t)))) ([.ref (a 0), .int (nI t)] : List Value).toArray s 0 0 (fun _ => False)) (F0 m 4 ls []) := by
    intro kk
    induction kk with
    | zero => intro sm k  hsm hk hkk; exact absurd hkk (Nat.not_lt_zero _)
    | succ kk ih4 =>
      intro sm k hsm hk hkk ls hl
      refine lv_iload_n hx hb dX6_widthsOf_4 rfl (lv_at hl 0 rfl) ?_
      refine lv_iload_n hx hb dX6_widthsOf_5 rfl (lv_at hl 3 rfl) ?_
      refine rs_i (n := 1) (G := G) (E := E) (As := [.int (nI t)]) (rest := [.int (nI k)]) ⟨hx, hb, hml, hown, hts⟩ hK hZ hS (c_X6_lengthOf l G E t (by first | assumption | omega)) gX6_widthsOf_X6_lengthOf rfl rfl rfl (by decide +kernel) ⟨Nat.le_of_ble_eq_true rfl, Nat.le_of_ble_eq_true rfl⟩ (fun k q h => by simp at h) hl.1 rfl rfl (Nat.le_of_ble_eq_true rfl) dX6_widthsOf_6 ⟨Nat.zero_le _, Nat.zero_le _⟩ (fun r6 p6 => ?_)
      subst p6
      refine n_icmp_ge (a := k) (b := (len t)) (tgt := 29) hx hb (by omega) (by omega) dX6_widthsOf_9 (by decide) (fun c9 => ?_) (fun c9 => ?_)
      · refine lv_iload_n hx hb dX6_widthsOf_29 rfl (lv_at hl 1 rfl) ?_
        exact W.iret (v := (nI sm)) hx hb hr (fun tZ htZ hWZ => ⟨_, rfl, by rw [hsm, show k = len t by omega], htZ⟩) (fun _ h => by cases h) dX6_widthsOf_30
      · refine lv_iload_n hx hb dX6_widthsOf_12 rfl (lv_at hl 1 rfl) ?_
        refine lv_iload_n hx hb dX6_widthsOf_13 rfl (lv_at hl 3 rfl) ?_
        refine lv_iload_n hx hb dX6_widthsOf_14 rfl (lv_at hl 0 rfl) ?_
        refine rs_i (n := 2) (G := G) (E := E) (As := [.int (nI t), .int (nI k)]) (rest := [.int (nI sm)]) ⟨hx, hb, hml, hown, hts⟩ hK hZ hS (c_X6_tokenAt l G E t k (by first | assumption | omega) (by first | assumption | omega)) gX6_widthsOf_X6_tokenAt rfl rfl rfl (by decide +kernel) ⟨Nat.le_of_ble_eq_true rfl, Nat.le_of_ble_eq_true rfl⟩ (fun k q h => by simp at h) hl.1 rfl rfl (Nat.le_of_ble_eq_true rfl) dX6_widthsOf_15 ⟨Nat.zero_le _, Nat.zero_le _⟩ (fun r15 p15 => ?_)
        subst p15
        refine rs_i (n := 1) (G := G) (E := E) (As := [.int (nI (tok t k))]) (rest := [.int (nI sm)]) ⟨hx, hb, hml, hown, hts⟩ hK hZ hS (c_X6_widthOf l G E (tok t k) (tok_lt t k)) gX6_widthsOf_X6_widthOf rfl rfl rfl (by decide +kernel) ⟨Nat.le_of_ble_eq_true rfl, Nat.le_of_ble_eq_true rfl⟩ (fun k q h => by simp at h) hl.1 rfl rfl (Nat.le_of_ble_eq_true rfl) dX6_widthsOf_18 ⟨Nat.zero_le _, Nat.zero_le _⟩ (fun r18 p18 => ?_)
        subst p18
        refine k_iadd (a := sm) (b := (wd1 (tok t k))) hx hb dX6_widthsOf_21 ?_
        refine lv_istore_n (lv' := [(2, .int (nI (sm + (wd1 (tok t k))))), (3, .int (nI k)), (0, .ref (a 0)), (1, .int (nI t))]) hx hb dX6_widthsOf_22 rfl hl (by decide) rfl (fun ls hl => ?_)
        refine lv_iinc (v := (nI (k + 1))) (lv' := [(3, .int (nI (k + 1))), (2, .int (nI (sm + (wd1 (tok t k))))), (0, .ref (a 0)), (1, .int (nI t))]) hx hb dX6_widthsOf_23 hl (k := 1) rfl (k_inc k) (by decide) rfl (fun ls hl => ?_)
        refine lv_goto (tgt := 4) hx hb dX6_widthsOf_26 (by decide) ?_
        exact ih4 (sm + (wd1 (tok t k))) (k + 1) (by rw [hsm, wd1_eq (tok_pos hz c9)]; rfl) (by omega) (by omega) ls (lv_sub hl [0, 1, 2, 3] rfl)
  exact lp4 (len t - 0 + 1) 0 0 rfl (Nat.zero_le _) (Nat.lt_succ_self _) ls (lv_sub hl [0, 1, 2, 3] rfl)
