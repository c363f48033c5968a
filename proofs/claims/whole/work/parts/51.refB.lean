set_option maxHeartbeats 4000000 in
set_option maxRecDepth 100000 in
theorem c_X6_columnFor (l : Launch) (G : va_G) (E : cEnv) (a : Nat → Nat) (ln : Nat) (row seen sty lineO tokO atO baseO kindO partO colO openO strayO stk bys was gsd cellsO sortO kLine kAt kKind : Nat → Int32) (x : Nat) (S : NS) (C : Nat → Int32) (mm L bb : Nat) (hx0 : x < 10) (hRR : RR (bys 2) S C mm lineO tokO atO baseO kindO partO colO openO strayO stk) (hwf : wfN S L bb) (hbb : bb ≤ 180) : Met l yX6_columnFor wsX6_columnFor ({ frames := 1, cells := 0, slots := 0, locals := 20 }) (va_Pc [.ref (a 0), .int (nI x)] (PR G E (rW E a ln (nO S) (nD S) (nL S) row seen sty lineO tokO atO baseO kindO partO colO openO strayO stk bys was gsd cellsO sortO kLine kAt kKind))) (vp_Si (fun r => r = cvt bys (nF S) C (topN S) (nL S) x)) 0 0 (fun _ => False) := by
  refine Met.ofW (cc := cX6_columnFor) (maxL := 6) (ret := (some .int)) (by decide) rfl ?_
  intro p e s m args below meth c s₁ B hml hv
  obtain ⟨rfl, hP, hK, hZ⟩ := hv
  have hx := B.exec
  have hb := B.bytes
  have hr := B.returns
  have hts := atoms_spec (ws := wsX6_columnFor) B.pre
  have hown : s.vm.findClass RX6 = some m.cls := findClass_of_methodNamed B.named
  have hlocks := B.notSynchronized
  have hin6 : ∀ w ∈ u_ws RX6 TX6 25, w ∈ wsX6_columnFor := mem_pl [13, 14, 15, 16, 17, 18, 19, 20, 21, 22, 23, 24, 25, 26, 27, 28, 29, 30, 31, 32, 33, 34, 35, 36, 37] (by rfl)
  have hS : va_S (fun _ => False) s.heap s.heap [] := va_S.rf
  have hl := lv_entry ([.ref (a 0), .int (nI x)]) (n := 6) (Nat.le_of_ble_eq_true rfl)
  rw [lg_entry_eq]
  generalize (lg_sl ([.ref (a 0), .int (nI x)]) ++ List.replicate (6 - (lg_sl ([.ref (a 0), .int (nI x)])).length) Slot.unset).toArray = ls at hl ⊢
  have hl : lv_has ls 6 [(0, .ref (a 0)), (1, .int (nI x))] := hl
  have hla := hwf.2.2.2.2
  refine lv_aload_n hx hb dX6_columnFor_0 rfl (lv_at hl 0 rfl) ?_
  refine rv_i (n := 0) (G := G) (E := E) (As := []) (rest := []) (ci := 6) (q0 := 0) ⟨hx, hb, hml, hown, hts⟩ hK hZ hS (c_X6_top l G E a ln (nO S) (nD S) (nL S) row seen sty lineO tokO atO baseO kindO partO colO openO strayO stk bys was gsd cellsO sortO kLine kAt kKind (by have := hwf.1; have := hwf.2.1; omega)) gX6_columnFor_X6_top rfl rfl rfl (by decide +kernel) ⟨Nat.le_of_ble_eq_true rfl, Nat.le_of_ble_eq_true rfl⟩ hP rfl rfl hl.1 rfl rfl (Nat.le_of_ble_eq_true rfl) dX6_columnFor_1 ⟨Nat.zero_le _, Nat.zero_le _⟩ (fun r1 p1 => ?_)
  rcases p1 with ⟨d1, rfl⟩ | ⟨d1, rfl⟩
  · have htop : topN S = 0 := by unfold topN; rw [if_pos d1]
    refine lv_istore_n (lv' := [(2, .int (-9)), (0, .ref (a 0)), (1, .int (nI x))]) hx hb dX6_columnFor_4 rfl hl (by decide) rfl (fun ls hl => ?_)
    refine lv_iload_n hx hb dX6_columnFor_5 rfl (lv_at hl 0 rfl) ?_
    refine lv_bipush (v := (-9)) hx hb dX6_columnFor_6 (by decide) ?_
    refine lv_icmp_eq (x := (-9)) (y := (-9)) (tgt := 25) hx hb dX6_columnFor_8 (by decide) (fun c8 => ?_) (fun c8 => absurd c8 (by decide))
    refine lv_iconst (v := (nI 0)) hx hb dX6_columnFor_25 (by decide) ?_
    refine lv_istore_n (lv' := [(3, .int (nI 0)), (2, .int (-9)), (0, .ref (a 0)), (1, .int (nI x))]) hx hb dX6_columnFor_26 rfl hl (by decide) rfl (fun ls hl => ?_)
    refine lv_iload_n hx hb dX6_columnFor_27 rfl (lv_at hl 3 rfl) ?_
    refine lv_iconst (v := (nI 3)) hx hb dX6_columnFor_28 (by decide) ?_
    refine n_icmp_ne (a := x) (b := 3) (tgt := 64) hx hb (by omega) (by decide) dX6_columnFor_29 (by decide) (fun c29 => ?_) (fun c29 => ?_)
    · refine lv_iload_n hx hb dX6_columnFor_64 rfl (lv_at hl 1 rfl) ?_
      refine lv_bipush (v := (-9)) hx hb dX6_columnFor_65 (by decide) ?_
      refine lv_icmp_eq (x := (-9)) (y := (-9)) (tgt := 139) hx hb dX6_columnFor_67 (by decide) (fun c67 => ?_) (fun c67 => absurd c67 (by decide))
      refine lv_iload_n hx hb dX6_columnFor_139 rfl (lv_at hl 0 rfl) ?_
      refine n_if_eq (a := 0) (tgt := 159) hx hb (by decide) dX6_columnFor_140 (by decide) (fun c140 => ?_) (fun c140 => absurd c140 (by decide))
      refine lv_iconst (v := (nI 0)) hx hb dX6_columnFor_159 (by decide) ?_
      refine lv_istore (lv' := [(4, .int (nI 0)), (3, .int (nI 0)), (2, .int (-9)), (0, .ref (a 0)), (1, .int (nI x))]) hx hb dX6_columnFor_160 hl (by decide) rfl (fun ls hl => ?_)
      refine lv_aload_n hx hb dX6_columnFor_162 rfl (lv_at hl 3 rfl) ?_
      refine va_get (D := G) (ci := 6) (v := .int (nI (nL S))) (C := RX6) (T := TX6) (N := 25) hx hb hts hin6 hown hK hP 0 rfl rfl 16 (by decide) (hts (Cond.fieldLink RX6 92 "IndentRulesModel" "last" "I") (List.mem_of_getElem? (i := 5) rfl)) (fun _ h9 => h9) rfl dX6_columnFor_163 ?_
      refine lv_iconst (v := (nI 1)) hx hb dX6_columnFor_166 (by decide) ?_
      refine n_icmp_eq (a := (nL S)) (b := 1) (tgt := 187) hx hb (by omega) (by decide) dX6_columnFor_167 (by decide) (fun c167 => ?_) (fun c167 => ?_)
      · refine lv_iconst (v := (nI 1)) hx hb dX6_columnFor_187 (by decide) ?_
        refine lv_goto (tgt := 192) hx hb dX6_columnFor_188 (by decide) ?_
        refine lv_istore (lv' := [(5, .int (nI 1)), (4, .int (nI 0)), (3, .int (nI 0)), (2, .int (-9)), (0, .ref (a 0)), (1, .int (nI x))]) hx hb dX6_columnFor_192 hl (by decide) rfl (fun ls hl => ?_)
        refine lv_iload hx hb dX6_columnFor_194 (lv_at hl 0 rfl) ?_
        refine n_if_eq (a := 1) (tgt := 211) hx hb (by decide) dX6_columnFor_196 (by decide) (fun c196 => absurd c196 (by decide)) (fun c196 => ?_)
        refine lv_iload hx hb dX6_columnFor_199 (lv_at hl 1 rfl) ?_
        refine lv_aload_n hx hb dX6_columnFor_201 rfl (lv_at hl 4 rfl) ?_
        refine va_get (D := G) (ci := 6) (v := .ref (a 17)) (C := RX6) (T := TX6) (N := 25) hx hb hts hin6 hown hK hP 0 rfl rfl 17 (by decide) (hts (Cond.fieldLink RX6 49 "IndentRulesModel" "by" "[I") (List.mem_of_getElem? (i := 3) rfl)) (fun _ h9 => h9) rfl dX6_columnFor_202 ?_
        refine lv_iconst (v := (nI 1)) hx hb dX6_columnFor_205 (by decide) ?_
        refine k_iald (D := G) (tys := TYS E) (j := 1) (f := bys) (n := 4) hx hb hK hP 14 0 rfl rfl (by decide) (by decide) dX6_columnFor_206 ?_
        refine lv_iadd hx hb dX6_columnFor_207 ?_
        refine lv_topi (fun v207 ev207 => ?_)
        refine lv_goto (tgt := 234) hx hb dX6_columnFor_208 (by decide) ?_
        exact W.iret (v := v207) hx hb hr (fun tZ htZ hWZ => ⟨_, rfl, by rw [htop, cvt_0]; simp [gO, add_n0, c8, c29, c67, c140, c167, c196, ev207], htZ⟩) (fun _ h => by cases h) dX6_columnFor_234
      · refine lv_aload_n hx hb dX6_columnFor_170 rfl (lv_at hl 3 rfl) ?_
        refine va_get (D := G) (ci := 6) (v := .int (nI (nL S))) (C := RX6) (T := TX6) (N := 25) hx hb hts hin6 hown hK hP 0 rfl rfl 16 (by decide) (hts (Cond.fieldLink RX6 92 "IndentRulesModel" "last" "I") (List.mem_of_getElem? (i := 5) rfl)) (fun _ h9 => h9) rfl dX6_columnFor_171 ?_
        refine lv_iconst (v := (nI 5)) hx hb dX6_columnFor_174 (by decide) ?_
        refine n_icmp_eq (a := (nL S)) (b := 5) (tgt := 187) hx hb (by omega) (by decide) dX6_columnFor_175 (by decide) (fun c175 => ?_) (fun c175 => ?_)
        · refine lv_iconst (v := (nI 1)) hx hb dX6_columnFor_187 (by decide) ?_
          refine lv_goto (tgt := 192) hx hb dX6_columnFor_188 (by decide) ?_
          refine lv_istore (lv' := [(5, .int (nI 1)), (4, .int (nI 0)), (3, .int (nI 0)), (2, .int (-9)), (0, .ref (a 0)), (1, .int (nI x))]) hx hb dX6_columnFor_192 hl (by decide) rfl (fun ls hl => ?_)
          refine lv_iload hx hb dX6_columnFor_194 (lv_at hl 0 rfl) ?_
          refine n_if_eq (a := 1) (tgt := 211) hx hb (by decide) dX6_columnFor_196 (by decide) (fun c196 => absurd c196 (by decide)) (fun c196 => ?_)
          refine lv_iload hx hb dX6_columnFor_199 (lv_at hl 1 rfl) ?_
          refine lv_aload_n hx hb dX6_columnFor_201 rfl (lv_at hl 4 rfl) ?_
          refine va_get (D := G) (ci := 6) (v := .ref (a 17)) (C := RX6) (T := TX6) (N := 25) hx hb hts hin6 hown hK hP 0 rfl rfl 17 (by decide) (hts (Cond.fieldLink RX6 49 "IndentRulesModel" "by" "[I") (List.mem_of_getElem? (i := 3) rfl)) (fun _ h9 => h9) rfl dX6_columnFor_202 ?_
          refine lv_iconst (v := (nI 1)) hx hb dX6_columnFor_205 (by decide) ?_
          refine k_iald (D := G) (tys := TYS E) (j := 1) (f := bys) (n := 4) hx hb hK hP 14 0 rfl rfl (by decide) (by decide) dX6_columnFor_206 ?_
          refine lv_iadd hx hb dX6_columnFor_207 ?_
          refine lv_topi (fun v207 ev207 => ?_)
          refine lv_goto (tgt := 234) hx hb dX6_columnFor_208 (by decide) ?_
          exact W.iret (v := v207) hx hb hr (fun tZ htZ hWZ => ⟨_, rfl, by rw [htop, cvt_0]; simp [gO, add_n0, c8, c29, c67, c140, c167, c175, c196, ev207], htZ⟩) (fun _ h => by cases h) dX6_columnFor_234
        · refine lv_aload_n hx hb dX6_columnFor_178 rfl (lv_at hl 3 rfl) ?_
          refine va_get (D := G) (ci := 6) (v := .int (nI (nL S))) (C := RX6) (T := TX6) (N := 25) hx hb hts hin6 hown hK hP 0 rfl rfl 16 (by decide) (hts (Cond.fieldLink RX6 92 "IndentRulesModel" "last" "I") (List.mem_of_getElem? (i := 5) rfl)) (fun _ h9 => h9) rfl dX6_columnFor_179 ?_
          refine lv_bipush (v := (nI 6)) hx hb dX6_columnFor_182 (by decide) ?_
          refine n_icmp_ne (a := (nL S)) (b := 6) (tgt := 191) hx hb (by omega) (by decide) dX6_columnFor_184 (by decide) (fun c184 => ?_) (fun c184 => ?_)
          · refine lv_iconst (v := (nI 0)) hx hb dX6_columnFor_191 (by decide) ?_
            refine lv_istore (lv' := [(5, .int (nI 0)), (4, .int (nI 0)), (3, .int (nI 0)), (2, .int (-9)), (0, .ref (a 0)), (1, .int (nI x))]) hx hb dX6_columnFor_192 hl (by decide) rfl (fun ls hl => ?_)
            refine lv_iload hx hb dX6_columnFor_194 (lv_at hl 0 rfl) ?_
            refine n_if_eq (a := 0) (tgt := 211) hx hb (by decide) dX6_columnFor_196 (by decide) (fun c196 => ?_) (fun c196 => absurd c196 (by decide))
            refine lv_aload_n hx hb dX6_columnFor_211 rfl (lv_at hl 4 rfl) ?_
            refine va_get (D := G) (ci := 6) (v := .int (nI (nL S))) (C := RX6) (T := TX6) (N := 25) hx hb hts hin6 hown hK hP 0 rfl rfl 16 (by decide) (hts (Cond.fieldLink RX6 92 "IndentRulesModel" "last" "I") (List.mem_of_getElem? (i := 5) rfl)) (fun _ h9 => h9) rfl dX6_columnFor_212 ?_
            refine lv_bipush (v := (nI 7)) hx hb dX6_columnFor_215 (by decide) ?_
            refine n_icmp_ne (a := (nL S)) (b := 7) (tgt := 232) hx hb (by omega) (by decide) dX6_columnFor_217 (by decide) (fun c217 => ?_) (fun c217 => ?_)
            · refine lv_iload hx hb dX6_columnFor_232 (lv_at hl 1 rfl) ?_
              exact W.iret (v := (nI 0)) hx hb hr (fun tZ htZ hWZ => ⟨_, rfl, by rw [htop, cvt_0]; simp [gO, add_n0, c8, c29, c67, c140, c167, c175, c184, c196, c217], htZ⟩) (fun _ h => by cases h) dX6_columnFor_234
            · refine lv_iload hx hb dX6_columnFor_220 (lv_at hl 1 rfl) ?_
              refine lv_aload_n hx hb dX6_columnFor_222 rfl (lv_at hl 4 rfl) ?_
              refine va_get (D := G) (ci := 6) (v := .ref (a 17)) (C := RX6) (T := TX6) (N := 25) hx hb hts hin6 hown hK hP 0 rfl rfl 17 (by decide) (hts (Cond.fieldLink RX6 49 "IndentRulesModel" "by" "[I") (List.mem_of_getElem? (i := 3) rfl)) (fun _ h9 => h9) rfl dX6_columnFor_223 ?_
              refine lv_iconst (v := (nI 0)) hx hb dX6_columnFor_226 (by decide) ?_
              refine k_iald (D := G) (tys := TYS E) (j := 0) (f := bys) (n := 4) hx hb hK hP 14 0 rfl rfl (by decide) (by decide) dX6_columnFor_227 ?_
              refine lv_iadd hx hb dX6_columnFor_228 ?_
              refine lv_topi (fun v228 ev228 => ?_)
              refine lv_goto (tgt := 234) hx hb dX6_columnFor_229 (by decide) ?_
              exact W.iret (v := v228) hx hb hr (fun tZ htZ hWZ => ⟨_, rfl, by rw [htop, cvt_0]; simp [gO, add_n0, c8, c29, c67, c140, c167, c175, c184, c196, c217, ev228], htZ⟩) (fun _ h => by cases h) dX6_columnFor_234
          · refine lv_iconst (v := (nI 1)) hx hb dX6_columnFor_187 (by decide) ?_
            refine lv_goto (tgt := 192) hx hb dX6_columnFor_188 (by decide) ?_
            refine lv_istore (lv' := [(5, .int (nI 1)), (4, .int (nI 0)), (3, .int (nI 0)), (2, .int (-9)), (0, .ref (a 0)), (1, .int (nI x))]) hx hb dX6_columnFor_192 hl (by decide) rfl (fun ls hl => ?_)
            refine lv_iload hx hb dX6_columnFor_194 (lv_at hl 0 rfl) ?_
            refine n_if_eq (a := 1) (tgt := 211) hx hb (by decide) dX6_columnFor_196 (by decide) (fun c196 => absurd c196 (by decide)) (fun c196 => ?_)
            refine lv_iload hx hb dX6_columnFor_199 (lv_at hl 1 rfl) ?_
            refine lv_aload_n hx hb dX6_columnFor_201 rfl (lv_at hl 4 rfl) ?_
            refine va_get (D := G) (ci := 6) (v := .ref (a 17)) (C := RX6) (T := TX6) (N := 25) hx hb hts hin6 hown hK hP 0 rfl rfl 17 (by decide) (hts (Cond.fieldLink RX6 49 "IndentRulesModel" "by" "[I") (List.mem_of_getElem? (i := 3) rfl)) (fun _ h9 => h9) rfl dX6_columnFor_202 ?_
            refine lv_iconst (v := (nI 1)) hx hb dX6_columnFor_205 (by decide) ?_
            refine k_iald (D := G) (tys := TYS E) (j := 1) (f := bys) (n := 4) hx hb hK hP 14 0 rfl rfl (by decide) (by decide) dX6_columnFor_206 ?_
            refine lv_iadd hx hb dX6_columnFor_207 ?_
            refine lv_topi (fun v207 ev207 => ?_)
            refine lv_goto (tgt := 234) hx hb dX6_columnFor_208 (by decide) ?_
            exact W.iret (v := v207) hx hb hr (fun tZ htZ hWZ => ⟨_, rfl, by rw [htop, cvt_0]; simp [gO, add_n0, c8, c29, c67, c140, c167, c175, c184, c196, ev207], htZ⟩) (fun _ h => by cases h) dX6_columnFor_234
    · refine lv_iload_n hx hb dX6_columnFor_32 rfl (lv_at hl 0 rfl) ?_
      refine n_if_eq (a := 0) (tgt := 64) hx hb (by decide) dX6_columnFor_33 (by decide) (fun c33 => ?_) (fun c33 => absurd c33 (by decide))
      refine lv_iload_n hx hb dX6_columnFor_64 rfl (lv_at hl 1 rfl) ?_
      refine lv_bipush (v := (-9)) hx hb dX6_columnFor_65 (by decide) ?_
      refine lv_icmp_eq (x := (-9)) (y := (-9)) (tgt := 139) hx hb dX6_columnFor_67 (by decide) (fun c67 => ?_) (fun c67 => absurd c67 (by decide))
      refine lv_iload_n hx hb dX6_columnFor_139 rfl (lv_at hl 0 rfl) ?_
      refine n_if_eq (a := 0) (tgt := 159) hx hb (by decide) dX6_columnFor_140 (by decide) (fun c140 => ?_) (fun c140 => absurd c140 (by decide))
      refine lv_iconst (v := (nI 0)) hx hb dX6_columnFor_159 (by decide) ?_
      refine lv_istore (lv' := [(4, .int (nI 0)), (3, .int (nI 0)), (2, .int (-9)), (0, .ref (a 0)), (1, .int (nI x))]) hx hb dX6_columnFor_160 hl (by decide) rfl (fun ls hl => ?_)
      refine lv_aload_n hx hb dX6_columnFor_162 rfl (lv_at hl 3 rfl) ?_
      refine va_get (D := G) (ci := 6) (v := .int (nI (nL S))) (C := RX6) (T := TX6) (N := 25) hx hb hts hin6 hown hK hP 0 rfl rfl 16 (by decide) (hts (Cond.fieldLink RX6 92 "IndentRulesModel" "last" "I") (List.mem_of_getElem? (i := 5) rfl)) (fun _ h9 => h9) rfl dX6_columnFor_163 ?_
      refine lv_iconst (v := (nI 1)) hx hb dX6_columnFor_166 (by decide) ?_
      refine n_icmp_eq (a := (nL S)) (b := 1) (tgt := 187) hx hb (by omega) (by decide) dX6_columnFor_167 (by decide) (fun c167 => ?_) (fun c167 => ?_)
      · refine lv_iconst (v := (nI 1)) hx hb dX6_columnFor_187 (by decide) ?_
        refine lv_goto (tgt := 192) hx hb dX6_columnFor_188 (by decide) ?_
        refine lv_istore (lv' := [(5, .int (nI 1)), (4, .int (nI 0)), (3, .int (nI 0)), (2, .int (-9)), (0, .ref (a 0)), (1, .int (nI x))]) hx hb dX6_columnFor_192 hl (by decide) rfl (fun ls hl => ?_)
        refine lv_iload hx hb dX6_columnFor_194 (lv_at hl 0 rfl) ?_
        refine n_if_eq (a := 1) (tgt := 211) hx hb (by decide) dX6_columnFor_196 (by decide) (fun c196 => absurd c196 (by decide)) (fun c196 => ?_)
        refine lv_iload hx hb dX6_columnFor_199 (lv_at hl 1 rfl) ?_
        refine lv_aload_n hx hb dX6_columnFor_201 rfl (lv_at hl 4 rfl) ?_
        refine va_get (D := G) (ci := 6) (v := .ref (a 17)) (C := RX6) (T := TX6) (N := 25) hx hb hts hin6 hown hK hP 0 rfl rfl 17 (by decide) (hts (Cond.fieldLink RX6 49 "IndentRulesModel" "by" "[I") (List.mem_of_getElem? (i := 3) rfl)) (fun _ h9 => h9) rfl dX6_columnFor_202 ?_
        refine lv_iconst (v := (nI 1)) hx hb dX6_columnFor_205 (by decide) ?_
        refine k_iald (D := G) (tys := TYS E) (j := 1) (f := bys) (n := 4) hx hb hK hP 14 0 rfl rfl (by decide) (by decide) dX6_columnFor_206 ?_
        refine lv_iadd hx hb dX6_columnFor_207 ?_
        refine lv_topi (fun v207 ev207 => ?_)
        refine lv_goto (tgt := 234) hx hb dX6_columnFor_208 (by decide) ?_
        exact W.iret (v := v207) hx hb hr (fun tZ htZ hWZ => ⟨_, rfl, by rw [htop, cvt_0]; simp [gO, add_n0, c8, c29, c33, c67, c140, c167, c196, ev207], htZ⟩) (fun _ h => by cases h) dX6_columnFor_234
      · refine lv_aload_n hx hb dX6_columnFor_170 rfl (lv_at hl 3 rfl) ?_
        refine va_get (D := G) (ci := 6) (v := .int (nI (nL S))) (C := RX6) (T := TX6) (N := 25) hx hb hts hin6 hown hK hP 0 rfl rfl 16 (by decide) (hts (Cond.fieldLink RX6 92 "IndentRulesModel" "last" "I") (List.mem_of_getElem? (i := 5) rfl)) (fun _ h9 => h9) rfl dX6_columnFor_171 ?_
        refine lv_iconst (v := (nI 5)) hx hb dX6_columnFor_174 (by decide) ?_
        refine n_icmp_eq (a := (nL S)) (b := 5) (tgt := 187) hx hb (by omega) (by decide) dX6_columnFor_175 (by decide) (fun c175 => ?_) (fun c175 => ?_)
        · refine lv_iconst (v := (nI 1)) hx hb dX6_columnFor_187 (by decide) ?_
          refine lv_goto (tgt := 192) hx hb dX6_columnFor_188 (by decide) ?_
          refine lv_istore (lv' := [(5, .int (nI 1)), (4, .int (nI 0)), (3, .int (nI 0)), (2, .int (-9)), (0, .ref (a 0)), (1, .int (nI x))]) hx hb dX6_columnFor_192 hl (by decide) rfl (fun ls hl => ?_)
          refine lv_iload hx hb dX6_columnFor_194 (lv_at hl 0 rfl) ?_
          refine n_if_eq (a := 1) (tgt := 211) hx hb (by decide) dX6_columnFor_196 (by decide) (fun c196 => absurd c196 (by decide)) (fun c196 => ?_)
          refine lv_iload hx hb dX6_columnFor_199 (lv_at hl 1 rfl) ?_
          refine lv_aload_n hx hb dX6_columnFor_201 rfl (lv_at hl 4 rfl) ?_
          refine va_get (D := G) (ci := 6) (v := .ref (a 17)) (C := RX6) (T := TX6) (N := 25) hx hb hts hin6 hown hK hP 0 rfl rfl 17 (by decide) (hts (Cond.fieldLink RX6 49 "IndentRulesModel" "by" "[I") (List.mem_of_getElem? (i := 3) rfl)) (fun _ h9 => h9) rfl dX6_columnFor_202 ?_
          refine lv_iconst (v := (nI 1)) hx hb dX6_columnFor_205 (by decide) ?_
          refine k_iald (D := G) (tys := TYS E) (j := 1) (f := bys) (n := 4) hx hb hK hP 14 0 rfl rfl (by decide) (by decide) dX6_columnFor_206 ?_
          refine lv_iadd hx hb dX6_columnFor_207 ?_
          refine lv_topi (fun v207 ev207 => ?_)
          refine lv_goto (tgt := 234) hx hb dX6_columnFor_208 (by decide) ?_
          exact W.iret (v := v207) hx hb hr (fun tZ htZ hWZ => ⟨_, rfl, by rw [htop, cvt_0]; simp [gO, add_n0, c8, c29, c33, c67, c140, c167, c175, c196, ev207], htZ⟩) (fun _ h => by cases h) dX6_columnFor_234
        · refine lv_aload_n hx hb dX6_columnFor_178 rfl (lv_at hl 3 rfl) ?_
          refine va_get (D := G) (ci := 6) (v := .int (nI (nL S))) (C := RX6) (T := TX6) (N := 25) hx hb hts hin6 hown hK hP 0 rfl rfl 16 (by decide) (hts (Cond.fieldLink RX6 92 "IndentRulesModel" "last" "I") (List.mem_of_getElem? (i := 5) rfl)) (fun _ h9 => h9) rfl dX6_columnFor_179 ?_
          refine lv_bipush (v := (nI 6)) hx hb dX6_columnFor_182 (by decide) ?_
          refine n_icmp_ne (a := (nL S)) (b := 6) (tgt := 191) hx hb (by omega) (by decide) dX6_columnFor_184 (by decide) (fun c184 => ?_) (fun c184 => ?_)
          · refine lv_iconst (v := (nI 0)) hx hb dX6_columnFor_191 (by decide) ?_
            refine lv_istore (lv' := [(5, .int (nI 0)), (4, .int (nI 0)), (3, .int (nI 0)), (2, .int (-9)), (0, .ref (a 0)), (1, .int (nI x))]) hx hb dX6_columnFor_192 hl (by decide) rfl (fun ls hl => ?_)
            refine lv_iload hx hb dX6_columnFor_194 (lv_at hl 0 rfl) ?_
            refine n_if_eq (a := 0) (tgt := 211) hx hb (by decide) dX6_columnFor_196 (by decide) (fun c196 => ?_) (fun c196 => absurd c196 (by decide))
            refine lv_aload_n hx hb dX6_columnFor_211 rfl (lv_at hl 4 rfl) ?_
            refine va_get (D := G) (ci := 6) (v := .int (nI (nL S))) (C := RX6) (T := TX6) (N := 25) hx hb hts hin6 hown hK hP 0 rfl rfl 16 (by decide) (hts (Cond.fieldLink RX6 92 "IndentRulesModel" "last" "I") (List.mem_of_getElem? (i := 5) rfl)) (fun _ h9 => h9) rfl dX6_columnFor_212 ?_
            refine lv_bipush (v := (nI 7)) hx hb dX6_columnFor_215 (by decide) ?_
            refine n_icmp_ne (a := (nL S)) (b := 7) (tgt := 232) hx hb (by omega) (by decide) dX6_columnFor_217 (by decide) (fun c217 => ?_) (fun c217 => ?_)
            · refine lv_iload hx hb dX6_columnFor_232 (lv_at hl 1 rfl) ?_
              exact W.iret (v := (nI 0)) hx hb hr (fun tZ htZ hWZ => ⟨_, rfl, by rw [htop, cvt_0]; simp [gO, add_n0, c8, c29, c33, c67, c140, c167, c175, c184, c196, c217], htZ⟩) (fun _ h => by cases h) dX6_columnFor_234
            · refine lv_iload hx hb dX6_columnFor_220 (lv_at hl 1 rfl) ?_
              refine lv_aload_n hx hb dX6_columnFor_222 rfl (lv_at hl 4 rfl) ?_
              refine va_get (D := G) (ci := 6) (v := .ref (a 17)) (C := RX6) (T := TX6) (N := 25) hx hb hts hin6 hown hK hP 0 rfl rfl 17 (by decide) (hts (Cond.fieldLink RX6 49 "IndentRulesModel" "by" "[I") (List.mem_of_getElem? (i := 3) rfl)) (fun _ h9 => h9) rfl dX6_columnFor_223 ?_
              refine lv_iconst (v := (nI 0)) hx hb dX6_columnFor_226 (by decide) ?_
              refine k_iald (D := G) (tys := TYS E) (j := 0) (f := bys) (n := 4) hx hb hK hP 14 0 rfl rfl (by decide) (by decide) dX6_columnFor_227 ?_
              refine lv_iadd hx hb dX6_columnFor_228 ?_
              refine lv_topi (fun v228 ev228 => ?_)
              refine lv_goto (tgt := 234) hx hb dX6_columnFor_229 (by decide) ?_
              exact W.iret (v := v228) hx hb hr (fun tZ htZ hWZ => ⟨_, rfl, by rw [htop, cvt_0]; simp [gO, add_n0, c8, c29, c33, c67, c140, c167, c175, c184, c196, c217, ev228], htZ⟩) (fun _ h => by cases h) dX6_columnFor_234
          · refine lv_iconst (v := (nI 1)) hx hb dX6_columnFor_187 (by decide) ?_
            refine lv_goto (tgt := 192) hx hb dX6_columnFor_188 (by decide) ?_
            refine lv_istore (lv' := [(5, .int (nI 1)), (4, .int (nI 0)), (3, .int (nI 0)), (2, .int (-9)), (0, .ref (a 0)), (1, .int (nI x))]) hx hb dX6_columnFor_192 hl (by decide) rfl (fun ls hl => ?_)
            refine lv_iload hx hb dX6_columnFor_194 (lv_at hl 0 rfl) ?_
            refine n_if_eq (a := 1) (tgt := 211) hx hb (by decide) dX6_columnFor_196 (by decide) (fun c196 => absurd c196 (by decide)) (fun c196 => ?_)
            refine lv_iload hx hb dX6_columnFor_199 (lv_at hl 1 rfl) ?_
            refine lv_aload_n hx hb dX6_columnFor_201 rfl (lv_at hl 4 rfl) ?_
            refine va_get (D := G) (ci := 6) (v := .ref (a 17)) (C := RX6) (T := TX6) (N := 25) hx hb hts hin6 hown hK hP 0 rfl rfl 17 (by decide) (hts (Cond.fieldLink RX6 49 "IndentRulesModel" "by" "[I") (List.mem_of_getElem? (i := 3) rfl)) (fun _ h9 => h9) rfl dX6_columnFor_202 ?_
            refine lv_iconst (v := (nI 1)) hx hb dX6_columnFor_205 (by decide) ?_
            refine k_iald (D := G) (tys := TYS E) (j := 1) (f := bys) (n := 4) hx hb hK hP 14 0 rfl rfl (by decide) (by decide) dX6_columnFor_206 ?_
            refine lv_iadd hx hb dX6_columnFor_207 ?_
            refine lv_topi (fun v207 ev207 => ?_)
            refine lv_goto (tgt := 234) hx hb dX6_columnFor_208 (by decide) ?_
            exact W.iret (v := v207) hx hb hr (fun tZ htZ hWZ => ⟨_, rfl, by rw [htop, cvt_0]; simp [gO, add_n0, c8, c29, c33, c67, c140, c167, c175, c184, c196, ev207], htZ⟩) (fun _ h => by cases h) dX6_columnFor_234
  · obtain ⟨c0, hc0⟩ : ∃ z, z = nF S 6 (nD S - 1) := ⟨_, rfl⟩
    have hst : stk (nD S - 1) = nI c0 := by rw [hRR.2.2 (nD S - 1) (by omega), hc0]
    have hclt : c0 < nO S := by rw [hc0]; exact hwf.2.2.1 _ (by omega)
    have hop : nO S ≤ 180 := Nat.le_trans hwf.2.1 hbb
    obtain ⟨q1, q2, q3, q4, q5, q6⟩ := hRR.1 c0 hclt
    have hso := (hwf.2.2.2.1 c0 hclt).2
    have htop : topN S = c0 + 1 := by unfold topN; rw [if_neg (by omega), hc0]
    rw [hst]
    refine lv_istore_n (lv' := [(2, .int (nI c0)), (0, .ref (a 0)), (1, .int (nI x))]) hx hb dX6_columnFor_4 rfl hl (by decide) rfl (fun ls hl => ?_)
    refine lv_iload_n hx hb dX6_columnFor_5 rfl (lv_at hl 0 rfl) ?_
    refine lv_bipush (v := (-9)) hx hb dX6_columnFor_6 (by decide) ?_
    refine lv_icmp_eq (x := (nI c0)) (y := (-9)) (tgt := 25) hx hb dX6_columnFor_8 (by decide) (fun c8 => absurd c8 (k_nneg (by decide) (by omega))) (fun c8 => ?_)
    refine lv_aload_n hx hb dX6_columnFor_11 rfl (lv_at hl 1 rfl) ?_
    refine va_get (D := G) (ci := 6) (v := .ref (a 9)) (C := RX6) (T := TX6) (N := 25) hx hb hts hin6 hown hK hP 0 rfl rfl 9 (by decide) (hts (Cond.fieldLink RX6 31 "IndentRulesModel" "kindOf" "[I") (List.mem_of_getElem? (i := 1) rfl)) (fun _ h9 => h9) rfl dX6_columnFor_12 ?_
    refine lv_iload_n hx hb dX6_columnFor_15 rfl (lv_at hl 0 rfl) ?_
    refine k_iald (D := G) (tys := TYS E) (j := c0) (f := kindO) (n := 180) hx hb hK hP 8 0 rfl rfl (by omega) (by decide) dX6_columnFor_16 ?_
    rw [q5]
    refine lv_iconst (v := (nI 1)) hx hb dX6_columnFor_17 (by decide) ?_
    refine n_icmp_ne (a := (kd (bys 2) (nF S) c0)) (b := 1) (tgt := 25) hx hb (Nat.lt_of_lt_of_le (kd_lt _ _ _) (by decide)) (by decide) dX6_columnFor_18 (by decide) (fun c18 => ?_) (fun c18 => ?_)
    · have hF : nF S 0 c0 = 4 := hso.resolve_left (fun q => c18 (kd_1.mpr q))
      refine lv_iconst (v := (nI 0)) hx hb dX6_columnFor_25 (by decide) ?_
      refine lv_istore_n (lv' := [(3, .int (nI 0)), (2, .int (nI c0)), (0, .ref (a 0)), (1, .int (nI x))]) hx hb dX6_columnFor_26 rfl hl (by decide) rfl (fun ls hl => ?_)
      refine lv_iload_n hx hb dX6_columnFor_27 rfl (lv_at hl 3 rfl) ?_
      refine lv_iconst (v := (nI 3)) hx hb dX6_columnFor_28 (by decide) ?_
      refine n_icmp_ne (a := x) (b := 3) (tgt := 64) hx hb (by omega) (by decide) dX6_columnFor_29 (by decide) (fun c29 => ?_) (fun c29 => ?_)
      · refine lv_iload_n hx hb dX6_columnFor_64 rfl (lv_at hl 1 rfl) ?_
        refine lv_bipush (v := (-9)) hx hb dX6_columnFor_65 (by decide) ?_
        refine lv_icmp_eq (x := (nI c0)) (y := (-9)) (tgt := 139) hx hb dX6_columnFor_67 (by decide) (fun c67 => absurd c67 (k_nneg (by decide) (by omega))) (fun c67 => ?_)
        refine lv_iload_n hx hb dX6_columnFor_70 rfl (lv_at hl 0 rfl) ?_
        refine n_if_ne (a := 0) (tgt := 139) hx hb (by decide) dX6_columnFor_71 (by decide) (fun c71 => absurd c71 (by decide)) (fun c71 => ?_)
        refine lv_iload_n hx hb dX6_columnFor_74 rfl (lv_at hl 3 rfl) ?_
        refine lv_iconst (v := (nI 5)) hx hb dX6_columnFor_75 (by decide) ?_
        refine n_icmp_ne (a := x) (b := 5) (tgt := 83) hx hb (by omega) (by decide) dX6_columnFor_76 (by decide) (fun c76 => ?_) (fun c76 => ?_)
        · refine lv_iconst (v := (nI 0)) hx hb dX6_columnFor_83 (by decide) ?_
          refine lv_istore (lv' := [(4, .int (nI 0)), (3, .int (nI 0)), (2, .int (nI c0)), (0, .ref (a 0)), (1, .int (nI x))]) hx hb dX6_columnFor_84 hl (by decide) rfl (fun ls hl => ?_)
          refine lv_aload_n hx hb dX6_columnFor_86 rfl (lv_at hl 3 rfl) ?_
          refine va_get (D := G) (ci := 6) (v := .ref (a 9)) (C := RX6) (T := TX6) (N := 25) hx hb hts hin6 hown hK hP 0 rfl rfl 9 (by decide) (hts (Cond.fieldLink RX6 31 "IndentRulesModel" "kindOf" "[I") (List.mem_of_getElem? (i := 1) rfl)) (fun _ h9 => h9) rfl dX6_columnFor_87 ?_
          refine lv_iload_n hx hb dX6_columnFor_90 rfl (lv_at hl 2 rfl) ?_
          refine k_iald (D := G) (tys := TYS E) (j := c0) (f := kindO) (n := 180) hx hb hK hP 8 0 rfl rfl (by omega) (by decide) dX6_columnFor_91 ?_
          rw [q5]
          refine lv_iconst (v := (nI 3)) hx hb dX6_columnFor_92 (by decide) ?_
          refine n_icmp_ne (a := (kd (bys 2) (nF S) c0)) (b := 3) (tgt := 116) hx hb (Nat.lt_of_lt_of_le (kd_lt _ _ _) (by decide)) (by decide) dX6_columnFor_93 (by decide) (fun c93 => ?_) (fun c93 => ?_)
          · have hAl : ¬ (bys 2 = nI 1 ∧ nF S 4 c0 = 1) := fun q => c93 ((kd_3 hF).mpr q)
            refine lv_aload_n hx hb dX6_columnFor_116 rfl (lv_at hl 3 rfl) ?_
            refine va_get (D := G) (ci := 6) (v := .ref (a 8)) (C := RX6) (T := TX6) (N := 25) hx hb hts hin6 hown hK hP 0 rfl rfl 8 (by decide) (hts (Cond.fieldLink RX6 28 "IndentRulesModel" "baseOf" "[I") (List.mem_of_getElem? (i := 2) rfl)) (fun _ h9 => h9) rfl dX6_columnFor_117 ?_
            refine lv_iload_n hx hb dX6_columnFor_120 rfl (lv_at hl 2 rfl) ?_
            refine k_iald (D := G) (tys := TYS E) (j := c0) (f := baseO) (n := 180) hx hb hK hP 7 0 rfl rfl (by omega) (by decide) dX6_columnFor_121 ?_
            rw [q4]
            refine lv_iload hx hb dX6_columnFor_122 (lv_at hl 0 rfl) ?_
            refine n_if_eq (a := 0) (tgt := 131) hx hb (by decide) dX6_columnFor_124 (by decide) (fun c124 => ?_) (fun c124 => absurd c124 (by decide))
            refine lv_aload_n hx hb dX6_columnFor_131 rfl (lv_at hl 3 rfl) ?_
            refine va_get (D := G) (ci := 6) (v := .ref (a 17)) (C := RX6) (T := TX6) (N := 25) hx hb hts hin6 hown hK hP 0 rfl rfl 17 (by decide) (hts (Cond.fieldLink RX6 49 "IndentRulesModel" "by" "[I") (List.mem_of_getElem? (i := 3) rfl)) (fun _ h9 => h9) rfl dX6_columnFor_132 ?_
            refine lv_iconst (v := (nI 1)) hx hb dX6_columnFor_135 (by decide) ?_
            refine k_iald (D := G) (tys := TYS E) (j := 1) (f := bys) (n := 4) hx hb hK hP 14 0 rfl rfl (by decide) (by decide) dX6_columnFor_136 ?_
            refine lv_iadd hx hb dX6_columnFor_137 ?_
            refine lv_topi (fun v137 ev137 => ?_)
            exact W.iret (v := v137) hx hb hr (fun tZ htZ hWZ => ⟨_, rfl, by first | (exfalso; omega) | (rw [htop, cvt_s]; simp [cvB, gO, add_n0, hF, hAl, c8, c18, c29, c67, c71, c76, c93, c124, ev137]), htZ⟩) (fun _ h => by cases h) dX6_columnFor_138
          · have hAl : bys 2 = nI 1 ∧ nF S 4 c0 = 1 := (kd_3 hF).mp c93
            refine lv_aload_n hx hb dX6_columnFor_96 rfl (lv_at hl 3 rfl) ?_
            refine va_get (D := G) (ci := 6) (v := .ref (a 7)) (C := RX6) (T := TX6) (N := 25) hx hb hts hin6 hown hK hP 0 rfl rfl 7 (by decide) (hts (Cond.fieldLink RX6 25 "IndentRulesModel" "atOf" "[I") (List.mem_of_getElem? (i := 4) rfl)) (fun _ h9 => h9) rfl dX6_columnFor_97 ?_
            refine lv_iload_n hx hb dX6_columnFor_100 rfl (lv_at hl 2 rfl) ?_
            refine k_iald (D := G) (tys := TYS E) (j := c0) (f := atO) (n := 180) hx hb hK hP 6 0 rfl rfl (by omega) (by decide) dX6_columnFor_101 ?_
            rw [q3]
            refine lv_iload hx hb dX6_columnFor_102 (lv_at hl 0 rfl) ?_
            refine n_if_eq (a := 0) (tgt := 111) hx hb (by decide) dX6_columnFor_104 (by decide) (fun c104 => ?_) (fun c104 => absurd c104 (by decide))
            refine lv_iconst (v := (nI 1)) hx hb dX6_columnFor_111 (by decide) ?_
            refine lv_iadd hx hb dX6_columnFor_112 ?_
            refine lv_topi (fun v112 ev112 => ?_)
            refine lv_goto (tgt := 138) hx hb dX6_columnFor_113 (by decide) ?_
            exact W.iret (v := v112) hx hb hr (fun tZ htZ hWZ => ⟨_, rfl, by first | (exfalso; omega) | (rw [htop, cvt_s]; simp [cvB, gO, add_n0, hF, hAl, c8, c18, c29, c67, c71, c76, c93, c104, ev112]), htZ⟩) (fun _ h => by cases h) dX6_columnFor_138
        · refine lv_iconst (v := (nI 1)) hx hb dX6_columnFor_79 (by decide) ?_
          refine lv_goto (tgt := 84) hx hb dX6_columnFor_80 (by decide) ?_
          refine lv_istore (lv' := [(4, .int (nI 1)), (3, .int (nI 0)), (2, .int (nI c0)), (0, .ref (a 0)), (1, .int (nI x))]) hx hb dX6_columnFor_84 hl (by decide) rfl (fun ls hl => ?_)
          refine lv_aload_n hx hb dX6_columnFor_86 rfl (lv_at hl 3 rfl) ?_
          refine va_get (D := G) (ci := 6) (v := .ref (a 9)) (C := RX6) (T := TX6) (N := 25) hx hb hts hin6 hown hK hP 0 rfl rfl 9 (by decide) (hts (Cond.fieldLink RX6 31 "IndentRulesModel" "kindOf" "[I") (List.mem_of_getElem? (i := 1) rfl)) (fun _ h9 => h9) rfl dX6_columnFor_87 ?_
          refine lv_iload_n hx hb dX6_columnFor_90 rfl (lv_at hl 2 rfl) ?_
          refine k_iald (D := G) (tys := TYS E) (j := c0) (f := kindO) (n := 180) hx hb hK hP 8 0 rfl rfl (by omega) (by decide) dX6_columnFor_91 ?_
          rw [q5]
          refine lv_iconst (v := (nI 3)) hx hb dX6_columnFor_92 (by decide) ?_
          refine n_icmp_ne (a := (kd (bys 2) (nF S) c0)) (b := 3) (tgt := 116) hx hb (Nat.lt_of_lt_of_le (kd_lt _ _ _) (by decide)) (by decide) dX6_columnFor_93 (by decide) (fun c93 => ?_) (fun c93 => ?_)
          · have hAl : ¬ (bys 2 = nI 1 ∧ nF S 4 c0 = 1) := fun q => c93 ((kd_3 hF).mpr q)
            refine lv_aload_n hx hb dX6_columnFor_116 rfl (lv_at hl 3 rfl) ?_
            refine va_get (D := G) (ci := 6) (v := .ref (a 8)) (C := RX6) (T := TX6) (N := 25) hx hb hts hin6 hown hK hP 0 rfl rfl 8 (by decide) (hts (Cond.fieldLink RX6 28 "IndentRulesModel" "baseOf" "[I") (List.mem_of_getElem? (i := 2) rfl)) (fun _ h9 => h9) rfl dX6_columnFor_117 ?_
            refine lv_iload_n hx hb dX6_columnFor_120 rfl (lv_at hl 2 rfl) ?_
            refine k_iald (D := G) (tys := TYS E) (j := c0) (f := baseO) (n := 180) hx hb hK hP 7 0 rfl rfl (by omega) (by decide) dX6_columnFor_121 ?_
            rw [q4]
            refine lv_iload hx hb dX6_columnFor_122 (lv_at hl 0 rfl) ?_
            refine n_if_eq (a := 1) (tgt := 131) hx hb (by decide) dX6_columnFor_124 (by decide) (fun c124 => absurd c124 (by decide)) (fun c124 => ?_)
            refine lv_iconst (v := (nI 0)) hx hb dX6_columnFor_127 (by decide) ?_
            refine lv_goto (tgt := 137) hx hb dX6_columnFor_128 (by decide) ?_
            refine lv_iadd hx hb dX6_columnFor_137 ?_
            refine lv_topi (fun v137 ev137 => ?_)
            exact W.iret (v := v137) hx hb hr (fun tZ htZ hWZ => ⟨_, rfl, by first | (exfalso; omega) | (rw [htop, cvt_s]; simp [cvB, gO, add_n0, hF, hAl, c8, c18, c29, c67, c71, c76, c93, c124, ev137]), htZ⟩) (fun _ h => by cases h) dX6_columnFor_138
          · have hAl : bys 2 = nI 1 ∧ nF S 4 c0 = 1 := (kd_3 hF).mp c93
            refine lv_aload_n hx hb dX6_columnFor_96 rfl (lv_at hl 3 rfl) ?_
            refine va_get (D := G) (ci := 6) (v := .ref (a 7)) (C := RX6) (T := TX6) (N := 25) hx hb hts hin6 hown hK hP 0 rfl rfl 7 (by decide) (hts (Cond.fieldLink RX6 25 "IndentRulesModel" "atOf" "[I") (List.mem_of_getElem? (i := 4) rfl)) (fun _ h9 => h9) rfl dX6_columnFor_97 ?_
            refine lv_iload_n hx hb dX6_columnFor_100 rfl (lv_at hl 2 rfl) ?_
            refine k_iald (D := G) (tys := TYS E) (j := c0) (f := atO) (n := 180) hx hb hK hP 6 0 rfl rfl (by omega) (by decide) dX6_columnFor_101 ?_
            rw [q3]
            refine lv_iload hx hb dX6_columnFor_102 (lv_at hl 0 rfl) ?_
            refine n_if_eq (a := 1) (tgt := 111) hx hb (by decide) dX6_columnFor_104 (by decide) (fun c104 => absurd c104 (by decide)) (fun c104 => ?_)
            refine lv_iconst (v := (nI 0)) hx hb dX6_columnFor_107 (by decide) ?_
            refine lv_goto (tgt := 112) hx hb dX6_columnFor_108 (by decide) ?_
            refine lv_iadd hx hb dX6_columnFor_112 ?_
            refine lv_topi (fun v112 ev112 => ?_)
            refine lv_goto (tgt := 138) hx hb dX6_columnFor_113 (by decide) ?_
            exact W.iret (v := v112) hx hb hr (fun tZ htZ hWZ => ⟨_, rfl, by first | (exfalso; omega) | (rw [htop, cvt_s]; simp [cvB, gO, add_n0, hF, hAl, c8, c18, c29, c67, c71, c76, c93, c104, ev112]), htZ⟩) (fun _ h => by cases h) dX6_columnFor_138
      · refine lv_iload_n hx hb dX6_columnFor_32 rfl (lv_at hl 0 rfl) ?_
        refine n_if_eq (a := 0) (tgt := 64) hx hb (by decide) dX6_columnFor_33 (by decide) (fun c33 => ?_) (fun c33 => absurd c33 (by decide))
        refine lv_iload_n hx hb dX6_columnFor_64 rfl (lv_at hl 1 rfl) ?_
        refine lv_bipush (v := (-9)) hx hb dX6_columnFor_65 (by decide) ?_
        refine lv_icmp_eq (x := (nI c0)) (y := (-9)) (tgt := 139) hx hb dX6_columnFor_67 (by decide) (fun c67 => absurd c67 (k_nneg (by decide) (by omega))) (fun c67 => ?_)
        refine lv_iload_n hx hb dX6_columnFor_70 rfl (lv_at hl 0 rfl) ?_
        refine n_if_ne (a := 0) (tgt := 139) hx hb (by decide) dX6_columnFor_71 (by decide) (fun c71 => absurd c71 (by decide)) (fun c71 => ?_)
        refine lv_iload_n hx hb dX6_columnFor_74 rfl (lv_at hl 3 rfl) ?_
        refine lv_iconst (v := (nI 5)) hx hb dX6_columnFor_75 (by decide) ?_
        refine n_icmp_ne (a := x) (b := 5) (tgt := 83) hx hb (by omega) (by decide) dX6_columnFor_76 (by decide) (fun c76 => ?_) (fun c76 => ?_)
        · refine lv_iconst (v := (nI 0)) hx hb dX6_columnFor_83 (by decide) ?_
          refine lv_istore (lv' := [(4, .int (nI 0)), (3, .int (nI 0)), (2, .int (nI c0)), (0, .ref (a 0)), (1, .int (nI x))]) hx hb dX6_columnFor_84 hl (by decide) rfl (fun ls hl => ?_)
          refine lv_aload_n hx hb dX6_columnFor_86 rfl (lv_at hl 3 rfl) ?_
          refine va_get (D := G) (ci := 6) (v := .ref (a 9)) (C := RX6) (T := TX6) (N := 25) hx hb hts hin6 hown hK hP 0 rfl rfl 9 (by decide) (hts (Cond.fieldLink RX6 31 "IndentRulesModel" "kindOf" "[I") (List.mem_of_getElem? (i := 1) rfl)) (fun _ h9 => h9) rfl dX6_columnFor_87 ?_
          refine lv_iload_n hx hb dX6_columnFor_90 rfl (lv_at hl 2 rfl) ?_
          refine k_iald (D := G) (tys := TYS E) (j := c0) (f := kindO) (n := 180) hx hb hK hP 8 0 rfl rfl (by omega) (by decide) dX6_columnFor_91 ?_
          rw [q5]
          refine lv_iconst (v := (nI 3)) hx hb dX6_columnFor_92 (by decide) ?_
          refine n_icmp_ne (a := (kd (bys 2) (nF S) c0)) (b := 3) (tgt := 116) hx hb (Nat.lt_of_lt_of_le (kd_lt _ _ _) (by decide)) (by decide) dX6_columnFor_93 (by decide) (fun c93 => ?_) (fun c93 => ?_)
          · have hAl : ¬ (bys 2 = nI 1 ∧ nF S 4 c0 = 1) := fun q => c93 ((kd_3 hF).mpr q)
            refine lv_aload_n hx hb dX6_columnFor_116 rfl (lv_at hl 3 rfl) ?_
            refine va_get (D := G) (ci := 6) (v := .ref (a 8)) (C := RX6) (T := TX6) (N := 25) hx hb hts hin6 hown hK hP 0 rfl rfl 8 (by decide) (hts (Cond.fieldLink RX6 28 "IndentRulesModel" "baseOf" "[I") (List.mem_of_getElem? (i := 2) rfl)) (fun _ h9 => h9) rfl dX6_columnFor_117 ?_
            refine lv_iload_n hx hb dX6_columnFor_120 rfl (lv_at hl 2 rfl) ?_
            refine k_iald (D := G) (tys := TYS E) (j := c0) (f := baseO) (n := 180) hx hb hK hP 7 0 rfl rfl (by omega) (by decide) dX6_columnFor_121 ?_
            rw [q4]
            refine lv_iload hx hb dX6_columnFor_122 (lv_at hl 0 rfl) ?_
            refine n_if_eq (a := 0) (tgt := 131) hx hb (by decide) dX6_columnFor_124 (by decide) (fun c124 => ?_) (fun c124 => absurd c124 (by decide))
            refine lv_aload_n hx hb dX6_columnFor_131 rfl (lv_at hl 3 rfl) ?_
            refine va_get (D := G) (ci := 6) (v := .ref (a 17)) (C := RX6) (T := TX6) (N := 25) hx hb hts hin6 hown hK hP 0 rfl rfl 17 (by decide) (hts (Cond.fieldLink RX6 49 "IndentRulesModel" "by" "[I") (List.mem_of_getElem? (i := 3) rfl)) (fun _ h9 => h9) rfl dX6_columnFor_132 ?_
            refine lv_iconst (v := (nI 1)) hx hb dX6_columnFor_135 (by decide) ?_
            refine k_iald (D := G) (tys := TYS E) (j := 1) (f := bys) (n := 4) hx hb hK hP 14 0 rfl rfl (by decide) (by decide) dX6_columnFor_136 ?_
            refine lv_iadd hx hb dX6_columnFor_137 ?_
            refine lv_topi (fun v137 ev137 => ?_)
            exact W.iret (v := v137) hx hb hr (fun tZ htZ hWZ => ⟨_, rfl, by first | (exfalso; omega) | (rw [htop, cvt_s]; simp [cvB, gO, add_n0, hF, hAl, c8, c18, c29, c33, c67, c71, c76, c93, c124, ev137]), htZ⟩) (fun _ h => by cases h) dX6_columnFor_138
          · have hAl : bys 2 = nI 1 ∧ nF S 4 c0 = 1 := (kd_3 hF).mp c93
            refine lv_aload_n hx hb dX6_columnFor_96 rfl (lv_at hl 3 rfl) ?_
            refine va_get (D := G) (ci := 6) (v := .ref (a 7)) (C := RX6) (T := TX6) (N := 25) hx hb hts hin6 hown hK hP 0 rfl rfl 7 (by decide) (hts (Cond.fieldLink RX6 25 "IndentRulesModel" "atOf" "[I") (List.mem_of_getElem? (i := 4) rfl)) (fun _ h9 => h9) rfl dX6_columnFor_97 ?_
            refine lv_iload_n hx hb dX6_columnFor_100 rfl (lv_at hl 2 rfl) ?_
            refine k_iald (D := G) (tys := TYS E) (j := c0) (f := atO) (n := 180) hx hb hK hP 6 0 rfl rfl (by omega) (by decide) dX6_columnFor_101 ?_
            rw [q3]
            refine lv_iload hx hb dX6_columnFor_102 (lv_at hl 0 rfl) ?_
            refine n_if_eq (a := 0) (tgt := 111) hx hb (by decide) dX6_columnFor_104 (by decide) (fun c104 => ?_) (fun c104 => absurd c104 (by decide))
            refine lv_iconst (v := (nI 1)) hx hb dX6_columnFor_111 (by decide) ?_
            refine lv_iadd hx hb dX6_columnFor_112 ?_
            refine lv_topi (fun v112 ev112 => ?_)
            refine lv_goto (tgt := 138) hx hb dX6_columnFor_113 (by decide) ?_
            exact W.iret (v := v112) hx hb hr (fun tZ htZ hWZ => ⟨_, rfl, by first | (exfalso; omega) | (rw [htop, cvt_s]; simp [cvB, gO, add_n0, hF, hAl, c8, c18, c29, c33, c67, c71, c76, c93, c104, ev112]), htZ⟩) (fun _ h => by cases h) dX6_columnFor_138
        · refine lv_iconst (v := (nI 1)) hx hb dX6_columnFor_79 (by decide) ?_
          refine lv_goto (tgt := 84) hx hb dX6_columnFor_80 (by decide) ?_
          refine lv_istore (lv' := [(4, .int (nI 1)), (3, .int (nI 0)), (2, .int (nI c0)), (0, .ref (a 0)), (1, .int (nI x))]) hx hb dX6_columnFor_84 hl (by decide) rfl (fun ls hl => ?_)
          refine lv_aload_n hx hb dX6_columnFor_86 rfl (lv_at hl 3 rfl) ?_
          refine va_get (D := G) (ci := 6) (v := .ref (a 9)) (C := RX6) (T := TX6) (N := 25) hx hb hts hin6 hown hK hP 0 rfl rfl 9 (by decide) (hts (Cond.fieldLink RX6 31 "IndentRulesModel" "kindOf" "[I") (List.mem_of_getElem? (i := 1) rfl)) (fun _ h9 => h9) rfl dX6_columnFor_87 ?_
          refine lv_iload_n hx hb dX6_columnFor_90 rfl (lv_at hl 2 rfl) ?_
          refine k_iald (D := G) (tys := TYS E) (j := c0) (f := kindO) (n := 180) hx hb hK hP 8 0 rfl rfl (by omega) (by decide) dX6_columnFor_91 ?_
          rw [q5]
          refine lv_iconst (v := (nI 3)) hx hb dX6_columnFor_92 (by decide) ?_
          refine n_icmp_ne (a := (kd (bys 2) (nF S) c0)) (b := 3) (tgt := 116) hx hb (Nat.lt_of_lt_of_le (kd_lt _ _ _) (by decide)) (by decide) dX6_columnFor_93 (by decide) (fun c93 => ?_) (fun c93 => ?_)
          · have hAl : ¬ (bys 2 = nI 1 ∧ nF S 4 c0 = 1) := fun q => c93 ((kd_3 hF).mpr q)
            refine lv_aload_n hx hb dX6_columnFor_116 rfl (lv_at hl 3 rfl) ?_
            refine va_get (D := G) (ci := 6) (v := .ref (a 8)) (C := RX6) (T := TX6) (N := 25) hx hb hts hin6 hown hK hP 0 rfl rfl 8 (by decide) (hts (Cond.fieldLink RX6 28 "IndentRulesModel" "baseOf" "[I") (List.mem_of_getElem? (i := 2) rfl)) (fun _ h9 => h9) rfl dX6_columnFor_117 ?_
            refine lv_iload_n hx hb dX6_columnFor_120 rfl (lv_at hl 2 rfl) ?_
            refine k_iald (D := G) (tys := TYS E) (j := c0) (f := baseO) (n := 180) hx hb hK hP 7 0 rfl rfl (by omega) (by decide) dX6_columnFor_121 ?_
            rw [q4]
            refine lv_iload hx hb dX6_columnFor_122 (lv_at hl 0 rfl) ?_
            refine n_if_eq (a := 1) (tgt := 131) hx hb (by decide) dX6_columnFor_124 (by decide) (fun c124 => absurd c124 (by decide)) (fun c124 => ?_)
            refine lv_iconst (v := (nI 0)) hx hb dX6_columnFor_127 (by decide) ?_
            refine lv_goto (tgt := 137) hx hb dX6_columnFor_128 (by decide) ?_
            refine lv_iadd hx hb dX6_columnFor_137 ?_
            refine lv_topi (fun v137 ev137 => ?_)
            exact W.iret (v := v137) hx hb hr (fun tZ htZ hWZ => ⟨_, rfl, by first | (exfalso; omega) | (rw [htop, cvt_s]; simp [cvB, gO, add_n0, hF, hAl, c8, c18, c29, c33, c67, c71, c76, c93, c124, ev137]), htZ⟩) (fun _ h => by cases h) dX6_columnFor_138
          · have hAl : bys 2 = nI 1 ∧ nF S 4 c0 = 1 := (kd_3 hF).mp c93
            refine lv_aload_n hx hb dX6_columnFor_96 rfl (lv_at hl 3 rfl) ?_
            refine va_get (D := G) (ci := 6) (v := .ref (a 7)) (C := RX6) (T := TX6) (N := 25) hx hb hts hin6 hown hK hP 0 rfl rfl 7 (by decide) (hts (Cond.fieldLink RX6 25 "IndentRulesModel" "atOf" "[I") (List.mem_of_getElem? (i := 4) rfl)) (fun _ h9 => h9) rfl dX6_columnFor_97 ?_
            refine lv_iload_n hx hb dX6_columnFor_100 rfl (lv_at hl 2 rfl) ?_
            refine k_iald (D := G) (tys := TYS E) (j := c0) (f := atO) (n := 180) hx hb hK hP 6 0 rfl rfl (by omega) (by decide) dX6_columnFor_101 ?_
            rw [q3]
            refine lv_iload hx hb dX6_columnFor_102 (lv_at hl 0 rfl) ?_
            refine n_if_eq (a := 1) (tgt := 111) hx hb (by decide) dX6_columnFor_104 (by decide) (fun c104 => absurd c104 (by decide)) (fun c104 => ?_)
            refine lv_iconst (v := (nI 0)) hx hb dX6_columnFor_107 (by decide) ?_
            refine lv_goto (tgt := 112) hx hb dX6_columnFor_108 (by decide) ?_
            refine lv_iadd hx hb dX6_columnFor_112 ?_
            refine lv_topi (fun v112 ev112 => ?_)
            refine lv_goto (tgt := 138) hx hb dX6_columnFor_113 (by decide) ?_
            exact W.iret (v := v112) hx hb hr (fun tZ htZ hWZ => ⟨_, rfl, by first | (exfalso; omega) | (rw [htop, cvt_s]; simp [cvB, gO, add_n0, hF, hAl, c8, c18, c29, c33, c67, c71, c76, c93, c104, ev112]), htZ⟩) (fun _ h => by cases h) dX6_columnFor_138
    · have hF : nF S 0 c0 = 2 := kd_1.mp c18
      refine lv_iconst (v := (nI 1)) hx hb dX6_columnFor_21 (by decide) ?_
      refine lv_goto (tgt := 26) hx hb dX6_columnFor_22 (by decide) ?_
      refine lv_istore_n (lv' := [(3, .int (nI 1)), (2, .int (nI c0)), (0, .ref (a 0)), (1, .int (nI x))]) hx hb dX6_columnFor_26 rfl hl (by decide) rfl (fun ls hl => ?_)
      refine lv_iload_n hx hb dX6_columnFor_27 rfl (lv_at hl 3 rfl) ?_
      refine lv_iconst (v := (nI 3)) hx hb dX6_columnFor_28 (by decide) ?_
      refine n_icmp_ne (a := x) (b := 3) (tgt := 64) hx hb (by omega) (by decide) dX6_columnFor_29 (by decide) (fun c29 => ?_) (fun c29 => ?_)
      · refine lv_iload_n hx hb dX6_columnFor_64 rfl (lv_at hl 1 rfl) ?_
        refine lv_bipush (v := (-9)) hx hb dX6_columnFor_65 (by decide) ?_
        refine lv_icmp_eq (x := (nI c0)) (y := (-9)) (tgt := 139) hx hb dX6_columnFor_67 (by decide) (fun c67 => absurd c67 (k_nneg (by decide) (by omega))) (fun c67 => ?_)
        refine lv_iload_n hx hb dX6_columnFor_70 rfl (lv_at hl 0 rfl) ?_
        refine n_if_ne (a := 1) (tgt := 139) hx hb (by decide) dX6_columnFor_71 (by decide) (fun c71 => ?_) (fun c71 => absurd c71 (by decide))
        refine lv_iload_n hx hb dX6_columnFor_139 rfl (lv_at hl 0 rfl) ?_
        refine n_if_eq (a := 1) (tgt := 159) hx hb (by decide) dX6_columnFor_140 (by decide) (fun c140 => absurd c140 (by decide)) (fun c140 => ?_)
        refine lv_aload_n hx hb dX6_columnFor_143 rfl (lv_at hl 2 rfl) ?_
        refine va_get (D := G) (ci := 6) (v := .ref (a 8)) (C := RX6) (T := TX6) (N := 25) hx hb hts hin6 hown hK hP 0 rfl rfl 8 (by decide) (hts (Cond.fieldLink RX6 28 "IndentRulesModel" "baseOf" "[I") (List.mem_of_getElem? (i := 2) rfl)) (fun _ h9 => h9) rfl dX6_columnFor_144 ?_
        refine lv_iload_n hx hb dX6_columnFor_147 rfl (lv_at hl 1 rfl) ?_
        refine k_iald (D := G) (tys := TYS E) (j := c0) (f := baseO) (n := 180) hx hb hK hP 7 0 rfl rfl (by omega) (by decide) dX6_columnFor_148 ?_
        rw [q4]
        refine lv_aload_n hx hb dX6_columnFor_149 rfl (lv_at hl 2 rfl) ?_
        refine va_get (D := G) (ci := 6) (v := .ref (a 17)) (C := RX6) (T := TX6) (N := 25) hx hb hts hin6 hown hK hP 0 rfl rfl 17 (by decide) (hts (Cond.fieldLink RX6 49 "IndentRulesModel" "by" "[I") (List.mem_of_getElem? (i := 3) rfl)) (fun _ h9 => h9) rfl dX6_columnFor_150 ?_
        refine lv_iconst (v := (nI 0)) hx hb dX6_columnFor_153 (by decide) ?_
        refine k_iald (D := G) (tys := TYS E) (j := 0) (f := bys) (n := 4) hx hb hK hP 14 0 rfl rfl (by decide) (by decide) dX6_columnFor_154 ?_
        refine lv_iadd hx hb dX6_columnFor_155 ?_
        refine lv_topi (fun v155 ev155 => ?_)
        refine lv_goto (tgt := 160) hx hb dX6_columnFor_156 (by decide) ?_
        refine lv_istore (lv' := [(4, .int v155), (3, .int (nI 1)), (2, .int (nI c0)), (0, .ref (a 0)), (1, .int (nI x))]) hx hb dX6_columnFor_160 hl (by decide) rfl (fun ls hl => ?_)
        refine lv_aload_n hx hb dX6_columnFor_162 rfl (lv_at hl 3 rfl) ?_
        refine va_get (D := G) (ci := 6) (v := .int (nI (nL S))) (C := RX6) (T := TX6) (N := 25) hx hb hts hin6 hown hK hP 0 rfl rfl 16 (by decide) (hts (Cond.fieldLink RX6 92 "IndentRulesModel" "last" "I") (List.mem_of_getElem? (i := 5) rfl)) (fun _ h9 => h9) rfl dX6_columnFor_163 ?_
        refine lv_iconst (v := (nI 1)) hx hb dX6_columnFor_166 (by decide) ?_
        refine n_icmp_eq (a := (nL S)) (b := 1) (tgt := 187) hx hb (by omega) (by decide) dX6_columnFor_167 (by decide) (fun c167 => ?_) (fun c167 => ?_)
        · refine lv_iconst (v := (nI 1)) hx hb dX6_columnFor_187 (by decide) ?_
          refine lv_goto (tgt := 192) hx hb dX6_columnFor_188 (by decide) ?_
          refine lv_istore (lv' := [(5, .int (nI 1)), (4, .int v155), (3, .int (nI 1)), (2, .int (nI c0)), (0, .ref (a 0)), (1, .int (nI x))]) hx hb dX6_columnFor_192 hl (by decide) rfl (fun ls hl => ?_)
          refine lv_iload hx hb dX6_columnFor_194 (lv_at hl 0 rfl) ?_
          refine n_if_eq (a := 1) (tgt := 211) hx hb (by decide) dX6_columnFor_196 (by decide) (fun c196 => absurd c196 (by decide)) (fun c196 => ?_)
          refine lv_iload hx hb dX6_columnFor_199 (lv_at hl 1 rfl) ?_
          refine lv_aload_n hx hb dX6_columnFor_201 rfl (lv_at hl 4 rfl) ?_
          refine va_get (D := G) (ci := 6) (v := .ref (a 17)) (C := RX6) (T := TX6) (N := 25) hx hb hts hin6 hown hK hP 0 rfl rfl 17 (by decide) (hts (Cond.fieldLink RX6 49 "IndentRulesModel" "by" "[I") (List.mem_of_getElem? (i := 3) rfl)) (fun _ h9 => h9) rfl dX6_columnFor_202 ?_
          refine lv_iconst (v := (nI 1)) hx hb dX6_columnFor_205 (by decide) ?_
          refine k_iald (D := G) (tys := TYS E) (j := 1) (f := bys) (n := 4) hx hb hK hP 14 0 rfl rfl (by decide) (by decide) dX6_columnFor_206 ?_
          refine lv_iadd hx hb dX6_columnFor_207 ?_
          refine lv_topi (fun v207 ev207 => ?_)
          refine lv_goto (tgt := 234) hx hb dX6_columnFor_208 (by decide) ?_
          exact W.iret (v := v207) hx hb hr (fun tZ htZ hWZ => ⟨_, rfl, by first | (exfalso; omega) | (rw [htop, cvt_s]; simp [cvB, gO, add_n0, hF, c8, c18, c29, c67, c71, c140, c167, c196, ev155, ev207]), htZ⟩) (fun _ h => by cases h) dX6_columnFor_234
        · refine lv_aload_n hx hb dX6_columnFor_170 rfl (lv_at hl 3 rfl) ?_
          refine va_get (D := G) (ci := 6) (v := .int (nI (nL S))) (C := RX6) (T := TX6) (N := 25) hx hb hts hin6 hown hK hP 0 rfl rfl 16 (by decide) (hts (Cond.fieldLink RX6 92 "IndentRulesModel" "last" "I") (List.mem_of_getElem? (i := 5) rfl)) (fun _ h9 => h9) rfl dX6_columnFor_171 ?_
          refine lv_iconst (v := (nI 5)) hx hb dX6_columnFor_174 (by decide) ?_
          refine n_icmp_eq (a := (nL S)) (b := 5) (tgt := 187) hx hb (by omega) (by decide) dX6_columnFor_175 (by decide) (fun c175 => ?_) (fun c175 => ?_)
          · refine lv_iconst (v := (nI 1)) hx hb dX6_columnFor_187 (by decide) ?_
            refine lv_goto (tgt := 192) hx hb dX6_columnFor_188 (by decide) ?_
            refine lv_istore (lv' := [(5, .int (nI 1)), (4, .int v155), (3, .int (nI 1)), (2, .int (nI c0)), (0, .ref (a 0)), (1, .int (nI x))]) hx hb dX6_columnFor_192 hl (by decide) rfl (fun ls hl => ?_)
            refine lv_iload hx hb dX6_columnFor_194 (lv_at hl 0 rfl) ?_
            refine n_if_eq (a := 1) (tgt := 211) hx hb (by decide) dX6_columnFor_196 (by decide) (fun c196 => absurd c196 (by decide)) (fun c196 => ?_)
            refine lv_iload hx hb dX6_columnFor_199 (lv_at hl 1 rfl) ?_
            refine lv_aload_n hx hb dX6_columnFor_201 rfl (lv_at hl 4 rfl) ?_
            refine va_get (D := G) (ci := 6) (v := .ref (a 17)) (C := RX6) (T := TX6) (N := 25) hx hb hts hin6 hown hK hP 0 rfl rfl 17 (by decide) (hts (Cond.fieldLink RX6 49 "IndentRulesModel" "by" "[I") (List.mem_of_getElem? (i := 3) rfl)) (fun _ h9 => h9) rfl dX6_columnFor_202 ?_
            refine lv_iconst (v := (nI 1)) hx hb dX6_columnFor_205 (by decide) ?_
            refine k_iald (D := G) (tys := TYS E) (j := 1) (f := bys) (n := 4) hx hb hK hP 14 0 rfl rfl (by decide) (by decide) dX6_columnFor_206 ?_
            refine lv_iadd hx hb dX6_columnFor_207 ?_
            refine lv_topi (fun v207 ev207 => ?_)
            refine lv_goto (tgt := 234) hx hb dX6_columnFor_208 (by decide) ?_
            exact W.iret (v := v207) hx hb hr (fun tZ htZ hWZ => ⟨_, rfl, by first | (exfalso; omega) | (rw [htop, cvt_s]; simp [cvB, gO, add_n0, hF, c8, c18, c29, c67, c71, c140, c167, c175, c196, ev155, ev207]), htZ⟩) (fun _ h => by cases h) dX6_columnFor_234
          · refine lv_aload_n hx hb dX6_columnFor_178 rfl (lv_at hl 3 rfl) ?_
            refine va_get (D := G) (ci := 6) (v := .int (nI (nL S))) (C := RX6) (T := TX6) (N := 25) hx hb hts hin6 hown hK hP 0 rfl rfl 16 (by decide) (hts (Cond.fieldLink RX6 92 "IndentRulesModel" "last" "I") (List.mem_of_getElem? (i := 5) rfl)) (fun _ h9 => h9) rfl dX6_columnFor_179 ?_
            refine lv_bipush (v := (nI 6)) hx hb dX6_columnFor_182 (by decide) ?_
            refine n_icmp_ne (a := (nL S)) (b := 6) (tgt := 191) hx hb (by omega) (by decide) dX6_columnFor_184 (by decide) (fun c184 => ?_) (fun c184 => ?_)
            · refine lv_iconst (v := (nI 0)) hx hb dX6_columnFor_191 (by decide) ?_
              refine lv_istore (lv' := [(5, .int (nI 0)), (4, .int v155), (3, .int (nI 1)), (2, .int (nI c0)), (0, .ref (a 0)), (1, .int (nI x))]) hx hb dX6_columnFor_192 hl (by decide) rfl (fun ls hl => ?_)
              refine lv_iload hx hb dX6_columnFor_194 (lv_at hl 0 rfl) ?_
              refine n_if_eq (a := 0) (tgt := 211) hx hb (by decide) dX6_columnFor_196 (by decide) (fun c196 => ?_) (fun c196 => absurd c196 (by decide))
              refine lv_aload_n hx hb dX6_columnFor_211 rfl (lv_at hl 4 rfl) ?_
              refine va_get (D := G) (ci := 6) (v := .int (nI (nL S))) (C := RX6) (T := TX6) (N := 25) hx hb hts hin6 hown hK hP 0 rfl rfl 16 (by decide) (hts (Cond.fieldLink RX6 92 "IndentRulesModel" "last" "I") (List.mem_of_getElem? (i := 5) rfl)) (fun _ h9 => h9) rfl dX6_columnFor_212 ?_
              refine lv_bipush (v := (nI 7)) hx hb dX6_columnFor_215 (by decide) ?_
              refine n_icmp_ne (a := (nL S)) (b := 7) (tgt := 232) hx hb (by omega) (by decide) dX6_columnFor_217 (by decide) (fun c217 => ?_) (fun c217 => ?_)
              · refine lv_iload hx hb dX6_columnFor_232 (lv_at hl 1 rfl) ?_
                exact W.iret (v := v155) hx hb hr (fun tZ htZ hWZ => ⟨_, rfl, by first | (exfalso; omega) | (rw [htop, cvt_s]; simp [cvB, gO, add_n0, hF, c8, c18, c29, c67, c71, c140, c167, c175, c184, c196, c217, ev155]), htZ⟩) (fun _ h => by cases h) dX6_columnFor_234
              · refine lv_iload hx hb dX6_columnFor_220 (lv_at hl 1 rfl) ?_
                refine lv_aload_n hx hb dX6_columnFor_222 rfl (lv_at hl 4 rfl) ?_
                refine va_get (D := G) (ci := 6) (v := .ref (a 17)) (C := RX6) (T := TX6) (N := 25) hx hb hts hin6 hown hK hP 0 rfl rfl 17 (by decide) (hts (Cond.fieldLink RX6 49 "IndentRulesModel" "by" "[I") (List.mem_of_getElem? (i := 3) rfl)) (fun _ h9 => h9) rfl dX6_columnFor_223 ?_
                refine lv_iconst (v := (nI 0)) hx hb dX6_columnFor_226 (by decide) ?_
                refine k_iald (D := G) (tys := TYS E) (j := 0) (f := bys) (n := 4) hx hb hK hP 14 0 rfl rfl (by decide) (by decide) dX6_columnFor_227 ?_
                refine lv_iadd hx hb dX6_columnFor_228 ?_
                refine lv_topi (fun v228 ev228 => ?_)
                refine lv_goto (tgt := 234) hx hb dX6_columnFor_229 (by decide) ?_
                exact W.iret (v := v228) hx hb hr (fun tZ htZ hWZ => ⟨_, rfl, by first | (exfalso; omega) | (rw [htop, cvt_s]; simp [cvB, gO, add_n0, hF, c8, c18, c29, c67, c71, c140, c167, c175, c184, c196, c217, ev155, ev228]), htZ⟩) (fun _ h => by cases h) dX6_columnFor_234
            · refine lv_iconst (v := (nI 1)) hx hb dX6_columnFor_187 (by decide) ?_
              refine lv_goto (tgt := 192) hx hb dX6_columnFor_188 (by decide) ?_
              refine lv_istore (lv' := [(5, .int (nI 1)), (4, .int v155), (3, .int (nI 1)), (2, .int (nI c0)), (0, .ref (a 0)), (1, .int (nI x))]) hx hb dX6_columnFor_192 hl (by decide) rfl (fun ls hl => ?_)
              refine lv_iload hx hb dX6_columnFor_194 (lv_at hl 0 rfl) ?_
              refine n_if_eq (a := 1) (tgt := 211) hx hb (by decide) dX6_columnFor_196 (by decide) (fun c196 => absurd c196 (by decide)) (fun c196 => ?_)
              refine lv_iload hx hb dX6_columnFor_199 (lv_at hl 1 rfl) ?_
              refine lv_aload_n hx hb dX6_columnFor_201 rfl (lv_at hl 4 rfl) ?_
              refine va_get (D := G) (ci := 6) (v := .ref (a 17)) (C := RX6) (T := TX6) (N := 25) hx hb hts hin6 hown hK hP 0 rfl rfl 17 (by decide) (hts (Cond.fieldLink RX6 49 "IndentRulesModel" "by" "[I") (List.mem_of_getElem? (i := 3) rfl)) (fun _ h9 => h9) rfl dX6_columnFor_202 ?_
              refine lv_iconst (v := (nI 1)) hx hb dX6_columnFor_205 (by decide) ?_
              refine k_iald (D := G) (tys := TYS E) (j := 1) (f := bys) (n := 4) hx hb hK hP 14 0 rfl rfl (by decide) (by decide) dX6_columnFor_206 ?_
              refine lv_iadd hx hb dX6_columnFor_207 ?_
              refine lv_topi (fun v207 ev207 => ?_)
              refine lv_goto (tgt := 234) hx hb dX6_columnFor_208 (by decide) ?_
              exact W.iret (v := v207) hx hb hr (fun tZ htZ hWZ => ⟨_, rfl, by first | (exfalso; omega) | (rw [htop, cvt_s]; simp [cvB, gO, add_n0, hF, c8, c18, c29, c67, c71, c140, c167, c175, c184, c196, ev155, ev207]), htZ⟩) (fun _ h => by cases h) dX6_columnFor_234
      · refine lv_iload_n hx hb dX6_columnFor_32 rfl (lv_at hl 0 rfl) ?_
        refine n_if_eq (a := 1) (tgt := 64) hx hb (by decide) dX6_columnFor_33 (by decide) (fun c33 => absurd c33 (by decide)) (fun c33 => ?_)
        refine lv_aload_n hx hb dX6_columnFor_36 rfl (lv_at hl 2 rfl) ?_
        refine va_get (D := G) (ci := 6) (v := .ref (a 8)) (C := RX6) (T := TX6) (N := 25) hx hb hts hin6 hown hK hP 0 rfl rfl 8 (by decide) (hts (Cond.fieldLink RX6 28 "IndentRulesModel" "baseOf" "[I") (List.mem_of_getElem? (i := 2) rfl)) (fun _ h9 => h9) rfl dX6_columnFor_37 ?_
        refine lv_iload_n hx hb dX6_columnFor_40 rfl (lv_at hl 1 rfl) ?_
        refine k_iald (D := G) (tys := TYS E) (j := c0) (f := baseO) (n := 180) hx hb hK hP 7 0 rfl rfl (by omega) (by decide) dX6_columnFor_41 ?_
        rw [q4]
        refine lv_aload_n hx hb dX6_columnFor_42 rfl (lv_at hl 2 rfl) ?_
        refine va_get (D := G) (ci := 6) (v := .ref (a 17)) (C := RX6) (T := TX6) (N := 25) hx hb hts hin6 hown hK hP 0 rfl rfl 17 (by decide) (hts (Cond.fieldLink RX6 49 "IndentRulesModel" "by" "[I") (List.mem_of_getElem? (i := 3) rfl)) (fun _ h9 => h9) rfl dX6_columnFor_43 ?_
        refine lv_iconst (v := (nI 3)) hx hb dX6_columnFor_46 (by decide) ?_
        refine k_iald (D := G) (tys := TYS E) (j := 3) (f := bys) (n := 4) hx hb hK hP 14 0 rfl rfl (by decide) (by decide) dX6_columnFor_47 ?_
        refine lv_iconst (v := (nI 1)) hx hb dX6_columnFor_48 (by decide) ?_
        refine lv_icmp_ne (x := (bys 3)) (y := (nI 1)) (tgt := 61) hx hb dX6_columnFor_49 (by decide) (fun c49 => ?_) (fun c49 => ?_)
        · refine lv_iconst (v := (nI 0)) hx hb dX6_columnFor_61 (by decide) ?_
          refine lv_iadd hx hb dX6_columnFor_62 ?_
          refine lv_topi (fun v62 ev62 => ?_)
          exact W.iret (v := v62) hx hb hr (fun tZ htZ hWZ => ⟨_, rfl, by first | (exfalso; omega) | (rw [htop, cvt_s]; simp [cvB, gO, add_n0, hF, c8, c18, c29, c33, c49, ev62]), htZ⟩) (fun _ h => by cases h) dX6_columnFor_63
        · refine lv_aload_n hx hb dX6_columnFor_52 rfl (lv_at hl 2 rfl) ?_
          refine va_get (D := G) (ci := 6) (v := .ref (a 17)) (C := RX6) (T := TX6) (N := 25) hx hb hts hin6 hown hK hP 0 rfl rfl 17 (by decide) (hts (Cond.fieldLink RX6 49 "IndentRulesModel" "by" "[I") (List.mem_of_getElem? (i := 3) rfl)) (fun _ h9 => h9) rfl dX6_columnFor_53 ?_
          refine lv_iconst (v := (nI 0)) hx hb dX6_columnFor_56 (by decide) ?_
          refine k_iald (D := G) (tys := TYS E) (j := 0) (f := bys) (n := 4) hx hb hK hP 14 0 rfl rfl (by decide) (by decide) dX6_columnFor_57 ?_
          refine lv_goto (tgt := 62) hx hb dX6_columnFor_58 (by decide) ?_
          refine lv_iadd hx hb dX6_columnFor_62 ?_
          refine lv_topi (fun v62 ev62 => ?_)
          exact W.iret (v := v62) hx hb hr (fun tZ htZ hWZ => ⟨_, rfl, by first | (exfalso; omega) | (rw [htop, cvt_s]; simp [cvB, gO, add_n0, hF, c8, c18, c29, c33, c49, ev62]), htZ⟩) (fun _ h => by cases h) dX6_columnFor_63

set_option maxHeartbeats 4000000 in
set_option maxRecDepth 100000 in
theorem c_X6_comes (l : Launch) (G : va_G) (E : cEnv) (a : Nat → Nat) (ln op dp la : Nat) (row seen sty lineO tokO atO baseO kindO partO colO openO strayO stk bys was gsd cellsO sortO kLine kAt kKind : Nat → Int32) (li k : Nat) (x : Int32) (kn : Nat) (hli : li < 20) (ho : op < 180) (hd : dp < 180) (sz : Nat) : Met l yX6_comes wsX6_comes ({ frames := 0, cells := 0, slots := 0, locals := 0 }) (va_Pc [.ref (a 0), .int (nI li), .int (nI k), .int x, .int (nI kn)] (PW G E (rW E a ln op dp la row seen sty lineO tokO atO baseO kindO partO colO openO strayO stk bys was gsd cellsO sortO kLine kAt kKind) sz)) (va_Qv (fun (_ : Unit) => True) (fun (_ : Unit) tQ => va_P G vwCl (rW E a ln (op + 1) (dp + 1) la row seen sty (upd lineO op (nI li)) (upd tokO op (nI k)) (upd atO op x) (upd baseO op (colO li)) (upd kindO op (nI kn)) (upd partO op (-9)) colO openO strayO (upd stk dp (nI op)) bys was gsd cellsO sortO kLine kAt kKind) tQ.heap) (va_A (rW E a ln op dp la row seen sty lineO tokO atO baseO kindO partO colO openO strayO stk bys was gsd cellsO sortO kLine kAt kKind) sz)) 0 0 (va_A (rW E a ln op dp la row seen sty lineO tokO atO baseO kindO partO colO openO strayO stk bys was gsd cellsO sortO kLine kAt kKind) sz) := by
  refine Met.ofW (cc := cX6_comes) (maxL := 5) (ret := none) (by decide) rfl ?_
  intro p e s m args below meth c s₁ B hml hv
  obtain ⟨rfl, hsz, hP, hK, hD0, hZ⟩ := hv
  have hx := B.exec
  have hb := B.bytes
  have hr := B.returns
  have hts := atoms_spec (ws := wsX6_comes) B.pre
  have hown : s.vm.findClass RX6 = some m.cls := findClass_of_methodNamed B.named
  have hlocks := B.notSynchronized
  have hin6 : ∀ w ∈ u_ws RX6 TX6 25, w ∈ wsX6_comes := mem_pl [11, 12, 13, 14, 15, 16, 17, 18, 19, 20, 21, 22, 23, 24, 25, 26, 27, 28, 29, 30, 31, 32, 33, 34, 35] (by rfl)
  subst hsz
  have hD := hD0.self (sz := s.heap.size)
  generalize hAe : va_A (rW E a ln op dp la row seen sty lineO tokO atO baseO kindO partO colO openO strayO stk bys was gsd cellsO sortO kLine kAt kKind) s.heap.size = A at hD hZ ⊢
  have hA : ∀ q : Nat, s.heap.size ≤ q → A q := fun q h => by rw [← hAe]; exact Or.inr h
  have hS : va_S A s.heap s.heap [] := va_S.rf
  have hl := lv_entry ([.ref (a 0), .int (nI li), .int (nI k), .int x, .int (nI kn)]) (n := 5) (Nat.le_of_ble_eq_true rfl)
  rw [lg_entry_eq]
  generalize (lg_sl ([.ref (a 0), .int (nI li), .int (nI k), .int x, .int (nI kn)]) ++ List.replicate (5 - (lg_sl ([.ref (a 0), .int (nI li), .int (nI k), .int x, .int (nI kn)])).length) Slot.unset).toArray = ls at hl ⊢
  have hl : lv_has ls 5 [(0, .ref (a 0)), (1, .int (nI li)), (2, .int (nI k)), (3, .int x), (4, .int (nI kn))] := hl
  refine lv_aload_n hx hb dX6_comes_0 rfl (lv_at hl 0 rfl) ?_
  refine va_get (D := G) (ci := 6) (v := .ref (a 5)) (C := RX6) (T := TX6) (N := 25) hx hb hts hin6 hown hK hP 0 rfl rfl 5 (by decide) (hts (Cond.fieldLink RX6 19 "IndentRulesModel" "lineOf" "[I") (List.mem_of_getElem? (i := 1) rfl)) (fun _ h9 => h9) rfl dX6_comes_1 ?_
  refine lv_aload_n hx hb dX6_comes_4 rfl (lv_at hl 0 rfl) ?_
  refine va_get (D := G) (ci := 6) (v := .int (nI op)) (C := RX6) (T := TX6) (N := 25) hx hb hts hin6 hown hK hP 0 rfl rfl 4 (by decide) (hts (Cond.fieldLink RX6 95 "IndentRulesModel" "openers" "I") (List.mem_of_getElem? (i := 2) rfl)) (fun _ h9 => h9) rfl dX6_comes_5 ?_
  refine lv_iload_n hx hb dX6_comes_8 rfl (lv_at hl 1 rfl) ?_
  refine k_iast (D := G) (tys := TYS E) (j := op) (x := (nI li)) (f := lineO) (n := 180) hx hb hK hP hD hS 4 0 rfl rfl (by omega) (by decide) dX6_comes_9 (fun H locs hP hD hS => ?_)
  have hP : va_P G vwCl (rW E a ln op dp la row seen sty (upd lineO op (nI li)) tokO atO baseO kindO partO colO openO strayO stk bys was gsd cellsO sortO kLine kAt kKind) H := hP
  have hD : va_D A (rW E a ln op dp la row seen sty (upd lineO op (nI li)) tokO atO baseO kindO partO colO openO strayO stk bys was gsd cellsO sortO kLine kAt kKind) := hD
  refine lv_aload_n hx hb dX6_comes_10 rfl (lv_at hl 0 rfl) ?_
  refine va_get (D := G) (ci := 6) (v := .ref (a 6)) (C := RX6) (T := TX6) (N := 25) hx hb hts hin6 hown hK hP 0 rfl rfl 6 (by decide) (hts (Cond.fieldLink RX6 22 "IndentRulesModel" "tokenOf" "[I") (List.mem_of_getElem? (i := 3) rfl)) (fun _ h9 => h9) rfl dX6_comes_11 ?_
  refine lv_aload_n hx hb dX6_comes_14 rfl (lv_at hl 0 rfl) ?_
  refine va_get (D := G) (ci := 6) (v := .int (nI op)) (C := RX6) (T := TX6) (N := 25) hx hb hts hin6 hown hK hP 0 rfl rfl 4 (by decide) (hts (Cond.fieldLink RX6 95 "IndentRulesModel" "openers" "I") (List.mem_of_getElem? (i := 2) rfl)) (fun _ h9 => h9) rfl dX6_comes_15 ?_
  refine lv_iload_n hx hb dX6_comes_18 rfl (lv_at hl 2 rfl) ?_
  refine k_iast (D := G) (tys := TYS E) (j := op) (x := (nI k)) (f := tokO) (n := 180) hx hb hK hP hD hS 5 0 rfl rfl (by omega) (by decide) dX6_comes_19 (fun H locs hP hD hS => ?_)
  have hP : va_P G vwCl (rW E a ln op dp la row seen sty (upd lineO op (nI li)) (upd tokO op (nI k)) atO baseO kindO partO colO openO strayO stk bys was gsd cellsO sortO kLine kAt kKind) H := hP
  have hD : va_D A (rW E a ln op dp la row seen sty (upd lineO op (nI li)) (upd tokO op (nI k)) atO baseO kindO partO colO openO strayO stk bys was gsd cellsO sortO kLine kAt kKind) := hD
  refine lv_aload_n hx hb dX6_comes_20 rfl (lv_at hl 0 rfl) ?_
  refine va_get (D := G) (ci := 6) (v := .ref (a 7)) (C := RX6) (T := TX6) (N := 25) hx hb hts hin6 hown hK hP 0 rfl rfl 7 (by decide) (hts (Cond.fieldLink RX6 25 "IndentRulesModel" "atOf" "[I") (List.mem_of_getElem? (i := 4) rfl)) (fun _ h9 => h9) rfl dX6_comes_21 ?_
  refine lv_aload_n hx hb dX6_comes_24 rfl (lv_at hl 0 rfl) ?_
  refine va_get (D := G) (ci := 6) (v := .int (nI op)) (C := RX6) (T := TX6) (N := 25) hx hb hts hin6 hown hK hP 0 rfl rfl 4 (by decide) (hts (Cond.fieldLink RX6 95 "IndentRulesModel" "openers" "I") (List.mem_of_getElem? (i := 2) rfl)) (fun _ h9 => h9) rfl dX6_comes_25 ?_
  refine lv_iload_n hx hb dX6_comes_28 rfl (lv_at hl 3 rfl) ?_
  refine k_iast (D := G) (tys := TYS E) (j := op) (x := x) (f := atO) (n := 180) hx hb hK hP hD hS 6 0 rfl rfl (by omega) (by decide) dX6_comes_29 (fun H locs hP hD hS => ?_)
  have hP : va_P G vwCl (rW E a ln op dp la row seen sty (upd lineO op (nI li)) (upd tokO op (nI k)) (upd atO op x) baseO kindO partO colO openO strayO stk bys was gsd cellsO sortO kLine kAt kKind) H := hP
  have hD : va_D A (rW E a ln op dp la row seen sty (upd lineO op (nI li)) (upd tokO op (nI k)) (upd atO op x) baseO kindO partO colO openO strayO stk bys was gsd cellsO sortO kLine kAt kKind) := hD
  refine lv_aload_n hx hb dX6_comes_30 rfl (lv_at hl 0 rfl) ?_
  refine va_get (D := G) (ci := 6) (v := .ref (a 8)) (C := RX6) (T := TX6) (N := 25) hx hb hts hin6 hown hK hP 0 rfl rfl 8 (by decide) (hts (Cond.fieldLink RX6 28 "IndentRulesModel" "baseOf" "[I") (List.mem_of_getElem? (i := 5) rfl)) (fun _ h9 => h9) rfl dX6_comes_31 ?_
  refine lv_aload_n hx hb dX6_comes_34 rfl (lv_at hl 0 rfl) ?_
  refine va_get (D := G) (ci := 6) (v := .int (nI op)) (C := RX6) (T := TX6) (N := 25) hx hb hts hin6 hown hK hP 0 rfl rfl 4 (by decide) (hts (Cond.fieldLink RX6 95 "IndentRulesModel" "openers" "I") (List.mem_of_getElem? (i := 2) rfl)) (fun _ h9 => h9) rfl dX6_comes_35 ?_
  refine lv_aload_n hx hb dX6_comes_38 rfl (lv_at hl 0 rfl) ?_
  refine va_get (D := G) (ci := 6) (v := .ref (a 11)) (C := RX6) (T := TX6) (N := 25) hx hb hts hin6 hown hK hP 0 rfl rfl 11 (by decide) (hts (Cond.fieldLink RX6 37 "IndentRulesModel" "columnOf" "[I") (List.mem_of_getElem? (i := 6) rfl)) (fun _ h9 => h9) rfl dX6_comes_39 ?_
  refine lv_iload_n hx hb dX6_comes_42 rfl (lv_at hl 1 rfl) ?_
  refine k_iald (D := G) (tys := TYS E) (j := li) (f := colO) (n := 20) hx hb hK hP 10 0 rfl rfl (by omega) (by decide) dX6_comes_43 ?_
  refine k_iast (D := G) (tys := TYS E) (j := op) (x := (colO li)) (f := baseO) (n := 180) hx hb hK hP hD hS 7 0 rfl rfl (by omega) (by decide) dX6_comes_44 (fun H locs hP hD hS => ?_)
  have hP : va_P G vwCl (rW E a ln op dp la row seen sty (upd lineO op (nI li)) (upd tokO op (nI k)) (upd atO op x) (upd baseO op (colO li)) kindO partO colO openO strayO stk bys was gsd cellsO sortO kLine kAt kKind) H := hP
  have hD : va_D A (rW E a ln op dp la row seen sty (upd lineO op (nI li)) (upd tokO op (nI k)) (upd atO op x) (upd baseO op (colO li)) kindO partO colO openO strayO stk bys was gsd cellsO sortO kLine kAt kKind) := hD
  refine lv_aload_n hx hb dX6_comes_45 rfl (lv_at hl 0 rfl) ?_
  refine va_get (D := G) (ci := 6) (v := .ref (a 9)) (C := RX6) (T := TX6) (N := 25) hx hb hts hin6 hown hK hP 0 rfl rfl 9 (by decide) (hts (Cond.fieldLink RX6 31 "IndentRulesModel" "kindOf" "[I") (List.mem_of_getElem? (i := 7) rfl)) (fun _ h9 => h9) rfl dX6_comes_46 ?_
  refine lv_aload_n hx hb dX6_comes_49 rfl (lv_at hl 0 rfl) ?_
  refine va_get (D := G) (ci := 6) (v := .int (nI op)) (C := RX6) (T := TX6) (N := 25) hx hb hts hin6 hown hK hP 0 rfl rfl 4 (by decide) (hts (Cond.fieldLink RX6 95 "IndentRulesModel" "openers" "I") (List.mem_of_getElem? (i := 2) rfl)) (fun _ h9 => h9) rfl dX6_comes_50 ?_
  refine lv_iload hx hb dX6_comes_53 (lv_at hl 4 rfl) ?_
  refine k_iast (D := G) (tys := TYS E) (j := op) (x := (nI kn)) (f := kindO) (n := 180) hx hb hK hP hD hS 8 0 rfl rfl (by omega) (by decide) dX6_comes_55 (fun H locs hP hD hS => ?_)
  have hP : va_P G vwCl (rW E a ln op dp la row seen sty (upd lineO op (nI li)) (upd tokO op (nI k)) (upd atO op x) (upd baseO op (colO li)) (upd kindO op (nI kn)) partO colO openO strayO stk bys was gsd cellsO sortO kLine kAt kKind) H := hP
  have hD : va_D A (rW E a ln op dp la row seen sty (upd lineO op (nI li)) (upd tokO op (nI k)) (upd atO op x) (upd baseO op (colO li)) (upd kindO op (nI kn)) partO colO openO strayO stk bys was gsd cellsO sortO kLine kAt kKind) := hD
  refine lv_aload_n hx hb dX6_comes_56 rfl (lv_at hl 0 rfl) ?_
  refine va_get (D := G) (ci := 6) (v := .ref (a 10)) (C := RX6) (T := TX6) (N := 25) hx hb hts hin6 hown hK hP 0 rfl rfl 10 (by decide) (hts (Cond.fieldLink RX6 34 "IndentRulesModel" "partnerOf" "[I") (List.mem_of_getElem? (i := 8) rfl)) (fun _ h9 => h9) rfl dX6_comes_57 ?_
  refine lv_aload_n hx hb dX6_comes_60 rfl (lv_at hl 0 rfl) ?_
  refine va_get (D := G) (ci := 6) (v := .int (nI op)) (C := RX6) (T := TX6) (N := 25) hx hb hts hin6 hown hK hP 0 rfl rfl 4 (by decide) (hts (Cond.fieldLink RX6 95 "IndentRulesModel" "openers" "I") (List.mem_of_getElem? (i := 2) rfl)) (fun _ h9 => h9) rfl dX6_comes_61 ?_
  refine lv_bipush (v := (-9)) hx hb dX6_comes_64 (by decide) ?_
  refine k_iast (D := G) (tys := TYS E) (j := op) (x := (-9)) (f := partO) (n := 180) hx hb hK hP hD hS 9 0 rfl rfl (by omega) (by decide) dX6_comes_66 (fun H locs hP hD hS => ?_)
  have hP : va_P G vwCl (rW E a ln op dp la row seen sty (upd lineO op (nI li)) (upd tokO op (nI k)) (upd atO op x) (upd baseO op (colO li)) (upd kindO op (nI kn)) (upd partO op (-9)) colO openO strayO stk bys was gsd cellsO sortO kLine kAt kKind) H := hP
  have hD : va_D A (rW E a ln op dp la row seen sty (upd lineO op (nI li)) (upd tokO op (nI k)) (upd atO op x) (upd baseO op (colO li)) (upd kindO op (nI kn)) (upd partO op (-9)) colO openO strayO stk bys was gsd cellsO sortO kLine kAt kKind) := hD
  refine lv_aload_n hx hb dX6_comes_67 rfl (lv_at hl 0 rfl) ?_
  refine va_get (D := G) (ci := 6) (v := .ref (a 15)) (C := RX6) (T := TX6) (N := 25) hx hb hts hin6 hown hK hP 0 rfl rfl 15 (by decide) (hts (Cond.fieldLink RX6 46 "IndentRulesModel" "stack" "[I") (List.mem_of_getElem? (i := 9) rfl)) (fun _ h9 => h9) rfl dX6_comes_68 ?_
  refine lv_aload_n hx hb dX6_comes_71 rfl (lv_at hl 0 rfl) ?_
  refine va_get (D := G) (ci := 6) (v := .int (nI dp)) (C := RX6) (T := TX6) (N := 25) hx hb hts hin6 hown hK hP 0 rfl rfl 14 (by decide) (hts (Cond.fieldLink RX6 85 "IndentRulesModel" "deep" "I") (List.mem_of_getElem? (i := 10) rfl)) (fun _ h9 => h9) rfl dX6_comes_72 ?_
  refine lv_aload_n hx hb dX6_comes_75 rfl (lv_at hl 0 rfl) ?_
  refine va_get (D := G) (ci := 6) (v := .int (nI op)) (C := RX6) (T := TX6) (N := 25) hx hb hts hin6 hown hK hP 0 rfl rfl 4 (by decide) (hts (Cond.fieldLink RX6 95 "IndentRulesModel" "openers" "I") (List.mem_of_getElem? (i := 2) rfl)) (fun _ h9 => h9) rfl dX6_comes_76 ?_
  refine k_iast (D := G) (tys := TYS E) (j := dp) (x := (nI op)) (f := stk) (n := 180) hx hb hK hP hD hS 13 0 rfl rfl (by omega) (by decide) dX6_comes_79 (fun H locs hP hD hS => ?_)
  have hP : va_P G vwCl (rW E a ln op dp la row seen sty (upd lineO op (nI li)) (upd tokO op (nI k)) (upd atO op x) (upd baseO op (colO li)) (upd kindO op (nI kn)) (upd partO op (-9)) colO openO strayO (upd stk dp (nI op)) bys was gsd cellsO sortO kLine kAt kKind) H := hP
  have hD : va_D A (rW E a ln op dp la row seen sty (upd lineO op (nI li)) (upd tokO op (nI k)) (upd atO op x) (upd baseO op (colO li)) (upd kindO op (nI kn)) (upd partO op (-9)) colO openO strayO (upd stk dp (nI op)) bys was gsd cellsO sortO kLine kAt kKind) := hD
  refine lv_aload_n hx hb dX6_comes_80 rfl (lv_at hl 0 rfl) ?_
  refine lv_dup hx hb dX6_comes_81 rfl ?_
  refine va_get (D := G) (ci := 6) (v := .int (nI dp)) (C := RX6) (T := TX6) (N := 25) hx hb hts hin6 hown hK hP 0 rfl rfl 14 (by decide) (hts (Cond.fieldLink RX6 85 "IndentRulesModel" "deep" "I") (List.mem_of_getElem? (i := 10) rfl)) (fun _ h9 => h9) rfl dX6_comes_82 ?_
  refine lv_iconst (v := (nI 1)) hx hb dX6_comes_85 (by decide) ?_
  refine k_iadd (a := dp) (b := 1) hx hb dX6_comes_86 ?_
  refine va_put (D := G) (ci := 6) (v := .int (nI (dp + 1))) (ty := .int) (C := RX6) (T := TX6) (N := 25) hx hb hts hin6 tyX6 tyX6_ok nmX6 hown hK hP hD hS 0 rfl rfl 14 (by decide) (hts (Cond.fieldLink RX6 85 "IndentRulesModel" "deep" "I") (List.mem_of_getElem? (i := 10) rfl)) (fun _ h9 => h9) rfl (by decide +kernel) rfl rfl (Nat.le_of_ble_eq_true rfl) dX6_comes_87 (fun H locs hP hD hS => ?_)
  have hP : va_P G vwCl (rW E a ln op (dp + 1) la row seen sty (upd lineO op (nI li)) (upd tokO op (nI k)) (upd atO op x) (upd baseO op (colO li)) (upd kindO op (nI kn)) (upd partO op (-9)) colO openO strayO (upd stk dp (nI op)) bys was gsd cellsO sortO kLine kAt kKind) H := hP
  have hD : va_D A (rW E a ln op (dp + 1) la row seen sty (upd lineO op (nI li)) (upd tokO op (nI k)) (upd atO op x) (upd baseO op (colO li)) (upd kindO op (nI kn)) (upd partO op (-9)) colO openO strayO (upd stk dp (nI op)) bys was gsd cellsO sortO kLine kAt kKind) := hD
  refine lv_aload_n hx hb dX6_comes_90 rfl (lv_at hl 0 rfl) ?_
  refine lv_dup hx hb dX6_comes_91 rfl ?_
  refine va_get (D := G) (ci := 6) (v := .int (nI op)) (C := RX6) (T := TX6) (N := 25) hx hb hts hin6 hown hK hP 0 rfl rfl 4 (by decide) (hts (Cond.fieldLink RX6 95 "IndentRulesModel" "openers" "I") (List.mem_of_getElem? (i := 2) rfl)) (fun _ h9 => h9) rfl dX6_comes_92 ?_
  refine lv_iconst (v := (nI 1)) hx hb dX6_comes_95 (by decide) ?_
  refine k_iadd (a := op) (b := 1) hx hb dX6_comes_96 ?_
  refine va_put (D := G) (ci := 6) (v := .int (nI (op + 1))) (ty := .int) (C := RX6) (T := TX6) (N := 25) hx hb hts hin6 tyX6 tyX6_ok nmX6 hown hK hP hD hS 0 rfl rfl 4 (by decide) (hts (Cond.fieldLink RX6 95 "IndentRulesModel" "openers" "I") (List.mem_of_getElem? (i := 2) rfl)) (fun _ h9 => h9) rfl (by decide +kernel) rfl rfl (Nat.le_of_ble_eq_true rfl) dX6_comes_97 (fun H locs hP hD hS => ?_)
  have hP : va_P G vwCl (rW E a ln (op + 1) (dp + 1) la row seen sty (upd lineO op (nI li)) (upd tokO op (nI k)) (upd atO op x) (upd baseO op (colO li)) (upd kindO op (nI kn)) (upd partO op (-9)) colO openO strayO (upd stk dp (nI op)) bys was gsd cellsO sortO kLine kAt kKind) H := hP
  have hD : va_D A (rW E a ln (op + 1) (dp + 1) la row seen sty (upd lineO op (nI li)) (upd tokO op (nI k)) (upd atO op x) (upd baseO op (colO li)) (upd kindO op (nI kn)) (upd partO op (-9)) colO openO strayO (upd stk dp (nI op)) bys was gsd cellsO sortO kLine kAt kKind) := hD
  exact W.vret hx hb hr (fun tZ htZ hWZ => ⟨⟨(), rfl, trivial, by show va_P G vwCl _ tZ.heap; rw [htZ]; exact hP⟩, hS.F htZ⟩) hS.2.2 dX6_comes_100

set_option maxHeartbeats 4000000 in
set_option maxRecDepth 100000 in
theorem c_X6_closes (l : Launch) (G : va_G) (E : cEnv) (a : Nat → Nat) (ln : Nat) (row seen sty lineO tokO atO baseO kindO partO colO openO strayO stk bys was gsd cellsO sortO kLine kAt kKind : Nat → Int32) (li b : Nat) (S : NS) (C : Nat → Int32) (mm L bb : Nat) (hli : li < 20) (hlm : li < mm) (hb1 : b ≤ 1) (hRR : RR (bys 2) S C mm lineO tokO atO baseO kindO partO colO openO strayO stk) (hwf : wfN S L bb) (hbb : bb ≤ 180) (sz : Nat) : Met l yX6_closes wsX6_closes ({ frames := 1, cells := 0, slots := 0, locals := 20 }) (va_Pc [.ref (a 0), .int (nI li), .int (nI b)] (PW G E (rW E a ln (nO S) (nD S) (nL S) row seen sty lineO tokO atO baseO kindO partO colO openO strayO stk bys was gsd cellsO sortO kLine kAt kKind) sz)) (va_Qv (fun (u : (Nat → Int32) × (Nat → Int32)) => RR (bys 2) (nClose (if b = 1 then 2 else 4) li S) C mm lineO tokO atO baseO kindO u.1 colO openO u.2 stk) (fun (u : (Nat → Int32) × (Nat → Int32)) tQ => va_P G vwCl (rW E a ln (nO S) (nD (nClose (if b = 1 then 2 else 4) li S)) (nL S) row seen sty lineO tokO atO baseO kindO u.1 colO openO u.2 stk bys was gsd cellsO sortO kLine kAt kKind) tQ.heap) (va_A (rW E a ln (nO S) (nD S) (nL S) row seen sty lineO tokO atO baseO kindO partO colO openO strayO stk bys was gsd cellsO sortO kLine kAt kKind) sz)) 0 0 (va_A (rW E a ln (nO S) (nD S) (nL S) row seen sty lineO tokO atO baseO kindO partO colO openO strayO stk bys was gsd cellsO sortO kLine kAt kKind) sz) := by
  refine Met.ofW (cc := cX6_closes) (maxL := 4) (ret := none) (by decide) rfl ?_
  intro p e s m args below meth c s₁ B hml hv
  obtain ⟨rfl, hsz, hP, hK, hD0, hZ⟩ := hv
  have hx := B.exec
  have hb := B.bytes
  have hr := B.returns
  have hts := atoms_spec (ws := wsX6_closes) B.pre
  have hown : s.vm.findClass RX6 = some m.cls := findClass_of_methodNamed B.named
  have hlocks := B.notSynchronized
  have hin6 : ∀ w ∈ u_ws RX6 TX6 25, w ∈ wsX6_closes := mem_pl [11, 12, 13, 14, 15, 16, 17, 18, 19, 20, 21, 22, 23, 24, 25, 26, 27, 28, 29, 30, 31, 32, 33, 34, 35] (by rfl)
  subst hsz
  have hD := hD0.self (sz := s.heap.size)
  generalize hAe : va_A (rW E a ln (nO S) (nD S) (nL S) row seen sty lineO tokO atO baseO kindO partO colO openO strayO stk bys was gsd cellsO sortO kLine kAt kKind) s.heap.size = A at hD hZ ⊢
  have hA : ∀ q : Nat, s.heap.size ≤ q → A q := fun q h => by rw [← hAe]; exact Or.inr h
  have hS : va_S A s.heap s.heap [] := va_S.rf
  have hl := lv_entry ([.ref (a 0), .int (nI li), .int (nI b)]) (n := 4) (Nat.le_of_ble_eq_true rfl)
  rw [lg_entry_eq]
  generalize (lg_sl ([.ref (a 0), .int (nI li), .int (nI b)]) ++ List.replicate (4 - (lg_sl ([.ref (a 0), .int (nI li), .int (nI b)])).length) Slot.unset).toArray = ls at hl ⊢
  have hl : lv_has ls 4 [(0, .ref (a 0)), (1, .int (nI li)), (2, .int (nI b))] := hl
  refine lv_aload_n hx hb dX6_closes_0 rfl (lv_at hl 0 rfl) ?_
  refine rv_i (n := 0) (G := G) (E := E) (As := []) (rest := []) (ci := 6) (q0 := 0) ⟨hx, hb, hml, hown, hts⟩ hK hZ hS (c_X6_top l G E a ln (nO S) (nD S) (nL S) row seen sty lineO tokO atO baseO kindO partO colO openO strayO stk bys was gsd cellsO sortO kLine kAt kKind (by have := hwf.1; have := hwf.2.1; omega)) gX6_closes_X6_top rfl rfl rfl (by decide +kernel) ⟨Nat.le_of_ble_eq_true rfl, Nat.le_of_ble_eq_true rfl⟩ hP rfl rfl hl.1 rfl rfl (Nat.le_of_ble_eq_true rfl) dX6_closes_1 ⟨Nat.zero_le _, Nat.zero_le _⟩ (fun r1 p1 => ?_)
  rcases p1 with ⟨d1, rfl⟩ | ⟨d1, rfl⟩
  · have hno : ¬ (0 < nD S ∧ nF S 0 (nF S 6 (nD S - 1)) = (if b = 1 then 2 else 4)) := fun q => by omega
    refine lv_istore_n (lv' := [(3, .int (-9)), (0, .ref (a 0)), (1, .int (nI li)), (2, .int (nI b))]) hx hb dX6_closes_4 rfl hl (by decide) rfl (fun ls hl => ?_)
    refine lv_iload_n hx hb dX6_closes_5 rfl (lv_at hl 0 rfl) ?_
    refine lv_bipush (v := (-9)) hx hb dX6_closes_6 (by decide) ?_
    refine lv_icmp_eq (x := (-9)) (y := (-9)) (tgt := 50) hx hb dX6_closes_8 (by decide) (fun c8 => ?_) (fun c8 => absurd c8 (by decide))
    refine lv_aload_n hx hb dX6_closes_50 rfl (lv_at hl 1 rfl) ?_
    refine va_get (D := G) (ci := 6) (v := .ref (a 13)) (C := RX6) (T := TX6) (N := 25) hx hb hts hin6 hown hK hP 0 rfl rfl 13 (by decide) (hts (Cond.fieldLink RX6 43 "IndentRulesModel" "strayOf" "[I") (List.mem_of_getElem? (i := 4) rfl)) (fun _ h9 => h9) rfl dX6_closes_51 ?_
    refine lv_iload_n hx hb dX6_closes_54 rfl (lv_at hl 2 rfl) ?_
    refine lv_dup2_11 hx hb dX6_closes_55 rfl rfl ?_
    refine k_iald (D := G) (tys := TYS E) (j := li) (f := strayO) (n := 20) hx hb hK hP 12 0 rfl rfl (by omega) (by decide) dX6_closes_56 ?_
    rw [(hRR.2.1 li hlm).2.2]
    refine lv_iconst (v := (nI 1)) hx hb dX6_closes_57 (by decide) ?_
    refine k_iadd (a := (nF S 7 li)) (b := 1) hx hb dX6_closes_58 ?_
    refine k_iast (D := G) (tys := TYS E) (j := li) (x := (nI (nF S 7 li + 1))) (f := strayO) (n := 20) hx hb hK hP hD hS 12 0 rfl rfl (by omega) (by decide) dX6_closes_59 (fun H locs hP hD hS => ?_)
    have hP : va_P G vwCl (rW E a ln (nO S) (nD S) (nL S) row seen sty lineO tokO atO baseO kindO partO colO openO (upd strayO li (nI (nF S 7 li + 1))) stk bys was gsd cellsO sortO kLine kAt kKind) H := hP
    have hD : va_D A (rW E a ln (nO S) (nD S) (nL S) row seen sty lineO tokO atO baseO kindO partO colO openO (upd strayO li (nI (nF S 7 li + 1))) stk bys was gsd cellsO sortO kLine kAt kKind) := hD
    obtain ⟨f59, ef59⟩ : ∃ z : Nat → Int32, z = upd strayO li (nI (nF S 7 li + 1)) := ⟨_, rfl⟩
    rw [← ef59] at hP hD
    exact W.vret hx hb hr (fun tZ htZ hWZ => ⟨⟨(partO, f59), rfl, by rw [ef59]; exact RR_stray hRR hlm hno, by show va_P G vwCl _ tZ.heap; rw [htZ, show nD (nClose (if b = 1 then 2 else 4) li S) = nD S by unfold nClose; rw [if_neg hno]]; exact hP⟩, hS.F htZ⟩) hS.2.2 dX6_closes_60
  · obtain ⟨c0, hc0⟩ : ∃ z, z = nF S 6 (nD S - 1) := ⟨_, rfl⟩
    have hst : stk (nD S - 1) = nI c0 := by rw [hRR.2.2 (nD S - 1) (by omega), hc0]
    have hclt : c0 < nO S := by rw [hc0]; exact hwf.2.2.1 _ (by omega)
    have hop : nO S ≤ 180 := Nat.le_trans hwf.2.1 hbb
    obtain ⟨q1, q2, q3, q4, q5, q6⟩ := hRR.1 c0 hclt
    have hso := (hwf.2.2.2.1 c0 hclt).2
    rw [hst]
    refine lv_istore_n (lv' := [(3, .int (nI c0)), (0, .ref (a 0)), (1, .int (nI li)), (2, .int (nI b))]) hx hb dX6_closes_4 rfl hl (by decide) rfl (fun ls hl => ?_)
    refine lv_iload_n hx hb dX6_closes_5 rfl (lv_at hl 0 rfl) ?_
    refine lv_bipush (v := (-9)) hx hb dX6_closes_6 (by decide) ?_
    refine lv_icmp_eq (x := (nI c0)) (y := (-9)) (tgt := 50) hx hb dX6_closes_8 (by decide) (fun c8 => absurd c8 (k_nneg (by decide) (by omega))) (fun c8 => ?_)
    refine lv_aload_n hx hb dX6_closes_11 rfl (lv_at hl 1 rfl) ?_
    refine va_get (D := G) (ci := 6) (v := .ref (a 9)) (C := RX6) (T := TX6) (N := 25) hx hb hts hin6 hown hK hP 0 rfl rfl 9 (by decide) (hts (Cond.fieldLink RX6 31 "IndentRulesModel" "kindOf" "[I") (List.mem_of_getElem? (i := 1) rfl)) (fun _ h9 => h9) rfl dX6_closes_12 ?_
    refine lv_iload_n hx hb dX6_closes_15 rfl (lv_at hl 0 rfl) ?_
    refine k_iald (D := G) (tys := TYS E) (j := c0) (f := kindO) (n := 180) hx hb hK hP 8 0 rfl rfl (by omega) (by decide) dX6_closes_16 ?_
    rw [q5]
    refine lv_iconst (v := (nI 1)) hx hb dX6_closes_17 (by decide) ?_
    refine n_icmp_ne (a := (kd (bys 2) (nF S) c0)) (b := 1) (tgt := 25) hx hb (Nat.lt_of_lt_of_le (kd_lt _ _ _) (by decide)) (by decide) dX6_closes_18 (by decide) (fun c18 => ?_) (fun c18 => ?_)
    · have hF : nF S 0 c0 = 4 := hso.resolve_left (fun q => c18 (kd_1.mpr q))
      refine lv_iconst (v := (nI 0)) hx hb dX6_closes_25 (by decide) ?_
      refine lv_iload_n hx hb dX6_closes_26 rfl (lv_at hl 3 rfl) ?_
      refine n_icmp_ne (a := 0) (b := b) (tgt := 50) hx hb (by decide) (by omega) dX6_closes_27 (by decide) (fun c27 => ?_) (fun c27 => ?_)
      · have hno : ¬ (0 < nD S ∧ nF S 0 (nF S 6 (nD S - 1)) = (if b = 1 then 2 else 4)) := fun q => by have q2 := q.2; rw [← hc0, hF] at q2; split at q2 <;> omega
        refine lv_aload_n hx hb dX6_closes_50 rfl (lv_at hl 1 rfl) ?_
        refine va_get (D := G) (ci := 6) (v := .ref (a 13)) (C := RX6) (T := TX6) (N := 25) hx hb hts hin6 hown hK hP 0 rfl rfl 13 (by decide) (hts (Cond.fieldLink RX6 43 "IndentRulesModel" "strayOf" "[I") (List.mem_of_getElem? (i := 4) rfl)) (fun _ h9 => h9) rfl dX6_closes_51 ?_
        refine lv_iload_n hx hb dX6_closes_54 rfl (lv_at hl 2 rfl) ?_
        refine lv_dup2_11 hx hb dX6_closes_55 rfl rfl ?_
        refine k_iald (D := G) (tys := TYS E) (j := li) (f := strayO) (n := 20) hx hb hK hP 12 0 rfl rfl (by omega) (by decide) dX6_closes_56 ?_
        rw [(hRR.2.1 li hlm).2.2]
        refine lv_iconst (v := (nI 1)) hx hb dX6_closes_57 (by decide) ?_
        refine k_iadd (a := (nF S 7 li)) (b := 1) hx hb dX6_closes_58 ?_
        refine k_iast (D := G) (tys := TYS E) (j := li) (x := (nI (nF S 7 li + 1))) (f := strayO) (n := 20) hx hb hK hP hD hS 12 0 rfl rfl (by omega) (by decide) dX6_closes_59 (fun H locs hP hD hS => ?_)
        have hP : va_P G vwCl (rW E a ln (nO S) (nD S) (nL S) row seen sty lineO tokO atO baseO kindO partO colO openO (upd strayO li (nI (nF S 7 li + 1))) stk bys was gsd cellsO sortO kLine kAt kKind) H := hP
        have hD : va_D A (rW E a ln (nO S) (nD S) (nL S) row seen sty lineO tokO atO baseO kindO partO colO openO (upd strayO li (nI (nF S 7 li + 1))) stk bys was gsd cellsO sortO kLine kAt kKind) := hD
        obtain ⟨f59, ef59⟩ : ∃ z : Nat → Int32, z = upd strayO li (nI (nF S 7 li + 1)) := ⟨_, rfl⟩
        rw [← ef59] at hP hD
        exact W.vret hx hb hr (fun tZ htZ hWZ => ⟨⟨(partO, f59), rfl, by rw [ef59]; exact RR_stray hRR hlm hno, by show va_P G vwCl _ tZ.heap; rw [htZ, show nD (nClose (if b = 1 then 2 else 4) li S) = nD S by unfold nClose; rw [if_neg hno]]; exact hP⟩, hS.F htZ⟩) hS.2.2 dX6_closes_60
      · have hq : nF S 0 c0 = (if b = 1 then 2 else 4) := by rw [if_neg (by omega)]; exact hF
        refine lv_aload_n hx hb dX6_closes_30 rfl (lv_at hl 1 rfl) ?_
        refine va_get (D := G) (ci := 6) (v := .ref (a 10)) (C := RX6) (T := TX6) (N := 25) hx hb hts hin6 hown hK hP 0 rfl rfl 10 (by decide) (hts (Cond.fieldLink RX6 34 "IndentRulesModel" "partnerOf" "[I") (List.mem_of_getElem? (i := 2) rfl)) (fun _ h9 => h9) rfl dX6_closes_31 ?_
        refine lv_iload_n hx hb dX6_closes_34 rfl (lv_at hl 0 rfl) ?_
        refine lv_iload_n hx hb dX6_closes_35 rfl (lv_at hl 2 rfl) ?_
        refine k_iast (D := G) (tys := TYS E) (j := c0) (x := (nI li)) (f := partO) (n := 180) hx hb hK hP hD hS 9 0 rfl rfl (by omega) (by decide) dX6_closes_36 (fun H locs hP hD hS => ?_)
        have hP : va_P G vwCl (rW E a ln (nO S) (nD S) (nL S) row seen sty lineO tokO atO baseO kindO (upd partO c0 (nI li)) colO openO strayO stk bys was gsd cellsO sortO kLine kAt kKind) H := hP
        have hD : va_D A (rW E a ln (nO S) (nD S) (nL S) row seen sty lineO tokO atO baseO kindO (upd partO c0 (nI li)) colO openO strayO stk bys was gsd cellsO sortO kLine kAt kKind) := hD
        obtain ⟨f36, ef36⟩ : ∃ z : Nat → Int32, z = upd partO c0 (nI li) := ⟨_, rfl⟩
        rw [← ef36] at hP hD
        refine lv_aload_n hx hb dX6_closes_37 rfl (lv_at hl 1 rfl) ?_
        refine lv_dup hx hb dX6_closes_38 rfl ?_
        refine va_get (D := G) (ci := 6) (v := .int (nI (nD S))) (C := RX6) (T := TX6) (N := 25) hx hb hts hin6 hown hK hP 0 rfl rfl 14 (by decide) (hts (Cond.fieldLink RX6 85 "IndentRulesModel" "deep" "I") (List.mem_of_getElem? (i := 3) rfl)) (fun _ h9 => h9) rfl dX6_closes_39 ?_
        refine lv_iconst (v := (nI 1)) hx hb dX6_closes_42 (by decide) ?_
        refine k_isub (a := (nD S)) (b := 1) hx hb (by omega) dX6_closes_43 ?_
        refine va_put (D := G) (ci := 6) (v := .int (nI ((nD S) - 1))) (ty := .int) (C := RX6) (T := TX6) (N := 25) hx hb hts hin6 tyX6 tyX6_ok nmX6 hown hK hP hD hS 0 rfl rfl 14 (by decide) (hts (Cond.fieldLink RX6 85 "IndentRulesModel" "deep" "I") (List.mem_of_getElem? (i := 3) rfl)) (fun _ h9 => h9) rfl (by decide +kernel) rfl rfl (Nat.le_of_ble_eq_true rfl) dX6_closes_44 (fun H locs hP hD hS => ?_)
        have hP : va_P G vwCl (rW E a ln (nO S) ((nD S) - 1) (nL S) row seen sty lineO tokO atO baseO kindO f36 colO openO strayO stk bys was gsd cellsO sortO kLine kAt kKind) H := hP
        have hD : va_D A (rW E a ln (nO S) ((nD S) - 1) (nL S) row seen sty lineO tokO atO baseO kindO f36 colO openO strayO stk bys was gsd cellsO sortO kLine kAt kKind) := hD
        refine lv_goto (tgt := 60) hx hb dX6_closes_47 (by decide) ?_
        exact W.vret hx hb hr (fun tZ htZ hWZ => ⟨⟨(f36, strayO), rfl, by rw [ef36, hc0]; exact RR_match hRR hwf (by omega) (by rw [← hc0]; exact hq), by show va_P G vwCl _ tZ.heap; rw [htZ, show nD (nClose (if b = 1 then 2 else 4) li S) = nD S - 1 by unfold nClose; rw [if_pos ⟨by omega, by rw [← hc0]; exact hq⟩]]; exact hP⟩, hS.F htZ⟩) hS.2.2 dX6_closes_60
    · have hF : nF S 0 c0 = 2 := kd_1.mp c18
      refine lv_iconst (v := (nI 1)) hx hb dX6_closes_21 (by decide) ?_
      refine lv_goto (tgt := 26) hx hb dX6_closes_22 (by decide) ?_
      refine lv_iload_n hx hb dX6_closes_26 rfl (lv_at hl 3 rfl) ?_
      refine n_icmp_ne (a := 1) (b := b) (tgt := 50) hx hb (by decide) (by omega) dX6_closes_27 (by decide) (fun c27 => ?_) (fun c27 => ?_)
      · have hno : ¬ (0 < nD S ∧ nF S 0 (nF S 6 (nD S - 1)) = (if b = 1 then 2 else 4)) := fun q => by have q2 := q.2; rw [← hc0, hF] at q2; split at q2 <;> omega
        refine lv_aload_n hx hb dX6_closes_50 rfl (lv_at hl 1 rfl) ?_
        refine va_get (D := G) (ci := 6) (v := .ref (a 13)) (C := RX6) (T := TX6) (N := 25) hx hb hts hin6 hown hK hP 0 rfl rfl 13 (by decide) (hts (Cond.fieldLink RX6 43 "IndentRulesModel" "strayOf" "[I") (List.mem_of_getElem? (i := 4) rfl)) (fun _ h9 => h9) rfl dX6_closes_51 ?_
        refine lv_iload_n hx hb dX6_closes_54 rfl (lv_at hl 2 rfl) ?_
        refine lv_dup2_11 hx hb dX6_closes_55 rfl rfl ?_
        refine k_iald (D := G) (tys := TYS E) (j := li) (f := strayO) (n := 20) hx hb hK hP 12 0 rfl rfl (by omega) (by decide) dX6_closes_56 ?_
        rw [(hRR.2.1 li hlm).2.2]
        refine lv_iconst (v := (nI 1)) hx hb dX6_closes_57 (by decide) ?_
        refine k_iadd (a := (nF S 7 li)) (b := 1) hx hb dX6_closes_58 ?_
        refine k_iast (D := G) (tys := TYS E) (j := li) (x := (nI (nF S 7 li + 1))) (f := strayO) (n := 20) hx hb hK hP hD hS 12 0 rfl rfl (by omega) (by decide) dX6_closes_59 (fun H locs hP hD hS => ?_)
        have hP : va_P G vwCl (rW E a ln (nO S) (nD S) (nL S) row seen sty lineO tokO atO baseO kindO partO colO openO (upd strayO li (nI (nF S 7 li + 1))) stk bys was gsd cellsO sortO kLine kAt kKind) H := hP
        have hD : va_D A (rW E a ln (nO S) (nD S) (nL S) row seen sty lineO tokO atO baseO kindO partO colO openO (upd strayO li (nI (nF S 7 li + 1))) stk bys was gsd cellsO sortO kLine kAt kKind) := hD
        obtain ⟨f59, ef59⟩ : ∃ z : Nat → Int32, z = upd strayO li (nI (nF S 7 li + 1)) := ⟨_, rfl⟩
        rw [← ef59] at hP hD
        exact W.vret hx hb hr (fun tZ htZ hWZ => ⟨⟨(partO, f59), rfl, by rw [ef59]; exact RR_stray hRR hlm hno, by show va_P G vwCl _ tZ.heap; rw [htZ, show nD (nClose (if b = 1 then 2 else 4) li S) = nD S by unfold nClose; rw [if_neg hno]]; exact hP⟩, hS.F htZ⟩) hS.2.2 dX6_closes_60
      · have hq : nF S 0 c0 = (if b = 1 then 2 else 4) := by rw [if_pos (by omega)]; exact hF
        refine lv_aload_n hx hb dX6_closes_30 rfl (lv_at hl 1 rfl) ?_
        refine va_get (D := G) (ci := 6) (v := .ref (a 10)) (C := RX6) (T := TX6) (N := 25) hx hb hts hin6 hown hK hP 0 rfl rfl 10 (by decide) (hts (Cond.fieldLink RX6 34 "IndentRulesModel" "partnerOf" "[I") (List.mem_of_getElem? (i := 2) rfl)) (fun _ h9 => h9) rfl dX6_closes_31 ?_
        refine lv_iload_n hx hb dX6_closes_34 rfl (lv_at hl 0 rfl) ?_
        refine lv_iload_n hx hb dX6_closes_35 rfl (lv_at hl 2 rfl) ?_
        refine k_iast (D := G) (tys := TYS E) (j := c0) (x := (nI li)) (f := partO) (n := 180) hx hb hK hP hD hS 9 0 rfl rfl (by omega) (by decide) dX6_closes_36 (fun H locs hP hD hS => ?_)
        have hP : va_P G vwCl (rW E a ln (nO S) (nD S) (nL S) row seen sty lineO tokO atO baseO kindO (upd partO c0 (nI li)) colO openO strayO stk bys was gsd cellsO sortO kLine kAt kKind) H := hP
        have hD : va_D A (rW E a ln (nO S) (nD S) (nL S) row seen sty lineO tokO atO baseO kindO (upd partO c0 (nI li)) colO openO strayO stk bys was gsd cellsO sortO kLine kAt kKind) := hD
        obtain ⟨f36, ef36⟩ : ∃ z : Nat → Int32, z = upd partO c0 (nI li) := ⟨_, rfl⟩
        rw [← ef36] at hP hD
        refine lv_aload_n hx hb dX6_closes_37 rfl (lv_at hl 1 rfl) ?_
        refine lv_dup hx hb dX6_closes_38 rfl ?_
        refine va_get (D := G) (ci := 6) (v := .int (nI (nD S))) (C := RX6) (T := TX6) (N := 25) hx hb hts hin6 hown hK hP 0 rfl rfl 14 (by decide) (hts (Cond.fieldLink RX6 85 "IndentRulesModel" "deep" "I") (List.mem_of_getElem? (i := 3) rfl)) (fun _ h9 => h9) rfl dX6_closes_39 ?_
        refine lv_iconst (v := (nI 1)) hx hb dX6_closes_42 (by decide) ?_
        refine k_isub (a := (nD S)) (b := 1) hx hb (by omega) dX6_closes_43 ?_
        refine va_put (D := G) (ci := 6) (v := .int (nI ((nD S) - 1))) (ty := .int) (C := RX6) (T := TX6) (N := 25) hx hb hts hin6 tyX6 tyX6_ok nmX6 hown hK hP hD hS 0 rfl rfl 14 (by decide) (hts (Cond.fieldLink RX6 85 "IndentRulesModel" "deep" "I") (List.mem_of_getElem? (i := 3) rfl)) (fun _ h9 => h9) rfl (by decide +kernel) rfl rfl (Nat.le_of_ble_eq_true rfl) dX6_closes_44 (fun H locs hP hD hS => ?_)
        have hP : va_P G vwCl (rW E a ln (nO S) ((nD S) - 1) (nL S) row seen sty lineO tokO atO baseO kindO f36 colO openO strayO stk bys was gsd cellsO sortO kLine kAt kKind) H := hP
        have hD : va_D A (rW E a ln (nO S) ((nD S) - 1) (nL S) row seen sty lineO tokO atO baseO kindO f36 colO openO strayO stk bys was gsd cellsO sortO kLine kAt kKind) := hD
        refine lv_goto (tgt := 60) hx hb dX6_closes_47 (by decide) ?_
        exact W.vret hx hb hr (fun tZ htZ hWZ => ⟨⟨(f36, strayO), rfl, by rw [ef36, hc0]; exact RR_match hRR hwf (by omega) (by rw [← hc0]; exact hq), by show va_P G vwCl _ tZ.heap; rw [htZ, show nD (nClose (if b = 1 then 2 else 4) li S) = nD S - 1 by unfold nClose; rw [if_pos ⟨by omega, by rw [← hc0]; exact hq⟩]]; exact hP⟩, hS.F htZ⟩) hS.2.2 dX6_closes_60
