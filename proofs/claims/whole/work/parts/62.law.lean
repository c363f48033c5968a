set_option maxHeartbeats 4000000 in
set_option maxRecDepth 100000 in
theorem law_loop {p : Program} {e : Env} {s : State} {m : MethodId} {below : List Frame} {meth : Method} {c : Code} (l : Launch) {b L : Nat} {xs : Nat → Int32} {A : Nat → Prop} {G : va_G} {E : cEnv} {ia tx z y v : Nat → Nat} {kq : Nat → Nat → Nat} {oa ta a : Nat → Nat} (F : LFx p s m c b L xs A G E) (hr : meth.sig.returnType = ret) (hlocks : meth.locks = false) (hA2 : ∀ q, A q → s.heap.size ≤ q) : ∀ (kk i : Nat), L + 7 - i < kk → i ≤ L + 6 → LGo p l e s m below meth c b A G E ia tx z y v kq oa ta a 18 i := by
  obtain ⟨hx, hb, hml, hown, hts, hK, hZ, hX, hbl, hL, hA, hbA⟩ := id F
  intro kk
  induction kk with
  | zero => intro i h; exact absurd h (Nat.not_lt_zero _)
  | succ kk ih =>
    intro i hkk hi0
    have cont : i + 6 ≤ L → LGo p l e s m below meth c b A G E ia tx z y v kq oa ta a 697 i := by
      intro h6 ab gp gd n pi op hg la tops dpt lst stry srt lin tokA wah fol par_ opn sett clA setv clV kn0 kz0 kn1 kz1 kn2 kz2 kl0 kp0 kk0 kl1 kp1 kk1 kl2 kp2 kk2 tl ct ps sn cb tk ln rop rdp rla row seen sty lineO tokO atO baseO kindO partO colO openO strayO stk bys was gsd cellsO sortO kLine kAt kKind H locs hab hrf hP hD hS ls hl
      refine lv_iinc (v := (nI (i + 6))) (lv' := [(3, .int (nI (i + 6))), (2, .ref (a 0)), (1, .ref (ia 0)), (0, .ref b)]) hx hb dL_law_697 hl (k := 0) rfl (nI_add i 6) (by decide) rfl (fun ls hl => ?_)
      refine lv_goto (tgt := 18) hx hb dL_law_700 (by decide) ?_
      exact ih (i + 6) (by omega) (by omega) ab gp gd n pi op hg la tops dpt lst stry srt lin tokA wah fol par_ opn sett clA setv clV kn0 kz0 kn1 kz1 kn2 kz2 kl0 kp0 kk0 kl1 kp1 kk1 kl2 kp2 kk2 tl ct ps sn cb tk ln rop rdp rla row seen sty lineO tokO atO baseO kindO partO colO openO strayO stk bys was gsd cellsO sortO kLine kAt kKind H locs hab hrf hP hD hS ls hl
    intro ab gp gd n pi op hg la tops dpt lst stry srt lin tokA wah fol par_ opn sett clA setv clV kn0 kz0 kn1 kz1 kn2 kz2 kl0 kp0 kk0 kl1 kp1 kk1 kl2 kp2 kk2 tl ct ps sn cb tk ln rop rdp rla row seen sty lineO tokO atO baseO kindO partO colO openO strayO stk bys was gsd cellsO sortO kLine kAt kKind H locs hab hrf hP hD hS ls hl
    refine lv_iload_n hx hb dL_law_18 rfl (lv_at hl 0 rfl) ?_
    refine lv_aload_n hx hb dL_law_19 rfl (lv_at hl 3 rfl) ?_
    refine va_slen hx hb hX hbl hbA hS dL_law_20 ?_
    refine lv_bipush (v := (nI 6)) hx hb dL_law_21 (by decide) ?_
    refine lv_isub hx hb dL_law_23 ?_
    refine lv_icmp_gt (tgt := 703) hx hb dL_law_24 (by decide) (fun c24 => ?_) (fun c24 => ?_)
    · refine lv_iconst (v := 1) hx hb dL_law_703 (by decide) ?_
      refine va_forget (fun q hq => hA2 _ (hS.2.2 q hq)) ?_
      exact lw_ret hx hb hr hlocks dL_law_704
    · have hi6 : i + 6 ≤ L := Nat.le_of_not_lt (fun q => c24 ((lw_gt (by omega) (by omega)).mpr q))
      refine lv_aload_n hx hb dL_law_27 rfl (lv_at hl 3 rfl) ?_
      refine lv_iload_n hx hb dL_law_28 rfl (lv_at hl 0 rfl) ?_
      refine k_sld (j := i) hx hb hX hbl hbA hS (by omega) hL dL_law_29 ?_
      refine lv_bipush (v := (nI 31)) hx hb dL_law_30 (by decide) ?_
      refine lv_iand hx hb dL_law_32 ?_
      refine lv_topi (fun v32 ev32 => ?_)
      by_cases h0 : v32 = nI 0
      · refine lv_tableIn (off := 83) (tgt := 116) hx hb dL_law_33 (by rw [h0]; decide) (by rw [h0]; decide) (by rw [h0]; decide) (by decide) ?_
        exact lc_0 l F hi6 (cont hi6) ab gp gd n pi op hg la tops dpt lst stry srt lin tokA wah fol par_ opn sett clA setv clV kn0 kz0 kn1 kz1 kn2 kz2 kl0 kp0 kk0 kl1 kp1 kk1 kl2 kp2 kk2 tl ct ps sn cb tk ln rop rdp rla row seen sty lineO tokO atO baseO kindO partO colO openO strayO stk bys was gsd cellsO sortO kLine kAt kKind H locs hab hrf hP hD hS ls hl
      by_cases h1 : v32 = nI 1
      · refine lv_tableIn (off := 116) (tgt := 149) hx hb dL_law_33 (by rw [h1]; decide) (by rw [h1]; decide) (by rw [h1]; decide) (by decide) ?_
        exact lc_1 l F hi6 (cont hi6) ab gp gd n pi op hg la tops dpt lst stry srt lin tokA wah fol par_ opn sett clA setv clV kn0 kz0 kn1 kz1 kn2 kz2 kl0 kp0 kk0 kl1 kp1 kk1 kl2 kp2 kk2 tl ct ps sn cb tk ln rop rdp rla row seen sty lineO tokO atO baseO kindO partO colO openO strayO stk bys was gsd cellsO sortO kLine kAt kKind H locs hab hrf hP hD hS ls hl
      by_cases h2 : v32 = nI 2
      · refine lv_tableIn (off := 149) (tgt := 182) hx hb dL_law_33 (by rw [h2]; decide) (by rw [h2]; decide) (by rw [h2]; decide) (by decide) ?_
        exact lc_2 l F hi6 (cont hi6) ab gp gd n pi op hg la tops dpt lst stry srt lin tokA wah fol par_ opn sett clA setv clV kn0 kz0 kn1 kz1 kn2 kz2 kl0 kp0 kk0 kl1 kp1 kk1 kl2 kp2 kk2 tl ct ps sn cb tk ln rop rdp rla row seen sty lineO tokO atO baseO kindO partO colO openO strayO stk bys was gsd cellsO sortO kLine kAt kKind H locs hab hrf hP hD hS ls hl
      by_cases h3 : v32 = nI 3
      · refine lv_tableIn (off := 172) (tgt := 205) hx hb dL_law_33 (by rw [h3]; decide) (by rw [h3]; decide) (by rw [h3]; decide) (by decide) ?_
        exact lc_3 l F hi6 (cont hi6) ab gp gd n pi op hg la tops dpt lst stry srt lin tokA wah fol par_ opn sett clA setv clV kn0 kz0 kn1 kz1 kn2 kz2 kl0 kp0 kk0 kl1 kp1 kk1 kl2 kp2 kk2 tl ct ps sn cb tk ln rop rdp rla row seen sty lineO tokO atO baseO kindO partO colO openO strayO stk bys was gsd cellsO sortO kLine kAt kKind H locs hab hrf hP hD hS ls hl
      by_cases h4 : v32 = nI 4
      · refine lv_tableIn (off := 205) (tgt := 238) hx hb dL_law_33 (by rw [h4]; decide) (by rw [h4]; decide) (by rw [h4]; decide) (by decide) ?_
        exact lc_4 l F hi6 (cont hi6) ab gp gd n pi op hg la tops dpt lst stry srt lin tokA wah fol par_ opn sett clA setv clV kn0 kz0 kn1 kz1 kn2 kz2 kl0 kp0 kk0 kl1 kp1 kk1 kl2 kp2 kk2 tl ct ps sn cb tk ln rop rdp rla row seen sty lineO tokO atO baseO kindO partO colO openO strayO stk bys was gsd cellsO sortO kLine kAt kKind H locs hab hrf hP hD hS ls hl
      by_cases h5 : v32 = nI 5
      · refine lv_tableIn (off := 238) (tgt := 271) hx hb dL_law_33 (by rw [h5]; decide) (by rw [h5]; decide) (by rw [h5]; decide) (by decide) ?_
        exact lc_5 l F hi6 (cont hi6) ab gp gd n pi op hg la tops dpt lst stry srt lin tokA wah fol par_ opn sett clA setv clV kn0 kz0 kn1 kz1 kn2 kz2 kl0 kp0 kk0 kl1 kp1 kk1 kl2 kp2 kk2 tl ct ps sn cb tk ln rop rdp rla row seen sty lineO tokO atO baseO kindO partO colO openO strayO stk bys was gsd cellsO sortO kLine kAt kKind H locs hab hrf hP hD hS ls hl
      by_cases h6 : v32 = nI 6
      · refine lv_tableIn (off := 271) (tgt := 304) hx hb dL_law_33 (by rw [h6]; decide) (by rw [h6]; decide) (by rw [h6]; decide) (by decide) ?_
        exact lc_6 l F hi6 (cont hi6) ab gp gd n pi op hg la tops dpt lst stry srt lin tokA wah fol par_ opn sett clA setv clV kn0 kz0 kn1 kz1 kn2 kz2 kl0 kp0 kk0 kl1 kp1 kk1 kl2 kp2 kk2 tl ct ps sn cb tk ln rop rdp rla row seen sty lineO tokO atO baseO kindO partO colO openO strayO stk bys was gsd cellsO sortO kLine kAt kKind H locs hab hrf hP hD hS ls hl
      by_cases h7 : v32 = nI 7
      · refine lv_tableIn (off := 294) (tgt := 327) hx hb dL_law_33 (by rw [h7]; decide) (by rw [h7]; decide) (by rw [h7]; decide) (by decide) ?_
        exact lc_7 l F hi6 (cont hi6) ab gp gd n pi op hg la tops dpt lst stry srt lin tokA wah fol par_ opn sett clA setv clV kn0 kz0 kn1 kz1 kn2 kz2 kl0 kp0 kk0 kl1 kp1 kk1 kl2 kp2 kk2 tl ct ps sn cb tk ln rop rdp rla row seen sty lineO tokO atO baseO kindO partO colO openO strayO stk bys was gsd cellsO sortO kLine kAt kKind H locs hab hrf hP hD hS ls hl
      by_cases h8 : v32 = nI 8
      · refine lv_tableIn (off := 327) (tgt := 360) hx hb dL_law_33 (by rw [h8]; decide) (by rw [h8]; decide) (by rw [h8]; decide) (by decide) ?_
        exact lc_8 l F hi6 (cont hi6) ab gp gd n pi op hg la tops dpt lst stry srt lin tokA wah fol par_ opn sett clA setv clV kn0 kz0 kn1 kz1 kn2 kz2 kl0 kp0 kk0 kl1 kp1 kk1 kl2 kp2 kk2 tl ct ps sn cb tk ln rop rdp rla row seen sty lineO tokO atO baseO kindO partO colO openO strayO stk bys was gsd cellsO sortO kLine kAt kKind H locs hab hrf hP hD hS ls hl
      by_cases h9 : v32 = nI 9
      · refine lv_tableIn (off := 380) (tgt := 413) hx hb dL_law_33 (by rw [h9]; decide) (by rw [h9]; decide) (by rw [h9]; decide) (by decide) ?_
        exact lc_9 l F hi6 (cont hi6) ab gp gd n pi op hg la tops dpt lst stry srt lin tokA wah fol par_ opn sett clA setv clV kn0 kz0 kn1 kz1 kn2 kz2 kl0 kp0 kk0 kl1 kp1 kk1 kl2 kp2 kk2 tl ct ps sn cb tk ln rop rdp rla row seen sty lineO tokO atO baseO kindO partO colO openO strayO stk bys was gsd cellsO sortO kLine kAt kKind H locs hab hrf hP hD hS ls hl
      by_cases h10 : v32 = nI 10
      · refine lv_tableIn (off := 443) (tgt := 476) hx hb dL_law_33 (by rw [h10]; decide) (by rw [h10]; decide) (by rw [h10]; decide) (by decide) ?_
        exact lc_10 l F hi6 (cont hi6) ab gp gd n pi op hg la tops dpt lst stry srt lin tokA wah fol par_ opn sett clA setv clV kn0 kz0 kn1 kz1 kn2 kz2 kl0 kp0 kk0 kl1 kp1 kk1 kl2 kp2 kk2 tl ct ps sn cb tk ln rop rdp rla row seen sty lineO tokO atO baseO kindO partO colO openO strayO stk bys was gsd cellsO sortO kLine kAt kKind H locs hab hrf hP hD hS ls hl
      by_cases h11 : v32 = nI 11
      · refine lv_tableIn (off := 466) (tgt := 499) hx hb dL_law_33 (by rw [h11]; decide) (by rw [h11]; decide) (by rw [h11]; decide) (by decide) ?_
        exact lc_11 l F hi6 (cont hi6) ab gp gd n pi op hg la tops dpt lst stry srt lin tokA wah fol par_ opn sett clA setv clV kn0 kz0 kn1 kz1 kn2 kz2 kl0 kp0 kk0 kl1 kp1 kk1 kl2 kp2 kk2 tl ct ps sn cb tk ln rop rdp rla row seen sty lineO tokO atO baseO kindO partO colO openO strayO stk bys was gsd cellsO sortO kLine kAt kKind H locs hab hrf hP hD hS ls hl
      by_cases h12 : v32 = nI 12
      · refine lv_tableIn (off := 479) (tgt := 512) hx hb dL_law_33 (by rw [h12]; decide) (by rw [h12]; decide) (by rw [h12]; decide) (by decide) ?_
        exact lc_12 l F hi6 (cont hi6) ab gp gd n pi op hg la tops dpt lst stry srt lin tokA wah fol par_ opn sett clA setv clV kn0 kz0 kn1 kz1 kn2 kz2 kl0 kp0 kk0 kl1 kp1 kk1 kl2 kp2 kk2 tl ct ps sn cb tk ln rop rdp rla row seen sty lineO tokO atO baseO kindO partO colO openO strayO stk bys was gsd cellsO sortO kLine kAt kKind H locs hab hrf hP hD hS ls hl
      by_cases h13 : v32 = nI 13
      · refine lv_tableIn (off := 522) (tgt := 555) hx hb dL_law_33 (by rw [h13]; decide) (by rw [h13]; decide) (by rw [h13]; decide) (by decide) ?_
        exact lc_13 l F hi6 (cont hi6) ab gp gd n pi op hg la tops dpt lst stry srt lin tokA wah fol par_ opn sett clA setv clV kn0 kz0 kn1 kz1 kn2 kz2 kl0 kp0 kk0 kl1 kp1 kk1 kl2 kp2 kk2 tl ct ps sn cb tk ln rop rdp rla row seen sty lineO tokO atO baseO kindO partO colO openO strayO stk bys was gsd cellsO sortO kLine kAt kKind H locs hab hrf hP hD hS ls hl
      by_cases h14 : v32 = nI 14
      · refine lv_tableIn (off := 565) (tgt := 598) hx hb dL_law_33 (by rw [h14]; decide) (by rw [h14]; decide) (by rw [h14]; decide) (by decide) ?_
        exact lc_14 l F hi6 (cont hi6) ab gp gd n pi op hg la tops dpt lst stry srt lin tokA wah fol par_ opn sett clA setv clV kn0 kz0 kn1 kz1 kn2 kz2 kl0 kp0 kk0 kl1 kp1 kk1 kl2 kp2 kk2 tl ct ps sn cb tk ln rop rdp rla row seen sty lineO tokO atO baseO kindO partO colO openO strayO stk bys was gsd cellsO sortO kLine kAt kKind H locs hab hrf hP hD hS ls hl
      by_cases h15 : v32 = nI 15
      · refine lv_tableIn (off := 598) (tgt := 631) hx hb dL_law_33 (by rw [h15]; decide) (by rw [h15]; decide) (by rw [h15]; decide) (by decide) ?_
        exact lc_15 l F hi6 (cont hi6) ab gp gd n pi op hg la tops dpt lst stry srt lin tokA wah fol par_ opn sett clA setv clV kn0 kz0 kn1 kz1 kn2 kz2 kl0 kp0 kk0 kl1 kp1 kk1 kl2 kp2 kk2 tl ct ps sn cb tk ln rop rdp rla row seen sty lineO tokO atO baseO kindO partO colO openO strayO stk bys was gsd cellsO sortO kLine kAt kKind H locs hab hrf hP hD hS ls hl
      by_cases h16 : v32 = nI 16
      · refine lv_tableIn (off := 641) (tgt := 674) hx hb dL_law_33 (by rw [h16]; decide) (by rw [h16]; decide) (by rw [h16]; decide) (by decide) ?_
        exact lc_16 l F hi6 (cont hi6) ab gp gd n pi op hg la tops dpt lst stry srt lin tokA wah fol par_ opn sett clA setv clV kn0 kz0 kn1 kz1 kn2 kz2 kl0 kp0 kk0 kl1 kp1 kk1 kl2 kp2 kk2 tl ct ps sn cb tk ln rop rdp rla row seen sty lineO tokO atO baseO kindO partO colO openO strayO stk bys was gsd cellsO sortO kLine kAt kKind H locs hab hrf hP hD hS ls hl
      refine lv_tableOut (tgt := 697) hx hb dL_law_33 (k_out v32 16 (by decide) (by intro j hj; rcases (show j = 0 ∨ j = 1 ∨ j = 2 ∨ j = 3 ∨ j = 4 ∨ j = 5 ∨ j = 6 ∨ j = 7 ∨ j = 8 ∨ j = 9 ∨ j = 10 ∨ j = 11 ∨ j = 12 ∨ j = 13 ∨ j = 14 ∨ j = 15 ∨ j = 16 by omega) with rfl | rfl | rfl | rfl | rfl | rfl | rfl | rfl | rfl | rfl | rfl | rfl | rfl | rfl | rfl | rfl | rfl <;> assumption)) (by decide) ?_
      exact cont hi6 ab gp gd n pi op hg la tops dpt lst stry srt lin tokA wah fol par_ opn sett clA setv clV kn0 kz0 kn1 kz1 kn2 kz2 kl0 kp0 kk0 kl1 kp1 kk1 kl2 kp2 kk2 tl ct ps sn cb tk ln rop rdp rla row seen sty lineO tokO atO baseO kindO partO colO openO strayO stk bys was gsd cellsO sortO kLine kAt kKind H locs hab hrf hP hD hS ls hl
set_option maxHeartbeats 4000000 in
set_option maxRecDepth 100000 in
theorem whole_start {p : Program} {e : Env} {s : State} {m : MethodId} {below : List Frame} {meth : Method} {c : Code} (l : Launch) (hflags : l.flags = flags0) {b L : Nat} {xs : Nat → Int32} (hL : L ≤ 3072) (C0 : lw_At p s m meth c b L xs) : W p l e room_1 s m #[Value.ref b] below meth c s.heap [] 0 0 (lw_Z below #[Value.ref b] s) (entryFrame m ([Value.ref b] : List Value).toArray 4) := by
  obtain ⟨hx, hb, hr, hml, hown0, hts0, hX, hbl, hlocks, hgv⟩ := id C0
  have hown : s.vm.findClass RL = some m.cls := hown0
  obtain ⟨G, E, hK⟩ := lw_env hts0
  have hC : CW s := lw_cw hts0
  obtain ⟨A, hAe⟩ : ∃ A : Nat → Prop, A = fun q => s.heap.size ≤ q := ⟨_, rfl⟩
  have hA : ∀ q : Nat, s.heap.size ≤ q → A q := fun q h => by rw [hAe]; exact h
  have hA2 : ∀ q : Nat, A q → s.heap.size ≤ q := fun q h => by rw [hAe] at h; exact h
  have hA0 : ∀ q : Nat, q < s.heap.size → ¬ A q := fun q h z => Nat.not_le.mpr h (hA2 q z)
  have hbA : ¬ A b := hA0 b hbl
  have hZ : SW A s s.heap := lw_sw hts0 hgv hA0
  have hts : ∀ w ∈ wsL_law, w.before #[Value.ref b] s = true := fun w h => hts0 w (wsL_law_in w h)
  have F : LFx p s m c b L xs A G E := ⟨hx, hb, hml, hown, hts, hK, hZ, hX, hbl, hL, hA, hbA⟩
  have hS : va_S A s.heap s.heap [] := va_S.rf
  have hP : va_P G vwCl [] s.heap := fun k q h => by simp at h
  have hD : va_D A [] := ⟨fun i j p q h => by simp at h, fun k q h => by simp at h⟩
  have hl := lv_entry ([.ref b]) (n := 4) (Nat.le_of_ble_eq_true rfl)
  rw [lg_entry_eq]
  generalize (lg_sl ([.ref b]) ++ List.replicate (4 - (lg_sl ([.ref b])).length) Slot.unset).toArray = ls at hl ⊢
  have hl : lv_has ls 4 [(0, .ref b)] := hl
  refine va_new (D := G) (ci := 5) (fs := [.null, .null, .null, .null, .null, .int (nI 0), .null]) (C := RX5) (T := TX5) (N := 7) hx hb hts inlX5 tyX5 tyX5_ok hown (hts (Cond.classLink RL 7 RX5) (List.mem_of_getElem? (i := 0) rfl)) (hts (Cond.instantiable RX5 7) (List.mem_of_getElem? (i := 1) rfl)) (hts (Cond.initialized RX5) (List.mem_of_getElem? (i := 2) rfl)) hK hP hD hS hA rfl (fun j hj => by rcases (show j = 0 ∨ j = 1 ∨ j = 2 ∨ j = 3 ∨ j = 4 ∨ j = 5 ∨ j = 6 by omega) with rfl | rfl | rfl | rfl | rfl | rfl | rfl <;> rfl) (Nat.le_of_ble_eq_true rfl) (Nat.le_of_ble_eq_true rfl) dL_law_0 (fun q0 H hP hD hS => ?_)
  have hP : va_P G vwCl ([(q0, .inr (5, [.null, .null, .null, .null, .null, .int (nI 0), .null]))]) H := hP
  have hD : va_D A ([(q0, .inr (5, [.null, .null, .null, .null, .null, .int (nI 0), .null]))]) := hD
  refine lv_dup hx hb dL_law_3 rfl ?_
  refine wi_v0 (G := G) (E := E) (X := []) (rest := [.ref q0]) (wn := fun (u : (Nat → Nat) × (Nat → Nat) × (Nat → Nat) × (Nat → Nat) × (Nat → Nat) × (Nat → Nat → Nat) × (Nat → Nat) × (Nat → Nat) × (Nat → Int32)) => ((iaW E u.1 u.2.1 u.2.2.1 u.2.2.2.1 u.2.2.2.2.1 u.2.2.2.2.2.1 (nI 0) (fun _ => 0)) ++ (txW E u.2.1 0 (slot u.2.2.2.2.2.2.1 (fun k => k))) ++ (neW E u.2.2.1 0 0 0 (fun _ => 0) (fun _ => 0) (fun _ => 0) (fun _ => 0) (fun _ => 0) (fun _ => 0) (fun _ => 0) (fun _ => 0) (fun _ => 0) (fun _ => 0) (fun _ => 0)) ++ (lyW E u.2.2.2.1 u.2.2.2.2.2.2.2.2 (fun _ => 0)) ++ (lyW E u.2.2.2.2.1 (fun _ => 0) (fun _ => 0)) ++ (pkW E (u.2.2.2.2.2.1 0) 0 0 (fun _ => 0) (fun _ => 0) (fun _ => 0)) ++ (pkW E (u.2.2.2.2.2.1 1) 0 0 (fun _ => 0) (fun _ => 0) (fun _ => 0)) ++ (pkW E (u.2.2.2.2.2.1 2) 0 0 (fun _ => 0) (fun _ => 0) (fun _ => 0))) ++ poW E u.2.2.2.2.2.2.1 u.2.2.2.2.2.2.2.1 (fun _ => 0) (fun _ => 0) (fun _ => 0) (fun _ => -9) (fun _ => 0) (fun _ _ => 0)) ⟨hx, hb, hml, hown, hts⟩ hK hZ hC hS hA (fun sz => c_X5_init l G E q0 sz) (cwI 0 hts gL_law_X5_init rfl rfl rfl (hts (Cond.initialized RX5) (List.mem_of_getElem? (i := 2) rfl)) (hts (Cond.methodLink RL 9 yX5_init) (List.mem_of_getElem? (i := 6) rfl)) (hts (Cond.instanceMethod yX5_init) (List.mem_of_getElem? (i := 7) rfl)) rfl (by decide +kernel) ⟨Nat.le_of_ble_eq_true rfl, Nat.le_of_ble_eq_true rfl⟩) hP hD hl.1 rfl (Nat.le_of_ble_eq_true rfl) dL_law_4 ⟨Nat.le_of_ble_eq_true rfl, Nat.le_of_ble_eq_true rfl⟩ (fun u4 H locs p4 hP hD hS => ?_)
  obtain ⟨ia, tx, z, y, v, kq, oa, ta, settN⟩ := u4
  try dsimp only at p4 hP hD
  rw [← p4.1]
  have hP : va_P G vwCl (((iaW E ia tx z y v kq (nI 0) (fun _ => 0)) ++ (txW E tx 0 (slot oa (fun k => k))) ++ (neW E z 0 0 0 (fun _ => 0) (fun _ => 0) (fun _ => 0) (fun _ => 0) (fun _ => 0) (fun _ => 0) (fun _ => 0) (fun _ => 0) (fun _ => 0) (fun _ => 0) (fun _ => 0)) ++ (lyW E y settN (fun _ => 0)) ++ (lyW E v (fun _ => 0) (fun _ => 0)) ++ (pkW E (kq 0) 0 0 (fun _ => 0) (fun _ => 0) (fun _ => 0)) ++ (pkW E (kq 1) 0 0 (fun _ => 0) (fun _ => 0) (fun _ => 0)) ++ (pkW E (kq 2) 0 0 (fun _ => 0) (fun _ => 0) (fun _ => 0))) ++ poW E oa ta (fun _ => 0) (fun _ => 0) (fun _ => 0) (fun _ => -9) (fun _ => 0) (fun _ _ => 0)) H := hP
  have hD : va_D A (((iaW E ia tx z y v kq (nI 0) (fun _ => 0)) ++ (txW E tx 0 (slot oa (fun k => k))) ++ (neW E z 0 0 0 (fun _ => 0) (fun _ => 0) (fun _ => 0) (fun _ => 0) (fun _ => 0) (fun _ => 0) (fun _ => 0) (fun _ => 0) (fun _ => 0) (fun _ => 0) (fun _ => 0)) ++ (lyW E y settN (fun _ => 0)) ++ (lyW E v (fun _ => 0) (fun _ => 0)) ++ (pkW E (kq 0) 0 0 (fun _ => 0) (fun _ => 0) (fun _ => 0)) ++ (pkW E (kq 1) 0 0 (fun _ => 0) (fun _ => 0) (fun _ => 0)) ++ (pkW E (kq 2) 0 0 (fun _ => 0) (fun _ => 0) (fun _ => 0))) ++ poW E oa ta (fun _ => 0) (fun _ => 0) (fun _ => 0) (fun _ => -9) (fun _ => 0) (fun _ _ => 0)) := hD
  refine lv_astore_n (lv' := [(1, .ref (ia 0)), (0, .ref b)]) hx hb dL_law_7 rfl hl (by decide) rfl (fun ls hl => ?_)
  refine va_new (D := G) (ci := 6) (fs := [.int (nI 0), .null, .null, .null, .int (nI 0), .null, .null, .null, .null, .null, .null, .null, .null, .null, .int (nI 0), .null, .int (nI 0), .null, .null, .null, .null, .null, .null, .null, .null]) (C := RX6) (T := TX6) (N := 25) hx hb hts inlX6 tyX6 tyX6_ok hown (hts (Cond.classLink RL 10 RX6) (List.mem_of_getElem? (i := 3) rfl)) (hts (Cond.instantiable RX6 25) (List.mem_of_getElem? (i := 4) rfl)) (hts (Cond.initialized RX6) (List.mem_of_getElem? (i := 5) rfl)) hK hP hD hS hA rfl (fun j hj => by rcases (show j = 0 ∨ j = 1 ∨ j = 2 ∨ j = 3 ∨ j = 4 ∨ j = 5 ∨ j = 6 ∨ j = 7 ∨ j = 8 ∨ j = 9 ∨ j = 10 ∨ j = 11 ∨ j = 12 ∨ j = 13 ∨ j = 14 ∨ j = 15 ∨ j = 16 ∨ j = 17 ∨ j = 18 ∨ j = 19 ∨ j = 20 ∨ j = 21 ∨ j = 22 ∨ j = 23 ∨ j = 24 by omega) with rfl | rfl | rfl | rfl | rfl | rfl | rfl | rfl | rfl | rfl | rfl | rfl | rfl | rfl | rfl | rfl | rfl | rfl | rfl | rfl | rfl | rfl | rfl | rfl | rfl <;> rfl) (Nat.le_of_ble_eq_true rfl) (Nat.le_of_ble_eq_true rfl) dL_law_8 (fun q8 H hP hD hS => ?_)
  have hP := swP hP
  have hD := swD hD
  refine lv_dup hx hb dL_law_11 rfl ?_
  refine wi_v (G := G) (E := E) (X := (iaW E ia tx z y v kq (nI 0) (fun _ => 0)) ++ (txW E tx 0 (slot oa (fun k => k))) ++ (neW E z 0 0 0 (fun _ => 0) (fun _ => 0) (fun _ => 0) (fun _ => 0) (fun _ => 0) (fun _ => 0) (fun _ => 0) (fun _ => 0) (fun _ => 0) (fun _ => 0) (fun _ => 0)) ++ (lyW E y settN (fun _ => 0)) ++ (lyW E v (fun _ => 0) (fun _ => 0)) ++ (pkW E (kq 0) 0 0 (fun _ => 0) (fun _ => 0) (fun _ => 0)) ++ (pkW E (kq 1) 0 0 (fun _ => 0) (fun _ => 0) (fun _ => 0)) ++ (pkW E (kq 2) 0 0 (fun _ => 0) (fun _ => 0) (fun _ => 0))) (pl := poW E oa ta (fun _ => 0) (fun _ => 0) (fun _ => 0) (fun _ => -9) (fun _ => 0) (fun _ _ => 0)) (rest := [.ref q8]) (wn := fun (u : (Nat → Nat) × (Nat → Int32) × (Nat → Int32)) => rW E u.1 0 0 0 0 (fun _ => 0) u.2.1 u.2.2 (fun _ => 0) (fun _ => 0) (fun _ => 0) (fun _ => 0) (fun _ => 0) (fun _ => 0) (fun _ => 0) (fun _ => 0) (fun _ => 0) (fun _ => 0) (fun _ => 0) (fun _ => 0) (fun _ => 0) (fun _ => 0) (fun _ => 0) (fun _ => 0) (fun _ => 0) (fun _ => 0)) ⟨hx, hb, hml, hown, hts⟩ hK hZ hC hS hA (fun sz => c_X6_init l G E q8 sz) (cwI 0 hts gL_law_X6_init rfl rfl rfl (hts (Cond.initialized RX6) (List.mem_of_getElem? (i := 5) rfl)) (hts (Cond.methodLink RL 12 yX6_init) (List.mem_of_getElem? (i := 74) rfl)) (hts (Cond.instanceMethod yX6_init) (List.mem_of_getElem? (i := 75) rfl)) rfl (by decide +kernel) ⟨Nat.le_of_ble_eq_true rfl, Nat.le_of_ble_eq_true rfl⟩) hP hD hl.1 rfl (Nat.le_of_ble_eq_true rfl) dL_law_12 ⟨Nat.le_of_ble_eq_true rfl, Nat.le_of_ble_eq_true rfl⟩ (fun u12 H locs p12 hP hD hS => ?_)
  obtain ⟨a, seenN, styN⟩ := u12
  try dsimp only at p12 hP hD
  rw [← p12.1]
  have hP : va_P G vwCl (((iaW E ia tx z y v kq (nI 0) (fun _ => 0)) ++ (txW E tx 0 (slot oa (fun k => k))) ++ (neW E z 0 0 0 (fun _ => 0) (fun _ => 0) (fun _ => 0) (fun _ => 0) (fun _ => 0) (fun _ => 0) (fun _ => 0) (fun _ => 0) (fun _ => 0) (fun _ => 0) (fun _ => 0)) ++ (lyW E y settN (fun _ => 0)) ++ (lyW E v (fun _ => 0) (fun _ => 0)) ++ (pkW E (kq 0) 0 0 (fun _ => 0) (fun _ => 0) (fun _ => 0)) ++ (pkW E (kq 1) 0 0 (fun _ => 0) (fun _ => 0) (fun _ => 0)) ++ (pkW E (kq 2) 0 0 (fun _ => 0) (fun _ => 0) (fun _ => 0)) ++ (rW E a 0 0 0 0 (fun _ => 0) seenN styN (fun _ => 0) (fun _ => 0) (fun _ => 0) (fun _ => 0) (fun _ => 0) (fun _ => 0) (fun _ => 0) (fun _ => 0) (fun _ => 0) (fun _ => 0) (fun _ => 0) (fun _ => 0) (fun _ => 0) (fun _ => 0) (fun _ => 0) (fun _ => 0) (fun _ => 0) (fun _ => 0))) ++ poW E oa ta (fun _ => 0) (fun _ => 0) (fun _ => 0) (fun _ => -9) (fun _ => 0) (fun _ _ => 0)) H := hP
  have hD : va_D A (((iaW E ia tx z y v kq (nI 0) (fun _ => 0)) ++ (txW E tx 0 (slot oa (fun k => k))) ++ (neW E z 0 0 0 (fun _ => 0) (fun _ => 0) (fun _ => 0) (fun _ => 0) (fun _ => 0) (fun _ => 0) (fun _ => 0) (fun _ => 0) (fun _ => 0) (fun _ => 0) (fun _ => 0)) ++ (lyW E y settN (fun _ => 0)) ++ (lyW E v (fun _ => 0) (fun _ => 0)) ++ (pkW E (kq 0) 0 0 (fun _ => 0) (fun _ => 0) (fun _ => 0)) ++ (pkW E (kq 1) 0 0 (fun _ => 0) (fun _ => 0) (fun _ => 0)) ++ (pkW E (kq 2) 0 0 (fun _ => 0) (fun _ => 0) (fun _ => 0)) ++ (rW E a 0 0 0 0 (fun _ => 0) seenN styN (fun _ => 0) (fun _ => 0) (fun _ => 0) (fun _ => 0) (fun _ => 0) (fun _ => 0) (fun _ => 0) (fun _ => 0) (fun _ => 0) (fun _ => 0) (fun _ => 0) (fun _ => 0) (fun _ => 0) (fun _ => 0) (fun _ => 0) (fun _ => 0) (fun _ => 0) (fun _ => 0))) ++ poW E oa ta (fun _ => 0) (fun _ => 0) (fun _ => 0) (fun _ => -9) (fun _ => 0) (fun _ _ => 0)) := hD
  refine lv_astore_n (lv' := [(2, .ref (a 0)), (1, .ref (ia 0)), (0, .ref b)]) hx hb dL_law_15 rfl hl (by decide) rfl (fun ls hl => ?_)
  refine lv_iconst (v := (nI 0)) hx hb dL_law_16 (by decide) ?_
  refine lv_istore_n (lv' := [(3, .int (nI 0)), (2, .ref (a 0)), (1, .ref (ia 0)), (0, .ref b)]) hx hb dL_law_17 rfl hl (by decide) rfl (fun ls hl => ?_)
  refine W.widen (k := 600000) (n := 7302250) (Nat.le_of_ble_eq_true rfl) (Nat.le_of_ble_eq_true rfl) ?_
  exact law_loop l F hr hlocks hA2 (L + 8) 0 (by omega) (Nat.zero_le _) ab0 (nI 0) (fun _ => 0) 0 (fun k => k) 0 0 0 (fun _ => 0) (fun _ => 0) (fun _ => 0) (fun _ => 0) (fun _ => 0) (fun _ => 0) (fun _ => 0) (fun _ => 0) (fun _ => 0) (fun _ => 0) (fun _ => 0) settN (fun _ => 0) (fun _ => 0) (fun _ => 0) 0 0 0 0 0 0 (fun _ => 0) (fun _ => 0) (fun _ => 0) (fun _ => 0) (fun _ => 0) (fun _ => 0) (fun _ => 0) (fun _ => 0) (fun _ => 0) (fun _ => 0) (fun _ => 0) (fun _ => 0) (fun _ => -9) (fun _ => 0) (fun _ _ => 0) 0 0 0 0 (fun _ => 0) seenN styN (fun _ => 0) (fun _ => 0) (fun _ => 0) (fun _ => 0) (fun _ => 0) (fun _ => 0) (fun _ => 0) (fun _ => 0) (fun _ => 0) (fun _ => 0) (fun _ => 0) (fun _ => 0) (fun _ => 0) (fun _ => 0) (fun _ => 0) (fun _ => 0) (fun _ => 0) (fun _ => 0) H _ (cls0 p4.2) (ref0 p12.2.1 p12.2.2) hP hD hS ls hl
-- ===== YOUR PART ENDS =====
set_option maxHeartbeats 4000000 in
theorem lw_walk (l : Launch) (hflags : l.flags = flags0) (b : Addr) (xs : List Int32) : MetFree l x (headSpec (Jvm.Cond.code x code maxLocals ret :: tables_1) room_1) (lw_P b xs) (fun _ _ _ _ _ => True) lw_Q := by
  refine MetFree.of_bodyS (code := code) (maxLocals := maxLocals) (ret := ret) (by decide) ?_ ?_
  · intro args s m h hn
    obtain ⟨meth, c, h1, h2, h3, h4, h5, h6, -, -⟩ := Cond.code_spec hn (atoms_spec (ws := Jvm.Cond.code x code maxLocals ret :: tables_1) h _ List.mem_cons_self)
    exact ⟨meth, c, h1, h2, h3, h4, h5, h6⟩
  · intro p e s m args below meth c s₁ B hml0 hP _
    obtain ⟨rfl, hx, hbd, hgv⟩ := hP
    obtain ⟨scr, harrAt, hlist, hof, hsmall⟩ := hx
    obtain ⟨hcb, hkn, -, -⟩ := State.arrayAt?_spec harrAt
    have hown : s.vm.findClass R_law = some m.cls := findClass_of_methodNamed B.named
    have hts0 : ∀ c ∈ (Jvm.Cond.code x code maxLocals ret :: tables_1), c.before #[Value.ref b] s = true := atoms_spec (ws := Jvm.Cond.code x code maxLocals ret :: tables_1) B.pre
    have hts : ∀ w ∈ lw_tbl, w.before #[Value.ref b] s = true := k2_hts_sels lw_privs (fun w hw => hts0 w (List.mem_cons_of_mem _ hw)) lw_privs_ok
    have hml : c.maxLocals = 4 := B.maxLocals_eq (hts0 _ List.mem_cons_self)
    have X₀ : Stand p l e room_1 s m #[Value.ref b] below meth c s₁ [] 0 0 := Stand.of_body B
    have hh0 : s₁.heap = s.heap := by rw [B.state]; rfl
    have hsz : scr.slots.size = xs.length := by rw [← Array.length_toList, hlist, List.length_map]
    have hval : ∀ j : Nat, j < xs.length → scr.slots[j]? = some (.int (xs.getD j 0)) := fun j hj => by
      rw [← Array.getElem?_toList, hlist]
      simp [hj]
    have hbl : b < s.heap.size := (Array.getElem?_eq_some_iff.mp hcb).1
    have hX : va_X b xs.length (fun j => xs.getD j 0) s s.heap := ⟨scr, hcb, hof, hkn, hsz, hval⟩
    have K : W p l e room_1 s m #[Value.ref b] below meth c s₁.heap [] 0 0 (lw_Z below #[Value.ref b] s) (entryFrame m ([Value.ref b] : List Value).toArray 4) := by
      rw [hh0]
      exact whole_start l hflags hbd ⟨B.exec, B.bytes, B.returns, hml, hown, hts, hX, hbl, B.notSynchronized, hgv⟩
    obtain ⟨t, a1, o, b1, b2, b3⟩ := K s₁ rfl X₀
    exact ⟨t, o, a1, b1, b2, b3⟩
theorem lw_pre_spec {args : Array Value} {s : State} (h : (Jvm.Cond.and given_1 narrow_1).before args s = true) (hr : rest_1_c.before args s = true) : ∃ (b : Addr) (xs : List Int32), lw_P b xs args s := by
  have hs := flat_of_before _ h
  have hq := flat_of_before _ hr
  have hc : (Cond.count 1).before args s = true := hs _ (by decide +kernel)
  have harr : (Cond.arrayOf (.arg 0) .int).before args s = true := hs _ (by decide +kernel)
  have hle : (Cond.le (.length (.arg 0)) (.int 3072)).before args s = true := hs _ (by decide +kernel)
  have hlen : (Cond.isInt (.length (.arg 0))).before args s = true := hq _ (by decide +kernel)
  have hall : (Cond.all (.arg 0) (.isInt (.elem (.arg 0) (.index 0)))).before args s = true := hq _ (by decide +kernel)
  obtain ⟨b, xs, hb, hx⟩ := State.ints_of_pre rfl harr hlen hall
  have hsm : xs.length < 2 ^ 31 := hx.choose_spec.2.2.2
  have hev : (Term.length (.arg 0)).eval args s none [] s = some (.int xs.length.toInt32) := hx.length_eval hb
  have hv := Cond.le_ints hev (show (Term.int 3072).eval args s none [] s = some (.int 3072) from rfl)
  have hd : xs.length.toInt32 ≤ 3072 := by
    simpa [Cond.before, Cond.holds, hv] using hle
  have hN : xs.length ≤ 3072 := (Int32.ofNat_le_ofNat hsm (by decide)).mp (show Int32.ofNat xs.length ≤ Int32.ofNat 3072 from hd)
  exact ⟨b, xs, Cond.one_arg hc (show args[0]? = some (.ref b) from hb), hx, hN, h⟩
theorem lw_comes (l : Launch) (hflags : l.flags = flags0) : Comes l x (Jvm.Cond.code x code maxLocals ret :: tables_1) room_1 (fun tb e args s => Calls_1 tb e args s ∧ rest_1 tb e args s ∧ Pre_1 tb e args s)
    (fun _ _ args s o t => lw_Q args s o t) := by
  intro p e ha hc hk s m args below hf hfit hheap happ hpre
  obtain ⟨b, xs, hP⟩ := lw_pre_spec hpre.2.2 hpre.2.1
  obtain ⟨k, o, h1, h2, h3, hQ⟩ := lw_walk l hflags b xs p e ha hc hk s m args below hf ((Spec.applies_iff_loose hf).mp happ).1 hP trivial
  exact ⟨k, o, h1, h2, h3, hQ⟩
theorem lw_frame {s t : State} {o : Outcome} {args : Array Value} (h : Framed s o t [] 600000 7302250) :
    Framed s o t (fieldLocs frame_1_writes args s ++ arrayLocs frame_1_arrays args s ++ staticLocs frame_1_statics s) 600000 7302250 := h
theorem lw_limb (L : Cond) (hL : ∀ (args : Array Value) (s t : State), L.after args s (.returned (some (.int 1))) t = true) :
    ArmFor flags0 classFile x code maxLocals ret World_1 tables_1 room_1 Calls_1 rest_1 Pre_1
      (fun tb e a s o t => postC L tb e a s o t ∧ Framed s o t (fieldLocs frame_1_writes a s ++ arrayLocs frame_1_arrays a s ++ staticLocs frame_1_statics s) 600000 7302250) := by
  intro l hflags _ _ p e ha hc hk s m args below hf hfit hheap happ hpre
  obtain ⟨k, o, h1, h2, h3, rfl, hF⟩ := lw_comes l hflags p e ha hc hk s m args below hf hfit hheap happ hpre
  exact ⟨k, _, h1, h2, h3, hL args s _, lw_frame hF⟩
theorem i_vc : Claimed_1_1 ∧ Claimed_1_2 := ⟨lw_limb limb_1_1 (fun args s t => by simp [limb_1_1, Cond.after, Cond.holds, Cond.value]), lw_limb limb_1_2 (fun args s t => Cond.after_iff.mpr (by
  first | (rw [show limb_1_2 = Cond.eq .result (.int 1) from rfl, Cond.eq_ints (x := 1) (y := 1) rfl rfl]; simp; done) | (simp [limb_1_2, Cond.value, Term.eval]; done)))⟩
