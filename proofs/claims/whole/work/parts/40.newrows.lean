/-! making: what the constructors need -/
theorem P_left {G : va_G} {cl : List vw_C} {X Y : va_W} {H : Heap} (h : va_P G cl (X ++ Y) H) : va_P G cl X H := fun k q hk => h k q (by rw [List.getElem?_append_left (List.getElem?_eq_some_iff.mp hk).1]; exact hk)
theorem P_right {G : va_G} {cl : List vw_C} {X Y : va_W} {H : Heap} (h : va_P G cl (X ++ Y) H) : va_P G cl Y H := fun k q hk => h (X.length + k) q (by rw [List.getElem?_append_right (by omega), Nat.add_sub_cancel_left]; exact hk)
theorem D_left {A : Nat → Prop} {X Y : va_W} (h : va_D A (X ++ Y)) : va_D A X := by
  have e : ∀ (k : Nat) (q : Nat × va_E), X[k]? = some q → (X ++ Y)[k]? = some q := fun k q hk => by rw [List.getElem?_append_left (List.getElem?_eq_some_iff.mp hk).1]; exact hk
  exact ⟨fun i j p q hp hq => h.1 i j p q (e i p hp) (e j q hq), fun k q hk => h.2 k q (e k q hk)⟩
theorem D_right {A : Nat → Prop} {X Y : va_W} (h : va_D A (X ++ Y)) : va_D A Y := by
  have e : ∀ (k : Nat) (q : Nat × va_E), Y[k]? = some q → (X ++ Y)[X.length + k]? = some q := fun k q hk => by rw [List.getElem?_append_right (by omega), Nat.add_sub_cancel_left]; exact hk
  exact ⟨fun i j p q hp hq hpq => by have := h.1 _ _ p q (e i p hp) (e j q hq) hpq; omega, fun k q hk => h.2 _ q (e k q hk)⟩
theorem D_apart {A : Nat → Prop} {X Y : va_W} (h : va_D A (X ++ Y)) {i j : Nat} {x y : Nat × va_E} (hx : X[i]? = some x) (hy : Y[j]? = some y) (hxy : x.1 = y.1) : False := by
  have hl := (List.getElem?_eq_some_iff.mp hx).1
  have := h.1 i (X.length + j) x y (by rw [List.getElem?_append_left hl]; exact hx) (by rw [List.getElem?_append_right (by omega), Nat.add_sub_cancel_left]; exact hy) hxy
  omega
theorem swP {G : va_G} {cl : List vw_C} {X pl c : va_W} {H : Heap} (h : va_P G cl ((X ++ pl) ++ c) H) : va_P G cl ((X ++ c) ++ pl) H := va_P.app (va_P.app (P_left (P_left h)) (P_right h)) (P_right (P_left h))
theorem at_app {X Y : va_W} {k : Nat} {q : Nat × va_E} (h : (X ++ Y)[k]? = some q) : (∃ i : Nat, X[i]? = some q) ∨ ∃ i : Nat, Y[i]? = some q := by
  by_cases hk : k < X.length
  · rw [List.getElem?_append_left hk] at h; exact Or.inl ⟨k, h⟩
  · rw [List.getElem?_append_right (by omega)] at h; exact Or.inr ⟨_, h⟩
theorem in_l {X Y : va_W} {k : Nat} {q : Nat × va_E} (h : X[k]? = some q) : ∃ i : Nat, (X ++ Y)[i]? = some q := ⟨k, by rw [List.getElem?_append_left (List.getElem?_eq_some_iff.mp h).1]; exact h⟩
theorem in_r {X Y : va_W} {k : Nat} {q : Nat × va_E} (h : Y[k]? = some q) : ∃ i : Nat, (X ++ Y)[i]? = some q := ⟨X.length + k, by rw [List.getElem?_append_right (by omega), Nat.add_sub_cancel_left]; exact h⟩
theorem swD {A : Nat → Prop} {X pl c : va_W} (h : va_D A ((X ++ pl) ++ c)) : va_D A ((X ++ c) ++ pl) := by
  refine va_D.app (va_D.app (D_left (D_left h)) (D_right h) (fun i j x y hx hy hxy => ?_)) (D_right (D_left h)) (fun i j x y hx hy hxy => ?_)
  · obtain ⟨i2, hx2⟩ := in_l (Y := pl) hx
    exact D_apart h hx2 hy hxy
  · rcases at_app hx with ⟨i2, hx2⟩ | ⟨i2, hx2⟩
    · exact D_apart (D_left h) hx2 hy hxy
    · obtain ⟨j2, hy2⟩ := in_r (X := X) hy
      exact D_apart h hy2 hx2 hxy.symm
theorem k_joinN {A0 : Nat → Prop} {G : va_G} {cl : List vw_C} {X pl w1 : va_W} {b : Nat} {e0 : va_E} {H H1 : Heap} (hP : va_P G cl ((X ++ [(b, e0)]) ++ pl) H) (hD : va_D A0 ((X ++ [(b, e0)]) ++ pl)) (hk : ∀ q : Nat, q < H.size → ¬ va_A [(b, e0)] H.size q → H1[q]? = H[q]?) (hF : ∀ q, va_A [(b, e0)] H.size q → A0 q) (hP1 : va_P G cl w1 H1) (hD1 : va_D (va_A [(b, e0)] H.size) w1) : va_P G cl ((X ++ w1) ++ pl) H1 ∧ va_D A0 ((X ++ w1) ++ pl) := by
  have hbc : ∃ i : Nat, (X ++ [(b, e0)])[i]? = some (b, e0) := in_r (k := 0) rfl
  have notA : ∀ (x : Nat × va_E), x.1 < H.size → x.1 ≠ b → ¬ va_A [(b, e0)] H.size x.1 := by
    intro x h1 h2 h
    rcases h with ⟨k, e, h⟩ | h
    · have hz : k < 1 := (List.getElem?_eq_some_iff.mp h).1
      rw [show k = 0 by omega] at h
      cases h
      exact h2 rfl
    · omega
  have hX : ∀ (k : Nat) (x : Nat × va_E), X[k]? = some x → ¬ va_A [(b, e0)] H.size x.1 := fun k x hx => notA x (P_left (P_left hP) k x hx).lt (fun e => D_apart (D_left hD) hx (j := 0) rfl e)
  have hpl : ∀ (k : Nat) (x : Nat × va_E), pl[k]? = some x → ¬ va_A [(b, e0)] H.size x.1 := fun k x hx => notA x (P_right hP k x hx).lt (fun e => by obtain ⟨i, hi⟩ := hbc; exact D_apart hD hi hx e.symm)
  constructor
  · refine va_P.app (va_P.app (fun k x hx => ?_) hP1) (fun k x hx => ?_)
    · exact (P_left (P_left hP) k x hx).kept (hk x.1 (P_left (P_left hP) k x hx).lt (hX k x hx))
    · exact (P_right hP k x hx).kept (hk x.1 (P_right hP k x hx).lt (hpl k x hx))
  · refine va_D.app (va_D.app (D_left (D_left hD)) (hD1.weaken (fun k q _ h => hF q.1 h)) (fun i j x y hx hy hxy => hX i x hx (by rw [hxy]; exact hD1.2 j y hy))) (D_right hD) (fun i j x y hx hy hxy => ?_)
    rcases at_app hx with ⟨i2, hx2⟩ | ⟨i2, hx2⟩
    · obtain ⟨i3, hx3⟩ := in_l (Y := [(b, e0)]) hx2
      exact D_apart hD hx3 hy hxy
    · exact hpl j y hy (by rw [← hxy]; exact hD1.2 i2 x hx2)
theorem va_P.setq {G : va_G} {cl : List vw_C} {ws : va_W} {H : Heap} {a n : Nat} {cA : ClassId} {f g : Nat → Option Nat} (h : va_P G cl ws H) (i : Nat) (hi : ws[i]? = some (a, .inl (cA, n, .inr (.inr (.inr (.inr f)))))) (hfg : ∀ k, k < n → f k = g k) : va_P G cl (ws.set i (a, .inl (cA, n, .inr (.inr (.inr (.inr g)))))) H := by
  intro k q hq
  by_cases e : i = k
  · subst e
    have hlt : i < ws.length := (List.getElem?_eq_some_iff.mp hi).1
    rw [List.getElem?_set_self hlt] at hq
    cases hq
    have h2 : H[a]? = some (vp_cell cA (n, .inr (.inr (.inr (.inr f))))) := h i _ hi
    show H[a]? = some (vp_cell cA (n, .inr (.inr (.inr (.inr g)))))
    rw [h2, vp_cell_q, vp_cell_q]
    have e2 : (fun j : Fin n => va_rf (f j.val)) = fun j : Fin n => va_rf (g j.val) := funext fun j => by rw [hfg j.val j.isLt]
    unfold arrV
    rw [e2]
  · rw [List.getElem?_set_ne e] at hq; exact h k q hq
theorem va_D.setq {A : Nat → Prop} {ws : va_W} {a : Nat} {e1 e2 : va_E} (h : va_D A ws) (i : Nat) (hi : ws[i]? = some (a, e1)) : va_D A (ws.set i (a, e2)) := by
  refine h.fst ?_
  apply List.ext_getElem?
  intro k
  rw [List.getElem?_map, List.getElem?_map]
  by_cases e : i = k
  · subst e
    rw [List.getElem?_set_self (List.getElem?_eq_some_iff.mp hi).1, hi]; rfl
  · rw [List.getElem?_set_ne e]
/-- words that no method's list holds: arrays of the made classes, nest mates' constructors -/
def CW (U : State) : Prop := va_AO RX1 U ∧ va_AO RX3 U ∧ va_Nw (.methodLinkNest RX5 18 yX2_init RX5) U ∧ va_Nw (.methodLinkNest RX5 25 yX0_init RX5) U ∧ va_Nw (.methodLinkNest RX5 47 yX3_init RX5) U ∧ va_Nw (.methodLinkNest RX4 17 yX1_init RX5) U
theorem CW.moved {u U : State} (hvm : u.WarmedH U.vm) (h : CW u) : CW U := ⟨h.1.moved hvm.alike, h.2.1.moved hvm.alike, va_Nw.warmM hvm h.2.2.1, va_Nw.warmM hvm h.2.2.2.1, va_Nw.warmM hvm h.2.2.2.2.1, va_Nw.warmM hvm h.2.2.2.2.2⟩
theorem CW.calls {U : State} {g : JFrame} {mk : MethodId} {a : Array Value} (h : CW U) : CW (U.calling g mk a) := ⟨va_AO.moved (u := U) (U := U.calling g mk a) (Vm.Alike.refl U.vm) h.1, va_AO.moved (u := U) (U := U.calling g mk a) (Vm.Alike.refl U.vm) h.2.1, va_Nw.same (u := U) (U := U.calling g mk a) rfl rfl h.2.2.1, va_Nw.same (u := U) (U := U.calling g mk a) rfl rfl h.2.2.2.1, va_Nw.same (u := U) (U := U.calling g mk a) rfl rfl h.2.2.2.2.1, va_Nw.same (u := U) (U := U.calling g mk a) rfl rfl h.2.2.2.2.2⟩
def PI (G : va_G) (E : cEnv) (wc : va_W) (sz : Nat) (U : State) : Prop := PW G E wc sz U ∧ CW U
theorem PI.blind {G : va_G} {E : cEnv} {wc : va_W} {sz : Nat} {av : List Value} : FrameBlind (va_Pc av (PI G E wc sz)) := fun a U g mk q => ⟨q.1, (PW.blind a U g mk ⟨q.1, q.2.1⟩).2, CW.calls q.2.2⟩
theorem PI.pre {G : va_G} {E : cEnv} {wc : va_W} {av : List Value} {s : State} {A : Nat → Prop} {H : Heap} {locs : List Loc} (hK : KK G E s) (hZ : SW A s s.heap) (hC : CW s) (hS : va_S A s.heap H locs) (hP : va_P G vwCl wc H) (hD : va_D A wc) (hF : ∀ q, va_A wc H.size q → A q) : ∀ U : State, U.heap = H → s.WarmedH U.vm → va_Pc av (PI G E wc H.size) av.toArray U := fun U hU hW => ⟨rfl, (PW.pre (av := av) hK hZ hS hP hD hF U hU hW).2, hC.moved hW⟩
section NW2
variable {p : Program} {l : Launch} {e : Env} {R : Room} {s : State} {m : MethodId} {args : Array Value} {below : List Frame} {meth : Method} {c : Code} {H : Heap} {locs : List Loc} {cells slots : Nat} {Q : State → Prop}
variable {cc : ByteArray} {pc : Nat} {ls : Array Slot} {rest st0 : List Value} {A : Nat → Prop} {ws : va_W} {H0 : Heap} {G : va_G} {E : cEnv}
theorem k_newI (hexec : p.tables.exec = Jvm.exec) (hb : c.code = cc) (harr : (Cond.arrayClass .int).before args s = true) (hK : KK G E s) (hP : va_P G vwCl ws H) (hD : va_D A ws) (hS : va_S A H0 H locs) (hA : ∀ q, H0.size ≤ q → A q) {n : Int32} {N' : Nat} (hn : ¬ n < 0) (hN : n.toNatClampNeg = N') (hbytes : N' * componentBytes .int ≤ 536870912) (hcells : cells + 1 ≤ R.cells) (hslots : slots + N' ≤ R.slots) (hdg : decode cc pc = .ok (.newarray .int, 2))
    (kk : ∀ (q : Nat) (H1 : Heap), va_P G vwCl (ws ++ [(q, .inl (E.1, N', .inl (fun _ => 0)))]) H1 → va_D A (ws ++ [(q, .inl (E.1, N', .inl (fun _ => 0)))]) → va_S A H0 H1 locs → W p l e R s m args below meth c H1 locs (cells + 1) (slots + N') Q (F0 m (pc + 2) ls (.ref q :: rest))) : W p l e R s m args below meth c H locs cells slots Q (F0 m pc ls (.int n :: rest)) := by
  refine va_newa (atype := .int) (ty := .int) (a0 := (N', .inl (fun _ => 0))) hexec hb harr rfl hK hP hD hS hA (fun _ => rfl) hn hN hbytes hcells hslots hdg (fun q cA H1 hK1 hP1 hD1 hS1 => ?_)
  have e1 : s.vm.findClass "[I" = some cA := va_nm_int (hK1.2 4 _ rfl).2
  have e2 : s.vm.findClass "[I" = some E.1 := va_nm_int (hK.2 0 _ rfl).2
  have e3 : cA = E.1 := Option.some.inj (e1.symm.trans e2)
  subst e3
  exact kk q H1 hP1 hD1 hS1
theorem k_newZ (hexec : p.tables.exec = Jvm.exec) (hb : c.code = cc) (harr : (Cond.arrayClass .boolean).before args s = true) (hK : KK G E s) (hP : va_P G vwCl ws H) (hD : va_D A ws) (hS : va_S A H0 H locs) (hA : ∀ q, H0.size ≤ q → A q) {n : Int32} {N' : Nat} (hn : ¬ n < 0) (hN : n.toNatClampNeg = N') (hbytes : N' * componentBytes .boolean ≤ 536870912) (hcells : cells + 1 ≤ R.cells) (hslots : slots + N' ≤ R.slots) (hdg : decode cc pc = .ok (.newarray .boolean, 2))
    (kk : ∀ (q : Nat) (H1 : Heap), va_P G vwCl (ws ++ [(q, .inl (E.2.1, N', .inl (fun _ => 0)))]) H1 → va_D A (ws ++ [(q, .inl (E.2.1, N', .inl (fun _ => 0)))]) → va_S A H0 H1 locs → W p l e R s m args below meth c H1 locs (cells + 1) (slots + N') Q (F0 m (pc + 2) ls (.ref q :: rest))) : W p l e R s m args below meth c H locs cells slots Q (F0 m pc ls (.int n :: rest)) := by
  refine va_newa (atype := .boolean) (ty := .boolean) (a0 := (N', .inl (fun _ => 0))) hexec hb harr rfl hK hP hD hS hA (fun _ => rfl) hn hN hbytes hcells hslots hdg (fun q cA H1 hK1 hP1 hD1 hS1 => ?_)
  have e1 : s.vm.findClass "[Z" = some cA := va_nm_boolean (hK1.2 4 _ rfl).2
  have e2 : s.vm.findClass "[Z" = some E.2.1 := va_nm_boolean (hK.2 1 _ rfl).2
  have e3 : cA = E.2.1 := Option.some.inj (e1.symm.trans e2)
  subst e3
  exact kk q H1 hP1 hD1 hS1
theorem k_newL (hexec : p.tables.exec = Jvm.exec) (hb : c.code = cc) {own : String} {index : Nat} (hown : s.vm.findClass own = some m.cls) (hcl : (Cond.classLink own index RX1).before args s = true) (hC : va_AO RX1 s) (hK : KK G E s) (hP : va_P G vwCl ws H) (hD : va_D A ws) (hS : va_S A H0 H locs) (hA : ∀ q, H0.size ≤ q → A q) {n : Int32} {N' : Nat} (hn : ¬ n < 0) (hN : n.toNatClampNeg = N') (hbytes : N' * 4 ≤ 536870912) (hcells : cells + 1 ≤ R.cells) (hslots : slots + N' ≤ R.slots) (hdg : decode cc pc = .ok (.anewarray index, 3))
    (kk : ∀ (q : Nat) (H1 : Heap), va_P G vwCl (ws ++ [(q, .inl (E.2.2.1, N', .inr (.inr (.inr (.inr (fun _ => none))))))]) H1 → va_D A (ws ++ [(q, .inl (E.2.2.1, N', .inr (.inr (.inr (.inr (fun _ => none))))))]) → va_S A H0 H1 locs → W p l e R s m args below meth c H1 locs (cells + 1) (slots + N') Q (F0 m (pc + 3) ls (.ref q :: rest))) : W p l e R s m args below meth c H locs cells slots Q (F0 m pc ls (.int n :: rest)) := by
  refine va_newq hexec hb hown hcl hC hK hP hD hS hA hn hN hbytes hcells hslots hdg (fun q cA H1 hK1 hP1 hD1 hS1 => ?_)
  obtain ⟨_, _, _, _, _, e1⟩ := (hK1.2 4 _ rfl).2
  obtain ⟨_, _, _, _, _, e2⟩ := (hK.2 2 _ rfl).2
  have e3 : cA = E.2.2.1 := Option.some.inj (e1.symm.trans e2)
  subst e3
  exact kk q H1 hP1 hD1 hS1
theorem k_newP (hexec : p.tables.exec = Jvm.exec) (hb : c.code = cc) {own : String} {index : Nat} (hown : s.vm.findClass own = some m.cls) (hcl : (Cond.classLink own index RX3).before args s = true) (hC : va_AO RX3 s) (hK : KK G E s) (hP : va_P G vwCl ws H) (hD : va_D A ws) (hS : va_S A H0 H locs) (hA : ∀ q, H0.size ≤ q → A q) {n : Int32} {N' : Nat} (hn : ¬ n < 0) (hN : n.toNatClampNeg = N') (hbytes : N' * 4 ≤ 536870912) (hcells : cells + 1 ≤ R.cells) (hslots : slots + N' ≤ R.slots) (hdg : decode cc pc = .ok (.anewarray index, 3))
    (kk : ∀ (q : Nat) (H1 : Heap), va_P G vwCl (ws ++ [(q, .inl (E.2.2.2, N', .inr (.inr (.inr (.inr (fun _ => none))))))]) H1 → va_D A (ws ++ [(q, .inl (E.2.2.2, N', .inr (.inr (.inr (.inr (fun _ => none))))))]) → va_S A H0 H1 locs → W p l e R s m args below meth c H1 locs (cells + 1) (slots + N') Q (F0 m (pc + 3) ls (.ref q :: rest))) : W p l e R s m args below meth c H locs cells slots Q (F0 m pc ls (.int n :: rest)) := by
  refine va_newq hexec hb hown hcl hC hK hP hD hS hA hn hN hbytes hcells hslots hdg (fun q cA H1 hK1 hP1 hD1 hS1 => ?_)
  obtain ⟨_, _, _, _, _, e1⟩ := (hK1.2 4 _ rfl).2
  obtain ⟨_, _, _, _, _, e2⟩ := (hK.2 3 _ rfl).2
  have e3 : cA = E.2.2.2 := Option.some.inj (e1.symm.trans e2)
  subst e3
  exact kk q H1 hP1 hD1 hS1
theorem k_astP (hexec : p.tables.exec = Jvm.exec) (hb : c.code = cc) (hK : KK G E s) (hP : va_P G vwCl ws H) (hD : va_D A ws) (hS : va_S A H0 H locs) (q0 qk : Nat) {a b n : Nat} {f : Nat → Option Nat} {vs : List Value} (ha : ws[q0]? = some (a, .inl (E.2.2.2, n, .inr (.inr (.inr (.inr f)))))) (hv : ws[qk]? = some (b, .inr (3, vs))) {j : Nat} (hj : j < n) (hn : n < 2 ^ 31) (hdg : decode cc pc = .ok (.aastore, 1))
    (kk : ∀ (H1 : Heap) (locs1 : List Loc), va_P G vwCl (ws.set q0 (a, .inl (E.2.2.2, n, .inr (.inr (.inr (.inr (va_up f j (some b)))))))) H1 → va_D A (ws.set q0 (a, .inl (E.2.2.2, n, .inr (.inr (.inr (.inr (va_up f j (some b)))))))) → va_S A H0 H1 locs1 → W p l e R s m args below meth c H1 locs1 cells slots Q (F0 m (pc + 1) ls rest)) : W p l e R s m args below meth c H locs cells slots Q (F0 m pc ls (.ref b :: .int (nI j) :: .ref a :: rest)) :=
  va_astq (r := (RX3, TX3, 5)) hexec hb hK hP hD hS q0 3 qk 3 ha rfl hv rfl (vp_in_nI hj hn) hdg (by rw [nI_clamp (Nat.lt_trans hj hn)]; exact kk)
theorem k_astL (hexec : p.tables.exec = Jvm.exec) (hb : c.code = cc) (hK : KK G E s) (hP : va_P G vwCl ws H) (hD : va_D A ws) (hS : va_S A H0 H locs) (q0 qk : Nat) {a b n : Nat} {f : Nat → Option Nat} {vs : List Value} (ha : ws[q0]? = some (a, .inl (E.2.2.1, n, .inr (.inr (.inr (.inr f)))))) (hv : ws[qk]? = some (b, .inr (1, vs))) {j : Nat} (hj : j < n) (hn : n < 2 ^ 31) (hdg : decode cc pc = .ok (.aastore, 1))
    (kk : ∀ (H1 : Heap) (locs1 : List Loc), va_P G vwCl (ws.set q0 (a, .inl (E.2.2.1, n, .inr (.inr (.inr (.inr (va_up f j (some b)))))))) H1 → va_D A (ws.set q0 (a, .inl (E.2.2.1, n, .inr (.inr (.inr (.inr (va_up f j (some b)))))))) → va_S A H0 H1 locs1 → W p l e R s m args below meth c H1 locs1 cells slots Q (F0 m (pc + 1) ls rest)) : W p l e R s m args below meth c H locs cells slots Q (F0 m pc ls (.ref b :: .int (nI j) :: .ref a :: rest)) :=
  va_astq (r := (RX1, TX1, 6)) hexec hb hK hP hD hS q0 2 qk 1 ha rfl hv rfl (vp_in_nI hj hn) hdg (by rw [nI_clamp (Nat.lt_trans hj hn)]; exact kk)
variable {bytes : ByteArray} {nL maxL index mc ms : Nat} {own host : String} {y : MethodName} {rm : Room} {Ts wl : List Cond}
theorem wi_v {Sg : Type} {post : Sg → Prop} {wn : Sg → va_W} {X pl : va_W} {b : Nat} {e0 : va_E} (S : CallFix p m c cc nL s args Ts own) (hK : KK G E s) (hZ : SW A s s.heap) (hC : CW s) (hS : va_S A s.heap H locs) (hA : ∀ q, s.heap.size ≤ q → A q)
    (hM : ∀ sz, Met l y wl rm (va_Pc [.ref b] (PI G E [(b, e0)] sz)) (va_Qv post (fun u t => va_P G vwCl (wn u) t.heap ∧ va_D (va_A [(b, e0)] sz) (wn u)) (va_A [(b, e0)] sz)) mc ms (va_A [(b, e0)] sz))
    (cw : CallB R s args own index y bytes maxL none wl rm mc ms 0 ∧ y.name = "<init>" ∧ (Cond.instanceMethod y).before args s = true)
    (hP : va_P G vwCl ((X ++ [(b, e0)]) ++ pl) H) (hD : va_D A ((X ++ [(b, e0)]) ++ pl)) (hl : ls.size = nL) (hst : st0 = .ref b :: rest) (hW : (rest.map fun v => v.category).sum ≤ 8) (hdg : decode cc pc = .ok (.invokespecial index, 3)) (hf : cells + mc ≤ R.cells ∧ slots + ms ≤ R.slots)
    (kk : ∀ (u : Sg) (H1 : Heap) (locs1 : List Loc), post u → va_P G vwCl ((X ++ wn u) ++ pl) H1 → va_D A ((X ++ wn u) ++ pl) → va_S A s.heap H1 locs1 → W p l e R s m args below meth c H1 locs1 (cells + mc) (slots + ms) Q (F0 m (pc + 3) ls rest)) : W p l e R s m args below meth c H locs cells slots Q (F0 m pc ls st0) := by
  have hPc : va_P G vwCl [(b, e0)] H := P_right (P_left hP)
  have hDc : va_D A [(b, e0)] := D_right (D_left hD)
  have hF := free_A hDc hS hA
  refine va_callv (va_runI S (hM H.size) cw ⟨PI.blind, PI.pre hK hZ hC hS hPc hDc hF⟩ rfl rfl hl hst (lv_room hW) hdg hf) hS (fun q _ h => hF q h) (fun q h => hF q h) ?_
  intro u t H1 locs1 ht _ hp hB _ hk1 hS1
  rw [ht] at hB
  obtain ⟨h1, h2⟩ := k_joinN hP hD hk1 hF hB.1 hB.2
  exact kk u H1 locs1 hp h1 h2 hS1
theorem wn_v {Sg : Type} {post : Sg → Prop} {wn : Sg → va_W} {X pl : va_W} {b : Nat} {e0 : va_E} (S : CallFix p m c cc nL s args Ts own) (hK : KK G E s) (hZ : SW A s s.heap) (hC : CW s) (hS : va_S A s.heap H locs) (hA : ∀ q, s.heap.size ≤ q → A q)
    (hM : ∀ sz, Met l y wl rm (va_Pc [.ref b] (PI G E [(b, e0)] sz)) (va_Qv post (fun u t => va_P G vwCl (wn u) t.heap ∧ va_D (va_A [(b, e0)] sz) (wn u)) (va_A [(b, e0)] sz)) mc ms (va_A [(b, e0)] sz))
    (cw : va_CN R s args own index y host bytes maxL none wl rm mc ms 0 ∧ y.name = "<init>" ∧ (Cond.instanceMethod y).before args s = true)
    (hP : va_P G vwCl ((X ++ [(b, e0)]) ++ pl) H) (hD : va_D A ((X ++ [(b, e0)]) ++ pl)) (hl : ls.size = nL) (hst : st0 = .ref b :: rest) (hW : (rest.map fun v => v.category).sum ≤ 8) (hdg : decode cc pc = .ok (.invokespecial index, 3)) (hf : cells + mc ≤ R.cells ∧ slots + ms ≤ R.slots)
    (kk : ∀ (u : Sg) (H1 : Heap) (locs1 : List Loc), post u → va_P G vwCl ((X ++ wn u) ++ pl) H1 → va_D A ((X ++ wn u) ++ pl) → va_S A s.heap H1 locs1 → W p l e R s m args below meth c H1 locs1 (cells + mc) (slots + ms) Q (F0 m (pc + 3) ls rest)) : W p l e R s m args below meth c H locs cells slots Q (F0 m pc ls st0) := by
  have hPc : va_P G vwCl [(b, e0)] H := P_right (P_left hP)
  have hDc : va_D A [(b, e0)] := D_right (D_left hD)
  have hF := free_A hDc hS hA
  refine va_callv (va_runIN S (hM H.size) cw ⟨PI.blind, PI.pre hK hZ hC hS hPc hDc hF⟩ rfl rfl hl hst (lv_room hW) hdg hf) hS (fun q _ h => hF q h) (fun q h => hF q h) ?_
  intro u t H1 locs1 ht _ hp hB _ hk1 hS1
  rw [ht] at hB
  obtain ⟨h1, h2⟩ := k_joinN hP hD hk1 hF hB.1 hB.2
  exact kk u H1 locs1 hp h1 h2 hS1
end NW2
/-! the lines as they are made, one after another -/
def lnI (a : Nat) : va_E := .inr (1, [.ref a, .int (nI 0), .int (nI 0), .int (nI 0), .int (-9), .int (nI 0)])
def tkI (E : cEnv) : va_E := .inl (E.1, 9, .inl (fun _ => 0))
def il (E : cEnv) (oa ta : Nat → Nat) : Nat → va_W
  | 0 => []
  | i + 1 => il E oa ta i ++ [(oa i, lnI (ta i)), (ta i, tkI E)]
theorem il_len (E : cEnv) (oa ta : Nat → Nat) : ∀ i, (il E oa ta i).length = 2 * i
  | 0 => rfl
  | i + 1 => by show (il E oa ta i ++ _).length = _; rw [List.length_append, il_len E oa ta i]; rfl
theorem il_congr {E : cEnv} {oa ta oa2 ta2 : Nat → Nat} : ∀ {i : Nat}, (∀ k, k < i → oa k = oa2 k ∧ ta k = ta2 k) → il E oa ta i = il E oa2 ta2 i
  | 0, _ => rfl
  | i + 1, h => by
    show il E oa ta i ++ _ = il E oa2 ta2 i ++ _
    rw [il_congr (fun k hk => h k (by omega)), (h i (by omega)).1, (h i (by omega)).2]
theorem il_at {E : cEnv} {oa ta : Nat → Nat} {k : Nat} : ∀ {i : Nat}, k < i → (il E oa ta i)[2 * k]? = some (oa k, lnI (ta k)) ∧ (il E oa ta i)[2 * k + 1]? = some (ta k, tkI E)
  | 0, h => absurd h (Nat.not_lt_zero _)
  | i + 1, h => by
    show (il E oa ta i ++ _)[2 * k]? = _ ∧ (il E oa ta i ++ _)[2 * k + 1]? = _
    by_cases q : k = i
    · subst q
      rw [List.getElem?_append_right (by rw [il_len]; omega), List.getElem?_append_right (by rw [il_len]; omega), il_len, Nat.sub_self, Nat.add_sub_cancel_left]
      exact ⟨rfl, rfl⟩
    · rw [List.getElem?_append_left (by rw [il_len]; omega), List.getElem?_append_left (by rw [il_len]; omega)]
      exact il_at (by omega)
theorem il_po {E : cEnv} {oa ta : Nat → Nat} : ∀ (k : Nat) (q : Nat × va_E), (poW E oa ta (fun _ => 0) (fun _ => 0) (fun _ => 0) (fun _ => -9) (fun _ => 0) (fun _ _ => 0))[k]? = some q → (il E oa ta 20)[if k < 20 then 2 * k else 2 * (k - 20) + 1]? = some q := by
  intro k q h
  rcases po_cases h with ⟨h1, h2⟩ | ⟨h1, h2, h3⟩
  · rw [if_pos h1, (il_at h1).1, h2]; rfl
  · rw [if_neg (by omega), (il_at h2).2, h3]; rfl
