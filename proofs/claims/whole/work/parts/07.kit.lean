/-! own rows over the kit: one table of array kinds, statics, calls in place, rows over natural numbers -/
abbrev cEnv : Type := ClassId × ClassId × ClassId × ClassId
abbrev TYS (E : cEnv) : List (ClassId × FieldType) := [(E.1, .int), (E.2.1, .boolean), (E.2.2.1, .object RX1), (E.2.2.2, .object RX3)]
abbrev KK (G : va_G) (E : cEnv) (U : State) : Prop := va_K G vwCl (TYS E) U
def wdN (j : Nat) : Nat := if j = 0 then 0 else if j = 1 then 3 else if j = 7 then 2 else if j = 9 then 4 else 1
def leN (j : Nat) : Nat := if j < 2 then 1 else 0
def moN (j : Nat) : Nat := if j < 2 then 8 else 1
def s1 (nm : String) (N : Nat) (f : Nat → Nat) (A : Nat → Prop) (U : State) (H : Heap) : Prop := ∃ t : Nat, va_Z RX5 nm "[I" (.ref t) A U H ∧ va_T .int t N (fun j => .int (nI (f j))) A U H
theorem s1.moved {nm : String} {N : Nat} {f : Nat → Nat} {A : Nat → Prop} {u U : State} {H : Heap} (hvm : u.vm.Alike U.vm) (h : s1 nm N f A u H) : s1 nm N f A U H := by
  obtain ⟨t, h1, h2⟩ := h
  exact ⟨t, h1.moved hvm, h2.moved hvm⟩
theorem s1.kept {nm : String} {N : Nat} {f : Nat → Nat} {A : Nat → Prop} {U : State} {H H1 : Heap} (h : s1 nm N f A U H) (hq : ∀ a : Nat, a < H.size → ¬ A a → H1[a]? = H[a]?) : s1 nm N f A U H1 := by
  obtain ⟨t, h1, h2⟩ := h
  exact ⟨t, h1.kept hq, h2.kept hq⟩
theorem s1.narrow {nm : String} {N : Nat} {f : Nat → Nat} {A B : Nat → Prop} {U : State} {H : Heap} (h : s1 nm N f A U H) (hAB : ∀ q, B q → A q) : s1 nm N f B U H := by
  obtain ⟨t, h1, h2⟩ := h
  exact ⟨t, h1.narrow hAB, h2.narrow hAB⟩
/-- a nest mate's link that no method's words hold -/
abbrev NW (U : State) : Prop := va_Nw (.fieldLinkNest RX1 32 RX5 "WIDTHS" "[I" RX5) U
def SW (A : Nat → Prop) (U : State) (H : Heap) : Prop := s1 "WIDTHS" 10 wdN A U H ∧ s1 "LEAST" 4 leN A U H ∧ s1 "MOST" 4 moN A U H ∧ NW U
theorem SW.moved {A : Nat → Prop} {u U : State} {H : Heap} (hvm : u.WarmedH U.vm) (h : SW A u H) : SW A U H := ⟨h.1.moved hvm.alike, h.2.1.moved hvm.alike, h.2.2.1.moved hvm.alike, va_Nw.warmF hvm h.2.2.2⟩
theorem SW.calls {A : Nat → Prop} {U : State} {H : Heap} {g : JFrame} {mk : MethodId} {a : Array Value} (h : SW A U H) : SW A (U.calling g mk a) H := ⟨h.1.moved (u := U) (U := U.calling g mk a) (Vm.Alike.refl U.vm), h.2.1.moved (u := U) (U := U.calling g mk a) (Vm.Alike.refl U.vm), h.2.2.1.moved (u := U) (U := U.calling g mk a) (Vm.Alike.refl U.vm), va_Nw.same (u := U) (U := U.calling g mk a) rfl rfl h.2.2.2⟩
theorem SW.kept {A : Nat → Prop} {U : State} {H H1 : Heap} (h : SW A U H) (hq : ∀ a : Nat, a < H.size → ¬ A a → H1[a]? = H[a]?) : SW A U H1 := ⟨h.1.kept hq, h.2.1.kept hq, h.2.2.1.kept hq, h.2.2.2⟩
theorem SW.narrow {A B : Nat → Prop} {U : State} {H : Heap} (h : SW A U H) (hAB : ∀ q, B q → A q) : SW B U H := ⟨h.1.narrow hAB, h.2.1.narrow hAB, h.2.2.1.narrow hAB, h.2.2.2⟩
/-- what a method that writes nothing asks of its start: its cells, the tables, the statics -/
def PR (G : va_G) (E : cEnv) (wc : va_W) (U : State) : Prop := va_P G vwCl wc U.heap ∧ KK G E U ∧ SW (fun _ => False) U U.heap
theorem PR.blind {G : va_G} {E : cEnv} {wc : va_W} {av : List Value} : FrameBlind (va_Pc av (PR G E wc)) := fun a U g mk q =>
  ⟨q.1, q.2.1, va_K.moved (u := U) (U := U.calling g mk a) (Vm.Alike.refl U.vm) q.2.2.1, SW.calls q.2.2.2⟩
theorem PR.pre {G : va_G} {E : cEnv} {wc : va_W} {av : List Value} {s : State} {A : Nat → Prop} {H : Heap} {locs : List Loc} (hK : KK G E s) (hZ : SW A s s.heap) (hS : va_S A s.heap H locs) (hP : va_P G vwCl wc H) : ∀ U : State, U.heap = H → s.WarmedH U.vm → va_Pc av (PR G E wc) av.toArray U := by
  intro U hU hW
  refine ⟨rfl, by rw [hU]; exact hP, va_K.moved hW.alike hK, ?_⟩
  rw [hU]
  exact ((hZ.kept hS.2.1).narrow (fun _ h => h.elim)).moved hW
/-- what a method that writes asks of its start -/
def PW (G : va_G) (E : cEnv) (wc : va_W) (sz : Nat) (U : State) : Prop := U.heap.size = sz ∧ va_P G vwCl wc U.heap ∧ KK G E U ∧ va_D (fun _ => True) wc ∧ SW (va_A wc sz) U U.heap
theorem PW.blind {G : va_G} {E : cEnv} {wc : va_W} {sz : Nat} {av : List Value} : FrameBlind (va_Pc av (PW G E wc sz)) := fun a U g mk q =>
  ⟨q.1, q.2.1, q.2.2.1, va_K.moved (u := U) (U := U.calling g mk a) (Vm.Alike.refl U.vm) q.2.2.2.1, q.2.2.2.2.1, SW.calls q.2.2.2.2.2⟩
theorem PW.pre {G : va_G} {E : cEnv} {wc : va_W} {av : List Value} {s : State} {A : Nat → Prop} {H : Heap} {locs : List Loc} (hK : KK G E s) (hZ : SW A s s.heap) (hS : va_S A s.heap H locs) (hP : va_P G vwCl wc H) (hD : va_D A wc) (hF : ∀ q, va_A wc H.size q → A q) : ∀ U : State, U.heap = H → s.WarmedH U.vm → va_Pc av (PW G E wc H.size) av.toArray U := by
  intro U hU hW
  refine ⟨rfl, by rw [hU], by rw [hU]; exact hP, va_K.moved hW.alike hK, hD.weaken (fun _ _ _ _ => trivial), ?_⟩
  rw [hU]
  exact ((hZ.kept hS.2.1).narrow hF).moved hW
/-- cells put back where they were -/
def lk : List Nat → va_W → Nat → Option (Nat × va_E)
  | i :: is, e :: es, k => match Nat.beq i k with
    | true => some e
    | false => lk is es k
  | _, _, _ => none
def putAt (is : List Nat) (w1 : va_W) : Nat → va_W → va_W
  | _, [] => []
  | k, q :: ws => (match lk is w1 k with
    | some e => e
    | none => q) :: putAt is w1 (k + 1) ws
theorem lk_some : ∀ (is : List Nat) (w1 : va_W) (k : Nat) (e : Nat × va_E), lk is w1 k = some e → ∃ j : Nat, is[j]? = some k ∧ w1[j]? = some e
  | [], w1, k, e, h => by cases w1 <;> cases h
  | i :: is, [], k, e, h => by cases h
  | i :: is, x :: es, k, e, h => by
    unfold lk at h
    cases hb : Nat.beq i k with
    | true =>
      rw [hb] at h
      have hik : i = k := Nat.eq_of_beq_eq_true hb
      exact ⟨0, by rw [hik]; rfl, h⟩
    | false =>
      rw [hb] at h
      obtain ⟨j, h1, h2⟩ := lk_some is es k e h
      exact ⟨j + 1, by simpa using h1, by simpa using h2⟩
theorem lk_none : ∀ (is : List Nat) (w1 : va_W) (k : Nat), is.length = w1.length → lk is w1 k = none → k ∉ is
  | [], w1, k, _, _ => List.not_mem_nil
  | i :: is, [], k, hl, _ => by simp at hl
  | i :: is, x :: es, k, hl, h => by
    unfold lk at h
    cases hb : Nat.beq i k with
    | true => rw [hb] at h; cases h
    | false =>
      rw [hb] at h
      have h1 := lk_none is es k (by simpa using hl) h
      intro hm
      rcases List.mem_cons.mp hm with e | e
      · exact Nat.ne_of_beq_eq_false hb e.symm
      · exact h1 e
theorem putAt_get (is : List Nat) (w1 : va_W) : ∀ (ws : va_W) (k0 k : Nat), (putAt is w1 k0 ws)[k]? = (ws[k]?).map (fun q => match lk is w1 (k0 + k) with | some e => e | none => q)
  | [], k0, k => by simp [putAt]
  | q :: ws, k0, 0 => by simp [putAt]
  | q :: ws, k0, k + 1 => by
    show (putAt is w1 (k0 + 1) ws)[k]? = _
    rw [putAt_get is w1 ws (k0 + 1) k, show k0 + 1 + k = k0 + (k + 1) by omega]
    simp
theorem va_D.fst {A : Nat → Prop} {ws ws' : va_W} (h : va_D A ws) (he : ws'.map Prod.fst = ws.map Prod.fst) : va_D A ws' := by
  have key : ∀ (k : Nat) (q : Nat × va_E), ws'[k]? = some q → ∃ p, ws[k]? = some p ∧ p.1 = q.1 := by
    intro k q hk
    have h1 : (ws'.map Prod.fst)[k]? = some q.1 := by rw [List.getElem?_map, hk]; rfl
    rw [he, List.getElem?_map] at h1
    cases hp : ws[k]? with
    | none => rw [hp] at h1; cases h1
    | some p => rw [hp] at h1; exact ⟨p, rfl, Option.some.inj h1⟩
  refine ⟨fun i j x y hx hy hxy => ?_, fun k q hk => ?_⟩
  · obtain ⟨p1, a1, b1⟩ := key i x hx
    obtain ⟨p2, a2, b2⟩ := key j y hy
    exact h.1 i j p1 p2 a1 a2 (by rw [b1, b2, hxy])
  · obtain ⟨p1, a1, b1⟩ := key k q hk
    rw [← b1]
    exact h.2 k p1 a1
theorem k_join {A0 : Nat → Prop} {G : va_G} {cl : List vw_C} {ws wc w1 : va_W} {H H1 : Heap} (hP : va_P G cl ws H) (hD : va_D A0 ws) (is : List Nat) (hC : is.map (fun i => ws[i]?) = wc.map some) (hn : va_nd is = true) (ha : w1.map Prod.fst = wc.map Prod.fst)
    (hk : ∀ q : Nat, q < H.size → ¬ va_A wc H.size q → H1[q]? = H[q]?) (hP1 : va_P G cl w1 H1) : va_P G cl (putAt is w1 0 ws) H1 ∧ va_D A0 (putAt is w1 0 ws) := by
  have hlen : is.length = w1.length := by
    have h1 := congrArg List.length hC
    have h2 := congrArg List.length ha
    simp at h1 h2
    omega
  have key : ∀ (k : Nat) (q : Nat × va_E), (putAt is w1 0 ws)[k]? = some q → (ws[k]? = some q ∧ k ∉ is) ∨ ∃ j : Nat, is[j]? = some k ∧ w1[j]? = some q := by
    intro k q hq
    rw [putAt_get, Nat.zero_add] at hq
    cases hw : ws[k]? with
    | none => rw [hw] at hq; cases hq
    | some p =>
      rw [hw] at hq
      cases hL : lk is w1 k with
      | none =>
        simp only [hL, Option.map_some] at hq
        exact Or.inl ⟨hq, lk_none is w1 k hlen hL⟩
      | some e =>
        simp only [hL, Option.map_some] at hq
        cases hq
        exact Or.inr (lk_some is w1 k _ hL)
  have hf : (putAt is w1 0 ws).map Prod.fst = ws.map Prod.fst := by
    apply List.ext_getElem?
    intro k
    rw [List.getElem?_map, List.getElem?_map, putAt_get, Nat.zero_add]
    cases hw : ws[k]? with
    | none => rfl
    | some p =>
      simp only [Option.map_some]
      cases hL : lk is w1 k with
      | none => rfl
      | some e =>
        obtain ⟨j, h1, h2⟩ := lk_some is w1 k e hL
        have h3 : (is.map (fun i => ws[i]?))[j]? = some (some p) := by rw [List.getElem?_map, h1, ← hw]; rfl
        rw [hC, List.getElem?_map] at h3
        have h4 : (w1.map Prod.fst)[j]? = some e.1 := by rw [List.getElem?_map, h2]; rfl
        rw [ha, List.getElem?_map] at h4
        cases hc : wc[j]? with
        | none => rw [hc] at h3; cases h3
        | some c =>
          rw [hc] at h3 h4
          have e1 : c = p := by simpa using h3
          have e2 : c.1 = e.1 := by simpa using h4
          show some e.1 = some p.1
          rw [← e2, e1]
  refine ⟨fun k q hq => ?_, hD.fst hf⟩
  rcases key k q hq with ⟨h1, h2⟩ | ⟨j, h1, h2⟩
  · have hl := (hP k q h1).lt
    refine (hP k q h1).kept (hk q.1 hl (fun hA => ?_))
    rcases hA with ⟨k2, e, h3⟩ | h3
    · obtain ⟨i, h4, h5⟩ := va_in_of is hC h3
      have hij := hD.1 k i q (q.1, e) h1 h5 rfl
      subst hij
      exact h2 (List.mem_of_getElem? h4)
    · omega
  · exact hP1 j q h2
