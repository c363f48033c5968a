/-! own rows over the kit: one table of array kinds, statics, calls in place, rows over natural numbers -/
abbrev cEnv : Type := ClassId × ClassId × ClassId × ClassId
abbrev TYS (E : cEnv) : List (ClassId × FieldType) := [(E.1, .int), (E.2.1, .boolean), (E.2.2.1, .object RX1), (E.2.2.2, .object RX3)]
abbrev KK (G : va_G) (E : cEnv) (U : State) : Prop := va_K G vwCl (TYS E) U
def wdN (j : Nat) : Nat := if j = 0 then 0 else if j = 1 then 3 else if j = 7 then 2 else if j = 9 then 4 else 1
def leN (j : Nat) : Nat := if j < 2 then 1 else 0
def moN (j : Nat) : Nat := if j < 2 then 8 else 1
def s1 (nm : String) (N : Nat) (f : Nat → Nat) (A : Nat → Prop) (U : State) (H : Heap) : Prop := ∃ t : Nat, va_Z RX5 nm "[I" (.ref t) A U H ∧ va_T .int t N (fun j => .int (nI (f j))) A U H
theorem s1.moved {nm : String} {N : Nat} {f : Nat → Nat} {A : Nat → Prop} {u U : State} {H : Heap} (hvm : u.vm.Alike U.vm) (h : s1 nm N f A u H) : s1 nm N f A U H := by
  obtain ⟨t, h1, h2⟩ := h
  exact ⟨t, h1.moved hvm, h2.moved hvm⟩
theorem s1.kept {nm : String} {N : Nat} {f : Nat → Nat} {A : Nat → Prop} {U : State} {H H1 : Heap} (h : s1 nm N f A U H) (hq : ∀ a : Nat, a < H.size → ¬ A a → H1[a]? = H[a]?) : s1 nm N f A U H1 := by
  obtain ⟨t, h1, h2⟩ := h
  exact ⟨t, h1.kept hq, h2.kept hq⟩
theorem s1.narrow {nm : String} {N : Nat} {f : Nat → Nat} {A B : Nat → Prop} {U : State} {H : Heap} (h : s1 nm N f A U H) (hAB : ∀ q, B q → A q) : s1 nm N f B U H := by
  obtain ⟨t, h1, h2⟩ := h
  exact ⟨t, h1.narrow hAB, h2.narrow hAB⟩
def SW (A : Nat → Prop) (U : State) (H : Heap) : Prop := s1 "WIDTHS" 10 wdN A U H ∧ s1 "LEAST" 4 leN A U H ∧ s1 "MOST" 4 moN A U H
theorem SW.moved {A : Nat → Prop} {u U : State} {H : Heap} (hvm : u.vm.Alike U.vm) (h : SW A u H) : SW A U H := ⟨h.1.moved hvm, h.2.1.moved hvm, h.2.2.moved hvm⟩
theorem SW.kept {A : Nat → Prop} {U : State} {H H1 : Heap} (h : SW A U H) (hq : ∀ a : Nat, a < H.size → ¬ A a → H1[a]? = H[a]?) : SW A U H1 := ⟨h.1.kept hq, h.2.1.kept hq, h.2.2.kept hq⟩
theorem SW.narrow {A B : Nat → Prop} {U : State} {H : Heap} (h : SW A U H) (hAB : ∀ q, B q → A q) : SW B U H := ⟨h.1.narrow hAB, h.2.1.narrow hAB, h.2.2.narrow hAB⟩
/-- what a method that writes nothing asks of its start: its cells, the tables, the statics -/
def PR (G : va_G) (E : cEnv) (wc : va_W) (U : State) : Prop := va_P G vwCl wc U.heap ∧ KK G E U ∧ SW (fun _ => False) U U.heap
theorem PR.blind {G : va_G} {E : cEnv} {wc : va_W} {av : List Value} : FrameBlind (va_Pc av (PR G E wc)) := fun a U g mk q =>
  ⟨q.1, q.2.1, va_K.moved (u := U) (U := U.calling g mk a) (Vm.Alike.refl U.vm) q.2.2.1, SW.moved (u := U) (U := U.calling g mk a) (Vm.Alike.refl U.vm) q.2.2.2⟩
theorem PR.pre {G : va_G} {E : cEnv} {wc : va_W} {av : List Value} {s : State} {A : Nat → Prop} {H : Heap} {locs : List Loc} (hK : KK G E s) (hZ : SW A s s.heap) (hS : va_S A s.heap H locs) (hP : va_P G vwCl wc H) : ∀ U : State, U.heap = H → s.WarmedH U.vm → va_Pc av (PR G E wc) av.toArray U := by
  intro U hU hW
  refine ⟨rfl, by rw [hU]; exact hP, va_K.moved hW.alike hK, ?_⟩
  rw [hU]
  exact ((hZ.kept hS.2.1).narrow (fun _ h => h.elim)).moved hW.alike
/-- what a method that writes asks of its start -/
def PW (G : va_G) (E : cEnv) (wc : va_W) (sz : Nat) (U : State) : Prop := U.heap.size = sz ∧ va_P G vwCl wc U.heap ∧ KK G E U ∧ va_D (fun _ => True) wc ∧ SW (va_A wc sz) U U.heap
theorem PW.blind {G : va_G} {E : cEnv} {wc : va_W} {sz : Nat} {av : List Value} : FrameBlind (va_Pc av (PW G E wc sz)) := fun a U g mk q =>
  ⟨q.1, q.2.1, q.2.2.1, va_K.moved (u := U) (U := U.calling g mk a) (Vm.Alike.refl U.vm) q.2.2.2.1, q.2.2.2.2.1, SW.moved (u := U) (U := U.calling g mk a) (Vm.Alike.refl U.vm) q.2.2.2.2.2⟩
theorem PW.pre {G : va_G} {E : cEnv} {wc : va_W} {av : List Value} {s : State} {A : Nat → Prop} {H : Heap} {locs : List Loc} (hK : KK G E s) (hZ : SW A s s.heap) (hS : va_S A s.heap H locs) (hP : va_P G vwCl wc H) (hD : va_D A wc) (hF : ∀ q, va_A wc H.size q → A q) : ∀ U : State, U.heap = H → s.WarmedH U.vm → va_Pc av (PW G E wc H.size) av.toArray U := by
  intro U hU hW
  refine ⟨rfl, by rw [hU], by rw [hU]; exact hP, va_K.moved hW.alike hK, hD.weaken (fun _ _ _ _ => trivial), ?_⟩
  rw [hU]
  exact ((hZ.kept hS.2.1).narrow hF).moved hW.alike
/-- cells put back where they were -/
def setAll : va_W → List Nat → va_W → va_W
  | ws, i :: is, e :: es => setAll (ws.set i e) is es
  | ws, _, _ => ws
theorem setAll_at : ∀ (is : List Nat) (ws w1 : va_W) (k : Nat) (q : Nat × va_E), is.length = w1.length → (setAll ws is w1)[k]? = some q → (ws[k]? = some q ∧ k ∉ is) ∨ ∃ j : Nat, is[j]? = some k ∧ w1[j]? = some q
  | [], ws, w1, k, q, _, h => by
    cases w1 <;> exact Or.inl ⟨h, List.not_mem_nil⟩
  | i :: is, ws, [], k, q, hl, h => by simp at hl
  | i :: is, ws, e :: es, k, q, hl, h => by
    have h' : (setAll (ws.set i e) is es)[k]? = some q := h
    rcases setAll_at is (ws.set i e) es k q (by simpa using hl) h' with ⟨h1, h2⟩ | ⟨j, h1, h2⟩
    · by_cases hk : i = k
      · subst hk
        have hlt : i < ws.length := by
          have := (List.getElem?_eq_some_iff.mp h1).1
          simpa using this
        rw [List.getElem?_set_self hlt] at h1
        exact Or.inr ⟨0, rfl, h1⟩
      · rw [List.getElem?_set_ne hk] at h1
        exact Or.inl ⟨h1, fun hm => by
          rcases List.mem_cons.mp hm with e1 | e1
          · exact hk e1.symm
          · exact h2 e1⟩
    · exact Or.inr ⟨j + 1, by simpa using h1, by simpa using h2⟩
theorem set_fst {ws : va_W} {i : Nat} {e : Nat × va_E} (h : ∀ p, ws[i]? = some p → p.1 = e.1) : (ws.set i e).map Prod.fst = ws.map Prod.fst := by
  apply List.ext_getElem?
  intro k
  rw [List.getElem?_map, List.getElem?_map]
  by_cases hk : i = k
  · subst hk
    by_cases hl : i < ws.length
    · rw [List.getElem?_set_self hl, List.getElem?_eq_getElem hl]
      simp [h _ (List.getElem?_eq_getElem hl)]
    · rw [List.getElem?_eq_none (by simpa using Nat.not_lt.mp hl), List.getElem?_eq_none (by simpa using Nat.not_lt.mp hl)]
  · rw [List.getElem?_set_ne hk]
theorem setAll_fst : ∀ (is : List Nat) (ws wc w1 : va_W), is.map (fun i => ws[i]?) = wc.map some → va_nd is = true → w1.map Prod.fst = wc.map Prod.fst → (setAll ws is w1).map Prod.fst = ws.map Prod.fst
  | [], ws, wc, w1, _, _, _ => by cases w1 <;> rfl
  | i :: is, ws, [], w1, h, _, _ => by simp at h
  | i :: is, ws, c :: wc, [], _, _, h => by simp at h
  | i :: is, ws, c :: wc, e :: es, h, hn, ha => by
    have hn2 : i ∉ is ∧ va_nd is = true := by
      unfold va_nd at hn
      simpa using hn
    simp only [List.map_cons, List.cons.injEq] at h ha
    have h1 : (ws.set i e).map Prod.fst = ws.map Prod.fst := set_fst (fun p hp => by rw [h.1] at hp; rw [ha.1]; exact congrArg Prod.fst (Option.some.inj hp).symm)
    have h2 : is.map (fun j => (ws.set i e)[j]?) = wc.map some := by
      rw [← h.2]
      apply List.map_congr_left
      intro j hj
      have hij : i ≠ j := fun q => hn2.1 (by rw [q]; exact hj)
      rw [List.getElem?_set_ne hij]
    show (setAll (ws.set i e) is es).map Prod.fst = _
    rw [setAll_fst is (ws.set i e) wc es h2 hn2.2 ha.2, h1]
theorem va_D.fst {A : Nat → Prop} {ws ws' : va_W} (h : va_D A ws) (he : ws'.map Prod.fst = ws.map Prod.fst) : va_D A ws' := by
  have key : ∀ (k : Nat) (q : Nat × va_E), ws'[k]? = some q → ∃ p, ws[k]? = some p ∧ p.1 = q.1 := by
    intro k q hk
    have h1 : (ws'.map Prod.fst)[k]? = some q.1 := by rw [List.getElem?_map, hk]; rfl
    rw [he, List.getElem?_map] at h1
    cases hp : ws[k]? with
    | none => rw [hp] at h1; cases h1
    | some p => rw [hp] at h1; exact ⟨p, rfl, Option.some.inj h1⟩
  refine ⟨fun i j x y hx hy hxy => ?_, fun k q hk => ?_⟩
  · obtain ⟨p1, a1, b1⟩ := key i x hx
    obtain ⟨p2, a2, b2⟩ := key j y hy
    exact h.1 i j p1 p2 a1 a2 (by rw [b1, b2, hxy])
  · obtain ⟨p1, a1, b1⟩ := key k q hk
    rw [← b1]
    exact h.2 k p1 a1
theorem k_join {A0 : Nat → Prop} {G : va_G} {cl : List vw_C} {ws wc w1 : va_W} {H H1 : Heap} (hP : va_P G cl ws H) (hD : va_D A0 ws) (is : List Nat) (hC : is.map (fun i => ws[i]?) = wc.map some) (hn : va_nd is = true) (ha : w1.map Prod.fst = wc.map Prod.fst)
    (hk : ∀ q : Nat, q < H.size → ¬ va_A wc H.size q → H1[q]? = H[q]?) (hP1 : va_P G cl w1 H1) : va_P G cl (setAll ws is w1) H1 ∧ va_D A0 (setAll ws is w1) := by
  have hlen : is.length = w1.length := by
    have h1 := congrArg List.length hC
    have h2 := congrArg List.length ha
    simp at h1 h2
    omega
  refine ⟨fun k q hq => ?_, hD.fst (setAll_fst is ws wc w1 hC hn ha)⟩
  rcases setAll_at is ws w1 k q hlen hq with ⟨h1, h2⟩ | ⟨j, h1, h2⟩
  · have hl := (hP k q h1).lt
    refine (hP k q h1).kept (hk q.1 hl (fun hA => ?_))
    rcases hA with ⟨k2, e, h3⟩ | h3
    · obtain ⟨i, h4, h5⟩ := va_in_of is hC h3
      have hij := hD.1 k i q (q.1, e) h1 h5 rfl
      subst hij
      exact h2 (List.mem_of_getElem? h4)
    · omega
  · exact hP1 j q h2
