/-! the calls as rules -/
theorem ow_cv_map {sb n : Nat} {ad ad' : Nat → Nat} {S : List Value} (ha : ∀ c, c < n → ad' c = ad c) (h : ow_okS n S) : S.map (ow_cv sb ad') = S.map (ow_cv sb ad) := by
  refine List.map_congr_left (fun v hv => ?_)
  cases v with
  | ref c => show Value.ref (ad' c) = Value.ref (ad c); rw [ha c (h c hv)]
  | _ => rfl
theorem ow_ls.re {sb n nL : Nat} {ad ad' : Nat → Nat} {L : List (Option Value)} {ls : Array Slot} (h : ow_ls sb ad nL L ls) (ha : ∀ c, c < n → ad' c = ad c) (hL : ow_okL n L) : ow_ls sb ad' nL L ls := by
  refine ⟨h.1, fun i v hi => ⟨(h.2 i v hi).1, ?_⟩⟩
  rw [(h.2 i v hi).2]
  cases v with
  | ref c => show some (Slot.val (Value.ref (ad c))) = some (Slot.val (Value.ref (ad' c))); rw [ha c (hL c (List.mem_of_getElem? hi))]
  | _ => rfl
theorem ow_okS.up {n n' : Nat} {S : List Value} (h : ow_okS n S) (hn : n ≤ n') : ow_okS n' S := fun c hc => Nat.lt_of_lt_of_le (h c hc) hn
theorem ow_okL.up {n n' : Nat} {L : List (Option Value)} (h : ow_okL n L) (hn : n ≤ n') : ow_okL n' L := fun c hc => Nat.lt_of_lt_of_le (h c hc) hn
theorem ow_okS.app {n : Nat} {S S' : List Value} (h : ow_okS n S) (h' : ow_okS n S') : ow_okS n (S ++ S') := fun c hc => by
  rcases List.mem_append.mp hc with h1 | h1
  · exact h c h1
  · exact h' c h1
theorem ow_okS.ints {n : Nat} (r : Option Int32) : ow_okS n (r.toList.map Value.int) := fun c hc => by
  obtain ⟨x, -, h⟩ := List.mem_map.mp hc
  cases h
/-- behind a call, where no handler of the method covers it -/
def ow_next (l : Launch) (Y : ow_Y) (sc : Option (Nat × (Nat → Int32))) (d : Nat × Nat) (Q : ow_R → ow_M → Prop) (pc : Nat) (L : List (Option Value)) (S : List Value) : ow_R → ow_M → Prop := fun r u => match r with
  | .inl v => AW l Y sc d Q pc L (v.toList.map Value.int ++ S) u
  | .inr kx => Q (.inr kx) u
section OwRules
variable {p : Program} {l : Launch} {e : Env} {R : Room} {s : State} {m : MethodId} {args : Array Value} {below : List Frame} {meth : Method} {c : Code} {locs : List Loc} {cells slots : Nat}
variable {Y Y' : ow_Y} {sc : Option (Nat × (Nat → Int32))} {d : Nat × Nat} {n0 b0 sb : Nat} {ids : Nat → ClassId} {D : va_G} {A : Nat → Prop} {ad0 ad : Nat → Nat} {u : ow_M} {vs : List Value} {Q : ow_R → ow_M → Prop} {pc : Nat} {L : List (Option Value)} {S : List Value} {ls : Array Slot}
theorem ow_behind (hh : ∀ q ∈ Y.2.2.2.2, ¬ (q.1 ≤ pc ∧ pc < q.2.1)) (X : ow_X Y sc d b0 sb ids D A p R s m args meth c) (h : ow_ls sb ad Y.2.2.1 L ls) (hv : ow_okL u.1 L ∧ ow_okS u.1 S)
    {o : Option Value ⊕ Addr} {T' : State} {locs' : List Loc} {cells' slots' : Nat} {ad' : Nat → Nat} {u' : ow_M} (Xs : Stand p l e R s m args below meth c T' locs' cells' slots') (P : ow_P n0 b0 ad0 ids D A s T'.heap locs' cells' slots' ad' u') (hle : u.1 ≤ u'.1) (had : ∀ c, c < u.1 → ad' c = ad c)
    (hQ : match o with | .inl v => ∃ r : Option Int32, v = r.map Value.int ∧ ow_next l Y sc d Q (pc + 3) L S (.inl r) u' | .inr x => ∃ kx, ow_ex kx x s T'.heap ∧ ow_next l Y sc d Q (pc + 3) L S (.inr kx) u') :
    ∃ t, Steps p.tables e below (ow_land (F0 m pc ls (S.map (ow_cv sb ad))) T' o) t ∧ ow_MQ below Q n0 b0 sb ad0 ids D A s t := by
  cases o with
  | inl v =>
    obtain ⟨r, rfl, hr⟩ := hQ
    have hw := hr p e R s m args below meth c n0 b0 ad0 sb ids D A T'.heap locs' cells' slots' ad' ls X P (h.re had hv.1) ⟨hv.1.up hle, (ow_okS.ints r).app (hv.2.up hle)⟩
    rw [List.map_append, ow_cv_map had hv.2] at hw
    have e1 : (r.toList.map Value.int).map (ow_cv sb ad') = (r.map Value.int).toList := by cases r <;> rfl
    rw [e1] at hw
    exact hw T' rfl Xs
  | inr x =>
    obtain ⟨kx, hx, hq⟩ := hQ
    have hout : ∀ y ∈ c.exceptionTable.toList, covers y (F0 m pc ls (S.map (ow_cv sb ad))).pc = false := by
      intro y hy
      have hm := List.mem_map_of_mem (f := fun h : ExceptionTableEntry => (h.startPc, h.endPc, h.handlerPc, h.catchType)) hy
      rw [X.hand] at hm
      have := hh _ hm
      simp only [covers, Bool.and_eq_false_iff, decide_eq_false_iff_not]
      by_cases h1 : y.startPc ≤ pc
      · right; intro h2; exact this ⟨h1, h2⟩
      · left; exact h1
    obtain ⟨st, hrun, hended, hW, hframe⟩ := Xs.leaveThrown x (g := F0 m pc ls (S.map (ow_cv sb ad))) rfl rfl rfl hout X.locks
    exact ⟨_, st, .threw x, hrun, hended, u', ad', locs', cells', slots', hW, hframe, P, Or.inr ⟨x, kx, rfl, hx, hq⟩⟩
end OwRules
/-- the words of a callee -/
def ow_Cd (Y' : ow_Y) (n : Nat) : Prop := ow_code Y' ∈ ow_ws ∧ Cond.initialized Y'.1.cls ∈ ow_ws ∧ (Y'.1.cls ≠ "java/lang/invoke/MethodHandle" ∧ Y'.1.cls ≠ "java/lang/invoke/VarHandle") ∧ (parseMethodDescriptor Y'.1.desc).map (fun d => d.parameters.length) = some n
/-- an entry of a class that names a method of an object of the class C -/
def ow_LV (own : String) (index : Nat) (Y' : ow_Y) (C : String) : Prop := Cond.methodLink own index Y'.1 ∈ ow_ws ∧ Cond.instanceMethod Y'.1 ∈ ow_ws ∧ Cond.selects C Y'.1 Y'.1 ∈ ow_ws
def ow_LS (own : String) (index : Nat) (Y' : ow_Y) : Prop := Cond.methodLink own index Y'.1 ∈ ow_ws ∧ Cond.static Y'.1 ∈ ow_ws
def ow_LI (own : String) (index : Nat) (Y' : ow_Y) : Prop := Cond.methodLink own index Y'.1 ∈ ow_ws ∧ Cond.instanceMethod Y'.1 ∈ ow_ws ∧ Y'.1.name = "<init>"
theorem ow_len_of {Y' : ow_Y} {n : Nat} {sig : MethodDescriptor} (h : (parseMethodDescriptor Y'.1.desc).map (fun d => d.parameters.length) = some n) (hs : parseMethodDescriptor Y'.1.desc = some sig) : n = sig.parameters.length := by
  rw [hs] at h
  exact (Option.some.inj h).symm
section OwRules2
variable {l : Launch} {Y Y' : ow_Y} {sc : Option (Nat × (Nat → Int32))} {d d' : Nat × Nat} {Q : ow_R → ow_M → Prop} {pc : Nat} {L : List (Option Value)} {S : List Value} {u : ow_M}
theorem aw_callS {index : Nat} {vs : List Value} {st : List Value} (hdg : decode Y.2.1 pc = .ok (.invokestatic index, 3)) (hL : ow_LS Y.1.cls index Y') (hC : ow_Cd Y' vs.length) (hst : vs.reverse ++ S = st) (hd : d'.1 + 1 ≤ d.1 ∧ (S.map fun v => v.category).sum + (Y'.2.2.1 + 11 + d'.2) ≤ d.2) (hh : ∀ q ∈ Y.2.2.2.2, ¬ (q.1 ≤ pc ∧ pc < q.2.1))
    (kk : MT l Y' d' vs u (ow_next l Y sc d Q (pc + 3) L S)) : AW l Y sc d Q pc L st u := by
  subst hst
  intro p e R s m args below meth c n0 b0 ad0 sb ids D A H locs cells slots ad ls X P h hv
  intro T hT Xs
  subst hT
  have hvs : ow_okS u.1 vs := fun c hc => hv.2 c (List.mem_append_left _ (List.mem_reverse.mpr hc))
  have hS : ow_okS u.1 S := fun c hc => hv.2 c (List.mem_append_right _ hc)
  obtain ⟨c1, c2, c4, c5⟩ := hC
  obtain ⟨l1, l2⟩ := hL
  obtain ⟨mk, methM, hnamed, hmethM, hsigM⟩ : ∃ mk methM, s.methodNamed? Y'.1 = some mk ∧ s.vm.method? mk = some methM ∧ parseMethodDescriptor Y'.1.desc = some methM.sig := by
    obtain ⟨mk, hnamed⟩ := ow_code_named (X.ts _ c1)
    obtain ⟨methM, cM, h1, -, -, -, -, -, -, h8⟩ := ow_code_spec hnamed (X.ts _ c1)
    exact ⟨mk, methM, hnamed, h1, h8⟩
  have hstatic : methM.isStatic = true := Cond.static_spec hnamed hmethM (X.ts _ l2)
  obtain ⟨kP, hkP, -⟩ := className_of_methodNamed hnamed
  have hinitP : kP.init = .initialized := Cond.initialized_spec (findClass_of_methodNamed hnamed) hkP (X.ts _ c2)
  have hstack : (F0 m pc ls ((vs.reverse ++ S).map (ow_cv sb ad))).stack = (vs.map (ow_cv sb ad)).reverse ++ S.map (ow_cv sb ad) := by
    show (vs.reverse ++ S).map (ow_cv sb ad) = _
    rw [List.map_append, List.map_reverse]
  obtain ⟨vm₁, X₁, hstep₁⟩ := Xs.invokestatic X.exec X.own (X.ts _ l1) hnamed hmethM hstatic hkP hinitP c4 (g := F0 m pc ls ((vs.reverse ++ S).map (ow_cv sb ad))) rfl (argsL := vs.map (ow_cv sb ad)) (rest := S.map (ow_cv sb ad)) (by rw [List.length_map]; exact ow_len_of c5 hsigM) hstack (by rw [X.bytes]; exact hdg)
  obtain ⟨o, T', locs', cells', slots', ad', u', Xs', P', hle, had, hQ, hsteps⟩ := ow_enter (e := e) (U := T.setVm vm₁) (g := F0 m pc ls (S.map (ow_cv sb ad))) (ig := .invokestatic index) (mk := mk) kk X P hvs X₁ rfl (by rw [X.maxL]; exact h.1.1) (by rw [X.bytes]; exact hdg) ⟨hd.1, by have := ow_weigh (m := m) (pc := pc) (sb := sb) (ls := ls) (ad := ad) hd.2; omega⟩ (X₁.named hnamed) c1 c2
  obtain ⟨t, a1, b1⟩ := ow_behind (e := e) (below := below) (m := m) hh X h ⟨hv.1, hS⟩ Xs' P' hle had hQ
  exact ⟨t, hstep₁ _ fun acts => by rw [doInvoke_state]; exact hsteps.trans a1, b1⟩
theorem aw_callV {index a ci : Nat} {C : String} {T0 : u_T} {vs : List Value} {st : List Value} (hdg : decode Y.2.1 pc = .ok (.invokevirtual index, 3)) (hL : ow_LV Y.1.cls index Y' C) (hC : ow_Cd Y' vs.length) (ha : a < u.1) (hk : ow_kd a = (0, ci)) (hci : ow_cl[ci]? = some (C, T0, ow_nf ci)) (hst : vs.reverse ++ .ref a :: S = st) (hd : d'.1 + 1 ≤ d.1 ∧ (S.map fun v => v.category).sum + (Y'.2.2.1 + 11 + d'.2) ≤ d.2) (hh : ∀ q ∈ Y.2.2.2.2, ¬ (q.1 ≤ pc ∧ pc < q.2.1))
    (kk : MT l Y' d' (.ref a :: vs) u (ow_next l Y sc d Q (pc + 3) L S)) : AW l Y sc d Q pc L st u := by
  subst hst
  intro p e R s m args below meth c n0 b0 ad0 sb ids D A H locs cells slots ad ls X P h hv
  intro T hT Xs
  subst hT
  have hvs : ow_okS u.1 (.ref a :: vs) := fun c hc => by
    rcases List.mem_cons.mp hc with h1 | h1
    · cases h1; exact ha
    · exact hv.2 c (List.mem_append_left _ (List.mem_reverse.mpr h1))
  have hS : ow_okS u.1 S := fun c hc => hv.2 c (List.mem_append_right _ (List.mem_cons_of_mem _ hc))
  obtain ⟨c1, c2, c4, c5⟩ := hC
  obtain ⟨l1, l2, l3⟩ := hL
  obtain ⟨mk, methM, hnamed, hmethM, hstM, habM⟩ := Cond.instanceMethod_spec (X.ts _ l2)
  obtain ⟨methM', cM, hmethM', -, -, -, -, -, -, hsigM⟩ := ow_code_spec hnamed (X.ts _ c1)
  cases hmethM.symm.trans hmethM'
  obtain ⟨k2, r2, m2, q1, q2, q3, q4, kP, hkP, hkPi⟩ := Cond.selects_spec (X.ts _ l3)
  have he := ow_at (ids := ids) (ad := ad) ha
  rw [ow_E_0 hk] at he
  obtain ⟨cellB, hcell, hobj, hcls⟩ := va_recv X.K P.1 hci he
  cases hcls.symm.trans q1
  cases (State.methodFound?_of_named hnamed c4).symm.trans q2
  cases hnamed.symm.trans q3
  have hselP : selectMethod e.platform s.vm cellB.cls mk = .method mk := by rw [Launch.admits_selectMethod Xs.admits]; exact q4
  have hstack : (F0 m pc ls ((vs.reverse ++ .ref a :: S).map (ow_cv sb ad))).stack = (vs.map (ow_cv sb ad)).reverse ++ .ref (ad a) :: S.map (ow_cv sb ad) := by
    show (vs.reverse ++ .ref a :: S).map (ow_cv sb ad) = _
    rw [List.map_append, List.map_reverse]; rfl
  obtain ⟨vm₁, X₁, hstep₁⟩ := Xs.invokevirtual X.exec X.own (X.ts _ l1) hnamed hmethM hstM hkP hkPi c4 (a := ad a) (cell := cellB) hcell
    (fun z h => by rw [h] at hobj; cases hobj) hselP hmethM habM hkP hkPi (g := F0 m pc ls ((vs.reverse ++ .ref a :: S).map (ow_cv sb ad))) rfl (argsL := vs.map (ow_cv sb ad)) (rest := S.map (ow_cv sb ad)) (by rw [List.length_map]; exact ow_len_of c5 hsigM) hstack (by rw [X.bytes]; exact hdg)
  obtain ⟨o, T', locs', cells', slots', ad', u', Xs', P', hle, had, hQ, hsteps⟩ := ow_enter (e := e) (U := T.setVm vm₁) (g := F0 m pc ls (S.map (ow_cv sb ad))) (ig := .invokevirtual index) (mk := mk) kk X P hvs X₁ rfl (by rw [X.maxL]; exact h.1.1) (by rw [X.bytes]; exact hdg) ⟨hd.1, by have := ow_weigh (m := m) (pc := pc) (sb := sb) (ls := ls) (ad := ad) hd.2; omega⟩ (X₁.named hnamed) c1 c2
  obtain ⟨t, a1, b1⟩ := ow_behind (e := e) (below := below) (m := m) hh X h ⟨hv.1, hS⟩ Xs' P' hle had hQ
  exact ⟨t, hstep₁ _ fun acts => by rw [doInvoke_state]; exact hsteps.trans a1, b1⟩
end OwRules2
