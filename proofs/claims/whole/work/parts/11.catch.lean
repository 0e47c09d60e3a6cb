/-! a call whose exceptions are caught -/
/-- the row of the method's table that takes an exception of the kind kx thrown at pc -/
def ow_caught (Y : ow_Y) (pc kx hpc : Nat) : Prop := kx < 3 ∧ Cond.castable (ow_exn kx) (ow_exn kx) ∈ ow_fw ∧ ∃ (pre suf : List (Nat × Nat × Nat × Nat)) (a b ct : Nat), Y.2.2.2.2 = pre ++ (a, b, hpc, ct) :: suf ∧ (a ≤ pc ∧ pc < b) ∧ ct ≠ 0 ∧ Cond.classLink Y.1.cls ct (ow_exn kx) ∈ ow_ws ∧
  ∀ z ∈ pre, z.2.2.2 ≠ 0 ∧ ∃ ky, ky < 3 ∧ kx ≠ ky ∧ Cond.classLink Y.1.cls z.2.2.2 (ow_exn ky) ∈ ow_ws
theorem ow_ls.storeX {sb : Nat} {ad : Nat → Nat} {nL : Nat} {L : List (Option Value)} {ls ls' : Array Slot} (h : ow_ls sb ad nL L ls) {i : Nat} {v : Value}
    (h' : lv_has ls' nL ((i, v) :: (ow_lv sb ad L).filter (fun q => !(q.1 == i) && !(q.1 + 1 == i && q.2.category == 2)))) : ow_ls sb ad nL (L.set i none) ls' := by
  refine ⟨⟨h'.1, h'.2.1⟩, fun j w hj => ?_⟩
  by_cases hji : j = i
  · subst hji
    have hlt : j < L.length := by
      have := (List.getElem?_eq_some_iff.mp hj).1
      simpa using this
    rw [List.getElem?_set_self hlt] at hj
    cases hj
  · rw [List.getElem?_set_ne (Ne.symm hji)] at hj
    have hw := h.2 j w hj
    refine ⟨hw.1, h'.2.2 (j, ow_cv sb ad w) (List.mem_cons_of_mem _ (List.mem_filter.mpr ⟨ow_lv_mem.mpr ⟨w, hj, rfl⟩, ?_⟩))⟩
    have hcw : (ow_cv sb ad w).category = 1 := ow_cat hw.1
    simp [hji, hcw]
/-- behind a call, where the exceptions that it may throw are caught and put away -/
def ow_nextT (l : Launch) (Y : ow_Y) (sc : Option (Nat × (Nat → Int32))) (d : Nat × Nat) (Q : ow_R → ow_M → Prop) (pc : Nat) (L : List (Option Value)) (S : List Value) : ow_R → ow_M → Prop := fun r u => match r with
  | .inl v => AW l Y sc d Q (pc + 3) L (v.toList.map Value.int ++ S) u
  | .inr kx => ∃ hpc i len : Nat, ow_caught Y pc kx hpc ∧ i < Y.2.2.1 ∧ ((decode Y.2.1 hpc = .ok (.astore i, 2) ∧ len = 2) ∨ ∃ j : Fin 4, decode Y.2.1 hpc = .ok (.astore_n j, 1) ∧ (j : Nat) = i ∧ len = 1) ∧ AW l Y sc d Q (hpc + len) (L.set i none) [] u
section OwTry
variable {p : Program} {l : Launch} {e : Env} {R : Room} {s : State} {m : MethodId} {args : Array Value} {below : List Frame} {meth : Method} {c : Code}
variable {Y Y' : ow_Y} {sc : Option (Nat × (Nat → Int32))} {d : Nat × Nat} {n0 b0 sb : Nat} {ids : Nat → ClassId} {D : va_G} {A : Nat → Prop} {ad0 ad : Nat → Nat} {u : ow_M} {vs : List Value} {Q : ow_R → ow_M → Prop} {pc : Nat} {L : List (Option Value)} {S : List Value} {ls : Array Slot}
theorem ow_behindT (X : ow_X Y sc d b0 sb ids D A p R s m args meth c) (h : ow_ls sb ad Y.2.2.1 L ls) (hv : ow_okL u.1 L ∧ ow_okS u.1 S)
    {o : Option Value ⊕ Addr} {T' : State} {locs' : List Loc} {cells' slots' : Nat} {ad' : Nat → Nat} {u' : ow_M} (Xs : Stand p l e R s m args below meth c T' locs' cells' slots') (P : ow_P n0 b0 ad0 ids D A s T'.heap locs' cells' slots' ad' u') (hle : u.1 ≤ u'.1) (had : ∀ c, c < u.1 → ad' c = ad c)
    (hQ : match o with | .inl v => ∃ r : Option Int32, v = r.map Value.int ∧ ow_nextT l Y sc d Q pc L S (.inl r) u' | .inr x => ∃ kx, ow_ex kx x s T'.heap ∧ ow_nextT l Y sc d Q pc L S (.inr kx) u') :
    ∃ t, Steps p.tables e below (ow_land (F0 m pc ls (S.map (ow_cv sb ad))) T' o) t ∧ ow_MQ below Q n0 b0 sb ad0 ids D A s t := by
  cases o with
  | inl v =>
    obtain ⟨r, rfl, hr⟩ := hQ
    have hw := hr p e R s m args below meth c n0 b0 ad0 sb ids D A T'.heap locs' cells' slots' ad' ls X P (h.re had hv.1) ⟨hv.1.up hle, (ow_okS.ints r).app (hv.2.up hle)⟩
    rw [List.map_append, ow_cv_map had hv.2] at hw
    have e1 : (r.toList.map Value.int).map (ow_cv sb ad') = (r.map Value.int).toList := by cases r <;> rfl
    rw [e1] at hw
    exact hw T' rfl Xs
  | inr x =>
    obtain ⟨kx, ⟨ce, hx1, hx2, hx3⟩, hpc, i, len, ⟨hk3, hcast, pre, suf, a, b, ct, hsplit, hcov, hct, hlink, hpass⟩, hi, hst, hq⟩ := hQ
    have hmap := X.hand
    rw [hsplit] at hmap
    obtain ⟨pre', rest', e1, e2, e3⟩ := List.map_eq_append_iff.mp hmap
    obtain ⟨x', suf', e4, e5, e6⟩ := List.map_eq_cons_iff.mp e3
    subst e4
    simp only [Prod.mk.injEq] at e5
    obtain ⟨y1, y2, y3, y4⟩ := e5
    have hL := h.re had hv.1
    refine vx_catch (e := e) (H := T'.heap) (locs := locs') (cells := cells') (slots := slots') (Q := ow_MQ below Q n0 b0 sb ad0 ids D A s) (ls := ls) (rest := S.map (ow_cv sb ad)) (pc := pc) X.own pre' x' suf' e1 (fun z hz => ?_) (by simp only [covers, y1, y2, Bool.and_eq_true, decide_eq_true_eq]; exact hcov) (by rw [y4]; exact hct) (by rw [y4]; exact X.ts _ hlink) (ow_fw_on X.given hcast args) hx1 hx2 hx3 ?_ T' rfl Xs
    · have hm := List.mem_map_of_mem (f := fun h : ExceptionTableEntry => (h.startPc, h.endPc, h.handlerPc, h.catchType)) hz
      rw [e2] at hm
      obtain ⟨w1, ky, w2, w3, w4⟩ := hpass _ hm
      exact Or.inr ⟨w1, ow_exn ky, X.ts _ w4, X.given.2.2.2.2.2.2.2 kx hk3 ky w2 w3⟩
    · rw [y3]
      have hvL : ow_okL u'.1 (L.set i none) ∧ ow_okS u'.1 [] := ⟨(hv.1.up hle).set (fun c hc => by cases hc), fun c hc => nomatch hc⟩
      rcases hst with ⟨hdg, rfl⟩ | ⟨j, hdg, rfl, rfl⟩
      · exact lv_astore X.exec X.bytes hdg hL.has hi rfl (fun ls' h' => hq p e R s m args below meth c n0 b0 ad0 sb ids D A T'.heap locs' cells' slots' ad' ls' X P (hL.storeX h') hvL)
      · exact lv_astore_n X.exec X.bytes hdg rfl hL.has hi rfl (fun ls' h' => hq p e R s m args below meth c n0 b0 ad0 sb ids D A T'.heap locs' cells' slots' ad' ls' X P (hL.storeX h') hvL)
end OwTry
section OwTry2
variable {l : Launch} {Y Y' : ow_Y} {sc : Option (Nat × (Nat → Int32))} {d d' : Nat × Nat} {Q : ow_R → ow_M → Prop} {pc : Nat} {L : List (Option Value)} {S : List Value} {u : ow_M}
theorem aw_callVT {index a ci : Nat} {C : String} {T0 : u_T} {vs : List Value} {st : List Value} (hdg : decode Y.2.1 pc = .ok (.invokevirtual index, 3)) (hL : ow_LV Y.1.cls index Y' C) (hC : ow_Cd Y' vs.length) (ha : a < u.1) (hk : ow_kd a = (0, ci)) (hci : ow_cl[ci]? = some (C, T0, ow_nf ci)) (hst : vs.reverse ++ .ref a :: S = st) (hd : d'.1 + 1 ≤ d.1 ∧ (S.map fun v => v.category).sum + (Y'.2.2.1 + 11 + d'.2) ≤ d.2)
    (kk : MT l Y' d' (.ref a :: vs) u (ow_nextT l Y sc d Q pc L S)) : AW l Y sc d Q pc L st u := by
  subst hst
  intro p e R s m args below meth c n0 b0 ad0 sb ids D A H locs cells slots ad ls X P h hv
  intro T hT Xs
  subst hT
  have hvs : ow_okS u.1 (.ref a :: vs) := fun c hc => by
    rcases List.mem_cons.mp hc with h1 | h1
    · cases h1; exact ha
    · exact hv.2 c (List.mem_append_left _ (List.mem_reverse.mpr h1))
  have hS : ow_okS u.1 S := fun c hc => hv.2 c (List.mem_append_right _ (List.mem_cons_of_mem _ hc))
  obtain ⟨c1, c2, c4, c5⟩ := hC
  obtain ⟨l1, l2, l3⟩ := hL
  obtain ⟨mk, methM, hnamed, hmethM, hstM, habM⟩ := Cond.instanceMethod_spec (X.ts _ l2)
  obtain ⟨methM', cM, hmethM', -, -, -, -, -, -, hsigM⟩ := ow_code_spec hnamed (X.ts _ c1)
  cases hmethM.symm.trans hmethM'
  obtain ⟨k2, r2, m2, q1, q2, q3, q4, kP, hkP, hkPi⟩ := Cond.selects_spec (X.ts _ l3)
  have he := ow_at (ids := ids) (ad := ad) ha
  rw [ow_E_0 hk] at he
  obtain ⟨cellB, hcell, hobj, hcls⟩ := va_recv X.K P.1 hci he
  cases hcls.symm.trans q1
  cases (State.methodFound?_of_named hnamed c4).symm.trans q2
  cases hnamed.symm.trans q3
  have hselP : selectMethod e.platform s.vm cellB.cls mk = .method mk := by rw [Launch.admits_selectMethod Xs.admits]; exact q4
  have hstack : (F0 m pc ls ((vs.reverse ++ .ref a :: S).map (ow_cv sb ad))).stack = (vs.map (ow_cv sb ad)).reverse ++ .ref (ad a) :: S.map (ow_cv sb ad) := by
    show (vs.reverse ++ .ref a :: S).map (ow_cv sb ad) = _
    rw [List.map_append, List.map_reverse]; rfl
  obtain ⟨vm₁, X₁, hstep₁⟩ := Xs.invokevirtual X.exec X.own (X.ts _ l1) hnamed hmethM hstM hkP hkPi c4 (a := ad a) (cell := cellB) hcell
    (fun z h => by rw [h] at hobj; cases hobj) hselP hmethM habM hkP hkPi (g := F0 m pc ls ((vs.reverse ++ .ref a :: S).map (ow_cv sb ad))) rfl (argsL := vs.map (ow_cv sb ad)) (rest := S.map (ow_cv sb ad)) (by rw [List.length_map]; exact ow_len_of c5 hsigM) hstack (by rw [X.bytes]; exact hdg)
  obtain ⟨o, T', locs', cells', slots', ad', u', Xs', P', hle, had, hQ, hsteps⟩ := ow_enter (e := e) (U := T.setVm vm₁) (g := F0 m pc ls (S.map (ow_cv sb ad))) (ig := .invokevirtual index) (mk := mk) kk X P hvs X₁ rfl (by rw [X.maxL]; exact h.1.1) (by rw [X.bytes]; exact hdg) ⟨hd.1, by have := ow_weigh (m := m) (pc := pc) (sb := sb) (ls := ls) (ad := ad) hd.2; omega⟩ (X₁.named hnamed) c1 c2
  obtain ⟨t, a1, b1⟩ := ow_behindT (e := e) (below := below) (m := m) X h ⟨hv.1, hS⟩ Xs' P' hle had hQ
  exact ⟨t, hstep₁ _ fun acts => by rw [doInvoke_state]; exact hsteps.trans a1, b1⟩
end OwTry2
