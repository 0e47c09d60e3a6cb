/-! ends, calls -/
/-- the word of a method's code -/
def ow_code (Y : ow_Y) : Cond := match Y.2.2.2.2 with
  | [] => .code Y.1 Y.2.1 Y.2.2.1 Y.2.2.2.1
  | hh => .codeWith Y.1 Y.2.1 Y.2.2.1 Y.2.2.2.1 hh
theorem ow_code_spec {Y : ow_Y} {args : Array Value} {s : State} {m : MethodId} (hn : s.methodNamed? Y.1 = some m) (h : (ow_code Y).before args s = true) :
    ∃ meth c, s.vm.method? m = some meth ∧ meth.code = some c ∧ c.code = Y.2.1 ∧ c.maxLocals = Y.2.2.1 ∧ meth.sig.returnType = Y.2.2.2.1 ∧ meth.locks = false ∧ c.exceptionTable.toList.map (fun h => (h.startPc, h.endPc, h.handlerPc, h.catchType)) = Y.2.2.2.2 ∧ parseMethodDescriptor Y.1.desc = some meth.sig := by
  obtain ⟨y, cc, mx, rt, hh⟩ := Y
  cases hh with
  | nil =>
    obtain ⟨meth, c, h1, h2, h3, h4, h5, h6, h7, h8⟩ := Cond.code_spec hn (show (Cond.code y cc mx rt).before args s = true from h)
    refine ⟨meth, c, h1, h2, h3, h4, h5, h6, ?_, h8⟩
    have : c.exceptionTable = #[] := by simpa using h7
    rw [this]; rfl
  | cons q qs =>
    obtain ⟨m9, meth, c, hn9, h1, h2, h3, h4, h7, h5, h6, h8⟩ := Cond.codeWith_spec (show (Cond.codeWith y cc mx rt (q :: qs)).before args s = true from h)
    cases hn.symm.trans hn9
    exact ⟨meth, c, h1, h2, h3, h4, h5, h6, h7, h8⟩
theorem ow_code_named {Y : ow_Y} {args : Array Value} {s : State} (h : (ow_code Y).before args s = true) : ∃ m, s.methodNamed? Y.1 = some m := by
  obtain ⟨y, cc, mx, rt, hh⟩ := Y
  cases hh with
  | nil => exact Cond.code_named (show (Cond.code y cc mx rt).before args s = true from h)
  | cons q qs =>
    obtain ⟨m9, meth, c, hn9, -⟩ := Cond.codeWith_spec (show (Cond.codeWith y cc mx rt (q :: qs)).before args s = true from h)
    exact ⟨m9, hn9⟩
theorem ow_cvc (sb : Nat) (ad : Nat → Nat) (v : Value) : (ow_cv sb ad v).category = v.category := by cases v <;> rfl
theorem ow_weigh {m : MethodId} {pc sb : Nat} {ls : Array Slot} {ad : Nat → Nat} {S : List Value} {n k : Nat} (h : (S.map fun v => v.category).sum + n ≤ k) : 2 * (F0 m pc ls (S.map (ow_cv sb ad))).monitorRoom + ((F0 m pc ls (S.map (ow_cv sb ad))).stack.map fun v => v.category).sum + n ≤ k := by
  show 2 * 0 + ((S.map (ow_cv sb ad)).map fun v => v.category).sum + n ≤ k
  rw [List.map_map]
  have : ((fun v => v.category) ∘ ow_cv sb ad) = fun v : Value => v.category := by
    funext v; exact ow_cvc sb ad v
  rw [this]; omega
theorem ow_sl_len (sb : Nat) (ad : Nat → Nat) : ∀ vs : List Value, (∀ v ∈ vs, v.category = 1) → (lg_sl (vs.map (ow_cv sb ad))).length = vs.length
  | [], _ => rfl
  | w :: ws, hc => by
    have hw : (ow_cv sb ad w).category = 1 := ow_cat (hc w List.mem_cons_self)
    have ih := ow_sl_len sb ad ws (fun z hz => hc z (List.mem_cons_of_mem _ hz))
    have e : lg_sl ((w :: ws).map (ow_cv sb ad)) = [Slot.val (ow_cv sb ad w)] ++ lg_sl (ws.map (ow_cv sb ad)) := by
      simp only [lg_sl, List.map_cons, List.flatMap_cons, hw]
      rfl
    rw [e, List.length_append, ih, List.length_cons]
    simp
    omega
section OwEnds
variable {l : Launch} {Y : ow_Y} {sc : Option (Nat × (Nat → Int32))} {d : Nat × Nat} {Q : ow_R → ow_M → Prop} {pc : Nat} {L : List (Option Value)} {S : List Value} {u : ow_M}
theorem aw_iret {x : Int32} {ty : FieldType} (hdg : decode Y.2.1 pc = .ok (.ireturn, 1)) (hr : Y.2.2.2.1 = some ty) (hn : narrow ty (.int x) = .int x) (q : Q (.inl (some x)) u) : AW l Y sc d Q pc L [.int x] u := by
  intro p e R s m args below meth c n0 b0 ad0 sb ids D A H locs cells slots ad ls X P h hv
  intro T hT Xs
  have hexec := X.exec
  have hb := X.bytes
  have hr2 : meth.sig.returnType = some ty := X.ret.trans hr
  obtain ⟨fs, hret, hrun, hended, hW, hframe⟩ := Xs.leave (v := some (.int x)) (hlocks := X.locks) (fun h => by rw [hr2] at h; cases h)
  have hmeth' : T.vm.method? m = some meth := Xs.method'
  refine ⟨T.setFrames fs, ?_, .returned (some (.int x)), hrun, hended, u, ad, locs, cells, slots, hW, hframe, ?_, Or.inl ⟨some x, rfl, q⟩⟩
  · show Steps p.tables e below (T.setTop (F0 m pc ls [.int x])) _
    jvm_step Xs.here [Xs.here.top, hexec, hb, hdg, hmeth', hr2, hn]
    (try refine ⟨rfl, ?_⟩); (try refine ⟨rfl, ?_⟩)
    first | (intro acts; rw [hret _ acts rfl rfl rfl]) | rw [hret _ _ rfl rfl rfl]
    exact Steps.refl _
  · have : (T.setFrames fs).heap = H := hT
    rw [this]; exact P
theorem aw_vret (hdg : decode Y.2.1 pc = .ok (.return_, 1)) (hr : Y.2.2.2.1 = none) (q : Q (.inl none) u) : AW l Y sc d Q pc L [] u := by
  intro p e R s m args below meth c n0 b0 ad0 sb ids D A H locs cells slots ad ls X P h hv
  intro T hT Xs
  have hexec := X.exec
  have hb := X.bytes
  have hr2 : meth.sig.returnType = none := X.ret.trans hr
  obtain ⟨fs, hret, hrun, hended, hW, hframe⟩ := Xs.leave (v := none) (hlocks := X.locks) (fun _ => rfl)
  have hmeth' : T.vm.method? m = some meth := Xs.method'
  refine ⟨T.setFrames fs, ?_, .returned none, hrun, hended, u, ad, locs, cells, slots, hW, hframe, ?_, Or.inl ⟨none, rfl, q⟩⟩
  · show Steps p.tables e below (T.setTop (F0 m pc ls [])) _
    jvm_step Xs.here [Xs.here.top, hexec, hb, hdg, hmeth', hr2]
    (try refine ⟨rfl, ?_⟩); (try refine ⟨rfl, ?_⟩)
    first | (intro acts; rw [hret _ acts rfl rfl rfl]) | rw [hret _ _ rfl rfl rfl]
    exact Steps.refl _
  · have : (T.setFrames fs).heap = H := hT
    rw [this]; exact P
/-- a method by the walk of its body -/
theorem mt_of {vs : List Value} {k : Nat} (hpl : plainName Y.1.cls = true) (hw : ow_code Y ∈ ow_ws) (hcv : ∀ v ∈ vs, v.category = 1) (hk : vs.length + k = Y.2.2.1) (body : AW l Y none d Q 0 (vs.map some ++ List.replicate k none) [] u) : MT l Y d vs u Q := by
  intro sb ad ids D sz
  refine MetFree.of_bodyS (code := Y.2.1) (maxLocals := Y.2.2.1) (ret := Y.2.2.2.1) hpl ?_ ?_
  · intro args s m h hn
    obtain ⟨meth, c, h1, h2, h3, h4, h5, h6, -, -⟩ := ow_code_spec hn (atoms_spec (ws := ow_ws) h _ hw)
    exact ⟨meth, c, h1, h2, h3, h4, h5, h6⟩
  · intro p e s m args below meth c s₁ B hml hP _
    obtain ⟨rfl, hsz, hP, hK, hD, hwf, hok, hG⟩ := hP
    subst hsz
    have hts := atoms_spec (ws := ow_ws) B.pre
    have X0 := Stand.of_body B
    obtain ⟨meth', c', hm', hc', -, -, -, -, hhand, -⟩ := ow_code_spec B.named (hts _ hw)
    cases B.method.symm.trans hm'
    cases X0.code.symm.trans hc'
    have hh0 : s₁.heap = s.heap := by rw [B.state]; rfl
    have hA : ∀ q, s.heap.size ≤ q → va_A (ow_W ids ad u) s.heap.size q := fun q h => Or.inr h
    have hX : ow_X Y none d u.2.2.2.2 sb ids D (va_A (ow_W ids ad u) s.heap.size) p { frames := d.1, cells := 8 * u.2.2.2.2, slots := 128 * u.2.2.2.2, locals := d.2 } s m (vs.map (ow_cv sb ad)).toArray meth c :=
      ⟨B.exec, B.bytes, hml, B.returns, B.notSynchronized, findClass_of_methodNamed B.named, (name_of_methodNamed B.named B.method).1, hhand, hts, hK, hA, ⟨Nat.le_refl _, Nat.le_refl _, Nat.le_refl _, Nat.le_refl _⟩, hG, fun n xs h => by cases h⟩
    have hPP : ow_P u.1 u.2.2.2.2 ad ids D (va_A (ow_W ids ad u) s.heap.size) s s.heap [] 0 0 ad u :=
      ⟨hP, hD.self (sz := s.heap.size), va_S.rf, by omega, by omega, Nat.le_refl _, hwf, fun _ _ => rfl⟩
    have hcat : (lg_sl (vs.map (ow_cv sb ad))).length ≤ Y.2.2.1 := by
      have := ow_sl_len sb ad vs hcv
      omega
    have hl := lv_entry (vs.map (ow_cv sb ad)) (n := Y.2.2.1) hcat
    have hls := ow_entry sb ad vs hcv hl k
    have hokL : ow_okL u.1 (vs.map some ++ List.replicate k none) := by
      intro c hc
      rcases List.mem_append.mp hc with h1 | h1
      · obtain ⟨v, h2, h3⟩ := List.mem_map.mp h1
        cases h3
        exact hok c h2
      · have h2 := List.eq_of_mem_replicate h1
        cases h2
    have hw0 := body p e _ s m _ below meth c _ _ _ sb ids D _ s.heap [] 0 0 ad _ hX hPP hls ⟨hokL, fun c hc => nomatch hc⟩
    simp only [List.map_nil] at hw0
    rw [← lg_entry_eq] at hw0
    obtain ⟨t, a1, o, b1, b2, b3⟩ := hw0 s₁ hh0 X0
    exact ⟨t, o, a1, b1, b2, b3⟩
end OwEnds
/-- where a call lands: behind it with a value, or with an exception on its way -/
def ow_land (g : JFrame) (B : State) : Option Value ⊕ Addr → State
  | .inl v => B.setTop { g with pc := g.pc + 3, stack := v.toList ++ g.stack }
  | .inr x => (B.setTop g).pushFrame (.throwing x)
section OwCalls
variable {p : Program} {l : Launch} {e : Env} {R : Room} {s : State} {m : MethodId} {args : Array Value} {below : List Frame} {meth : Method} {c : Code} {U : State} {locs : List Loc} {cells slots : Nat}
variable {Y Y' : ow_Y} {sc : Option (Nat × (Nat → Int32))} {d d' : Nat × Nat} {n0 b0 sb : Nat} {ids : Nat → ClassId} {D : va_G} {A : Nat → Prop} {ad0 ad : Nat → Nat} {u : ow_M} {vs : List Value} {Qm : ow_R → ow_M → Prop}
theorem ow_enter (hM : MT l Y' d' vs u Qm) (X : ow_X Y sc d b0 sb ids D A p R s m args meth c) (P : ow_P n0 b0 ad0 ids D A s U.heap locs cells slots ad u) (hok : ow_okS u.1 vs) (Xs : Stand p l e R s m args below meth c U locs cells slots)
    {g : JFrame} {ig : Instr} {mk : MethodId} (hg : g.method = m) (hsize : g.locals.size = c.maxLocals) (hdg : decode c.code g.pc = .ok (ig, 3)) (hd : d'.1 + 1 ≤ d.1 ∧ 2 * g.monitorRoom + (g.stack.map fun v => v.category).sum + (Y'.2.2.1 + 11) + d'.2 ≤ d.2) (hn : U.methodNamed? Y'.1 = some mk)
    (hcode : ow_code Y' ∈ ow_ws) (hini : Cond.initialized Y'.1.cls ∈ ow_ws) :
    ∃ (o : Option Value ⊕ Addr) (T' : State) (locs' : List Loc) (cells' slots' : Nat) (ad' : Nat → Nat) (u' : ow_M), Stand p l e R s m args below meth c T' locs' cells' slots' ∧ ow_P n0 b0 ad0 ids D A s T'.heap locs' cells' slots' ad' u' ∧ u.1 ≤ u'.1 ∧ (∀ c, c < u.1 → ad' c = ad c) ∧
      (match o with | .inl v => ∃ r : Option Int32, v = r.map Value.int ∧ Qm (.inl r) u' | .inr x => ∃ kx, ow_ex kx x s T'.heap ∧ Qm (.inr kx) u') ∧
      Steps p.tables e below (doInvoke e (U.setTop g) [] mk (vs.map (ow_cv sb ad)).toArray).1 (ow_land g T' o) := by
  have hM := hM sb ad ids D U.heap.size
  have hwords : ∀ w ∈ ow_ws, ∀ (a' : Array Value) (V : State), s.WarmedH V.vm → w.before a' V = true := pay_in X.ts ow_good
  obtain ⟨rf, rl, rc, rs⟩ := X.room
  obtain ⟨p1, p2, p3, p4, p5, p6, p7, p8⟩ := P
  have hcw := hwords _ hcode (vs.map (ow_cv sb ad)).toArray U Xs.warmed
  obtain ⟨methY, cY, hmY, hcY, -, hlY, -, -, -, -⟩ := ow_code_spec hn hcw
  obtain ⟨kY, hkY, -⟩ := className_of_methodNamed hn
  have hinitY : kY.init = .initialized := Cond.initialized_spec (findClass_of_methodNamed hn) hkY (hwords _ hini (vs.map (ow_cv sb ad)).toArray U Xs.warmed)
  have h : At U g.method c below := by rw [hg]; exact Xs.here
  have happ : (headSpec ow_ws { frames := d'.1, cells := 8 * u.2.2.2.2, slots := 128 * u.2.2.2.2, locals := d'.2 }).appliesLoose Y'.1 e.platform (U.calling g mk (vs.map (ow_cv sb ad)).toArray) = true :=
    Spec.appliesLoose_calling (g := g) h hdg hn hkY hinitY
      (Xs.room_calling (g := g) (R' := { frames := d'.1, cells := 8 * u.2.2.2.2, slots := 128 * u.2.2.2.2, locals := d'.2 }) hsize hmY hcY (by show d'.1 + 1 ≤ _; omega) (by rw [hlY]; show _ + d'.2 ≤ _; omega) (by show _ + 8 * u.2.2.2.2 ≤ _; omega) (by show _ + 128 * u.2.2.2.2 ≤ _; omega)) (atoms_intro fun w hw => hwords w hw _ _ Xs.warmed)
  obtain ⟨mid, hmid⟩ := h.above
  have hfr : (U.setTop g).frames = (.java g :: mid) ++ below := by rw [State.frames_setTop' g h.top, hmid]; rfl
  have hA' : ∀ q, va_A (ow_W ids ad u) U.heap.size q → A q := by
    intro q hq
    rcases hq with ⟨k, e, hk⟩ | hq
    · exact p2.2 k (q, e) hk
    · exact X.new q (Nat.le_trans p3.1 hq)
  obtain ⟨o, s₂, hsteps, -, hend, hq⟩ := Steps.callFree hM p Xs.admits Xs.cas Xs.clock (acts := []) (m := mk) (args := (vs.map (ow_cv sb ad)).toArray) hfr happ ⟨rfl, rfl, p1, va_K.moved Xs.warmed.alike X.K, p2.weaken (fun _ _ _ _ => trivial), p7, hok, ow_G.moved (U.calling g mk (vs.map (ow_cv sb ad)).toArray) Xs.warmed p3 hA' X.given⟩ trivial
  rw [State.frames_setTop' g h.top] at hend
  have hq' : ow_Q Qm u.1 u.2.2.2.2 sb ad ids D (va_A (ow_W ids ad u) U.heap.size) (U.calling g mk (vs.map (ow_cv sb ad)).toArray) o s₂ := hq
  obtain ⟨u', ad', Ls, k, n, hW₂, hsame, ⟨q1, q2, q3, q4, q5, q6, q7, q8⟩, hend2⟩ := hq'
  have hW' : U.WarmedH s₂.vm := hW₂
  have hP' : ow_P n0 b0 ad0 ids D A s s₂.heap (locs ++ Ls) (cells + k) (slots + n) ad' u' := by
    refine ⟨q1, q2.weaken (fun _ q _ h => hA' q.1 h), ⟨Nat.le_trans p3.1 q3.1, fun q h1 h2 => ?_, fun q hq => ?_⟩, by omega, by omega, Nat.le_trans p6 q6, q7, fun c hc => (q8 c (Nat.lt_of_lt_of_le hc p6)).trans (p8 c hc)⟩
    · rw [q3.2.1 q (Nat.lt_of_lt_of_le h1 p3.1) (fun z => h2 (hA' q z))]; exact p3.2.1 q h1 h2
    · rcases List.mem_append.mp hq with h | h
      · exact p3.2.2 q h
      · exact hA' _ (q3.2.2 q h)
  rcases hend2 with ⟨v, rfl, hQ⟩ | ⟨x, kx, rfl, hx, hQ⟩
  · obtain ⟨e2, r2, r3, r4, r5, r6⟩ := hsame
    have e3 : s₂ = ({ (U.calling g mk (vs.map (ow_cv sb ad)).toArray).setFrames s₂.frames with heap := s₂.heap, slotsUsed := s₂.slotsUsed } : State).setVm s₂.vm := by
      have : s₂ = ({ s₂ with vm := (U.calling g mk (vs.map (ow_cv sb ad)).toArray).vm } : State).setVm s₂.vm := rfl
      rw [e2] at this
      exact this
    obtain ⟨c₂, i₂, len₂, hc₂, hd₂, hf₂⟩ := hend
    have hcc : c₂ = c := by
      have h1 : s₂.code? g.method = U.code? g.method := by
        rw [State.code?_eq, State.code?_eq, hW'.alike.method?]
      exact Option.some.inj (hc₂.symm.trans (h1.trans h.code))
    subst hcc
    have hlen : len₂ = 3 := by rw [hdg] at hd₂; cases hd₂; rfl
    subst hlen
    obtain ⟨g₀, hg0⟩ := Option.isSome_iff_exists.mp h.top
    obtain ⟨r, hr⟩ := State.topJava?_eq_some.mp hg0
    have hs₂ : s₂ = (({ U with heap := s₂.heap, slotsUsed := s₂.slotsUsed } : State).setVm s₂.vm).setTop { g with pc := g.pc + 3, stack := (v.map Value.int).toList ++ g.stack } := by
      have hr' : (({ U with heap := s₂.heap, slotsUsed := s₂.slotsUsed } : State).setVm s₂.vm).frames = .java g₀ :: r := hr
      refine e3.trans ?_
      rw [hf₂, State.calling_eq h.top, State.setFrames_setFrames, State.setTop_of_frames _ hr', hr]
      rfl
    have hsame2 : U.sameButNew ({ U with heap := s₂.heap, slotsUsed := s₂.slotsUsed } : State) Ls k n := by
      refine ⟨?_, r2, r3, r4, r5, r6⟩
      obtain ⟨t, ht, -⟩ := State.frames_cons hr
      show ({ U with heap := s₂.heap, slotsUsed := s₂.slotsUsed } : State) = { U.setFrames U.frames with heap := s₂.heap, slotsUsed := s₂.slotsUsed }
      rw [State.setFrames_self ht]
    refine ⟨.inl (v.map Value.int), ({ U with heap := s₂.heap, slotsUsed := s₂.slotsUsed } : State).setVm s₂.vm, locs ++ Ls, cells + k, slots + n, ad', u',
      ⟨Xs.admits, Xs.cas, Xs.clock, Xs.frames, Xs.room, Xs.hears, Xs.method, Xs.code, (Xs.here.setHeapUsed s₂.heap s₂.slotsUsed).setVm hW'.alike, Xs.tail, State.WarmedH.trans Xs.warmed hW', Xs.limits, Xs.bytes, Xs.same.trans (hsame2.setVm s.vm)⟩, hP', q6, q8, ⟨v, rfl, hQ⟩, ?_⟩
    show Steps p.tables e below _ ((({ U with heap := s₂.heap, slotsUsed := s₂.slotsUsed } : State).setVm s₂.vm).setTop { g with pc := g.pc + 3, stack := (v.map Value.int).toList ++ g.stack })
    rw [← hs₂]
    exact hsteps
  · rw [Xs.tail] at hend
    obtain ⟨T', X', -, hs', ht⟩ := Xs.outOfThrown hg (mk := mk) (a := (vs.map (ow_cv sb ad)).toArray) (t := s₂) (x := x) (L := Ls) (k := k) (n := n) hend hW₂ hsame
    have hheap : T'.heap = s₂.heap := by rw [ht, Stand.throwing_heap]
    refine ⟨.inr x, T', locs ++ Ls, cells + k, slots + n, ad', u', X', by rw [hheap]; exact hP', q6, q8, ⟨kx, ?_, hQ⟩, ?_⟩
    · rw [hheap]; exact ow_ex.back Xs.warmed hx
    · show Steps p.tables e below _ ((T'.setTop g).pushFrame (.throwing x))
      rw [← ht]; exact hsteps
end OwCalls
