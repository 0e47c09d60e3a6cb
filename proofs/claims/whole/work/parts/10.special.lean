/-! constructors, throws, catches, what the library does -/
theorem ow_W_b {ids : Nat → ClassId} {ad : Nat → Nat} {u : ow_M} {b : Nat} : ow_W ids ad (u.1, u.2.1, u.2.2.1, u.2.2.2.1, b) = ow_W ids ad u := by
  unfold ow_W
  exact List.map_congr_left (fun c _ => by rw [ow_E_congr (u := u) (u' := (u.1, u.2.1, u.2.2.1, u.2.2.2.1, b)) rfl rfl rfl])
abbrev ow_names : List String := ["java/lang/RuntimeException", "java/lang/Exception"]
/-- the words of 'throw new E("..")' in the class own: E's entry, its constructor's entry -/
def ow_Th (own : String) (kx ik ic : Nat) : Prop := Cond.classLink own ik (ow_exn kx) ∈ ow_ws ∧ Cond.initialized (ow_exn kx) ∈ ow_ws ∧ (∀ w ∈ vx_atS own ic (ow_exn kx) ow_names, w ∈ ow_ws ∨ w ∈ ow_fw) ∧
  (∀ w ∈ Cond.classLink own ik (ow_exn kx) :: Cond.initialized (ow_exn kx) :: vx_atS own ic (ow_exn kx) ow_names, vx_ot w = true) ∧ Bundle.fit (ow_exn kx) = true ∧ ∀ n ∈ ow_names, Bundle.fit n = true
theorem ow_fw_on {s : State} {A : Nat → Prop} (h : ow_G s A) {w : Cond} (hw : w ∈ ow_fw) (args : Array Value) : w.before args s = true := by
  have hf := (List.mem_filter.mp hw).2
  rw [Bool.and_eq_true] at hf
  exact va_tabs hf.1 rfl (h.1 w hw)
theorem ow_uncovered {Y : ow_Y} {sc : Option (Nat × (Nat → Int32))} {d : Nat × Nat} {b0 sb : Nat} {ids : Nat → ClassId} {D : va_G} {A : Nat → Prop} {p : Program} {R : Room} {s : State} {m : MethodId} {args : Array Value} {meth : Method} {c : Code} {pc : Nat}
    (X : ow_X Y sc d b0 sb ids D A p R s m args meth c) (hh : ∀ q ∈ Y.2.2.2.2, ¬ (q.1 ≤ pc ∧ pc < q.2.1)) : ∀ y ∈ c.exceptionTable.toList, covers y pc = false := by
  intro y hy
  have hm := List.mem_map_of_mem (f := fun h : ExceptionTableEntry => (h.startPc, h.endPc, h.handlerPc, h.catchType)) hy
  rw [X.hand] at hm
  have := hh _ hm
  simp only [covers, Bool.and_eq_false_iff, decide_eq_false_iff_not]
  by_cases h1 : y.startPc ≤ pc
  · right; intro h2; exact this ⟨h1, h2⟩
  · left; exact h1
section OwSpecial
variable {l : Launch} {Y Y' : ow_Y} {sc : Option (Nat × (Nat → Int32))} {d d' : Nat × Nat} {Q : ow_R → ow_M → Prop} {pc : Nat} {L : List (Option Value)} {S : List Value} {u : ow_M}
theorem aw_throw {kx ik is ic b : Nat} {text : String} (hl : l.stackTraces = false) (hT : ow_Th Y.1.cls kx ik ic) (hstr : (Y.1.cls, is, text) ∈ ow_strs) (hh : ∀ q ∈ Y.2.2.2.2, ¬ (q.1 ≤ pc + 9 ∧ pc + 9 < q.2.1))
    (d0 : decode Y.2.1 pc = .ok (.new ik, 3)) (d3 : decode Y.2.1 (pc + 3) = .ok (.dup, 1)) (d4 : decode Y.2.1 (pc + 4) = .ok (.ldc is, 2)) (d6 : decode Y.2.1 (pc + 6) = .ok (.invokespecial ic, 3)) (d9 : decode Y.2.1 (pc + 9) = .ok (.athrow, 1))
    (hd : 5 < d.1 ∧ (S.map fun v => v.category).sum + 82 ≤ d.2) (hb : u.2.2.2.2 = b + 1) (q : Q (.inr kx) (u.1, u.2.1, u.2.2.1, u.2.2.2.1, b)) : AW l Y sc d Q pc L S u := by
  intro p e R s m args below meth c n0 b0 ad0 sb ids D A H locs cells slots ad ls X P h hv
  obtain ⟨t1, t2, t3, t4, t5, t6⟩ := hT
  obtain ⟨rf, rl, rc, rs⟩ := X.room
  obtain ⟨g1, g2, g3, g4, g5, g6, g7, g8⟩ := X.given
  obtain ⟨sa, hsa⟩ := g7 _ hstr
  obtain ⟨p1, p2, p3, p4, p5, p6, p7, p8⟩ := P
  rw [hb] at p4 p5
  have hcat : ((S.map (ow_cv sb ad)).map fun v => v.category).sum = (S.map fun v => v.category).sum := by
    rw [List.map_map]
    have : ((fun v => v.category) ∘ ow_cv sb ad) = fun v : Value => v.category := by
      funext v; exact ow_cvc sb ad v
    rw [this]
  have hw := vx_throwS (p := p) (e := e) (R := R) (below := below) (H := H) (cells := cells) (slots := slots) (ls := ls) (rest := S.map (ow_cv sb ad)) (Qc := fun _ _ _ _ => False) (XC := fun E _ t => E = ow_exn kx ∧ H.size ≤ t.heap.size ∧ ∀ q : Nat, q < H.size → t.heap[q]? = H[q]?) (free := A) (mc := cells + 1) (ms := slots + 6) (names := ow_names)
    X.exec X.bytes hl X.own t5 t6 (X.ts _ t1) (X.ts _ t2) hsa (fun w hw => (t3 w hw).elim (fun h => X.ts w h) (fun h => ow_fw_on X.given h args)) t4 g5 g6 p3 (by rw [X.maxL]; exact h.1.1) d0 d3 d4 d6 d9 (ow_uncovered X hh)
    (by show 2 + 3 < R.frames; omega) (by show _ + (13 * (2 + 1) + 43) ≤ R.locals; rw [hcat]; omega) (by omega) (by omega) X.locks (fun t _ h1 h2 => ⟨rfl, h1, h2⟩) p3.2.2 (Nat.le_refl _) (Nat.le_refl _)
  intro T hT Xs
  obtain ⟨t, st, o, hrun, hend, hq⟩ := hw T hT Xs
  rcases hq with ⟨hF, -⟩ | ⟨x, rfl, E, ce, Ls, ⟨rfl, h1, h2⟩, hce, hcv, hcl, hW, hsame, hL⟩
  · exact hF.elim
  · refine ⟨t, st, .threw x, hrun, hend, (u.1, u.2.1, u.2.2.1, u.2.2.2.1, b), ad, Ls, cells + 1, slots + 6, hW, hsame, ⟨?_, ?_, ⟨Nat.le_trans p3.1 h1, fun q hq hA => ?_, hL⟩, by show cells + 1 + 8 * b ≤ _; omega, by show slots + 6 + 128 * b ≤ _; omega, p6, p7, p8⟩, Or.inr ⟨x, kx, rfl, ⟨ce, hce, hcv, hcl⟩, q⟩⟩
    · rw [ow_W_b]; exact p1.kept (fun k q hk => h2 q.1 (p1 k q hk).lt)
    · rw [ow_W_b]; exact p2
    · rw [h2 q (Nat.lt_of_lt_of_le hq p3.1)]; exact p3.2.1 q hq hA
theorem aw_throwW {kx ik is ic b : Nat} {text : String} (hl : l.stackTraces = false) (hT : ow_Th Y.1.cls kx ik ic) (hstr : (Y.1.cls, is, text) ∈ ow_strs) (hh : ∀ q ∈ Y.2.2.2.2, ¬ (q.1 ≤ pc + 10 ∧ pc + 10 < q.2.1))
    (d0 : decode Y.2.1 pc = .ok (.new ik, 3)) (d3 : decode Y.2.1 (pc + 3) = .ok (.dup, 1)) (d4 : decode Y.2.1 (pc + 4) = .ok (.ldc_w is, 3)) (d7 : decode Y.2.1 (pc + 7) = .ok (.invokespecial ic, 3)) (d10 : decode Y.2.1 (pc + 10) = .ok (.athrow, 1))
    (hd : 5 < d.1 ∧ (S.map fun v => v.category).sum + 82 ≤ d.2) (hb : u.2.2.2.2 = b + 1) (q : Q (.inr kx) (u.1, u.2.1, u.2.2.1, u.2.2.2.1, b)) : AW l Y sc d Q pc L S u := by
  intro p e R s m args below meth c n0 b0 ad0 sb ids D A H locs cells slots ad ls X P h hv
  obtain ⟨t1, t2, t3, t4, t5, t6⟩ := hT
  obtain ⟨rf, rl, rc, rs⟩ := X.room
  obtain ⟨g1, g2, g3, g4, g5, g6, g7, g8⟩ := X.given
  obtain ⟨sa, hsa⟩ := g7 _ hstr
  obtain ⟨p1, p2, p3, p4, p5, p6, p7, p8⟩ := P
  rw [hb] at p4 p5
  have hcat : ((S.map (ow_cv sb ad)).map fun v => v.category).sum = (S.map fun v => v.category).sum := by
    rw [List.map_map]
    have : ((fun v => v.category) ∘ ow_cv sb ad) = fun v : Value => v.category := by
      funext v; exact ow_cvc sb ad v
    rw [this]
  have hw := vx_throwSW (p := p) (e := e) (R := R) (below := below) (H := H) (cells := cells) (slots := slots) (ls := ls) (rest := S.map (ow_cv sb ad)) (Qc := fun _ _ _ _ => False) (XC := fun E _ t => E = ow_exn kx ∧ H.size ≤ t.heap.size ∧ ∀ q : Nat, q < H.size → t.heap[q]? = H[q]?) (free := A) (mc := cells + 1) (ms := slots + 6) (names := ow_names)
    X.exec X.bytes hl X.own t5 t6 (X.ts _ t1) (X.ts _ t2) hsa (fun w hw => (t3 w hw).elim (fun h => X.ts w h) (fun h => ow_fw_on X.given h args)) t4 g5 g6 p3 (by rw [X.maxL]; exact h.1.1) d0 d3 d4 d7 d10 (ow_uncovered X hh)
    (by show 2 + 3 < R.frames; omega) (by show _ + (13 * (2 + 1) + 43) ≤ R.locals; rw [hcat]; omega) (by omega) (by omega) X.locks (fun t _ h1 h2 => ⟨rfl, h1, h2⟩) p3.2.2 (Nat.le_refl _) (Nat.le_refl _)
  intro T hT Xs
  obtain ⟨t, st, o, hrun, hend, hq⟩ := hw T hT Xs
  rcases hq with ⟨hF, -⟩ | ⟨x, rfl, E, ce, Ls, ⟨rfl, h1, h2⟩, hce, hcv, hcl, hW, hsame, hL⟩
  · exact hF.elim
  · refine ⟨t, st, .threw x, hrun, hend, (u.1, u.2.1, u.2.2.1, u.2.2.2.1, b), ad, Ls, cells + 1, slots + 6, hW, hsame, ⟨?_, ?_, ⟨Nat.le_trans p3.1 h1, fun q hq hA => ?_, hL⟩, by show cells + 1 + 8 * b ≤ _; omega, by show slots + 6 + 128 * b ≤ _; omega, p6, p7, p8⟩, Or.inr ⟨x, kx, rfl, ⟨ce, hce, hcv, hcl⟩, q⟩⟩
    · rw [ow_W_b]; exact p1.kept (fun k q hk => h2 q.1 (p1 k q hk).lt)
    · rw [ow_W_b]; exact p2
    · rw [h2 q (Nat.lt_of_lt_of_le hq p3.1)]; exact p3.2.1 q hq hA
theorem aw_objInit {index a : Nat} (hl : Cond.methodLink Y.1.cls index Lib.objectInit ∈ ow_ws) (hi : Cond.instanceMethod Lib.objectInit ∈ ow_ws) (hc : Cond.code Lib.objectInit ⟨#[0xb1]⟩ 1 none ∈ ow_ws) (hdg : decode Y.2.1 pc = .ok (.invokespecial index, 3)) (hd : 1 ≤ d.1 ∧ (S.map fun v => v.category).sum + 12 ≤ d.2)
    (k : AW l Y sc d Q (pc + 3) L S u) : AW l Y sc d Q pc L (.ref a :: S) u := by
  intro p e R s m args below meth c n0 b0 ad0 sb ids D A H locs cells slots ad ls X P h hv
  obtain ⟨rf, rl, rc, rs⟩ := X.room
  refine W.objInit X.exec X.bytes X.own (X.ts _ hl) (X.ts _ hi) (X.ts _ hc) rfl (by rw [X.maxL]; exact h.1.1) (rest := S.map (ow_cv sb ad)) rfl hdg (by omega) (Nat.le_trans (ow_weigh (m := m) (pc := pc) (sb := sb) (ls := ls) (ad := ad) hd.2) rl) ?_
  exact k _ _ _ _ _ _ _ _ _ _ _ _ _ _ _ _ _ _ _ _ _ _ X P h ⟨hv.1, hv.2.t⟩
theorem aw_ldcw {index : Nat} {x : Int32} (hc : Cond.constant Y.1.cls index x ∈ ow_ws) (hdg : decode Y.2.1 pc = .ok (.ldc_w index, 3)) (k : AW l Y sc d Q (pc + 3) L (.int x :: S) u) : AW l Y sc d Q pc L S u := by
  intro p e R s m args below meth c n0 b0 ad0 sb ids D A H locs cells slots ad ls X P h hv
  exact lv_ldcw X.exec X.bytes X.own (X.ts _ hc) hdg (k _ _ _ _ _ _ _ _ _ _ _ _ _ _ _ _ _ _ _ _ _ _ X P h ⟨hv.1, hv.2.i⟩)
theorem aw_iushr {x y : Int32} (hdg : decode Y.2.1 pc = .ok (.iushr, 1)) (k : AW l Y sc d Q (pc + 1) L (.int ((x.toUInt32 >>> (y.toUInt32 &&& Int32.toUInt32 31)).toInt32) :: S) u) : AW l Y sc d Q pc L (.int y :: .int x :: S) u := by
  intro p e R s m args below meth c n0 b0 ad0 sb ids D A H locs cells slots ad ls X P h hv
  exact lv_iushr X.exec X.bytes hdg rfl (k _ _ _ _ _ _ _ _ _ _ _ _ _ _ _ _ _ _ _ _ _ _ X P h ⟨hv.1, hv.2.t.t.i⟩)
/-- a constructor by its entry -/
theorem aw_callI {index a : Nat} {vs : List Value} {st : List Value} (hdg : decode Y.2.1 pc = .ok (.invokespecial index, 3)) (hL : ow_LI Y.1.cls index Y') (hC : ow_Cd Y' vs.length) (hY : ow_code Y' = Cond.code Y'.1 Y'.2.1 Y'.2.2.1 none) (ha : a < u.1) (hst : vs.reverse ++ .ref a :: S = st) (hd : d'.1 + 1 ≤ d.1 ∧ (S.map fun v => v.category).sum + (Y'.2.2.1 + 11 + d'.2) ≤ d.2) (hh : ∀ q ∈ Y.2.2.2.2, ¬ (q.1 ≤ pc ∧ pc < q.2.1))
    (kk : MT l Y' d' (.ref a :: vs) u (ow_next l Y sc d Q (pc + 3) L S)) : AW l Y sc d Q pc L st u := by
  subst hst
  intro p e R s m args below meth c n0 b0 ad0 sb ids D A H locs cells slots ad ls X P h hv
  intro T hT Xs
  subst hT
  have hvs : ow_okS u.1 (.ref a :: vs) := fun c hc => by
    rcases List.mem_cons.mp hc with h1 | h1
    · cases h1; exact ha
    · exact hv.2 c (List.mem_append_left _ (List.mem_reverse.mpr h1))
  have hS : ow_okS u.1 S := fun c hc => hv.2 c (List.mem_append_right _ (List.mem_cons_of_mem _ hc))
  obtain ⟨c1, c2, c4, c5⟩ := hC
  obtain ⟨l1, l2, l3⟩ := hL
  have hcode := X.ts _ c1
  rw [hY] at hcode
  have hstack : (F0 m pc ls ((vs.reverse ++ .ref a :: S).map (ow_cv sb ad))).stack = (vs.map (ow_cv sb ad)).reverse ++ .ref (ad a) :: S.map (ow_cv sb ad) := by
    show (vs.reverse ++ .ref a :: S).map (ow_cv sb ad) = _
    rw [List.map_append, List.map_reverse]; rfl
  have hpl : e.platform.magicAccessors = ({} : Platform).magicAccessors := by rw [Xs.admits.platform]
  obtain ⟨mk, methM, cM, kP, vm₁, hnamed, hmethM, hcodeM, -, hlocalsM, -, hkP, -, hW₁, hstep₁⟩ := Steps.initColdArgs (e := e) Xs.here X.exec Xs.warmed hpl X.own l3 c4 (X.ts _ l1) (X.ts _ l2) hcode (f := F0 m pc ls ((vs.reverse ++ .ref a :: S).map (ow_cv sb ad))) rfl (argsL := vs.map (ow_cv sb ad)) (rest := S.map (ow_cv sb ad)) (fun sig hs => by rw [List.length_map]; exact ow_len_of c5 hs) hstack (by rw [X.bytes]; exact hdg)
  have X₁ := Xs.noted hW₁
  obtain ⟨o, T', locs', cells', slots', ad', u', Xs', P', hle, had, hQ, hsteps⟩ := ow_enter (e := e) (U := T.setVm vm₁) (g := F0 m pc ls (S.map (ow_cv sb ad))) (ig := .invokespecial index) (mk := mk) kk X P hvs X₁ rfl (by rw [X.maxL]; exact h.1.1) (by rw [X.bytes]; exact hdg) ⟨hd.1, by have := ow_weigh (m := m) (pc := pc) (sb := sb) (ls := ls) (ad := ad) hd.2; omega⟩ (X₁.named hnamed) c1 c2
  obtain ⟨t, a1, b1⟩ := ow_behind (e := e) (below := below) (m := m) hh X h ⟨hv.1, hS⟩ Xs' P' hle had hQ
  exact ⟨t, hstep₁ _ fun acts => by rw [doInvoke_state]; exact hsteps.trans a1, b1⟩
/-- a nest mate's constructor -/
theorem aw_callIN {host : String} {index a : Nat} {vs : List Value} {st : List Value} (hdg : decode Y.2.1 pc = .ok (.invokespecial index, 3)) (hN : ow_nw1 = Cond.methodLinkNest Y.1.cls index Y'.1 host) (hL : Cond.instanceMethod Y'.1 ∈ ow_ws ∧ Y'.1.name = "<init>") (hC : ow_Cd Y' vs.length) (hY : ow_code Y' = Cond.code Y'.1 Y'.2.1 Y'.2.2.1 none) (ha : a < u.1) (hst : vs.reverse ++ .ref a :: S = st) (hd : d'.1 + 1 ≤ d.1 ∧ (S.map fun v => v.category).sum + (Y'.2.2.1 + 11 + d'.2) ≤ d.2) (hh : ∀ q ∈ Y.2.2.2.2, ¬ (q.1 ≤ pc ∧ pc < q.2.1))
    (kk : MT l Y' d' (.ref a :: vs) u (ow_next l Y sc d Q (pc + 3) L S)) : AW l Y sc d Q pc L st u := by
  subst hst
  intro p e R s m args below meth c n0 b0 ad0 sb ids D A H locs cells slots ad ls X P h hv
  intro T hT Xs
  subst hT
  have hvs : ow_okS u.1 (.ref a :: vs) := fun c hc => by
    rcases List.mem_cons.mp hc with h1 | h1
    · cases h1; exact ha
    · exact hv.2 c (List.mem_append_left _ (List.mem_reverse.mpr h1))
  have hS : ow_okS u.1 S := fun c hc => hv.2 c (List.mem_append_right _ (List.mem_cons_of_mem _ hc))
  obtain ⟨c1, c2, c4, c5⟩ := hC
  obtain ⟨l2, l3⟩ := hL
  have l1 : (Cond.methodLinkNest Y.1.cls index Y'.1 host).before args s = true := by rw [← hN]; exact va_Nw.use rfl X.given.2.1
  have hcode := X.ts _ c1
  rw [hY] at hcode
  have hstack : (F0 m pc ls ((vs.reverse ++ .ref a :: S).map (ow_cv sb ad))).stack = (vs.map (ow_cv sb ad)).reverse ++ .ref (ad a) :: S.map (ow_cv sb ad) := by
    show (vs.reverse ++ .ref a :: S).map (ow_cv sb ad) = _
    rw [List.map_append, List.map_reverse]; rfl
  have hpl : e.platform.magicAccessors = ({} : Platform).magicAccessors := by rw [Xs.admits.platform]
  obtain ⟨mk, methM, cM, kP, vm₁, hnamed, hmethM, hcodeM, -, hlocalsM, -, hkP, -, hW₁, hstep₁⟩ := Steps.initColdArgsNest (e := e) Xs.here X.exec Xs.warmed hpl X.own l3 c4 l1 (X.ts _ l2) hcode (f := F0 m pc ls ((vs.reverse ++ .ref a :: S).map (ow_cv sb ad))) rfl (argsL := vs.map (ow_cv sb ad)) (rest := S.map (ow_cv sb ad)) (fun sig hs => by rw [List.length_map]; exact ow_len_of c5 hs) hstack (by rw [X.bytes]; exact hdg)
  have X₁ := Xs.noted hW₁
  obtain ⟨o, T', locs', cells', slots', ad', u', Xs', P', hle, had, hQ, hsteps⟩ := ow_enter (e := e) (U := T.setVm vm₁) (g := F0 m pc ls (S.map (ow_cv sb ad))) (ig := .invokespecial index) (mk := mk) kk X P hvs X₁ rfl (by rw [X.maxL]; exact h.1.1) (by rw [X.bytes]; exact hdg) ⟨hd.1, by have := ow_weigh (m := m) (pc := pc) (sb := sb) (ls := ls) (ad := ad) hd.2; omega⟩ (X₁.named hnamed) c1 c2
  obtain ⟨t, a1, b1⟩ := ow_behind (e := e) (below := below) (m := m) hh X h ⟨hv.1, hS⟩ Xs' P' hle had hQ
  exact ⟨t, hstep₁ _ fun acts => by rw [doInvoke_state]; exact hsteps.trans a1, b1⟩
/-- a nest mate's static method -/
theorem aw_callSN {host : String} {index : Nat} {vs : List Value} {st : List Value} (hdg : decode Y.2.1 pc = .ok (.invokestatic index, 3)) (hN : ow_nw2 = Cond.methodLinkNest Y.1.cls index Y'.1 host) (hL : Cond.static Y'.1 ∈ ow_ws) (hC : ow_Cd Y' vs.length) (hst : vs.reverse ++ S = st) (hd : d'.1 + 1 ≤ d.1 ∧ (S.map fun v => v.category).sum + (Y'.2.2.1 + 11 + d'.2) ≤ d.2) (hh : ∀ q ∈ Y.2.2.2.2, ¬ (q.1 ≤ pc ∧ pc < q.2.1))
    (kk : MT l Y' d' vs u (ow_next l Y sc d Q (pc + 3) L S)) : AW l Y sc d Q pc L st u := by
  subst hst
  intro p e R s m args below meth c n0 b0 ad0 sb ids D A H locs cells slots ad ls X P h hv
  intro T hT Xs
  subst hT
  have hvs : ow_okS u.1 vs := fun c hc => hv.2 c (List.mem_append_left _ (List.mem_reverse.mpr hc))
  have hS : ow_okS u.1 S := fun c hc => hv.2 c (List.mem_append_right _ hc)
  obtain ⟨c1, c2, c4, c5⟩ := hC
  have l1 : (Cond.methodLinkNest Y.1.cls index Y'.1 host).before args s = true := by rw [← hN]; exact va_Nw.use rfl X.given.2.2.1
  obtain ⟨mk, methM, hnamed, hmethM, hsigM⟩ : ∃ mk methM, s.methodNamed? Y'.1 = some mk ∧ s.vm.method? mk = some methM ∧ parseMethodDescriptor Y'.1.desc = some methM.sig := by
    obtain ⟨mk, hnamed⟩ := ow_code_named (X.ts _ c1)
    obtain ⟨methM, cM, h1, -, -, -, -, -, -, h8⟩ := ow_code_spec hnamed (X.ts _ c1)
    exact ⟨mk, methM, hnamed, h1, h8⟩
  have hstatic : methM.isStatic = true := Cond.static_spec hnamed hmethM (X.ts _ hL)
  obtain ⟨kP, hkP, -⟩ := className_of_methodNamed hnamed
  have hinitP : kP.init = .initialized := Cond.initialized_spec (findClass_of_methodNamed hnamed) hkP (X.ts _ c2)
  have hstack : (F0 m pc ls ((vs.reverse ++ S).map (ow_cv sb ad))).stack = (vs.map (ow_cv sb ad)).reverse ++ S.map (ow_cv sb ad) := by
    show (vs.reverse ++ S).map (ow_cv sb ad) = _
    rw [List.map_append, List.map_reverse]
  obtain ⟨vm₁, X₁, hstep₁⟩ := Xs.invokestaticNest X.exec X.own l1 hnamed hmethM hstatic hkP hinitP c4 (g := F0 m pc ls ((vs.reverse ++ S).map (ow_cv sb ad))) rfl (argsL := vs.map (ow_cv sb ad)) (rest := S.map (ow_cv sb ad)) (by rw [List.length_map]; exact ow_len_of c5 hsigM) hstack (by rw [X.bytes]; exact hdg)
  obtain ⟨o, T', locs', cells', slots', ad', u', Xs', P', hle, had, hQ, hsteps⟩ := ow_enter (e := e) (U := T.setVm vm₁) (g := F0 m pc ls (S.map (ow_cv sb ad))) (ig := .invokestatic index) (mk := mk) kk X P hvs X₁ rfl (by rw [X.maxL]; exact h.1.1) (by rw [X.bytes]; exact hdg) ⟨hd.1, by have := ow_weigh (m := m) (pc := pc) (sb := sb) (ls := ls) (ad := ad) hd.2; omega⟩ (X₁.named hnamed) c1 c2
  obtain ⟨t, a1, b1⟩ := ow_behind (e := e) (below := below) (m := m) hh X h ⟨hv.1, hS⟩ Xs' P' hle had hQ
  exact ⟨t, hstep₁ _ fun acts => by rw [doInvoke_state]; exact hsteps.trans a1, b1⟩
end OwSpecial
