/-! 'throw new E("..")' where E's constructor calls its superclass's by another entry than 7 (NoSuchElementException: 13); launches without stack traces -/
def nx_atoms (own : String) (ic : Nat) (X : String) (ix : Nat) (rx : ByteArray) (sup : String) (names : List String) : List Cond :=
  Bundle.throwableAtoms ++ Bundle.throwableSAtoms ++ Bundle.passSAtoms X sup ix rx ++ Bundle.chainSAtoms sup names ++
  [.methodLink own ic (Bundle.initS X), .instantiable X 6, .selects X Bundle.tFill0 Bundle.tFill0, .selects X Bundle.tFill Bundle.tFill,
   .lays X Bundle.tN "cause" "Ljava/lang/Throwable;", .lays X Bundle.tN "stackTrace" Bundle.steD, .lays X Bundle.tN "suppressedExceptions" Bundle.listD, .lays X Bundle.tN "detailMessage" "Ljava/lang/String;",
   .isRef (.static Bundle.tN "UNASSIGNED_STACK" Bundle.steD), .isRef (.static Bundle.tN "SUPPRESSED_SENTINEL" Bundle.listD),
   .fieldLink Bundle.tN 198 Bundle.tN "backtrace" "Ljava/lang/Object;", .lays Bundle.tN Bundle.tN "backtrace" "Ljava/lang/Object;", .lays X Bundle.tN "backtrace" "Ljava/lang/Object;"]
section NxCtor
variable {p : Program} {l : Launch} {e : Env} {R : Room} {s : State} {m₀ : MethodId} {args : Array Value} {below : List Frame} {meth : Method} {c : Code} {V : State} {locs : List Loc} {cells slots : Nat}
set_option maxHeartbeats 2000000 in
theorem nx_ctor (X : Stand p l e R s m₀ args below meth c V locs cells slots) (hexec : p.tables.exec = Jvm.exec) (htr : e.platform.stackTraces = false) {own cls sup : String} {names : List String} {ic ix : Nat} {rx : ByteArray}
    (x0 : decode rx 0 = .ok (.aload_n 0, 1)) (x1 : decode rx 1 = .ok (.aload_n 1, 1)) (x2 : decode rx 2 = .ok (.invokespecial ix, 3)) (x5 : decode rx 5 = .ok (.return_, 1))
    (hown : s.vm.findClass own = some m₀.cls) (hcls : Bundle.fit cls = true) (hsupf : Bundle.fit sup = true) (hnames : ∀ n ∈ names, Bundle.fit n = true)
    (h : ∀ w ∈ nx_atoms own ic cls ix rx sup names, w.before args s = true)
    (hlocs : ∀ x ∈ locs, ∀ cell, s.heap[x.base]? = some cell → cell.vm.isStatics = false)
    {a : Addr} {cX : ClassId} {kX : Class} (hfoundX : s.vm.findClass cls = some cX) (hkX : s.vm.classes[cX]? = some kX) (hcell : V.heap[a]? = some (freshCell cX kX)) (hnew : s.heap.size ≤ a)
    {msg : Value} (hmsg : msg.isRef = true)
    {g : JFrame} (hg : g.method = m₀) (hsize : g.locals.size = c.maxLocals) (hlocked : g.locked = none) (hentered : g.entered = []) {rest : List Value} (hstack : g.stack = msg :: .ref a :: .ref a :: rest)
    (hd6 : decode c.code g.pc = .ok (.invokespecial ic, 3)) (hd9 : decode c.code (g.pc + 3) = .ok (.athrow, 1)) (hout : ∀ x ∈ c.exceptionTable.toList, covers x (g.pc + 3) = false)
    (hRframes : names.length + 4 < R.frames) (hRlocals : 2 * g.monitorRoom + ((Value.ref a :: rest).map fun v => v.category).sum + (13 * (names.length + 2) + 42) ≤ R.locals) (hlocks : meth.locks = false) :
    ∃ U : State, Steps p.tables e below (V.setTop g) U ∧ U.status = .running ∧ Ended U below (.threw a) ∧ s.WarmedH U.vm ∧ s.sameButNew ({ U with vm := s.vm } : State) locs cells slots ∧
      ∃ ce : Cell, U.heap[a]? = some ce ∧ ce.vm = .none ∧ s.vm.findClass cls = some ce.cls := by
  have hpf := X.admits.platform
  have howns : e.platform.frameOwnsMonitors = true := by rw [hpf]
  have hfin : e.platform.finalization = false := by rw [hpf]
  have hpl : e.platform.magicAccessors = ({} : Platform).magicAccessors := by rw [hpf]
  have w : ∀ x, x ∈ nx_atoms own ic cls ix rx sup names → x.holds args s none s [] = true := fun x hx => h x hx
  obtain ⟨T, Z0, L, -, Y⟩ := ThrowableC.of_atoms (args := args) howns hfin hpl (fun x hx => h x (by simp [nx_atoms, hx]))
  obtain ⟨Z, M, LZ, LM, hnZ⟩ := Init0T.ofS_atoms (args := args) hpl L Y (fun x hx => h x (by simp [nx_atoms, hx]))
  obtain ⟨P1, L1, hP1m, hs1⟩ := PassC.ofS_atoms (args := args) (s := s) hpl (X := cls) (Y := sup) (Bundle.fit_spec hcls).1 (Bundle.fit_spec hsupf).2 x0 x1 x2 x5 (fun x hx => h x (by simp [nx_atoms, hx]))
  obtain ⟨P2, Ps, hlen, L2, hL, hP2m, hlink1, hlink⟩ := Bundle.chainS (args := args) hpl hnZ names sup hsupf hnames (fun x hx => h x (by simp [nx_atoms, hx]))
  have hs12 : P1.sup = P2.m := Option.some.inj (hs1.symm.trans hP2m)
  have hfound : s.vm.findClass cls = some P1.m.cls := findClass_of_methodNamed hP1m
  cases Option.some.inj (hfoundX.symm.trans hfound)
  obtain ⟨c1, kX', hc1, hk, hord, -, -, hn6⟩ := Cond.instantiable_spec (w (.instantiable cls 6) (by simp [nx_atoms]))
  cases Option.some.inj (hc1.symm.trans hfound)
  cases Option.some.inj (hkX.symm.trans hk)
  have pick : ∀ {y : MethodName} {my : MethodId}, s.methodNamed? y = some my → (y.cls ≠ "java/lang/invoke/MethodHandle" ∧ y.cls ≠ "java/lang/invoke/VarHandle") → (Cond.selects cls y y).holds args s none s [] = true → selectMethod e.platform s.vm P1.m.cls my = .method my := by
    intro y my hy hne hs
    obtain ⟨c2, r2, m2, q1, q2, q3, q4, -⟩ := Cond.selects_spec hs
    cases Option.some.inj (q1.symm.trans hfound)
    cases Option.some.inj (q2.symm.trans (State.methodFound?_of_named hy hne))
    cases Option.some.inj (q3.symm.trans hy)
    rw [Launch.admits_selectMethod X.admits]; exact q4
  have hsel0 := pick Y.fill0 (by decide) (w (.selects cls Bundle.tFill0 Bundle.tFill0) (by simp [nx_atoms]))
  have hselF := pick Y.fill (by decide) (w (.selects cls Bundle.tFill Bundle.tFill) (by simp [nx_atoms]))
  obtain ⟨cS, hcS, hiss⟩ := Y.statics
  obtain ⟨u0, hu0⟩ := Cond.staticRefV Y.unassigned L.unassignedStatic L.statics hcS hiss (w (.isRef (.static Bundle.tN "UNASSIGNED_STACK" Bundle.steD)) (by simp [nx_atoms]))
  obtain ⟨sen, hsen⟩ := Cond.staticRefV Y.sentinel L.sentinelStatic L.statics hcS hiss (w (.isRef (.static Bundle.tN "SUPPRESSED_SENTINEL" Bundle.listD)) (by simp [nx_atoms]))
  obtain ⟨ci, i8, fB, hk8, hg8, ha8, hsB, -, hnB, htB, hffB⟩ := Cond.ownField (t := .object "java/lang/Object") Y.found L.cls (by decide +kernel) (w (.fieldLink Bundle.tN 198 Bundle.tN "backtrace" "Ljava/lang/Object;") (by simp [nx_atoms])) (w (.lays Bundle.tN Bundle.tN "backtrace" "Ljava/lang/Object;") (by simp [nx_atoms])) e.platform hpl
  obtain ⟨cS2, hcS2, heS, -, hkeep⟩ := X.same.2.2.2.2.2 T.aS cS hcS
  have hcV : V.heap[T.aS]? = some cS2 := hcS2
  have hfree : ∀ i, (⟨T.aS, i⟩ : Loc) ∉ locs := fun i hmem => by
    have q := hlocs _ hmem cS hcS
    rw [hiss] at q; cases q
  have hknown : cS2.vm ≠ .unknown := by
    rw [heS]; intro hu
    rw [show cS.vm = .unknown from hu] at hiss
    cases hiss
  have hne : T.aS ≠ a := Nat.ne_of_lt (Nat.lt_of_lt_of_le (Array.getElem?_eq_some_iff.mp hcS).1 hnew)
  obtain ⟨iM, hffM⟩ := Y.msg
  obtain ⟨tyC, dC, hdC, hdnC⟩ := Cond.laysAt hfound hk Y.cause (w (.lays cls Bundle.tN "cause" "Ljava/lang/Throwable;") (by simp [nx_atoms]))
  obtain ⟨tyS, dS, hdS, hdnS⟩ := Cond.laysAt hfound hk Y.stack (w (.lays cls Bundle.tN "stackTrace" Bundle.steD) (by simp [nx_atoms]))
  obtain ⟨tyP, dP, hdP, hdnP⟩ := Cond.laysAt hfound hk Y.supp (w (.lays cls Bundle.tN "suppressedExceptions" Bundle.listD) (by simp [nx_atoms]))
  obtain ⟨tyM, dM, hdM, hdnM⟩ := Cond.laysAt hfound hk hffM (w (.lays cls Bundle.tN "detailMessage" "Ljava/lang/String;") (by simp [nx_atoms]))
  obtain ⟨tyB, dB, hdB, hdnB⟩ := Cond.laysAt hfound hk hffB (w (.lays cls Bundle.tN "backtrace" "Ljava/lang/Object;") (by simp [nx_atoms]))
  have bC := Cond.laysApart hdB hdC hdnB hdnC (by rw [hnB, Y.causeName]; decide)
  have bS := Cond.laysApart hdB hdS hdnB hdnS (by rw [hnB, Y.stackName]; decide)
  have bP := Cond.laysApart hdB hdP hdnB hdnP (by rw [hnB, Y.suppName]; decide)
  have hskip : SkipFacts T e.platform s (fun u => u) u0 ((preparedCellV T.toThrowableT (freshCell P1.m.cls kX) a u0 sen).withEntry V.cur) :=
    ⟨{ ci198 := ci, i198 := i8, fBack := fB }, ⟨hk8, hg8, ha8, hsB⟩, by
      have q := fresh_default (c := P1.m.cls) tyB
      rw [htB] at q
      simpa [preparedCellV, Cell.setSlot, Cell.withEntry, Array.getElem?_setIfInBounds, bC, bS, bP, bC.symm, bS.symm, bP.symm, defaultValue] using q, fun _ _ => rfl⟩
  obtain ⟨tm, methC, cdC, kC, vm₁, hnC, -, -, -, -, -, -, -, hW₁, st1⟩ := Steps.initColdS (tb := p.tables) (e := e) (below := below) (s := s) (U := V) X.here hexec X.warmed hpl hown (t := Bundle.initS cls) rfl rfl (Bundle.fit_spec hcls).2
    (w (.methodLink own ic (Bundle.initS cls)) (by simp [nx_atoms])) (h (.instanceMethod (Bundle.initS cls)) (by simp [nx_atoms, Bundle.passSAtoms])) (bytes := rx) (maxL := 2) (h (.code (Bundle.initS cls) rx 2 none) (by simp [nx_atoms, Bundle.passSAtoms]))
    (f := g) hg (a := a) (msg := msg) (rest := .ref a :: rest) hstack hd6
  cases Option.some.inj (hnC.symm.trans hP1m)
  have X₁ := X.noted hW₁
  obtain ⟨vm₂, X₂, st2⟩ := X₁.ctorMessageOffV hexec (g := { g with stack := .ref a :: rest }) hg hsize T L Z LZ M LM (P1 :: P2 :: Ps)
    (fun P hP => by
      rcases List.mem_cons.mp hP with rfl | hP
      · exact L1
      · rcases List.mem_cons.mp hP with rfl | hP
        · exact L2
        · exact hL P hP) ⟨hs12, hlink1, hlink⟩ (u0 := u0) (sen := sen) (self := a) hmsg (cell := freshCell P1.m.cls kX) (cellS := cS2)
    hcell (fun _ => by simp) (by simp) rfl rfl hsel0 hselF hcV hne hknown (by rw [hkeep _ (hfree _)]; exact hu0) (by rw [hkeep _ (hfree _)]; exact hsen)
    (Takes.of_laid hk hord tyC (by rw [Y.causeType]; rfl)) (Takes.of_laid hk hord tyS (by rw [Y.stackType]; exact fits_refV_array _ u0)) (Takes.of_laid hk hord tyP (by rw [Y.suppType]; exact fits_refV_object _ sen))
    (Takes.of_laid hk hord tyM (by rw [Y.msgType]; exact fits_refV_object _ ⟨msg, hmsg⟩)) Y.objLocals hskip htr [] hd6
    (by simp only [List.length_cons, hlen]; omega) (by simp only [List.length_cons, hlen]; exact hRlocals)
  obtain ⟨hwalk, hrun, hended, hWU, hsame⟩ := X₂.athrowLeaves hexec (g := { g with stack := .ref a :: rest, pc := g.pc + 3 }) hg hlocked hentered hout (a := a) (rest := rest) rfl hd9
  have hlt : a < ((V.setVm vm₁).setVm vm₂).heap.size := (Array.getElem?_eq_some_iff.mp hcell).1
  have hU := heapAt_setCell_self (s := (V.setVm vm₁).setVm vm₂) (plainBareV T.toThrowableT (freshCell P1.m.cls kX) a u0 sen msg) hlt
  refine ⟨_, st1 _ (fun acts => ?_), hrun, hended, hWU, hsame.weaken (fun y hy hlt' => ?_) (Nat.le_refl _) (Nat.le_refl _), _, hU, rfl, hfound⟩
  · rw [doInvoke_state]
    exact st2 _ hwalk
  · rcases List.mem_append.mp hy with h1 | h1
    · exact h1
    · exfalso
      have hb : y.base = a := by
        simp only [List.mem_cons, List.not_mem_nil, or_false] at h1
        rcases h1 with rfl | rfl | rfl | rfl | rfl <;> rfl
      rw [hb] at hlt'
      exact Nat.not_lt.mpr hnew hlt'
end NxCtor
/-- the words of 'throw new NoSuchElementException("..")' in the class own -/
def nx_at (own : String) (ic : Nat) : List Cond := (nx_atoms own ic (ow_exn 2) 13 prog_15_method_4_code "java/lang/RuntimeException" ["java/lang/Exception"]).filter vx_no
def nx_Th (own : String) (ik ic : Nat) : Prop := Cond.classLink own ik (ow_exn 2) ∈ ow_ws ∧ Cond.initialized (ow_exn 2) ∈ ow_ws ∧ (∀ w ∈ nx_at own ic, w ∈ ow_ws ∨ w ∈ ow_fw) ∧ (∀ w ∈ Cond.classLink own ik (ow_exn 2) :: Cond.initialized (ow_exn 2) :: nx_at own ic, vx_ot w = true)
theorem nx_d0 : decode prog_15_method_4_code 0 = .ok (.aload_n 0, 1) := by decide +kernel
theorem nx_d1 : decode prog_15_method_4_code 1 = .ok (.aload_n 1, 1) := by decide +kernel
theorem nx_d2 : decode prog_15_method_4_code 2 = .ok (.invokespecial 13, 3) := by decide +kernel
theorem nx_d5 : decode prog_15_method_4_code 5 = .ok (.return_, 1) := by decide +kernel
section NxThrow
variable {l : Launch} {Y : ow_Y} {sc : Option (Nat × (Nat → Int32))} {d : Nat × Nat} {Q : ow_R → ow_M → Prop} {pc : Nat} {L : List (Option Value)} {S : List Value} {u : ow_M}
set_option maxHeartbeats 2000000 in
theorem aw_throwN {ik is ic b : Nat} {text : String} (hl : l.stackTraces = false) (hTh : nx_Th Y.1.cls ik ic) (hstr : (Y.1.cls, is, text) ∈ ow_strs) (hh : ∀ q ∈ Y.2.2.2.2, ¬ (q.1 ≤ pc + 9 ∧ pc + 9 < q.2.1))
    (d0 : decode Y.2.1 pc = .ok (.new ik, 3)) (d3 : decode Y.2.1 (pc + 3) = .ok (.dup, 1)) (d4 : decode Y.2.1 (pc + 4) = .ok (.ldc is, 2)) (d6 : decode Y.2.1 (pc + 6) = .ok (.invokespecial ic, 3)) (d9 : decode Y.2.1 (pc + 9) = .ok (.athrow, 1))
    (hd : 5 < d.1 ∧ (S.map fun v => v.category).sum + 82 ≤ d.2) (hb : u.2.2.2.2 = b + 1) (q : Q (.inr 2) (u.1, u.2.1, u.2.2.1, u.2.2.2.1, b)) : AW l Y sc d Q pc L S u := by
  intro p e R s m args below meth c n0 b0 ad0 sb ids D A H locs cells slots ad ls X P h hv
  obtain ⟨t1, t2, t3, t4⟩ := hTh
  obtain ⟨rf, rl, rc, rs⟩ := X.room
  obtain ⟨g1, g2, g3, g4, g5, g6, g7, g8⟩ := X.given
  obtain ⟨sa, hsa⟩ := g7 _ hstr
  obtain ⟨p1, p2, p3, p4, p5, p6, p7, p8⟩ := P
  rw [hb] at p4 p5
  have hcat : ((S.map (ow_cv sb ad)).map fun v => v.category).sum = (S.map fun v => v.category).sum := by
    rw [List.map_map]
    have : ((fun v => v.category) ∘ ow_cv sb ad) = fun v : Value => v.category := by
      funext v; exact ow_cvc sb ad v
    rw [this]
  intro T hT Xs
  have htr : e.platform.stackTraces = false := (show e.platform.stackTraces = l.stackTraces by rw [Xs.admits.platform]).trans hl
  have Yr := vx_rebase Xs (R' := { frames := R.frames, locals := R.locals, cells := 1, slots := 6 }) (Nat.le_refl _) (Nat.le_refl _) (show cells + 1 ≤ R.cells by omega) (show slots + 6 ≤ R.slots by omega)
  obtain ⟨s', hs'⟩ : ∃ z, z = (T.setVm s.vm).setFrames (.invoking m args :: below) := ⟨_, rfl⟩
  rw [← hs'] at Yr
  have hvm : s'.vm = s.vm := by rw [hs']; rfl
  have hhp : s'.heap = H := by rw [hs']; exact hT
  have hW0 : s.WarmedH s'.vm := by rw [hvm]; exact State.WarmedH.refl s
  have mv : ∀ w, vx_ot w = true → w.before args s = true → w.before args s' = true := fun w hg hw => vx_ot_at hW0 hvm.symm hg hw
  have hat : ∀ w ∈ nx_at Y.1.cls ic, w.before args s' = true := fun w hw => mv w (t4 w (List.mem_cons_of_mem _ (List.mem_cons_of_mem _ hw))) ((t3 w hw).elim (fun h => X.ts w h) (fun h => ow_fw_on X.given h args))
  have hk' : (Cond.classLink Y.1.cls ik (ow_exn 2)).before args s' = true := mv _ (t4 _ List.mem_cons_self) (X.ts _ t1)
  have hini' : (Cond.initialized (ow_exn 2)).before args s' = true := mv _ (t4 _ (List.mem_cons_of_mem _ List.mem_cons_self)) (X.ts _ t2)
  have hU' : vx_Zq Bundle.tN "UNASSIGNED_STACK" Bundle.steD A s' s'.heap := by rw [hhp]; exact vx_Zq.moved hW0.alike (g5.kept p3.2.1)
  have hN' : vx_Zq Bundle.tN "SUPPRESSED_SENTINEL" Bundle.listD A s' s'.heap := by rw [hhp]; exact vx_Zq.moved hW0.alike (g6.kept p3.2.1)
  have hall : ∀ w ∈ nx_atoms Y.1.cls ic (ow_exn 2) 13 prog_15_method_4_code "java/lang/RuntimeException" ["java/lang/Exception"], w.before args s' = true := vx_own hat (vx_isRefq hU'.1) (vx_isRefq hN'.1) hU'.2.word hN'.2.word
  have hown' : s'.vm.findClass Y.1.cls = some m.cls := by rw [hvm]; exact X.own
  have hins : (Cond.instantiable (ow_exn 2) 6).before args s' = true := hall _ (by simp [nx_atoms])
  obtain ⟨vm₁, cX, kX, hfX, hkX, -, -, X₁, st1⟩ := Yr.newCold X.exec (own := Y.1.cls) (C := ow_exn 2) (index := ik) (n := 6) hown' hk' hins hini'
    (g := F0 m pc ls (S.map (ow_cv sb ad))) rfl (by rw [X.bytes]; exact d0) (Nat.le_refl _) (Nat.le_refl _)
  generalize hT1 : (T.setVm vm₁).pushCell { cls := cX, slots := kX.instanceTypes.map defaultValue, vm := .none } = T1 at X₁ st1
  have hc1 : (Value.ref T.heap.size).category = 1 := rfl
  have hcellA : T1.heap[T.heap.size]? = some (freshCell cX kX) := by rw [← hT1]; exact State.heap_pushCell_size _ _
  have d3' : decode c.code (pc + 3) = .ok (.dup, 1) := by rw [X.bytes]; exact d3
  have d4' : decode c.code (pc + 4) = .ok (.ldc is, 2) := by rw [X.bytes]; exact d4
  have hstr' : vk_R Y.1.cls is text sa s' := vk_R.warm hW0 hsa
  have hexec := X.exec
  obtain ⟨U, hsteps, hrun, hend, hW, hsame, ce, hce, hcv, hcl⟩ := nx_ctor X₁ hexec htr (own := Y.1.cls) (cls := ow_exn 2) (sup := "java/lang/RuntimeException") (names := ["java/lang/Exception"]) (ic := ic) nx_d0 nx_d1 nx_d2 nx_d5 hown' (by decide +kernel) (by decide +kernel) (by decide +kernel) hall (fun x hx => nomatch hx) hfX hkX hcellA (by rw [hhp, hT]; exact Nat.le_refl _) (msg := .ref sa) rfl
    (g := { method := m, pc := pc + 6, locals := ls, stack := .ref sa :: .ref T.heap.size :: .ref T.heap.size :: S.map (ow_cv sb ad), locked := none }) rfl (by rw [X.maxL]; exact h.1.1) rfl rfl (rest := S.map (ow_cv sb ad)) rfl
    (by rw [X.bytes]; exact d6) (by rw [X.bytes]; exact d9) (ow_uncovered X hh) (by show 1 + 4 < R.frames; omega) (by simp only [List.map_cons, List.sum_cons, hc1, hcat]; show 2 * 0 + _ + (13 * (1 + 2) + 42) ≤ R.locals; omega) X.locks
  obtain ⟨f1, f2⟩ := vx_frame hsame
  rw [hhp] at f1 f2
  have hWs : s.WarmedH U.vm := State.WarmedH.trans hW0 hW
  have hsm : s.sameButNew ({ U with vm := s.vm } : State) locs (cells + 1) (slots + 6) := by
    subst hs'
    obtain ⟨e1, e2⟩ := hsame
    rw [State.setFrames_setFrames] at e1
    have h2 : (T.setVm s.vm).sameButNew ({ U with vm := s.vm } : State) [] (0 + 1) (0 + 6) := ⟨e1, e2⟩
    have h3 := Xs.same.trans h2
    rw [List.append_nil] at h3
    exact h3
  rw [hvm] at hcl
  have h2 : ∀ q : Nat, q < H.size → U.heap[q]? = H[q]? := fun q hq => f2 q hq (fun z hz => nomatch hz)
  refine ⟨U, ?_, .threw T.heap.size, hrun, hend, (u.1, u.2.1, u.2.2.1, u.2.2.2.1, b), ad, locs, cells + 1, slots + 6, hWs, hsm, ⟨?_, ?_, ⟨Nat.le_trans p3.1 f1, fun q hq hA => ?_, p3.2.2⟩, by show cells + 1 + 8 * b ≤ _; omega, by show slots + 6 + 128 * b ≤ _; omega, p6, p7, p8⟩, Or.inr ⟨T.heap.size, 2, rfl, ⟨ce, hce, hcv, hcl⟩, q⟩⟩
  · refine st1 _ ?_
    show Steps p.tables e below (T1.setTop { method := m, pc := pc + 3, locals := ls, stack := .ref T.heap.size :: S.map (ow_cv sb ad), locked := none }) _
    jvm_step X₁.here [X₁.here.top, hexec, d3', Value.category]
    exact X₁.ldcString hexec (own := Y.1.cls) (text := text) (index := is) (a := sa) hown' hstr'.1 hstr'.2
      (g := { method := m, pc := pc + 4, locals := ls, stack := .ref T.heap.size :: .ref T.heap.size :: S.map (ow_cv sb ad), locked := none }) rfl d4' _ hsteps
  · rw [ow_W_b]; exact p1.kept (fun k q hk => h2 q.1 (p1 k q hk).lt)
  · rw [ow_W_b]; exact p2
  · rw [h2 q (Nat.lt_of_lt_of_le hq p3.1)]; exact p3.2.1 q hq hA
set_option maxHeartbeats 2000000 in
theorem aw_throwNW {ik is ic b : Nat} {text : String} (hl : l.stackTraces = false) (hTh : nx_Th Y.1.cls ik ic) (hstr : (Y.1.cls, is, text) ∈ ow_strs) (hh : ∀ q ∈ Y.2.2.2.2, ¬ (q.1 ≤ pc + 10 ∧ pc + 10 < q.2.1))
    (d0 : decode Y.2.1 pc = .ok (.new ik, 3)) (d3 : decode Y.2.1 (pc + 3) = .ok (.dup, 1)) (d4 : decode Y.2.1 (pc + 4) = .ok (.ldc_w is, 3)) (d7 : decode Y.2.1 (pc + 7) = .ok (.invokespecial ic, 3)) (d10 : decode Y.2.1 (pc + 10) = .ok (.athrow, 1))
    (hd : 5 < d.1 ∧ (S.map fun v => v.category).sum + 82 ≤ d.2) (hb : u.2.2.2.2 = b + 1) (q : Q (.inr 2) (u.1, u.2.1, u.2.2.1, u.2.2.2.1, b)) : AW l Y sc d Q pc L S u := by
  intro p e R s m args below meth c n0 b0 ad0 sb ids D A H locs cells slots ad ls X P h hv
  obtain ⟨t1, t2, t3, t4⟩ := hTh
  obtain ⟨rf, rl, rc, rs⟩ := X.room
  obtain ⟨g1, g2, g3, g4, g5, g6, g7, g8⟩ := X.given
  obtain ⟨sa, hsa⟩ := g7 _ hstr
  obtain ⟨p1, p2, p3, p4, p5, p6, p7, p8⟩ := P
  rw [hb] at p4 p5
  have hcat : ((S.map (ow_cv sb ad)).map fun v => v.category).sum = (S.map fun v => v.category).sum := by
    rw [List.map_map]
    have : ((fun v => v.category) ∘ ow_cv sb ad) = fun v : Value => v.category := by
      funext v; exact ow_cvc sb ad v
    rw [this]
  intro T hT Xs
  have htr : e.platform.stackTraces = false := (show e.platform.stackTraces = l.stackTraces by rw [Xs.admits.platform]).trans hl
  have Yr := vx_rebase Xs (R' := { frames := R.frames, locals := R.locals, cells := 1, slots := 6 }) (Nat.le_refl _) (Nat.le_refl _) (show cells + 1 ≤ R.cells by omega) (show slots + 6 ≤ R.slots by omega)
  obtain ⟨s', hs'⟩ : ∃ z, z = (T.setVm s.vm).setFrames (.invoking m args :: below) := ⟨_, rfl⟩
  rw [← hs'] at Yr
  have hvm : s'.vm = s.vm := by rw [hs']; rfl
  have hhp : s'.heap = H := by rw [hs']; exact hT
  have hW0 : s.WarmedH s'.vm := by rw [hvm]; exact State.WarmedH.refl s
  have mv : ∀ w, vx_ot w = true → w.before args s = true → w.before args s' = true := fun w hg hw => vx_ot_at hW0 hvm.symm hg hw
  have hat : ∀ w ∈ nx_at Y.1.cls ic, w.before args s' = true := fun w hw => mv w (t4 w (List.mem_cons_of_mem _ (List.mem_cons_of_mem _ hw))) ((t3 w hw).elim (fun h => X.ts w h) (fun h => ow_fw_on X.given h args))
  have hk' : (Cond.classLink Y.1.cls ik (ow_exn 2)).before args s' = true := mv _ (t4 _ List.mem_cons_self) (X.ts _ t1)
  have hini' : (Cond.initialized (ow_exn 2)).before args s' = true := mv _ (t4 _ (List.mem_cons_of_mem _ List.mem_cons_self)) (X.ts _ t2)
  have hU' : vx_Zq Bundle.tN "UNASSIGNED_STACK" Bundle.steD A s' s'.heap := by rw [hhp]; exact vx_Zq.moved hW0.alike (g5.kept p3.2.1)
  have hN' : vx_Zq Bundle.tN "SUPPRESSED_SENTINEL" Bundle.listD A s' s'.heap := by rw [hhp]; exact vx_Zq.moved hW0.alike (g6.kept p3.2.1)
  have hall : ∀ w ∈ nx_atoms Y.1.cls ic (ow_exn 2) 13 prog_15_method_4_code "java/lang/RuntimeException" ["java/lang/Exception"], w.before args s' = true := vx_own hat (vx_isRefq hU'.1) (vx_isRefq hN'.1) hU'.2.word hN'.2.word
  have hown' : s'.vm.findClass Y.1.cls = some m.cls := by rw [hvm]; exact X.own
  have hins : (Cond.instantiable (ow_exn 2) 6).before args s' = true := hall _ (by simp [nx_atoms])
  obtain ⟨vm₁, cX, kX, hfX, hkX, -, -, X₁, st1⟩ := Yr.newCold X.exec (own := Y.1.cls) (C := ow_exn 2) (index := ik) (n := 6) hown' hk' hins hini'
    (g := F0 m pc ls (S.map (ow_cv sb ad))) rfl (by rw [X.bytes]; exact d0) (Nat.le_refl _) (Nat.le_refl _)
  generalize hT1 : (T.setVm vm₁).pushCell { cls := cX, slots := kX.instanceTypes.map defaultValue, vm := .none } = T1 at X₁ st1
  have hc1 : (Value.ref T.heap.size).category = 1 := rfl
  have hcellA : T1.heap[T.heap.size]? = some (freshCell cX kX) := by rw [← hT1]; exact State.heap_pushCell_size _ _
  have d3' : decode c.code (pc + 3) = .ok (.dup, 1) := by rw [X.bytes]; exact d3
  have d4' : decode c.code (pc + 4) = .ok (.ldc_w is, 3) := by rw [X.bytes]; exact d4
  have hstr' : vk_R Y.1.cls is text sa s' := vk_R.warm hW0 hsa
  have hexec := X.exec
  obtain ⟨U, hsteps, hrun, hend, hW, hsame, ce, hce, hcv, hcl⟩ := nx_ctor X₁ hexec htr (own := Y.1.cls) (cls := ow_exn 2) (sup := "java/lang/RuntimeException") (names := ["java/lang/Exception"]) (ic := ic) nx_d0 nx_d1 nx_d2 nx_d5 hown' (by decide +kernel) (by decide +kernel) (by decide +kernel) hall (fun x hx => nomatch hx) hfX hkX hcellA (by rw [hhp, hT]; exact Nat.le_refl _) (msg := .ref sa) rfl
    (g := { method := m, pc := pc + 7, locals := ls, stack := .ref sa :: .ref T.heap.size :: .ref T.heap.size :: S.map (ow_cv sb ad), locked := none }) rfl (by rw [X.maxL]; exact h.1.1) rfl rfl (rest := S.map (ow_cv sb ad)) rfl
    (by rw [X.bytes]; exact d7) (by rw [X.bytes]; exact d10) (ow_uncovered X hh) (by show 1 + 4 < R.frames; omega) (by simp only [List.map_cons, List.sum_cons, hc1, hcat]; show 2 * 0 + _ + (13 * (1 + 2) + 42) ≤ R.locals; omega) X.locks
  obtain ⟨f1, f2⟩ := vx_frame hsame
  rw [hhp] at f1 f2
  have hWs : s.WarmedH U.vm := State.WarmedH.trans hW0 hW
  have hsm : s.sameButNew ({ U with vm := s.vm } : State) locs (cells + 1) (slots + 6) := by
    subst hs'
    obtain ⟨e1, e2⟩ := hsame
    rw [State.setFrames_setFrames] at e1
    have h2 : (T.setVm s.vm).sameButNew ({ U with vm := s.vm } : State) [] (0 + 1) (0 + 6) := ⟨e1, e2⟩
    have h3 := Xs.same.trans h2
    rw [List.append_nil] at h3
    exact h3
  rw [hvm] at hcl
  have h2 : ∀ q : Nat, q < H.size → U.heap[q]? = H[q]? := fun q hq => f2 q hq (fun z hz => nomatch hz)
  refine ⟨U, ?_, .threw T.heap.size, hrun, hend, (u.1, u.2.1, u.2.2.1, u.2.2.2.1, b), ad, locs, cells + 1, slots + 6, hWs, hsm, ⟨?_, ?_, ⟨Nat.le_trans p3.1 f1, fun q hq hA => ?_, p3.2.2⟩, by show cells + 1 + 8 * b ≤ _; omega, by show slots + 6 + 128 * b ≤ _; omega, p6, p7, p8⟩, Or.inr ⟨T.heap.size, 2, rfl, ⟨ce, hce, hcv, hcl⟩, q⟩⟩
  · refine st1 _ ?_
    show Steps p.tables e below (T1.setTop { method := m, pc := pc + 3, locals := ls, stack := .ref T.heap.size :: S.map (ow_cv sb ad), locked := none }) _
    jvm_step X₁.here [X₁.here.top, hexec, d3', Value.category]
    exact X₁.ldcStringW hexec (own := Y.1.cls) (text := text) (index := is) (a := sa) hown' hstr'.1 hstr'.2
      (g := { method := m, pc := pc + 4, locals := ls, stack := .ref T.heap.size :: .ref T.heap.size :: S.map (ow_cv sb ad), locked := none }) rfl d4' _ hsteps
  · rw [ow_W_b]; exact p1.kept (fun k q hk => h2 q.1 (p1 k q hk).lt)
  · rw [ow_W_b]; exact p2
  · rw [h2 q (Nat.lt_of_lt_of_le hq p3.1)]; exact p3.2.1 q hq hA
end NxThrow
