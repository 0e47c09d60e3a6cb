/-! THE LAYER: one memory for the whole system; a method's walk said over it, without heap, frames or room -/
/-- how many cells there are; which cell a slot of references names; the ints; the longs; how many makings are still paid for -/
abbrev ow_M : Type := Nat × (Nat → Nat → Option Nat) × (Nat → Nat → Int32) × (Nat → Nat → Int64) × Nat
/-- how a method ends: it returns (an int, or nothing), or throws an exception of a kind -/
abbrev ow_R : Type := Option Int32 ⊕ Nat
/-- a method: its name, code, local variables, return type, handlers -/
abbrev ow_Y : Type := MethodName × ByteArray × Nat × Option FieldType × List (Nat × Nat × Nat × Nat)
def ow_u (f : Nat → Nat → Int32) (c k : Nat) (v : Int32) : Nat → Nat → Int32 := fun a => if a = c then upd (f a) k v else f a
def ow_ul (f : Nat → Nat → Int64) (c k : Nat) (v : Int64) : Nat → Nat → Int64 := fun a => if a = c then vp_updL (f a) k v else f a
def ow_ur (f : Nat → Nat → Option Nat) (c k : Nat) (v : Option Nat) : Nat → Nat → Option Nat := fun a => if a = c then va_up (f a) k v else f a
/-- a slot of an object -/
def ow_sv (ad : Nat → Nat) (u : ow_M) (c ci k : Nat) : Value := if ow_isr ci k = true then va_rf ((u.2.1 c k).map ad) else .int (u.2.2.1 c k)
/-- a cell -/
def ow_E (ids : Nat → ClassId) (ad : Nat → Nat) (u : ow_M) (c : Nat) : va_E := match ow_kd c with
  | (0, ci) => .inr (ci, (List.range (ow_nf ci)).map (ow_sv ad u c ci))
  | (1, n) => .inl (ids 0, n, .inl (u.2.2.1 c))
  | (2, n) => .inl (ids 1, n, .inl (u.2.2.1 c))
  | (3, n) => .inl (ids 2, n, .inr (.inl (u.2.2.2.1 c)))
  | (_, n) => .inl (ids 3, n, .inr (.inr (.inr (.inr (fun j => (u.2.1 c j).map ad)))))
def ow_W (ids : Nat → ClassId) (ad : Nat → Nat) (u : ow_M) : va_W := (List.range u.1).map (fun c => (ad c, ow_E ids ad u c))
def ow_tys (ids : Nat → ClassId) : List (ClassId × FieldType) := [(ids 0, .int), (ids 1, .boolean), (ids 2, .long), (ids 3, .array .int)]
/-- a value of the layer as the machine has it: a reference names a cell by its number, the script by a word of its own -/
def ow_cv (sb : Nat) (ad : Nat → Nat) : Value → Value
  | .ref c => .ref (ad c)
  | .retAddr _ => .ref sb
  | v => v
theorem ow_cat {sb : Nat} {ad : Nat → Nat} {v : Value} (h : v.category = 1) : (ow_cv sb ad v).category = 1 := by
  cases v <;> first | exact h | rfl
/-- the local variables -/
def ow_ls (sb : Nat) (ad : Nat → Nat) (nL : Nat) (L : List (Option Value)) (ls : Array Slot) : Prop :=
  (ls.size = nL ∧ lv_wf ls) ∧ ∀ (i : Nat) (v : Value), L[i]? = some (some v) → v.category = 1 ∧ ls[i]? = some (.val (ow_cv sb ad v))
def ow_lv (sb : Nat) (ad : Nat → Nat) (L : List (Option Value)) : List (Nat × Value) := (List.range L.length).filterMap (fun i => (L[i]?.join).map (fun v => (i, ow_cv sb ad v)))
theorem ow_lv_mem {sb : Nat} {ad : Nat → Nat} {L : List (Option Value)} {q : Nat × Value} : q ∈ ow_lv sb ad L ↔ ∃ v, L[q.1]? = some (some v) ∧ q.2 = ow_cv sb ad v := by
  unfold ow_lv
  rw [List.mem_filterMap]
  constructor
  · rintro ⟨i, -, h⟩
    cases hi : L[i]? with
    | none => rw [hi] at h; cases h
    | some o =>
      cases o with
      | none => rw [hi] at h; cases h
      | some v => rw [hi] at h; cases h; exact ⟨v, hi, rfl⟩
  · rintro ⟨v, h1, h2⟩
    refine ⟨q.1, List.mem_range.mpr (List.getElem?_eq_some_iff.mp h1).1, ?_⟩
    rw [h1]
    show some (q.1, ow_cv sb ad v) = some q
    rw [← h2]
theorem ow_ls.at {sb : Nat} {ad : Nat → Nat} {nL : Nat} {L : List (Option Value)} {ls : Array Slot} (h : ow_ls sb ad nL L ls) {i : Nat} {v : Value} (hl : L[i]? = some (some v)) : ls[i]? = some (.val (ow_cv sb ad v)) := (h.2 i v hl).2
theorem ow_ls.has {sb : Nat} {ad : Nat → Nat} {nL : Nat} {L : List (Option Value)} {ls : Array Slot} (h : ow_ls sb ad nL L ls) : lv_has ls nL (ow_lv sb ad L) := by
  refine ⟨h.1.1, h.1.2, fun q hq => ?_⟩
  obtain ⟨v, h1, h2⟩ := ow_lv_mem.mp hq
  rw [h2]
  exact h.at h1
theorem ow_ls.place {sb : Nat} {ad : Nat → Nat} {nL : Nat} {L : List (Option Value)} {ls : Array Slot} (_h : ow_ls sb ad nL L ls) {i : Nat} {v : Value} (hl : L[i]? = some (some v)) : ∃ q : Nat, (ow_lv sb ad L)[q]? = some (i, ow_cv sb ad v) :=
  List.getElem?_of_mem (ow_lv_mem.mpr ⟨v, hl, rfl⟩)
theorem ow_ls.store {sb : Nat} {ad : Nat → Nat} {nL : Nat} {L : List (Option Value)} {ls ls' : Array Slot} (h : ow_ls sb ad nL L ls) {i : Nat} {v : Value} (hc : v.category = 1)
    (h' : lv_has ls' nL ((i, ow_cv sb ad v) :: (ow_lv sb ad L).filter (fun q => !(q.1 == i) && !(q.1 + 1 == i && q.2.category == 2)))) : ow_ls sb ad nL (L.set i (some v)) ls' := by
  refine ⟨⟨h'.1, h'.2.1⟩, fun j w hj => ?_⟩
  by_cases hji : j = i
  · subst hji
    have hlt : j < L.length := by
      have := (List.getElem?_eq_some_iff.mp hj).1
      simpa using this
    rw [List.getElem?_set_self hlt] at hj
    cases hj
    exact ⟨hc, h'.2.2 (j, ow_cv sb ad v) List.mem_cons_self⟩
  · rw [List.getElem?_set_ne (Ne.symm hji)] at hj
    have hw := h.2 j w hj
    refine ⟨hw.1, h'.2.2 (j, ow_cv sb ad w) (List.mem_cons_of_mem _ (List.mem_filter.mpr ⟨ow_lv_mem.mpr ⟨w, hj, rfl⟩, ?_⟩))⟩
    have hcw : (ow_cv sb ad w).category = 1 := ow_cat hw.1
    simp [hji, hcw]
/-- a local variable is forgotten -/
theorem ow_ls.forget {sb : Nat} {ad : Nat → Nat} {nL : Nat} {L : List (Option Value)} {ls : Array Slot} (h : ow_ls sb ad nL L ls) {L' : List (Option Value)} (hs : ∀ (i : Nat) (v : Value), L'[i]? = some (some v) → L[i]? = some (some v)) : ow_ls sb ad nL L' ls :=
  ⟨h.1, fun i v hi => h.2 i v (hs i v hi)⟩
theorem ow_args (sb : Nat) (ad : Nat → Nat) : ∀ (vs : List Value) (k : Nat), (∀ v ∈ vs, v.category = 1) → ∀ (i : Nat) (v : Value), vs[i]? = some v → (k + i, ow_cv sb ad v) ∈ lv_args k (vs.map (ow_cv sb ad))
  | [], _, _, i, v, h => by simp at h
  | w :: vs, k, hc, i, v, h => by
    have hw : (ow_cv sb ad w).category = 1 := ow_cat (hc w List.mem_cons_self)
    have e : lv_args k ((w :: vs).map (ow_cv sb ad)) = (k, ow_cv sb ad w) :: lv_args (k + 1) (vs.map (ow_cv sb ad)) := by
      show (k, ow_cv sb ad w) :: lv_args (if (ow_cv sb ad w).category = 2 then k + 2 else k + 1) _ = _
      rw [hw]; rfl
    rw [e]
    cases i with
    | zero => rw [List.getElem?_cons_zero] at h; cases h; exact List.mem_cons_self
    | succ i =>
      rw [List.getElem?_cons_succ] at h
      have := ow_args sb ad vs (k + 1) (fun z hz => hc z (List.mem_cons_of_mem _ hz)) i v h
      rw [show k + 1 + i = k + (i + 1) by omega] at this
      exact List.mem_cons_of_mem _ this
theorem ow_entry (sb : Nat) (ad : Nat → Nat) (vs : List Value) (hc : ∀ v ∈ vs, v.category = 1) {nL : Nat} {ls : Array Slot} (h : lv_has ls nL (lv_args 0 (vs.map (ow_cv sb ad)))) (k : Nat) : ow_ls sb ad nL (vs.map some ++ List.replicate k none) ls := by
  refine ⟨⟨h.1, h.2.1⟩, fun i v hi => ?_⟩
  have hv : vs[i]? = some v := by
    by_cases hl : i < vs.length
    · rw [List.getElem?_append_left (by simpa using hl), List.getElem?_map] at hi
      cases hz : vs[i]? with
      | none => rw [hz] at hi; cases hi
      | some w => rw [hz] at hi; cases hi; rfl
    · rw [List.getElem?_append_right (by simpa using hl)] at hi
      have := List.eq_of_mem_replicate (List.mem_of_getElem? hi)
      cases this
  have := ow_args sb ad vs 0 hc i v hv
  rw [Nat.zero_add] at this
  exact ⟨hc v (List.mem_of_getElem? hv), h.2.2 _ this⟩
/-- the exceptions, by number -/
def ow_exn : Nat → String := fun k => match k with
  | 0 => "java/lang/IllegalArgumentException"
  | 1 => "java/lang/IllegalStateException"
  | _ => "java/util/NoSuchElementException"
/-- an exception of the kind kx lies at x -/
def ow_ex (kx x : Nat) (s : State) (H : Heap) : Prop := ∃ ce : Cell, H[x]? = some ce ∧ ce.vm = .none ∧ s.vm.findClass (ow_exn kx) = some ce.cls
theorem ow_ex.back {kx x : Nat} {s U : State} {H : Heap} (hW : s.WarmedH U.vm) (h : ow_ex kx x U H) : ow_ex kx x s H := by
  obtain ⟨ce, h1, h2, h3⟩ := h
  refine ⟨ce, h1, h2, ?_⟩
  rw [hW.alike.findClass] at h3
  exact h3
/-- words on members that look at no entry -/
def ow_fw : List Cond := lw_tbl.filter (fun w => w.onTables && w.faceAtom)
def ow_nw1 : Cond := .methodLinkNest "OwnerRings" 9 ⟨"OwnerRings$Plan", "<init>", "()V"⟩ "OwnerRings"
def ow_nw2 : Cond := .methodLinkNest "OwnerRings$Base" 50 ⟨"OwnerRings", "hasBit", "(II)Z"⟩ "OwnerRings"
/-- the texts of the exceptions -/
def ow_strs : List (String × Nat × String) := [("OwnerRings", 39, "a type has 1 to 3 fields"), ("OwnerRings", 50, "no more types can be declared"), ("OwnerRings", 61, "a set needs two types"), ("OwnerRings", 67, "no such order or class"), ("OwnerRings", 72, "no more sets can be declared"), ("OwnerRings", 78, "no such type"), ("OwnerRings", 88, "there are 24 records"), ("OwnerRings", 124, "no such type or field"), ("OwnerRings", 136, "no such way to move"), ("OwnerRings", 145, "no such field"), ("OwnerRings", 173, "nothing that has a current record"), ("OwnerRings", 196, "it cannot become a member"), ("OwnerRings", 204, "it cannot leave"), ("OwnerRings", 212, "it cannot change its ring"), ("OwnerRings", 214, "no such mode"), ("OwnerRings", 222, "it owns members"), ("OwnerRings", 227, "a bound member would be without a ring"), ("OwnerRings", 256, "no such set"), ("OwnerRings", 263, "no record with this key"), ("OwnerRings", 266, "no record is current of the run"), ("OwnerRings", 268, "the set has no current owner"), ("OwnerRings", 289, "the ring has a member with this value"), ("OwnerRings", 294, "no such record")]
/-- what else a method takes of its start -/
def ow_G (s : State) (A : Nat → Prop) : Prop := (∀ w ∈ ow_fw, w.before #[] s = true) ∧ va_Nw ow_nw1 s ∧ va_Nw ow_nw2 s ∧ va_AOA .int s ∧ vx_Zq Bundle.tN "UNASSIGNED_STACK" Bundle.steD A s s.heap ∧ vx_Zq Bundle.tN "SUPPRESSED_SENTINEL" Bundle.listD A s s.heap ∧
  (∀ q ∈ ow_strs, ∃ a, vk_R q.1 q.2.1 q.2.2 a s) ∧ ∀ i, i < 3 → ∀ j, j < 3 → i ≠ j → va_Nc (ow_exn i) (ow_exn j) s
theorem ow_G.moved {s : State} {A A' : Nat → Prop} {locs : List Loc} (V : State) (hW : s.WarmedH V.vm) (hS : va_S A s.heap V.heap locs) (hA : ∀ q, A' q → A q) (h : ow_G s A) : ow_G V A' := by
  obtain ⟨g1, g2, g3, g4, g5, g6, g7, g8⟩ := h
  refine ⟨fun w hw => ?_, g2.warmM hW, g3.warmM hW, over_moved (a := #[]) (a' := #[]) hW.alike g4, ((g5.kept hS.2.1).moved hW.alike).narrow hA, ((g6.kept hS.2.1).moved hW.alike).narrow hA, fun q hq => ?_, fun i hi j hj hij => (g8 i hi j hj hij).moved hW.alike⟩
  · have hf := (List.mem_filter.mp hw).2
    rw [Bool.and_eq_true] at hf
    exact va_tabs hf.1 (rfl : (s.setVm V.vm).vm = V.vm) (Cond.faceAtom_setVm hW.alike w hf.2 (g1 w hw))
  · obtain ⟨a, ha⟩ := g7 q hq
    exact ⟨a, ha.warm hW⟩
/-- what stays the same all along a method's walk -/
def ow_X (Y : ow_Y) (sc : Option (Nat × (Nat → Int32))) (d : Nat × Nat) (b0 sb : Nat) (ids : Nat → ClassId) (D : va_G) (A : Nat → Prop) (p : Program) (R : Room) (s : State) (m : MethodId) (args : Array Value) (meth : Method) (c : Code) : Prop :=
  p.tables.exec = Jvm.exec ∧ c.code = Y.2.1 ∧ c.maxLocals = Y.2.2.1 ∧ meth.sig.returnType = Y.2.2.2.1 ∧ meth.locks = false ∧ s.vm.findClass Y.1.cls = some m.cls ∧ meth.name = Y.1.name ∧
  c.exceptionTable.toList.map (fun h => (h.startPc, h.endPc, h.handlerPc, h.catchType)) = Y.2.2.2.2 ∧ (∀ w ∈ ow_ws, w.before args s = true) ∧ va_K D ow_cl (ow_tys ids) s ∧ (∀ q, s.heap.size ≤ q → A q) ∧
  (d.1 ≤ R.frames ∧ d.2 ≤ R.locals ∧ 8 * b0 ≤ R.cells ∧ 128 * b0 ≤ R.slots) ∧ ow_G s A ∧ ∀ (n : Nat) (xs : Nat → Int32), sc = some (n, xs) → va_X sb n xs s s.heap ∧ sb < s.heap.size ∧ ¬ A sb
section OwX
variable {Y : ow_Y} {sc : Option (Nat × (Nat → Int32))} {d : Nat × Nat} {b0 sb : Nat} {ids : Nat → ClassId} {D : va_G} {A : Nat → Prop} {p : Program} {R : Room} {s : State} {m : MethodId} {args : Array Value} {meth : Method} {c : Code}
theorem ow_X.exec (X : ow_X Y sc d b0 sb ids D A p R s m args meth c) : p.tables.exec = Jvm.exec := X.1
theorem ow_X.bytes (X : ow_X Y sc d b0 sb ids D A p R s m args meth c) : c.code = Y.2.1 := X.2.1
theorem ow_X.maxL (X : ow_X Y sc d b0 sb ids D A p R s m args meth c) : c.maxLocals = Y.2.2.1 := X.2.2.1
theorem ow_X.ret (X : ow_X Y sc d b0 sb ids D A p R s m args meth c) : meth.sig.returnType = Y.2.2.2.1 := X.2.2.2.1
theorem ow_X.locks (X : ow_X Y sc d b0 sb ids D A p R s m args meth c) : meth.locks = false := X.2.2.2.2.1
theorem ow_X.own (X : ow_X Y sc d b0 sb ids D A p R s m args meth c) : s.vm.findClass Y.1.cls = some m.cls := X.2.2.2.2.2.1
theorem ow_X.name (X : ow_X Y sc d b0 sb ids D A p R s m args meth c) : meth.name = Y.1.name := X.2.2.2.2.2.2.1
theorem ow_X.hand (X : ow_X Y sc d b0 sb ids D A p R s m args meth c) : c.exceptionTable.toList.map (fun h => (h.startPc, h.endPc, h.handlerPc, h.catchType)) = Y.2.2.2.2 := X.2.2.2.2.2.2.2.1
theorem ow_X.ts (X : ow_X Y sc d b0 sb ids D A p R s m args meth c) : ∀ w ∈ ow_ws, w.before args s = true := X.2.2.2.2.2.2.2.2.1
theorem ow_X.K (X : ow_X Y sc d b0 sb ids D A p R s m args meth c) : va_K D ow_cl (ow_tys ids) s := X.2.2.2.2.2.2.2.2.2.1
theorem ow_X.new (X : ow_X Y sc d b0 sb ids D A p R s m args meth c) : ∀ q, s.heap.size ≤ q → A q := X.2.2.2.2.2.2.2.2.2.2.1
theorem ow_X.room (X : ow_X Y sc d b0 sb ids D A p R s m args meth c) : d.1 ≤ R.frames ∧ d.2 ≤ R.locals ∧ 8 * b0 ≤ R.cells ∧ 128 * b0 ≤ R.slots := X.2.2.2.2.2.2.2.2.2.2.2.1
theorem ow_X.given (X : ow_X Y sc d b0 sb ids D A p R s m args meth c) : ow_G s A := X.2.2.2.2.2.2.2.2.2.2.2.2.1
theorem ow_X.script (X : ow_X Y sc d b0 sb ids D A p R s m args meth c) : ∀ (n : Nat) (xs : Nat → Int32), sc = some (n, xs) → va_X sb n xs s s.heap ∧ sb < s.heap.size ∧ ¬ A sb := X.2.2.2.2.2.2.2.2.2.2.2.2.2
end OwX
/-- references name cells that are there; cells that are not there yet are empty -/
def ow_wf (u : ow_M) : Prop := (∀ c k t, u.2.1 c k = some t → t < u.1) ∧ ∀ c, u.1 ≤ c → (∀ k, u.2.1 c k = none) ∧ (∀ k, u.2.2.1 c k = 0) ∧ ∀ k, u.2.2.2.1 c k = 0
def ow_okS (n : Nat) (S : List Value) : Prop := ∀ c, Value.ref c ∈ S → c < n
def ow_okL (n : Nat) (L : List (Option Value)) : Prop := ∀ c, some (Value.ref c) ∈ L → c < n
theorem ow_okS.t {n : Nat} {v : Value} {S : List Value} (h : ow_okS n (v :: S)) : ow_okS n S := fun c hc => h c (List.mem_cons_of_mem _ hc)
theorem ow_okS.i {n : Nat} {x : Int32} {S : List Value} (h : ow_okS n S) : ow_okS n (.int x :: S) := fun c hc => by
  rcases List.mem_cons.mp hc with h1 | h1
  · cases h1
  · exact h c h1
theorem ow_okS.l {n : Nat} {x : Int64} {S : List Value} (h : ow_okS n S) : ow_okS n (.long x :: S) := fun c hc => by
  rcases List.mem_cons.mp hc with h1 | h1
  · cases h1
  · exact h c h1
theorem ow_okS.s {n x : Nat} {S : List Value} (h : ow_okS n S) : ow_okS n (.retAddr x :: S) := fun c hc => by
  rcases List.mem_cons.mp hc with h1 | h1
  · cases h1
  · exact h c h1
theorem ow_okS.r {n t : Nat} {S : List Value} (h : ow_okS n S) (ht : t < n) : ow_okS n (.ref t :: S) := fun c hc => by
  rcases List.mem_cons.mp hc with h1 | h1
  · cases h1; exact ht
  · exact h c h1
theorem ow_okS.c {n : Nat} {v : Value} {S S' : List Value} (h : ow_okS n S) (h' : ow_okS n S') (hv : v ∈ S') : ow_okS n (v :: S) := fun c hc => by
  rcases List.mem_cons.mp hc with h1 | h1
  · exact h' c (h1 ▸ hv)
  · exact h c h1
theorem ow_okL.set {n i : Nat} {v : Option Value} {L : List (Option Value)} (h : ow_okL n L) (hv : ∀ c, v = some (.ref c) → c < n) : ow_okL n (L.set i v) := fun c hc => by
  rcases List.mem_or_eq_of_mem_set hc with h1 | h1
  · exact h c h1
  · exact hv c h1.symm
theorem ow_okL.at {n i c : Nat} {L : List (Option Value)} (h : ow_okL n L) (hl : L[i]? = some (some (.ref c))) : c < n := h c (List.mem_of_getElem? hl)
/-- the world at a point of a walk -/
def ow_P (n0 b0 : Nat) (ad0 : Nat → Nat) (ids : Nat → ClassId) (D : va_G) (A : Nat → Prop) (s : State) (H : Heap) (locs : List Loc) (cells slots : Nat) (ad : Nat → Nat) (u : ow_M) : Prop :=
  va_P D ow_cl (ow_W ids ad u) H ∧ va_D A (ow_W ids ad u) ∧ va_S A s.heap H locs ∧ cells + 8 * u.2.2.2.2 ≤ 8 * b0 ∧ slots + 128 * u.2.2.2.2 ≤ 128 * b0 ∧ n0 ≤ u.1 ∧ ow_wf u ∧ ∀ c, c < n0 → ad c = ad0 c
/-- the end of a method -/
def ow_Q (Q : ow_R → ow_M → Prop) (n0 b0 sb : Nat) (ad0 : Nat → Nat) (ids : Nat → ClassId) (D : va_G) (A : Nat → Prop) (s : State) (o : Outcome) (t : State) : Prop :=
  ∃ (u : ow_M) (ad : Nat → Nat) (Ls : List Loc) (k n : Nat), s.WarmedH t.vm ∧ s.sameButNew ({ t with vm := s.vm } : State) Ls k n ∧ ow_P n0 b0 ad0 ids D A s t.heap Ls k n ad u ∧
    ((∃ v : Option Int32, o = .returned (v.map Value.int) ∧ Q (.inl v) u) ∨ ∃ (x kx : Nat), o = .threw x ∧ ow_ex kx x s t.heap ∧ Q (.inr kx) u)
def ow_MQ (below : List Frame) (Q : ow_R → ow_M → Prop) (n0 b0 sb : Nat) (ad0 : Nat → Nat) (ids : Nat → ClassId) (D : va_G) (A : Nat → Prop) (s : State) : State → Prop := fun t =>
  ∃ o, t.status = .running ∧ Ended t below o ∧ ow_Q Q n0 b0 sb ad0 ids D A s o t
/-- from here the method comes to an end with Q -/
def AW (l : Launch) (Y : ow_Y) (sc : Option (Nat × (Nat → Int32))) (d : Nat × Nat) (Q : ow_R → ow_M → Prop) (pc : Nat) (L : List (Option Value)) (S : List Value) (u : ow_M) : Prop :=
  ∀ (p : Program) (e : Env) (R : Room) (s : State) (m : MethodId) (args : Array Value) (below : List Frame) (meth : Method) (c : Code) (n0 b0 : Nat) (ad0 : Nat → Nat) (sb : Nat) (ids : Nat → ClassId) (D : va_G) (A : Nat → Prop) (H : Heap) (locs : List Loc) (cells slots : Nat) (ad : Nat → Nat) (ls : Array Slot),
    ow_X Y sc d b0 sb ids D A p R s m args meth c → ow_P n0 b0 ad0 ids D A s H locs cells slots ad u → ow_ls sb ad Y.2.2.1 L ls → ow_okL u.1 L ∧ ow_okS u.1 S →
    W p l e R s m args below meth c H locs cells slots (ow_MQ below Q n0 b0 sb ad0 ids D A s) (F0 m pc ls (S.map (ow_cv sb ad)))
/-- a method called with these values at this memory ends with Q -/
def MT (l : Launch) (Y : ow_Y) (d : Nat × Nat) (vs : List Value) (u : ow_M) (Q : ow_R → ow_M → Prop) : Prop :=
  ∀ (sb : Nat) (ad : Nat → Nat) (ids : Nat → ClassId) (D : va_G) (sz : Nat),
    MetFree l Y.1 (headSpec ow_ws { frames := d.1, cells := 8 * u.2.2.2.2, slots := 128 * u.2.2.2.2, locals := d.2 })
      (fun a U => a = (vs.map (ow_cv sb ad)).toArray ∧ U.heap.size = sz ∧ va_P D ow_cl (ow_W ids ad u) U.heap ∧ va_K D ow_cl (ow_tys ids) U ∧ va_D (fun _ => True) (ow_W ids ad u) ∧ ow_wf u ∧ ow_okS u.1 vs ∧ ow_G U (va_A (ow_W ids ad u) sz))
      (fun _ _ _ _ _ => True) (fun _ st o t => ow_Q Q u.1 u.2.2.2.2 sb ad ids D (va_A (ow_W ids ad u) sz) st o t)
