section OwSimple
variable {l : Launch} {Y : ow_Y} {sc : Option (Nat × (Nat → Int32))} {d : Nat × Nat} {Q : ow_R → ow_M → Prop} {pc : Nat} {L : List (Option Value)} {S : List Value} {u : ow_M}
theorem aw_iconst {n : Int} {v : Int32} (hdg : decode Y.2.1 pc = .ok (.iconst n, 1)) (hx : Int32.ofInt n = v) (k : AW l Y sc d Q (pc + 1) L (.int v :: S) u) : AW l Y sc d Q pc L S u := by
  intro p e R s m args below meth c n0 b0 ad0 sb ids D A H locs cells slots ad ls X P h hv
  exact lv_iconst X.exec X.bytes hdg hx (k _ _ _ _ _ _ _ _ _ _ _ _ _ _ _ _ _ _ _ _ _ _ X P h ⟨hv.1, hv.2.i⟩)
theorem aw_bipush {n : Int} {v : Int32} (hdg : decode Y.2.1 pc = .ok (.bipush n, 2)) (hx : (Int8.ofInt n).toInt32 = v) (k : AW l Y sc d Q (pc + 2) L (.int v :: S) u) : AW l Y sc d Q pc L S u := by
  intro p e R s m args below meth c n0 b0 ad0 sb ids D A H locs cells slots ad ls X P h hv
  exact lv_bipush X.exec X.bytes hdg hx (k _ _ _ _ _ _ _ _ _ _ _ _ _ _ _ _ _ _ _ _ _ _ X P h ⟨hv.1, hv.2.i⟩)
theorem aw_sipush {n : Int} {v : Int32} (hdg : decode Y.2.1 pc = .ok (.sipush n, 3)) (hx : (Int16.ofInt n).toInt32 = v) (k : AW l Y sc d Q (pc + 3) L (.int v :: S) u) : AW l Y sc d Q pc L S u := by
  intro p e R s m args below meth c n0 b0 ad0 sb ids D A H locs cells slots ad ls X P h hv
  exact lv_sipush X.exec X.bytes hdg hx (k _ _ _ _ _ _ _ _ _ _ _ _ _ _ _ _ _ _ _ _ _ _ X P h ⟨hv.1, hv.2.i⟩)
theorem aw_iload_n {j : Fin 4} {x : Int32} (hdg : decode Y.2.1 pc = .ok (.iload_n j, 1)) (hl : L[(j : Nat)]? = some (some (.int x))) (k : AW l Y sc d Q (pc + 1) L (.int x :: S) u) : AW l Y sc d Q pc L S u := by
  intro p e R s m args below meth c n0 b0 ad0 sb ids D A H locs cells slots ad ls X P h hv
  exact lv_iload_n X.exec X.bytes hdg rfl (h.at hl) (k _ _ _ _ _ _ _ _ _ _ _ _ _ _ _ _ _ _ _ _ _ _ X P h ⟨hv.1, hv.2.i⟩)
theorem aw_iload {i : Nat} {x : Int32} (hdg : decode Y.2.1 pc = .ok (.iload i, 2)) (hl : L[i]? = some (some (.int x))) (k : AW l Y sc d Q (pc + 2) L (.int x :: S) u) : AW l Y sc d Q pc L S u := by
  intro p e R s m args below meth c n0 b0 ad0 sb ids D A H locs cells slots ad ls X P h hv
  exact lv_iload X.exec X.bytes hdg (h.at hl) (k _ _ _ _ _ _ _ _ _ _ _ _ _ _ _ _ _ _ _ _ _ _ X P h ⟨hv.1, hv.2.i⟩)
theorem aw_aload_n {j : Fin 4} {x : Nat} (hdg : decode Y.2.1 pc = .ok (.aload_n j, 1)) (hl : L[(j : Nat)]? = some (some (.ref x))) (k : AW l Y sc d Q (pc + 1) L (.ref x :: S) u) : AW l Y sc d Q pc L S u := by
  intro p e R s m args below meth c n0 b0 ad0 sb ids D A H locs cells slots ad ls X P h hv
  exact lv_aload_n X.exec X.bytes hdg rfl (h.at hl) (k _ _ _ _ _ _ _ _ _ _ _ _ _ _ _ _ _ _ _ _ _ _ X P h ⟨hv.1, hv.2.r (hv.1.at hl)⟩)
theorem aw_aload {i : Nat} {x : Nat} (hdg : decode Y.2.1 pc = .ok (.aload i, 2)) (hl : L[i]? = some (some (.ref x))) (k : AW l Y sc d Q (pc + 2) L (.ref x :: S) u) : AW l Y sc d Q pc L S u := by
  intro p e R s m args below meth c n0 b0 ad0 sb ids D A H locs cells slots ad ls X P h hv
  exact lv_aload X.exec X.bytes hdg (h.at hl) (k _ _ _ _ _ _ _ _ _ _ _ _ _ _ _ _ _ _ _ _ _ _ X P h ⟨hv.1, hv.2.r (hv.1.at hl)⟩)
theorem aw_sload_n {j : Fin 4} {x : Nat} (hdg : decode Y.2.1 pc = .ok (.aload_n j, 1)) (hl : L[(j : Nat)]? = some (some (.retAddr x))) (k : AW l Y sc d Q (pc + 1) L (.retAddr x :: S) u) : AW l Y sc d Q pc L S u := by
  intro p e R s m args below meth c n0 b0 ad0 sb ids D A H locs cells slots ad ls X P h hv
  exact lv_aload_n X.exec X.bytes hdg rfl (h.at hl) (k _ _ _ _ _ _ _ _ _ _ _ _ _ _ _ _ _ _ _ _ _ _ X P h ⟨hv.1, hv.2.s⟩)
theorem aw_istore_n {j : Fin 4} {x : Int32} (hdg : decode Y.2.1 pc = .ok (.istore_n j, 1)) (hi : (j : Nat) < Y.2.2.1) (k : AW l Y sc d Q (pc + 1) (L.set (j : Nat) (some (.int x))) S u) : AW l Y sc d Q pc L (.int x :: S) u := by
  intro p e R s m args below meth c n0 b0 ad0 sb ids D A H locs cells slots ad ls X P h hv
  exact lv_istore_n X.exec X.bytes hdg rfl h.has hi rfl (fun ls' h' => k _ _ _ _ _ _ _ _ _ _ _ _ _ _ _ _ _ _ _ _ _ _ X P (h.store rfl h') ⟨hv.1.set (fun _ q => by cases q), hv.2.t⟩)
theorem aw_istore {i : Nat} {x : Int32} (hdg : decode Y.2.1 pc = .ok (.istore i, 2)) (hi : i < Y.2.2.1) (k : AW l Y sc d Q (pc + 2) (L.set i (some (.int x))) S u) : AW l Y sc d Q pc L (.int x :: S) u := by
  intro p e R s m args below meth c n0 b0 ad0 sb ids D A H locs cells slots ad ls X P h hv
  exact lv_istore X.exec X.bytes hdg h.has hi rfl (fun ls' h' => k _ _ _ _ _ _ _ _ _ _ _ _ _ _ _ _ _ _ _ _ _ _ X P (h.store rfl h') ⟨hv.1.set (fun _ q => by cases q), hv.2.t⟩)
theorem aw_astore_n {j : Fin 4} {x : Nat} (hdg : decode Y.2.1 pc = .ok (.astore_n j, 1)) (hi : (j : Nat) < Y.2.2.1) (k : AW l Y sc d Q (pc + 1) (L.set (j : Nat) (some (.ref x))) S u) : AW l Y sc d Q pc L (.ref x :: S) u := by
  intro p e R s m args below meth c n0 b0 ad0 sb ids D A H locs cells slots ad ls X P h hv
  exact lv_astore_n X.exec X.bytes hdg rfl h.has hi rfl (fun ls' h' => k _ _ _ _ _ _ _ _ _ _ _ _ _ _ _ _ _ _ _ _ _ _ X P (h.store rfl h') ⟨hv.1.set (fun _ q => by cases q; exact hv.2 _ List.mem_cons_self), hv.2.t⟩)
theorem aw_astore {i : Nat} {x : Nat} (hdg : decode Y.2.1 pc = .ok (.astore i, 2)) (hi : i < Y.2.2.1) (k : AW l Y sc d Q (pc + 2) (L.set i (some (.ref x))) S u) : AW l Y sc d Q pc L (.ref x :: S) u := by
  intro p e R s m args below meth c n0 b0 ad0 sb ids D A H locs cells slots ad ls X P h hv
  exact lv_astore X.exec X.bytes hdg h.has hi rfl (fun ls' h' => k _ _ _ _ _ _ _ _ _ _ _ _ _ _ _ _ _ _ _ _ _ _ X P (h.store rfl h') ⟨hv.1.set (fun _ q => by cases q; exact hv.2 _ List.mem_cons_self), hv.2.t⟩)
theorem aw_iadd {x y : Int32} (hdg : decode Y.2.1 pc = .ok (.iadd, 1)) (k : AW l Y sc d Q (pc + 1) L (.int (x + y) :: S) u) : AW l Y sc d Q pc L (.int y :: .int x :: S) u := by
  intro p e R s m args below meth c n0 b0 ad0 sb ids D A H locs cells slots ad ls X P h hv
  exact lv_iadd X.exec X.bytes hdg (k _ _ _ _ _ _ _ _ _ _ _ _ _ _ _ _ _ _ _ _ _ _ X P h ⟨hv.1, hv.2.t.t.i⟩)
theorem aw_isub {x y : Int32} (hdg : decode Y.2.1 pc = .ok (.isub, 1)) (k : AW l Y sc d Q (pc + 1) L (.int (x - y) :: S) u) : AW l Y sc d Q pc L (.int y :: .int x :: S) u := by
  intro p e R s m args below meth c n0 b0 ad0 sb ids D A H locs cells slots ad ls X P h hv
  exact lv_isub X.exec X.bytes hdg (k _ _ _ _ _ _ _ _ _ _ _ _ _ _ _ _ _ _ _ _ _ _ X P h ⟨hv.1, hv.2.t.t.i⟩)
theorem aw_imul {x y : Int32} (hdg : decode Y.2.1 pc = .ok (.imul, 1)) (k : AW l Y sc d Q (pc + 1) L (.int (x * y) :: S) u) : AW l Y sc d Q pc L (.int y :: .int x :: S) u := by
  intro p e R s m args below meth c n0 b0 ad0 sb ids D A H locs cells slots ad ls X P h hv
  exact lv_imul X.exec X.bytes hdg (k _ _ _ _ _ _ _ _ _ _ _ _ _ _ _ _ _ _ _ _ _ _ X P h ⟨hv.1, hv.2.t.t.i⟩)
theorem aw_iand {x y : Int32} (hdg : decode Y.2.1 pc = .ok (.iand, 1)) (k : AW l Y sc d Q (pc + 1) L (.int (x &&& y) :: S) u) : AW l Y sc d Q pc L (.int y :: .int x :: S) u := by
  intro p e R s m args below meth c n0 b0 ad0 sb ids D A H locs cells slots ad ls X P h hv
  exact lv_iand X.exec X.bytes hdg (k _ _ _ _ _ _ _ _ _ _ _ _ _ _ _ _ _ _ _ _ _ _ X P h ⟨hv.1, hv.2.t.t.i⟩)
theorem aw_ior {x y : Int32} (hdg : decode Y.2.1 pc = .ok (.ior, 1)) (k : AW l Y sc d Q (pc + 1) L (.int (x ||| y) :: S) u) : AW l Y sc d Q pc L (.int y :: .int x :: S) u := by
  intro p e R s m args below meth c n0 b0 ad0 sb ids D A H locs cells slots ad ls X P h hv
  exact lv_ior X.exec X.bytes hdg (k _ _ _ _ _ _ _ _ _ _ _ _ _ _ _ _ _ _ _ _ _ _ X P h ⟨hv.1, hv.2.t.t.i⟩)
theorem aw_ixor {x y : Int32} (hdg : decode Y.2.1 pc = .ok (.ixor, 1)) (k : AW l Y sc d Q (pc + 1) L (.int (x ^^^ y) :: S) u) : AW l Y sc d Q pc L (.int y :: .int x :: S) u := by
  intro p e R s m args below meth c n0 b0 ad0 sb ids D A H locs cells slots ad ls X P h hv
  exact lv_ixor X.exec X.bytes hdg (k _ _ _ _ _ _ _ _ _ _ _ _ _ _ _ _ _ _ _ _ _ _ X P h ⟨hv.1, hv.2.t.t.i⟩)
theorem aw_ishl {x y : Int32} (hdg : decode Y.2.1 pc = .ok (.ishl, 1)) (k : AW l Y sc d Q (pc + 1) L (.int (x <<< (y &&& 31)) :: S) u) : AW l Y sc d Q pc L (.int y :: .int x :: S) u := by
  intro p e R s m args below meth c n0 b0 ad0 sb ids D A H locs cells slots ad ls X P h hv
  exact lv_ishl X.exec X.bytes hdg (k _ _ _ _ _ _ _ _ _ _ _ _ _ _ _ _ _ _ _ _ _ _ X P h ⟨hv.1, hv.2.t.t.i⟩)
theorem aw_ishr {x y : Int32} (hdg : decode Y.2.1 pc = .ok (.ishr, 1)) (k : AW l Y sc d Q (pc + 1) L (.int (x >>> (y &&& 31)) :: S) u) : AW l Y sc d Q pc L (.int y :: .int x :: S) u := by
  intro p e R s m args below meth c n0 b0 ad0 sb ids D A H locs cells slots ad ls X P h hv
  exact lv_ishr X.exec X.bytes hdg (k _ _ _ _ _ _ _ _ _ _ _ _ _ _ _ _ _ _ _ _ _ _ X P h ⟨hv.1, hv.2.t.t.i⟩)
theorem aw_irem {x y : Int32} (hdg : decode Y.2.1 pc = .ok (.irem, 1)) (hne : ¬ y = 0) (k : AW l Y sc d Q (pc + 1) L (.int (x - x / y * y) :: S) u) : AW l Y sc d Q pc L (.int y :: .int x :: S) u := by
  intro p e R s m args below meth c n0 b0 ad0 sb ids D A H locs cells slots ad ls X P h hv
  exact lv_irem X.exec X.bytes hdg hne (k _ _ _ _ _ _ _ _ _ _ _ _ _ _ _ _ _ _ _ _ _ _ X P h ⟨hv.1, hv.2.t.t.i⟩)
theorem aw_i2l {x : Int32} (hdg : decode Y.2.1 pc = .ok (.i2l, 1)) (k : AW l Y sc d Q (pc + 1) L (.long x.toInt64 :: S) u) : AW l Y sc d Q pc L (.int x :: S) u := by
  intro p e R s m args below meth c n0 b0 ad0 sb ids D A H locs cells slots ad ls X P h hv
  exact lv_i2l X.exec X.bytes hdg rfl (k _ _ _ _ _ _ _ _ _ _ _ _ _ _ _ _ _ _ _ _ _ _ X P h ⟨hv.1, hv.2.t.l⟩)
theorem aw_dup {v : Value} (hdg : decode Y.2.1 pc = .ok (.dup, 1)) (hc1 : v.category = 1) (k : AW l Y sc d Q (pc + 1) L (v :: v :: S) u) : AW l Y sc d Q pc L (v :: S) u := by
  intro p e R s m args below meth c n0 b0 ad0 sb ids D A H locs cells slots ad ls X P h hv
  exact lv_dup X.exec X.bytes hdg (ow_cat hc1) (k _ _ _ _ _ _ _ _ _ _ _ _ _ _ _ _ _ _ _ _ _ _ X P h ⟨hv.1, hv.2.c hv.2 List.mem_cons_self⟩)
theorem aw_pop {v : Value} (hdg : decode Y.2.1 pc = .ok (.pop, 1)) (hc1 : v.category = 1) (k : AW l Y sc d Q (pc + 1) L S u) : AW l Y sc d Q pc L (v :: S) u := by
  intro p e R s m args below meth c n0 b0 ad0 sb ids D A H locs cells slots ad ls X P h hv
  exact lv_pop X.exec X.bytes hdg (ow_cat hc1) (k _ _ _ _ _ _ _ _ _ _ _ _ _ _ _ _ _ _ _ _ _ _ X P h ⟨hv.1, hv.2.t⟩)
theorem aw_dup_x1 {v w : Value} (hdg : decode Y.2.1 pc = .ok (.dup_x1, 1)) (hc1 : v.category = 1) (hc2 : w.category = 1) (k : AW l Y sc d Q (pc + 1) L (v :: w :: v :: S) u) : AW l Y sc d Q pc L (v :: w :: S) u := by
  intro p e R s m args below meth c n0 b0 ad0 sb ids D A H locs cells slots ad ls X P h hv
  exact lv_dup_x1 X.exec X.bytes hdg (ow_cat hc1) (ow_cat hc2) (k _ _ _ _ _ _ _ _ _ _ _ _ _ _ _ _ _ _ _ _ _ _ X P h ⟨hv.1, ((hv.2.t.t.c hv.2 List.mem_cons_self).c hv.2 (List.mem_cons_of_mem _ List.mem_cons_self)).c hv.2 List.mem_cons_self⟩)
theorem aw_dup_x2 {v w x : Value} (hdg : decode Y.2.1 pc = .ok (.dup_x2, 1)) (hc1 : v.category = 1) (hc2 : w.category = 1) (hc3 : x.category = 1) (k : AW l Y sc d Q (pc + 1) L (v :: w :: x :: v :: S) u) : AW l Y sc d Q pc L (v :: w :: x :: S) u := by
  intro p e R s m args below meth c n0 b0 ad0 sb ids D A H locs cells slots ad ls X P h hv
  exact lv_dup_x2 X.exec X.bytes hdg (ow_cat hc1) (ow_cat hc2) (ow_cat hc3) (k _ _ _ _ _ _ _ _ _ _ _ _ _ _ _ _ _ _ _ _ _ _ X P h ⟨hv.1, (((hv.2.t.t.t.c hv.2 List.mem_cons_self).c hv.2 (List.mem_cons_of_mem _ (List.mem_cons_of_mem _ List.mem_cons_self))).c hv.2 (List.mem_cons_of_mem _ List.mem_cons_self)).c hv.2 List.mem_cons_self⟩)
theorem aw_dup2 {v w : Value} (hdg : decode Y.2.1 pc = .ok (.dup2, 1)) (hc1 : v.category = 1) (hc2 : w.category = 1) (k : AW l Y sc d Q (pc + 1) L (v :: w :: v :: w :: S) u) : AW l Y sc d Q pc L (v :: w :: S) u := by
  intro p e R s m args below meth c n0 b0 ad0 sb ids D A H locs cells slots ad ls X P h hv
  exact lv_dup2_11 X.exec X.bytes hdg (ow_cat hc1) (ow_cat hc2) (k _ _ _ _ _ _ _ _ _ _ _ _ _ _ _ _ _ _ _ _ _ _ X P h ⟨hv.1, (hv.2.c hv.2 (List.mem_cons_of_mem _ List.mem_cons_self)).c hv.2 List.mem_cons_self⟩)
theorem aw_goto {off : Int} {tgt : Nat} (hdg : decode Y.2.1 pc = .ok (.goto off, 3)) (ht : (pc : Int) + off = (tgt : Int)) (k : AW l Y sc d Q tgt L S u) : AW l Y sc d Q pc L S u := by
  intro p e R s m args below meth c n0 b0 ad0 sb ids D A H locs cells slots ad ls X P h hv
  exact lv_goto X.exec X.bytes hdg ht (k _ _ _ _ _ _ _ _ _ _ _ _ _ _ _ _ _ _ _ _ _ _ X P h hv)
theorem aw_iinc {i : Nat} {n : Int} {x v : Int32} (hdg : decode Y.2.1 pc = .ok (.iinc i n, 3)) (hl : L[i]? = some (some (.int x))) (hx : x + Int32.ofInt n = v) (hi : i < Y.2.2.1) (k : AW l Y sc d Q (pc + 3) (L.set i (some (.int v))) S u) : AW l Y sc d Q pc L S u := by
  intro p e R s m args below meth c n0 b0 ad0 sb ids D A H locs cells slots ad ls X P h hv
  obtain ⟨q, hq⟩ := h.place hl
  exact lv_iinc X.exec X.bytes hdg h.has hq hx hi rfl (fun ls' h' => k _ _ _ _ _ _ _ _ _ _ _ _ _ _ _ _ _ _ _ _ _ _ X P (h.store rfl h') ⟨hv.1.set (fun _ q => by cases q), hv.2⟩)
theorem aw_if_eq {x : Int32} {off : Int} {tgt : Nat} (hdg : decode Y.2.1 pc = .ok (.ifCond .eq off, 3)) (ht : (pc : Int) + off = (tgt : Int)) (kt : x = 0 → AW l Y sc d Q tgt L S u) (kf : ¬ x = 0 → AW l Y sc d Q (pc + 3) L S u) : AW l Y sc d Q pc L (.int x :: S) u := by
  intro p e R s m args below meth c n0 b0 ad0 sb ids D A H locs cells slots ad ls X P h hv
  exact lv_if_eq X.exec X.bytes hdg ht (fun z => kt z _ _ _ _ _ _ _ _ _ _ _ _ _ _ _ _ _ _ _ _ _ _ X P h ⟨hv.1, hv.2.t⟩) (fun z => kf z _ _ _ _ _ _ _ _ _ _ _ _ _ _ _ _ _ _ _ _ _ _ X P h ⟨hv.1, hv.2.t⟩)
theorem aw_if_ne {x : Int32} {off : Int} {tgt : Nat} (hdg : decode Y.2.1 pc = .ok (.ifCond .ne off, 3)) (ht : (pc : Int) + off = (tgt : Int)) (kt : ¬ x = 0 → AW l Y sc d Q tgt L S u) (kf : x = 0 → AW l Y sc d Q (pc + 3) L S u) : AW l Y sc d Q pc L (.int x :: S) u := by
  intro p e R s m args below meth c n0 b0 ad0 sb ids D A H locs cells slots ad ls X P h hv
  exact lv_if_ne X.exec X.bytes hdg ht (fun z => kt z _ _ _ _ _ _ _ _ _ _ _ _ _ _ _ _ _ _ _ _ _ _ X P h ⟨hv.1, hv.2.t⟩) (fun z => kf z _ _ _ _ _ _ _ _ _ _ _ _ _ _ _ _ _ _ _ _ _ _ X P h ⟨hv.1, hv.2.t⟩)
theorem aw_if_lt {x : Int32} {off : Int} {tgt : Nat} (hdg : decode Y.2.1 pc = .ok (.ifCond .lt off, 3)) (ht : (pc : Int) + off = (tgt : Int)) (kt : x < 0 → AW l Y sc d Q tgt L S u) (kf : ¬ x < 0 → AW l Y sc d Q (pc + 3) L S u) : AW l Y sc d Q pc L (.int x :: S) u := by
  intro p e R s m args below meth c n0 b0 ad0 sb ids D A H locs cells slots ad ls X P h hv
  exact lv_if_lt X.exec X.bytes hdg ht (fun z => kt z _ _ _ _ _ _ _ _ _ _ _ _ _ _ _ _ _ _ _ _ _ _ X P h ⟨hv.1, hv.2.t⟩) (fun z => kf z _ _ _ _ _ _ _ _ _ _ _ _ _ _ _ _ _ _ _ _ _ _ X P h ⟨hv.1, hv.2.t⟩)
theorem aw_if_ge {x : Int32} {off : Int} {tgt : Nat} (hdg : decode Y.2.1 pc = .ok (.ifCond .ge off, 3)) (ht : (pc : Int) + off = (tgt : Int)) (kt : 0 ≤ x → AW l Y sc d Q tgt L S u) (kf : ¬ 0 ≤ x → AW l Y sc d Q (pc + 3) L S u) : AW l Y sc d Q pc L (.int x :: S) u := by
  intro p e R s m args below meth c n0 b0 ad0 sb ids D A H locs cells slots ad ls X P h hv
  exact lv_if_ge X.exec X.bytes hdg ht (fun z => kt z _ _ _ _ _ _ _ _ _ _ _ _ _ _ _ _ _ _ _ _ _ _ X P h ⟨hv.1, hv.2.t⟩) (fun z => kf z _ _ _ _ _ _ _ _ _ _ _ _ _ _ _ _ _ _ _ _ _ _ X P h ⟨hv.1, hv.2.t⟩)
theorem aw_if_gt {x : Int32} {off : Int} {tgt : Nat} (hdg : decode Y.2.1 pc = .ok (.ifCond .gt off, 3)) (ht : (pc : Int) + off = (tgt : Int)) (kt : 0 < x → AW l Y sc d Q tgt L S u) (kf : ¬ 0 < x → AW l Y sc d Q (pc + 3) L S u) : AW l Y sc d Q pc L (.int x :: S) u := by
  intro p e R s m args below meth c n0 b0 ad0 sb ids D A H locs cells slots ad ls X P h hv
  exact lv_if_gt X.exec X.bytes hdg ht (fun z => kt z _ _ _ _ _ _ _ _ _ _ _ _ _ _ _ _ _ _ _ _ _ _ X P h ⟨hv.1, hv.2.t⟩) (fun z => kf z _ _ _ _ _ _ _ _ _ _ _ _ _ _ _ _ _ _ _ _ _ _ X P h ⟨hv.1, hv.2.t⟩)
theorem aw_if_le {x : Int32} {off : Int} {tgt : Nat} (hdg : decode Y.2.1 pc = .ok (.ifCond .le off, 3)) (ht : (pc : Int) + off = (tgt : Int)) (kt : x ≤ 0 → AW l Y sc d Q tgt L S u) (kf : ¬ x ≤ 0 → AW l Y sc d Q (pc + 3) L S u) : AW l Y sc d Q pc L (.int x :: S) u := by
  intro p e R s m args below meth c n0 b0 ad0 sb ids D A H locs cells slots ad ls X P h hv
  exact lv_if_le X.exec X.bytes hdg ht (fun z => kt z _ _ _ _ _ _ _ _ _ _ _ _ _ _ _ _ _ _ _ _ _ _ X P h ⟨hv.1, hv.2.t⟩) (fun z => kf z _ _ _ _ _ _ _ _ _ _ _ _ _ _ _ _ _ _ _ _ _ _ X P h ⟨hv.1, hv.2.t⟩)
theorem aw_icmp_eq {x y : Int32} {off : Int} {tgt : Nat} (hdg : decode Y.2.1 pc = .ok (.if_icmp .eq off, 3)) (ht : (pc : Int) + off = (tgt : Int)) (kt : x = y → AW l Y sc d Q tgt L S u) (kf : ¬ x = y → AW l Y sc d Q (pc + 3) L S u) : AW l Y sc d Q pc L (.int y :: .int x :: S) u := by
  intro p e R s m args below meth c n0 b0 ad0 sb ids D A H locs cells slots ad ls X P h hv
  exact lv_icmp_eq X.exec X.bytes hdg ht (fun z => kt z _ _ _ _ _ _ _ _ _ _ _ _ _ _ _ _ _ _ _ _ _ _ X P h ⟨hv.1, hv.2.t.t⟩) (fun z => kf z _ _ _ _ _ _ _ _ _ _ _ _ _ _ _ _ _ _ _ _ _ _ X P h ⟨hv.1, hv.2.t.t⟩)
theorem aw_icmp_ne {x y : Int32} {off : Int} {tgt : Nat} (hdg : decode Y.2.1 pc = .ok (.if_icmp .ne off, 3)) (ht : (pc : Int) + off = (tgt : Int)) (kt : ¬ x = y → AW l Y sc d Q tgt L S u) (kf : x = y → AW l Y sc d Q (pc + 3) L S u) : AW l Y sc d Q pc L (.int y :: .int x :: S) u := by
  intro p e R s m args below meth c n0 b0 ad0 sb ids D A H locs cells slots ad ls X P h hv
  exact lv_icmp_ne X.exec X.bytes hdg ht (fun z => kt z _ _ _ _ _ _ _ _ _ _ _ _ _ _ _ _ _ _ _ _ _ _ X P h ⟨hv.1, hv.2.t.t⟩) (fun z => kf z _ _ _ _ _ _ _ _ _ _ _ _ _ _ _ _ _ _ _ _ _ _ X P h ⟨hv.1, hv.2.t.t⟩)
theorem aw_icmp_lt {x y : Int32} {off : Int} {tgt : Nat} (hdg : decode Y.2.1 pc = .ok (.if_icmp .lt off, 3)) (ht : (pc : Int) + off = (tgt : Int)) (kt : x < y → AW l Y sc d Q tgt L S u) (kf : ¬ x < y → AW l Y sc d Q (pc + 3) L S u) : AW l Y sc d Q pc L (.int y :: .int x :: S) u := by
  intro p e R s m args below meth c n0 b0 ad0 sb ids D A H locs cells slots ad ls X P h hv
  exact lv_icmp_lt X.exec X.bytes hdg ht (fun z => kt z _ _ _ _ _ _ _ _ _ _ _ _ _ _ _ _ _ _ _ _ _ _ X P h ⟨hv.1, hv.2.t.t⟩) (fun z => kf z _ _ _ _ _ _ _ _ _ _ _ _ _ _ _ _ _ _ _ _ _ _ X P h ⟨hv.1, hv.2.t.t⟩)
theorem aw_icmp_ge {x y : Int32} {off : Int} {tgt : Nat} (hdg : decode Y.2.1 pc = .ok (.if_icmp .ge off, 3)) (ht : (pc : Int) + off = (tgt : Int)) (kt : y ≤ x → AW l Y sc d Q tgt L S u) (kf : ¬ y ≤ x → AW l Y sc d Q (pc + 3) L S u) : AW l Y sc d Q pc L (.int y :: .int x :: S) u := by
  intro p e R s m args below meth c n0 b0 ad0 sb ids D A H locs cells slots ad ls X P h hv
  exact lv_icmp_ge X.exec X.bytes hdg ht (fun z => kt z _ _ _ _ _ _ _ _ _ _ _ _ _ _ _ _ _ _ _ _ _ _ X P h ⟨hv.1, hv.2.t.t⟩) (fun z => kf z _ _ _ _ _ _ _ _ _ _ _ _ _ _ _ _ _ _ _ _ _ _ X P h ⟨hv.1, hv.2.t.t⟩)
theorem aw_icmp_gt {x y : Int32} {off : Int} {tgt : Nat} (hdg : decode Y.2.1 pc = .ok (.if_icmp .gt off, 3)) (ht : (pc : Int) + off = (tgt : Int)) (kt : y < x → AW l Y sc d Q tgt L S u) (kf : ¬ y < x → AW l Y sc d Q (pc + 3) L S u) : AW l Y sc d Q pc L (.int y :: .int x :: S) u := by
  intro p e R s m args below meth c n0 b0 ad0 sb ids D A H locs cells slots ad ls X P h hv
  exact lv_icmp_gt X.exec X.bytes hdg ht (fun z => kt z _ _ _ _ _ _ _ _ _ _ _ _ _ _ _ _ _ _ _ _ _ _ X P h ⟨hv.1, hv.2.t.t⟩) (fun z => kf z _ _ _ _ _ _ _ _ _ _ _ _ _ _ _ _ _ _ _ _ _ _ X P h ⟨hv.1, hv.2.t.t⟩)
theorem aw_icmp_le {x y : Int32} {off : Int} {tgt : Nat} (hdg : decode Y.2.1 pc = .ok (.if_icmp .le off, 3)) (ht : (pc : Int) + off = (tgt : Int)) (kt : x ≤ y → AW l Y sc d Q tgt L S u) (kf : ¬ x ≤ y → AW l Y sc d Q (pc + 3) L S u) : AW l Y sc d Q pc L (.int y :: .int x :: S) u := by
  intro p e R s m args below meth c n0 b0 ad0 sb ids D A H locs cells slots ad ls X P h hv
  exact lv_icmp_le X.exec X.bytes hdg ht (fun z => kt z _ _ _ _ _ _ _ _ _ _ _ _ _ _ _ _ _ _ _ _ _ _ X P h ⟨hv.1, hv.2.t.t⟩) (fun z => kf z _ _ _ _ _ _ _ _ _ _ _ _ _ _ _ _ _ _ _ _ _ _ X P h ⟨hv.1, hv.2.t.t⟩)
theorem aw_lcmp {x y : Int64} (hdg : decode Y.2.1 pc = .ok (.lcmp, 1)) (k : AW l Y sc d Q (pc + 1) L (.int (lg_cmp x y) :: S) u) : AW l Y sc d Q pc L (.long y :: .long x :: S) u := by
  intro p e R s m args below meth c n0 b0 ad0 sb ids D A H locs cells slots ad ls X P h hv
  exact W.lcmp X.exec X.bytes hdg (k _ _ _ _ _ _ _ _ _ _ _ _ _ _ _ _ _ _ _ _ _ _ X P h ⟨hv.1, hv.2.t.t.i⟩)
theorem aw_tsOut {x : Int32} {dflt lo hi : Int} {offs : Array Int} {len tgt : Nat} (hdg : decode Y.2.1 pc = .ok (.tableswitch dflt lo hi offs, len)) (hh : x.toInt < lo ∨ hi < x.toInt) (ht : (pc : Int) + dflt = (tgt : Int)) (k : AW l Y sc d Q tgt L S u) : AW l Y sc d Q pc L (.int x :: S) u := by
  intro p e R s m args below meth c n0 b0 ad0 sb ids D A H locs cells slots ad ls X P h hv
  exact lv_tableOut X.exec X.bytes hdg hh ht (k _ _ _ _ _ _ _ _ _ _ _ _ _ _ _ _ _ _ _ _ _ _ X P h ⟨hv.1, hv.2.t⟩)
theorem aw_tsIn {x : Int32} {dflt lo hi off : Int} {offs : Array Int} {len tgt : Nat} (hdg : decode Y.2.1 pc = .ok (.tableswitch dflt lo hi offs, len)) (h1 : ¬ x.toInt < lo) (h2 : ¬ hi < x.toInt) (ho : offs[(x.toInt - lo).toNat]? = some off) (ht : (pc : Int) + off = (tgt : Int)) (k : AW l Y sc d Q tgt L S u) : AW l Y sc d Q pc L (.int x :: S) u := by
  intro p e R s m args below meth c n0 b0 ad0 sb ids D A H locs cells slots ad ls X P h hv
  exact lv_tableIn X.exec X.bytes hdg h1 h2 ho ht (k _ _ _ _ _ _ _ _ _ _ _ _ _ _ _ _ _ _ _ _ _ _ X P h ⟨hv.1, hv.2.t⟩)
end OwSimple
