/-! what is made -/
theorem ow_sv_up {ad : Nat → Nat} {u u' : ow_M} {q c ci : Nat} (hw : ow_wf u) (h1 : u'.2.1 c = u.2.1 c) (h2 : u'.2.2.1 c = u.2.2.1 c) : ow_sv (va_up ad u.1 q) u' c ci = ow_sv ad u c ci := by
  funext k
  simp only [ow_sv, h1, h2]
  cases hr : u.2.1 c k with
  | none => rfl
  | some t =>
    have : t < u.1 := hw.1 c k t hr
    simp [va_up, Nat.ne_of_lt this]
theorem ow_rf_up {ad : Nat → Nat} {u : ow_M} {q c : Nat} (hw : ow_wf u) : (fun j => (u.2.1 c j).map (va_up ad u.1 q)) = (fun j => (u.2.1 c j).map ad) := by
  funext j
  cases hr : u.2.1 c j with
  | none => rfl
  | some t =>
    have : t < u.1 := hw.1 c j t hr
    simp [va_up, Nat.ne_of_lt this]
theorem ow_E_up {ids : Nat → ClassId} {ad : Nat → Nat} {u : ow_M} {q c n b : Nat} (hw : ow_wf u) : ow_E ids (va_up ad u.1 q) (n, u.2.1, u.2.2.1, u.2.2.2.1, b) c = ow_E ids ad u c := by
  have e1 : ∀ ci, ow_sv (va_up ad u.1 q) (n, u.2.1, u.2.2.1, u.2.2.2.1, b) c ci = ow_sv ad u c ci := fun ci => ow_sv_up hw rfl rfl
  have e2 := ow_rf_up (ad := ad) (q := q) (c := c) hw
  simp only [ow_E, e1, e2]
theorem ow_W_push {ids : Nat → ClassId} {ad : Nat → Nat} {u : ow_M} {q b : Nat} (hw : ow_wf u) : ow_W ids (va_up ad u.1 q) (u.1 + 1, u.2.1, u.2.2.1, u.2.2.2.1, b) = ow_W ids ad u ++ [(q, ow_E ids ad u u.1)] := by
  unfold ow_W
  show (List.range (u.1 + 1)).map _ = _
  rw [List.range_succ, List.map_append]
  congr 1
  · refine List.map_congr_left (fun c hc => ?_)
    have hlt : c < u.1 := List.mem_range.mp hc
    rw [ow_E_up hw, va_up_ne _ _ (Nat.ne_of_lt hlt)]
  · show [(va_up ad u.1 q u.1, _)] = _
    rw [va_up_self, ow_E_up hw]
theorem ow_wf.push {u : ow_M} {b : Nat} (hw : ow_wf u) : ow_wf (u.1 + 1, u.2.1, u.2.2.1, u.2.2.2.1, b) :=
  ⟨fun c k t h => Nat.lt_succ_of_lt (hw.1 c k t h), fun c hc => hw.2 c (Nat.le_of_succ_le hc)⟩
theorem ow_P.push {n0 b0 : Nat} {ad0 ad : Nat → Nat} {ids : Nat → ClassId} {D : va_G} {A : Nat → Prop} {s : State} {H H1 : Heap} {locs : List Loc} {cells slots q b N k : Nat} {u : ow_M} (P : ow_P n0 b0 ad0 ids D A s H locs cells slots ad u) (hb : u.2.2.2.2 = b + k) (hk : 1 ≤ k) (hN : N ≤ 128 * k)
    (hP : va_P D ow_cl (ow_W ids ad u ++ [(q, ow_E ids ad u u.1)]) H1) (hD : va_D A (ow_W ids ad u ++ [(q, ow_E ids ad u u.1)])) (hS : va_S A s.heap H1 locs) : ow_P n0 b0 ad0 ids D A s H1 locs (cells + 1) (slots + N) (va_up ad u.1 q) (u.1 + 1, u.2.1, u.2.2.1, u.2.2.2.1, b) := by
  obtain ⟨-, -, -, p4, p5, p6, p7, p8⟩ := P
  rw [← ow_W_push (b := b) p7] at hP hD
  rw [hb] at p4 p5
  refine ⟨hP, hD, hS, by show cells + 1 + 8 * b ≤ _; omega, by show slots + N + 128 * b ≤ _; omega, Nat.le_succ_of_le p6, p7.push, fun c hc => ?_⟩
  rw [va_up_ne _ _ (Nat.ne_of_lt (Nat.lt_of_lt_of_le hc p6))]
  exact p8 c hc
section OwNews
variable {l : Launch} {Y : ow_Y} {sc : Option (Nat × (Nat → Int32))} {d : Nat × Nat} {Q : ow_R → ow_M → Prop} {pc : Nat} {L : List (Option Value)} {S : List Value} {u : ow_M}
/-- an object of the class number ci can be made, by this entry -/
def ow_N (own : String) (index ci : Nat) : Prop := ∃ (C : String) (T : u_T) (ty0 : Nat → FieldType), ow_cl[ci]? = some (C, T, ow_nf ci) ∧ (∀ w ∈ u_ws C T (ow_nf ci), w ∈ ow_ws) ∧ (∀ k, k < ow_nf ci → parseFieldDescriptor (T k).2.2.1 = some (ty0 k)) ∧
  Cond.classLink own index C ∈ ow_ws ∧ Cond.instantiable C (ow_nf ci) ∈ ow_ws ∧ Cond.initialized C ∈ ow_ws ∧ ∀ k, k < ow_nf ci → defaultValue (ty0 k) = if ow_isr ci k = true then .null else .int 0
theorem aw_new {index ci b : Nat} (hN : ow_N Y.1.cls index ci) (hdg : decode Y.2.1 pc = .ok (.new index, 3)) (hk : ow_kd u.1 = (0, ci)) (hnf : ow_nf ci ≤ 128) (hb : u.2.2.2.2 = b + 1) (kk : AW l Y sc d Q (pc + 3) L (.ref u.1 :: S) (u.1 + 1, u.2.1, u.2.2.1, u.2.2.2.1, b)) : AW l Y sc d Q pc L S u := by
  intro p e R s m args below meth c n0 b0 ad0 sb ids D A H locs cells slots ad ls X P h hv
  obtain ⟨C, T, ty0, f1, f2, f3, f4, f5, f6, f7⟩ := hN
  obtain ⟨rf, rl, rc, rs⟩ := X.room
  have p4 := P.2.2.2.1
  have p5 := P.2.2.2.2.1
  have hw := P.wf
  rw [hb] at p4 p5
  have hfr := hw.2 u.1 (Nat.le_refl _)
  refine va_new (ci := ci) (fs := (List.range (ow_nf ci)).map (ow_sv ad u u.1 ci)) X.exec X.bytes X.ts f2 ty0 f3 X.own (X.ts _ f4) (X.ts _ f5) (X.ts _ f6) X.K P.1 P.2.1 P.2.2.1 X.new f1 (fun j hj => ?_) (by omega) (by omega) hdg (fun q H1 hP hD hS => ?_)
  · have : vp_V ((List.range (ow_nf ci)).map (ow_sv ad u u.1 ci)) j = ow_sv ad u u.1 ci j := by simp [vp_V, hj]
    rw [this, f7 j hj, ow_sv, hfr.1 j, hfr.2.1 j]
    rfl
  · rw [show (Sum.inr (ci, (List.range (ow_nf ci)).map (ow_sv ad u u.1 ci)) : va_E) = ow_E ids ad u u.1 from (ow_E_0 hk).symm] at hP hD
    have hw2 := kk p e R s m args below meth c n0 b0 ad0 sb ids D A H1 locs (cells + 1) (slots + ow_nf ci) (va_up ad u.1 q) ls X (P.push (b := b) (k := 1) hb (Nat.le_refl _) (by omega) hP hD hS) (h.re (n := u.1) (fun c hc => va_up_ne _ _ (Nat.ne_of_lt hc)) hv.1) ⟨hv.1.up (Nat.le_succ _), (hv.2.up (Nat.le_succ _)).r (Nat.lt_succ_self _)⟩
    rw [List.map_cons, ow_cv_map (n := u.1) (fun c hc => va_up_ne _ _ (Nat.ne_of_lt hc)) hv.2] at hw2
    have e1 : ow_cv sb (va_up ad u.1 q) (.ref u.1) = .ref q := by show Value.ref (va_up ad u.1 q u.1) = _; rw [va_up_self]
    rw [e1] at hw2
    exact hw2
theorem aw_newi {N b k : Nat} (harr : Cond.arrayClass .int ∈ ow_ws) (hdg : decode Y.2.1 pc = .ok (.newarray .int, 2)) (hk : ow_kd u.1 = (1, N)) (hN : N ≤ 128 * k) (h1 : 1 ≤ k) (hk2 : k ≤ 1000) (hb : u.2.2.2.2 = b + k) (kk : AW l Y sc d Q (pc + 2) L (.ref u.1 :: S) (u.1 + 1, u.2.1, u.2.2.1, u.2.2.2.1, b)) : AW l Y sc d Q pc L (.int (nI N) :: S) u := by
  intro p e R s m args below meth c n0 b0 ad0 sb ids D A H locs cells slots ad ls X P h hv
  obtain ⟨rf, rl, rc, rs⟩ := X.room
  have p4 := P.2.2.2.1
  have p5 := P.2.2.2.2.1
  have hw := P.wf
  rw [hb] at p4 p5
  have hfr := hw.2 u.1 (Nat.le_refl _)
  have hlt : N < 2 ^ 31 := by have : 128 * k ≤ 128 * 1000 := Nat.mul_le_mul_left _ hk2; omega
  refine va_newa (atype := .int) (ty := .int) (a0 := (N, .inl (fun _ => 0))) X.exec X.bytes (X.ts _ harr) rfl X.K P.1 P.2.1 P.2.2.1 X.new (fun cA => rfl) (nI_pos hlt) (nI_clamp hlt) (by show N * 4 ≤ _; have : 128 * k ≤ 128 * 1000 := Nat.mul_le_mul_left _ hk2; omega) (by omega) (by omega) hdg (fun q cA H1 hK hP hD hS => ?_)
  have hcA : cA = ids 0 := by
    have g1 := (hK.2 4 (cA, .int) rfl).2
    have g2 := (X.K.2 0 (ids 0, .int) rfl).2
    exact Option.some.inj (g1.symm.trans g2)
  subst hcA
  have ez : u.2.2.1 u.1 = fun _ => 0 := funext hfr.2.1
  rw [show (Sum.inl (ids 0, N, Sum.inl (fun _ => 0)) : va_E) = ow_E ids ad u u.1 from by rw [ow_E_1 hk, ez]] at hP hD
  have hw2 := kk p e R s m args below meth c n0 b0 ad0 sb ids D A H1 locs (cells + 1) (slots + N) (va_up ad u.1 q) ls X (P.push (b := b) (k := k) hb h1 hN hP hD hS) (h.re (n := u.1) (fun c hc => va_up_ne _ _ (Nat.ne_of_lt hc)) hv.1) ⟨hv.1.up (Nat.le_succ _), (hv.2.t.up (Nat.le_succ _)).r (Nat.lt_succ_self _)⟩
  rw [List.map_cons, ow_cv_map (n := u.1) (fun c hc => va_up_ne _ _ (Nat.ne_of_lt hc)) hv.2.t] at hw2
  have e1 : ow_cv sb (va_up ad u.1 q) (.ref u.1) = .ref q := by show Value.ref (va_up ad u.1 q u.1) = _; rw [va_up_self]
  rw [e1] at hw2
  exact hw2
theorem aw_newz {N b k : Nat} (harr : Cond.arrayClass .boolean ∈ ow_ws) (hdg : decode Y.2.1 pc = .ok (.newarray .boolean, 2)) (hk : ow_kd u.1 = (2, N)) (hN : N ≤ 128 * k) (h1 : 1 ≤ k) (hk2 : k ≤ 1000) (hb : u.2.2.2.2 = b + k) (kk : AW l Y sc d Q (pc + 2) L (.ref u.1 :: S) (u.1 + 1, u.2.1, u.2.2.1, u.2.2.2.1, b)) : AW l Y sc d Q pc L (.int (nI N) :: S) u := by
  intro p e R s m args below meth c n0 b0 ad0 sb ids D A H locs cells slots ad ls X P h hv
  obtain ⟨rf, rl, rc, rs⟩ := X.room
  have p4 := P.2.2.2.1
  have p5 := P.2.2.2.2.1
  have hw := P.wf
  rw [hb] at p4 p5
  have hfr := hw.2 u.1 (Nat.le_refl _)
  have hlt : N < 2 ^ 31 := by have : 128 * k ≤ 128 * 1000 := Nat.mul_le_mul_left _ hk2; omega
  refine va_newa (atype := .boolean) (ty := .boolean) (a0 := (N, .inl (fun _ => 0))) X.exec X.bytes (X.ts _ harr) rfl X.K P.1 P.2.1 P.2.2.1 X.new (fun cA => rfl) (nI_pos hlt) (nI_clamp hlt) (by show N * 1 ≤ _; have : 128 * k ≤ 128 * 1000 := Nat.mul_le_mul_left _ hk2; omega) (by omega) (by omega) hdg (fun q cA H1 hK hP hD hS => ?_)
  have hcA : cA = ids 1 := by
    have g1 := (hK.2 4 (cA, .boolean) rfl).2
    have g2 := (X.K.2 1 (ids 1, .boolean) rfl).2
    exact Option.some.inj (g1.symm.trans g2)
  subst hcA
  have ez : u.2.2.1 u.1 = fun _ => 0 := funext hfr.2.1
  rw [show (Sum.inl (ids 1, N, Sum.inl (fun _ => 0)) : va_E) = ow_E ids ad u u.1 from by rw [ow_E_2 hk, ez]] at hP hD
  have hw2 := kk p e R s m args below meth c n0 b0 ad0 sb ids D A H1 locs (cells + 1) (slots + N) (va_up ad u.1 q) ls X (P.push (b := b) (k := k) hb h1 hN hP hD hS) (h.re (n := u.1) (fun c hc => va_up_ne _ _ (Nat.ne_of_lt hc)) hv.1) ⟨hv.1.up (Nat.le_succ _), (hv.2.t.up (Nat.le_succ _)).r (Nat.lt_succ_self _)⟩
  rw [List.map_cons, ow_cv_map (n := u.1) (fun c hc => va_up_ne _ _ (Nat.ne_of_lt hc)) hv.2.t] at hw2
  have e1 : ow_cv sb (va_up ad u.1 q) (.ref u.1) = .ref q := by show Value.ref (va_up ad u.1 q u.1) = _; rw [va_up_self]
  rw [e1] at hw2
  exact hw2
theorem aw_newl {N b k : Nat} (harr : Cond.arrayClass .long ∈ ow_ws) (hdg : decode Y.2.1 pc = .ok (.newarray .long, 2)) (hk : ow_kd u.1 = (3, N)) (hN : N ≤ 128 * k) (h1 : 1 ≤ k) (hk2 : k ≤ 1000) (hb : u.2.2.2.2 = b + k) (kk : AW l Y sc d Q (pc + 2) L (.ref u.1 :: S) (u.1 + 1, u.2.1, u.2.2.1, u.2.2.2.1, b)) : AW l Y sc d Q pc L (.int (nI N) :: S) u := by
  intro p e R s m args below meth c n0 b0 ad0 sb ids D A H locs cells slots ad ls X P h hv
  obtain ⟨rf, rl, rc, rs⟩ := X.room
  have p4 := P.2.2.2.1
  have p5 := P.2.2.2.2.1
  have hw := P.wf
  rw [hb] at p4 p5
  have hfr := hw.2 u.1 (Nat.le_refl _)
  have hlt : N < 2 ^ 31 := by have : 128 * k ≤ 128 * 1000 := Nat.mul_le_mul_left _ hk2; omega
  refine va_newa (atype := .long) (ty := .long) (a0 := (N, .inr (.inl (fun _ => 0)))) X.exec X.bytes (X.ts _ harr) rfl X.K P.1 P.2.1 P.2.2.1 X.new (fun cA => rfl) (nI_pos hlt) (nI_clamp hlt) (by show N * 8 ≤ _; have : 128 * k ≤ 128 * 1000 := Nat.mul_le_mul_left _ hk2; omega) (by omega) (by omega) hdg (fun q cA H1 hK hP hD hS => ?_)
  have hcA : cA = ids 2 := by
    have g1 := (hK.2 4 (cA, .long) rfl).2
    have g2 := (X.K.2 2 (ids 2, .long) rfl).2
    exact Option.some.inj (g1.symm.trans g2)
  subst hcA
  have ez : u.2.2.2.1 u.1 = fun _ => 0 := funext hfr.2.2
  rw [show (Sum.inl (ids 2, N, Sum.inr (Sum.inl (fun _ => 0))) : va_E) = ow_E ids ad u u.1 from by rw [ow_E_3 hk, ez]] at hP hD
  have hw2 := kk p e R s m args below meth c n0 b0 ad0 sb ids D A H1 locs (cells + 1) (slots + N) (va_up ad u.1 q) ls X (P.push (b := b) (k := k) hb h1 hN hP hD hS) (h.re (n := u.1) (fun c hc => va_up_ne _ _ (Nat.ne_of_lt hc)) hv.1) ⟨hv.1.up (Nat.le_succ _), (hv.2.t.up (Nat.le_succ _)).r (Nat.lt_succ_self _)⟩
  rw [List.map_cons, ow_cv_map (n := u.1) (fun c hc => va_up_ne _ _ (Nat.ne_of_lt hc)) hv.2.t] at hw2
  have e1 : ow_cv sb (va_up ad u.1 q) (.ref u.1) = .ref q := by show Value.ref (va_up ad u.1 q u.1) = _; rw [va_up_self]
  rw [e1] at hw2
  exact hw2
end OwNews
