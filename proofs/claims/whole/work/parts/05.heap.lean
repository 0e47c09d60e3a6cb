theorem ow_at {ids : Nat → ClassId} {ad : Nat → Nat} {u : ow_M} {c : Nat} (h : c < u.1) : (ow_W ids ad u)[c]? = some (ad c, ow_E ids ad u c) := by
  simp [ow_W, h]
theorem ow_len {ids : Nat → ClassId} {ad : Nat → Nat} {u : ow_M} : (ow_W ids ad u).length = u.1 := by simp [ow_W]
theorem ow_set {ids : Nat → ClassId} {ad : Nat → Nat} {u u' : ow_M} {c : Nat} (hn : u'.1 = u.1) (hc : c < u.1) (ho : ∀ a, a ≠ c → ow_E ids ad u' a = ow_E ids ad u a) : (ow_W ids ad u).set c (ad c, ow_E ids ad u' c) = ow_W ids ad u' := by
  apply List.ext_getElem?
  intro k
  by_cases hk : k = c
  · subst hk
    rw [List.getElem?_set_self (by rw [ow_len]; exact hc), ow_at (by rw [hn]; exact hc)]
  · rw [List.getElem?_set_ne (Ne.symm hk)]
    by_cases hl : k < u.1
    · rw [ow_at hl, ow_at (by rw [hn]; exact hl), ho k hk]
    · rw [List.getElem?_eq_none (by rw [ow_len]; omega), List.getElem?_eq_none (by rw [ow_len, hn]; omega)]
theorem ow_E_congr {ids : Nat → ClassId} {ad : Nat → Nat} {u u' : ow_M} {a : Nat} (h1 : u'.2.1 a = u.2.1 a) (h2 : u'.2.2.1 a = u.2.2.1 a) (h3 : u'.2.2.2.1 a = u.2.2.2.1 a) : ow_E ids ad u' a = ow_E ids ad u a := by
  have e : ow_sv ad u' a = ow_sv ad u a := by
    funext ci k
    simp only [ow_sv, h1, h2]
  simp only [ow_E, h1, h2, h3, e]
theorem ow_E_0 {ids : Nat → ClassId} {ad : Nat → Nat} {u : ow_M} {c ci : Nat} (hk : ow_kd c = (0, ci)) : ow_E ids ad u c = .inr (ci, (List.range (ow_nf ci)).map (ow_sv ad u c ci)) := by simp only [ow_E, hk]
theorem ow_E_1 {ids : Nat → ClassId} {ad : Nat → Nat} {u : ow_M} {c n : Nat} (hk : ow_kd c = (1, n)) : ow_E ids ad u c = .inl (ids 0, n, .inl (u.2.2.1 c)) := by simp only [ow_E, hk]
theorem ow_E_2 {ids : Nat → ClassId} {ad : Nat → Nat} {u : ow_M} {c n : Nat} (hk : ow_kd c = (2, n)) : ow_E ids ad u c = .inl (ids 1, n, .inl (u.2.2.1 c)) := by simp only [ow_E, hk]
theorem ow_E_3 {ids : Nat → ClassId} {ad : Nat → Nat} {u : ow_M} {c n : Nat} (hk : ow_kd c = (3, n)) : ow_E ids ad u c = .inl (ids 2, n, .inr (.inl (u.2.2.2.1 c))) := by simp only [ow_E, hk]
theorem ow_E_4 {ids : Nat → ClassId} {ad : Nat → Nat} {u : ow_M} {c n : Nat} (hk : ow_kd c = (4, n)) : ow_E ids ad u c = .inl (ids 3, n, .inr (.inr (.inr (.inr (fun j => (u.2.1 c j).map ad))))) := by simp only [ow_E, hk]
theorem ow_u_ne {f : Nat → Nat → Int32} {c k a : Nat} {v : Int32} (h : a ≠ c) : ow_u f c k v a = f a := by simp [ow_u, h]
theorem ow_u_eq {f : Nat → Nat → Int32} {c k : Nat} {v : Int32} : ow_u f c k v c = upd (f c) k v := by simp [ow_u]
theorem ow_ul_ne {f : Nat → Nat → Int64} {c k a : Nat} {v : Int64} (h : a ≠ c) : ow_ul f c k v a = f a := by simp [ow_ul, h]
theorem ow_ul_eq {f : Nat → Nat → Int64} {c k : Nat} {v : Int64} : ow_ul f c k v c = vp_updL (f c) k v := by simp [ow_ul]
theorem ow_ur_ne {f : Nat → Nat → Option Nat} {c k a : Nat} {v : Option Nat} (h : a ≠ c) : ow_ur f c k v a = f a := by simp [ow_ur, h]
theorem ow_ur_eq {f : Nat → Nat → Option Nat} {c k : Nat} {v : Option Nat} : ow_ur f c k v c = va_up (f c) k v := by simp [ow_ur]
/-- the entry 'index' of the class own names the field k of the class number ci -/
def ow_F (own : String) (index ci k : Nat) : Prop := ∃ (C : String) (T : u_T), ow_cl[ci]? = some (C, T, ow_nf ci) ∧ k < ow_nf ci ∧ (∀ w ∈ u_ws C T (ow_nf ci), w ∈ ow_ws) ∧ Cond.fieldLink own index (T k).1 (T k).2.1 (T k).2.2.1 ∈ ow_ws
/-- the class number ci has fields of these types, apart by name -/
def ow_Ft (ci : Nat) (ty : Nat → FieldType) : Prop := ∃ (C : String) (T : u_T), ow_cl[ci]? = some (C, T, ow_nf ci) ∧ (∀ k, k < ow_nf ci → parseFieldDescriptor (T k).2.2.1 = some (ty k)) ∧ (∀ a, a < ow_nf ci → ∀ b, b < ow_nf ci → a ≠ b → (T a).2.1 ≠ (T b).2.1)
theorem ow_fs {ad : Nat → Nat} {u : ow_M} {c ci k : Nat} (hk : k < ow_nf ci) : ((List.range (ow_nf ci)).map (ow_sv ad u c ci))[k]? = some (ow_sv ad u c ci k) := by simp [hk]
theorem ow_fset {ad : Nat → Nat} {u u' : ow_M} {c ci k : Nat} {v : Value} (hv : ow_sv ad u' c ci k = v) (ho : ∀ j, j ≠ k → ow_sv ad u' c ci j = ow_sv ad u c ci j) : ((List.range (ow_nf ci)).map (ow_sv ad u c ci)).set k v = (List.range (ow_nf ci)).map (ow_sv ad u' c ci) := by
  apply List.ext_getElem?
  intro j
  by_cases hj : j = k
  · subst hj
    by_cases hl : j < ow_nf ci
    · rw [List.getElem?_set_self (by simpa using hl), ow_fs hl, hv]
    · rw [List.getElem?_eq_none (by simpa using hl), List.getElem?_eq_none (by simpa using hl)]
  · rw [List.getElem?_set_ne (Ne.symm hj)]
    by_cases hl : j < ow_nf ci
    · rw [ow_fs hl, ow_fs hl, ho j hj]
    · rw [List.getElem?_eq_none (by simpa using hl), List.getElem?_eq_none (by simpa using hl)]
section OwHeap
variable {l : Launch} {Y : ow_Y} {sc : Option (Nat × (Nat → Int32))} {d : Nat × Nat} {Q : ow_R → ow_M → Prop} {pc : Nat} {L : List (Option Value)} {S : List Value} {u : ow_M}
theorem ow_P.wf {n0 b0 : Nat} {ad0 ad : Nat → Nat} {ids : Nat → ClassId} {D : va_G} {A : Nat → Prop} {s : State} {H : Heap} {locs : List Loc} {cells slots : Nat} (P : ow_P n0 b0 ad0 ids D A s H locs cells slots ad u) : ow_wf u := P.2.2.2.2.2.2.1
theorem ow_wf.i {a k : Nat} {x : Int32} (h : ow_wf u) (ha : a < u.1) : ow_wf (u.1, u.2.1, ow_u u.2.2.1 a k x, u.2.2.2.1, u.2.2.2.2) :=
  ⟨h.1, fun c hc => ⟨(h.2 c hc).1, fun j => by show ow_u u.2.2.1 a k x c j = 0; rw [ow_u_ne (by have : u.1 ≤ c := hc; omega)]; exact (h.2 c hc).2.1 j, (h.2 c hc).2.2⟩⟩
theorem ow_wf.lo {a k : Nat} {x : Int64} (h : ow_wf u) (ha : a < u.1) : ow_wf (u.1, u.2.1, u.2.2.1, ow_ul u.2.2.2.1 a k x, u.2.2.2.2) :=
  ⟨h.1, fun c hc => ⟨(h.2 c hc).1, (h.2 c hc).2.1, fun j => by show ow_ul u.2.2.2.1 a k x c j = 0; rw [ow_ul_ne (by have : u.1 ≤ c := hc; omega)]; exact (h.2 c hc).2.2 j⟩⟩
theorem ow_wf.r {a k t : Nat} (h : ow_wf u) (ha : a < u.1) (ht : t < u.1) : ow_wf (u.1, ow_ur u.2.1 a k (some t), u.2.2.1, u.2.2.2.1, u.2.2.2.2) := by
  refine ⟨fun c j z hz => ?_, fun c hc => ⟨fun j => ?_, (h.2 c hc).2⟩⟩
  · by_cases hca : c = a
    · subst hca
      by_cases hj : j = k
      · subst hj
        have hz2 : some t = some z := by simpa [ow_ur, va_up] using hz
        cases hz2; exact ht
      · exact h.1 c j z (by simpa [ow_ur, va_up, hj] using hz)
    · exact h.1 c j z (by simpa [ow_ur, hca] using hz)
  · have : u.1 ≤ c := hc
    show ow_ur u.2.1 a k (some t) c j = none
    rw [ow_ur_ne (by omega)]; exact (h.2 c hc).1 j
theorem aw_geti {index ci k a : Nat} (hF : ow_F Y.1.cls index ci k) (hdg : decode Y.2.1 pc = .ok (.getfield index, 3)) (ha : a < u.1) (hk : ow_kd a = (0, ci)) (hr : ow_isr ci k = false) (kk : AW l Y sc d Q (pc + 3) L (.int (u.2.2.1 a k) :: S) u) : AW l Y sc d Q pc L (.ref a :: S) u := by
  intro p e R s m args below meth c n0 b0 ad0 sb ids D A H locs cells slots ad ls X P h hv
  obtain ⟨C, T, f1, f2, f3, f4⟩ := hF
  have he := ow_at (ids := ids) (ad := ad) ha
  rw [ow_E_0 hk] at he
  refine va_get X.exec X.bytes X.ts f3 X.own X.K P.1 a he f1 k f2 (X.ts _ f4) (fun x h9 => h9) (ow_fs f2) hdg ?_
  have e : ow_sv ad u a ci k = ow_cv sb ad (.int (u.2.2.1 a k)) := by simp [ow_sv, hr, ow_cv]
  rw [e]
  exact kk _ _ _ _ _ _ _ _ _ _ _ _ _ _ _ _ _ _ _ _ _ _ X P h ⟨hv.1, hv.2.t.i⟩
theorem aw_getr {index ci k a t : Nat} (hF : ow_F Y.1.cls index ci k) (hdg : decode Y.2.1 pc = .ok (.getfield index, 3)) (ha : a < u.1) (hk : ow_kd a = (0, ci)) (hr : ow_isr ci k = true) (ht : u.2.1 a k = some t) (kk : AW l Y sc d Q (pc + 3) L (.ref t :: S) u) : AW l Y sc d Q pc L (.ref a :: S) u := by
  intro p e R s m args below meth c n0 b0 ad0 sb ids D A H locs cells slots ad ls X P h hv
  obtain ⟨C, T, f1, f2, f3, f4⟩ := hF
  have he := ow_at (ids := ids) (ad := ad) ha
  rw [ow_E_0 hk] at he
  refine va_get X.exec X.bytes X.ts f3 X.own X.K P.1 a he f1 k f2 (X.ts _ f4) (fun x h9 => h9) (ow_fs f2) hdg ?_
  have e : ow_sv ad u a ci k = ow_cv sb ad (.ref t) := by simp [ow_sv, hr, ht, ow_cv, va_rf]
  rw [e]
  exact kk _ _ _ _ _ _ _ _ _ _ _ _ _ _ _ _ _ _ _ _ _ _ X P h ⟨hv.1, hv.2.t.r (P.wf.1 _ _ _ ht)⟩
theorem aw_iald {a n : Nat} {i : Int32} (hdg : decode Y.2.1 pc = .ok (.iaload, 1)) (ha : a < u.1) (hk : ow_kd a = (1, n)) (hi : vp_in i n) (kk : AW l Y sc d Q (pc + 1) L (.int (u.2.2.1 a i.toNatClampNeg) :: S) u) : AW l Y sc d Q pc L (.int i :: .ref a :: S) u := by
  intro p e R s m args below meth c n0 b0 ad0 sb ids D A H locs cells slots ad ls X P h hv
  have he := ow_at (ids := ids) (ad := ad) ha
  rw [ow_E_1 hk] at he
  exact va_iald X.exec X.bytes X.K P.1 a 0 he rfl hi hdg (kk _ _ _ _ _ _ _ _ _ _ _ _ _ _ _ _ _ _ _ _ _ _ X P h ⟨hv.1, hv.2.t.t.i⟩)
theorem aw_zald {a n : Nat} {i : Int32} (hdg : decode Y.2.1 pc = .ok (.baload, 1)) (ha : a < u.1) (hk : ow_kd a = (2, n)) (hi : vp_in i n) (kk : AW l Y sc d Q (pc + 1) L (.int (u.2.2.1 a i.toNatClampNeg) :: S) u) : AW l Y sc d Q pc L (.int i :: .ref a :: S) u := by
  intro p e R s m args below meth c n0 b0 ad0 sb ids D A H locs cells slots ad ls X P h hv
  have he := ow_at (ids := ids) (ad := ad) ha
  rw [ow_E_2 hk] at he
  exact va_zald X.exec X.bytes X.K P.1 a 1 he rfl hi hdg (kk _ _ _ _ _ _ _ _ _ _ _ _ _ _ _ _ _ _ _ _ _ _ X P h ⟨hv.1, hv.2.t.t.i⟩)
theorem aw_lald {a n : Nat} {i : Int32} (hdg : decode Y.2.1 pc = .ok (.laload, 1)) (ha : a < u.1) (hk : ow_kd a = (3, n)) (hi : vp_in i n) (kk : AW l Y sc d Q (pc + 1) L (.long (u.2.2.2.1 a i.toNatClampNeg) :: S) u) : AW l Y sc d Q pc L (.int i :: .ref a :: S) u := by
  intro p e R s m args below meth c n0 b0 ad0 sb ids D A H locs cells slots ad ls X P h hv
  have he := ow_at (ids := ids) (ad := ad) ha
  rw [ow_E_3 hk] at he
  exact va_lald X.exec X.bytes X.K P.1 a 2 he rfl hi hdg (kk _ _ _ _ _ _ _ _ _ _ _ _ _ _ _ _ _ _ _ _ _ _ X P h ⟨hv.1, hv.2.t.t.l⟩)
theorem aw_aald {a n t : Nat} {i : Int32} (hdg : decode Y.2.1 pc = .ok (.aaload, 1)) (ha : a < u.1) (hk : ow_kd a = (4, n)) (hi : vp_in i n) (ht : u.2.1 a i.toNatClampNeg = some t) (kk : AW l Y sc d Q (pc + 1) L (.ref t :: S) u) : AW l Y sc d Q pc L (.int i :: .ref a :: S) u := by
  intro p e R s m args below meth c n0 b0 ad0 sb ids D A H locs cells slots ad ls X P h hv
  have he := ow_at (ids := ids) (ad := ad) ha
  rw [ow_E_4 hk] at he
  have hlt : i.toNatClampNeg < n := Nat.not_le.mp fun q => hi (Or.inr q)
  refine W.aald (v := .ref (ad t)) (ty := .array .int) X.exec X.bytes (P.1 a _ he) ((X.K.2 3 (ids 3, .array .int) rfl).1 n (fun j => va_rf ((u.2.1 a j).map ad))) rfl (fun q => by cases q) (by show ¬ (i < 0 ∨ (arrV _ _ _).slots.size ≤ _); rw [arrV_size]; exact hi) (by show (arrV _ _ _).slots[_]? = _; rw [arrV_read _ _ hlt]; show some (va_rf ((u.2.1 a i.toNatClampNeg).map ad)) = _; rw [ht]; rfl) rfl rfl hdg ?_
  exact kk _ _ _ _ _ _ _ _ _ _ _ _ _ _ _ _ _ _ _ _ _ _ X P h ⟨hv.1, hv.2.t.t.r (P.wf.1 _ _ _ ht)⟩
theorem ow_P.moved {n0 b0 : Nat} {ad0 ad : Nat → Nat} {ids : Nat → ClassId} {D : va_G} {A : Nat → Prop} {s : State} {H H1 : Heap} {locs locs1 : List Loc} {cells slots : Nat} {u' : ow_M} (P : ow_P n0 b0 ad0 ids D A s H locs cells slots ad u) (hn : u'.1 = u.1) (hb : u'.2.2.2.2 = u.2.2.2.2)
    (hP : va_P D ow_cl (ow_W ids ad u') H1) (hD : va_D A (ow_W ids ad u')) (hS : va_S A s.heap H1 locs1) (hw : ow_wf u') : ow_P n0 b0 ad0 ids D A s H1 locs1 cells slots ad u' := by
  obtain ⟨-, -, -, p4, p5, p6, -, p7⟩ := P
  exact ⟨hP, hD, hS, by rw [hb]; exact p4, by rw [hb]; exact p5, by rw [hn]; exact p6, hw, p7⟩
theorem aw_iast {a n : Nat} {i x : Int32} (hdg : decode Y.2.1 pc = .ok (.iastore, 1)) (ha : a < u.1) (hk : ow_kd a = (1, n)) (hi : vp_in i n) (kk : AW l Y sc d Q (pc + 1) L S (u.1, u.2.1, ow_u u.2.2.1 a i.toNatClampNeg x, u.2.2.2.1, u.2.2.2.2)) : AW l Y sc d Q pc L (.int x :: .int i :: .ref a :: S) u := by
  intro p e R s m args below meth c n0 b0 ad0 sb ids D A H locs cells slots ad ls X P h hv
  have he := ow_at (ids := ids) (ad := ad) ha
  rw [ow_E_1 hk] at he
  refine va_iast X.exec X.bytes X.K P.1 P.2.1 P.2.2.1 a 0 he rfl hi hdg (fun H1 locs1 hP hD hS => ?_)
  have ew : (ow_W ids ad u).set a (ad a, .inl (ids 0, n, .inl (upd (u.2.2.1 a) i.toNatClampNeg x))) = ow_W ids ad (u.1, u.2.1, ow_u u.2.2.1 a i.toNatClampNeg x, u.2.2.2.1, u.2.2.2.2) := by
    rw [← ow_set (ids := ids) (ad := ad) (u := u) (u' := (u.1, u.2.1, ow_u u.2.2.1 a i.toNatClampNeg x, u.2.2.2.1, u.2.2.2.2)) (c := a) rfl ha (fun b hb => ow_E_congr rfl (ow_u_ne hb) rfl), ow_E_1 hk]
    simp only [ow_u_eq]
  rw [ew] at hP hD
  exact kk _ _ _ _ _ _ _ _ _ _ _ _ _ _ _ _ _ _ _ _ _ _ X (P.moved rfl rfl hP hD hS (P.wf.i ha)) h ⟨hv.1, hv.2.t.t.t⟩
theorem aw_zast {a n : Nat} {i x : Int32} (hdg : decode Y.2.1 pc = .ok (.bastore, 1)) (ha : a < u.1) (hk : ow_kd a = (2, n)) (hi : vp_in i n) (hx : x = 0 ∨ x = 1) (kk : AW l Y sc d Q (pc + 1) L S (u.1, u.2.1, ow_u u.2.2.1 a i.toNatClampNeg x, u.2.2.2.1, u.2.2.2.2)) : AW l Y sc d Q pc L (.int x :: .int i :: .ref a :: S) u := by
  intro p e R s m args below meth c n0 b0 ad0 sb ids D A H locs cells slots ad ls X P h hv
  have he := ow_at (ids := ids) (ad := ad) ha
  rw [ow_E_2 hk] at he
  have hx1 : vp_nar .boolean x = x := by rcases hx with rfl | rfl <;> rfl
  refine va_zast X.exec X.bytes X.K P.1 P.2.1 P.2.2.1 a 1 he rfl hi hdg (fun H1 locs1 hP hD hS => ?_)
  rw [hx1] at hP hD
  have ew : (ow_W ids ad u).set a (ad a, .inl (ids 1, n, .inl (upd (u.2.2.1 a) i.toNatClampNeg x))) = ow_W ids ad (u.1, u.2.1, ow_u u.2.2.1 a i.toNatClampNeg x, u.2.2.2.1, u.2.2.2.2) := by
    rw [← ow_set (ids := ids) (ad := ad) (u := u) (u' := (u.1, u.2.1, ow_u u.2.2.1 a i.toNatClampNeg x, u.2.2.2.1, u.2.2.2.2)) (c := a) rfl ha (fun b hb => ow_E_congr rfl (ow_u_ne hb) rfl), ow_E_2 hk]
    simp only [ow_u_eq]
  rw [ew] at hP hD
  exact kk _ _ _ _ _ _ _ _ _ _ _ _ _ _ _ _ _ _ _ _ _ _ X (P.moved rfl rfl hP hD hS (P.wf.i ha)) h ⟨hv.1, hv.2.t.t.t⟩
theorem aw_last {a n : Nat} {i : Int32} {x : Int64} (hdg : decode Y.2.1 pc = .ok (.lastore, 1)) (ha : a < u.1) (hk : ow_kd a = (3, n)) (hi : vp_in i n) (kk : AW l Y sc d Q (pc + 1) L S (u.1, u.2.1, u.2.2.1, ow_ul u.2.2.2.1 a i.toNatClampNeg x, u.2.2.2.2)) : AW l Y sc d Q pc L (.long x :: .int i :: .ref a :: S) u := by
  intro p e R s m args below meth c n0 b0 ad0 sb ids D A H locs cells slots ad ls X P h hv
  have he := ow_at (ids := ids) (ad := ad) ha
  rw [ow_E_3 hk] at he
  refine va_last X.exec X.bytes X.K P.1 P.2.1 P.2.2.1 a 2 he rfl hi hdg (fun H1 locs1 hP hD hS => ?_)
  have ew : (ow_W ids ad u).set a (ad a, .inl (ids 2, n, .inr (.inl (vp_updL (u.2.2.2.1 a) i.toNatClampNeg x)))) = ow_W ids ad (u.1, u.2.1, u.2.2.1, ow_ul u.2.2.2.1 a i.toNatClampNeg x, u.2.2.2.2) := by
    rw [← ow_set (ids := ids) (ad := ad) (u := u) (u' := (u.1, u.2.1, u.2.2.1, ow_ul u.2.2.2.1 a i.toNatClampNeg x, u.2.2.2.2)) (c := a) rfl ha (fun b hb => ow_E_congr rfl rfl (ow_ul_ne hb)), ow_E_3 hk]
    simp only [ow_ul_eq]
  rw [ew] at hP hD
  exact kk _ _ _ _ _ _ _ _ _ _ _ _ _ _ _ _ _ _ _ _ _ _ X (P.moved rfl rfl hP hD hS (P.wf.lo ha)) h ⟨hv.1, hv.2.t.t.t⟩
theorem aw_sld {n x : Nat} {xs : Nat → Int32} {i : Int32} (hs : sc = some (n, xs)) (hdg : decode Y.2.1 pc = .ok (.iaload, 1)) (hi : vp_in i n) (kk : AW l Y sc d Q (pc + 1) L (.int (xs i.toNatClampNeg) :: S) u) : AW l Y sc d Q pc L (.int i :: .retAddr x :: S) u := by
  intro p e R s m args below meth c n0 b0 ad0 sb ids D A H locs cells slots ad ls X P h hv
  obtain ⟨x1, x2, x3⟩ := X.script n xs hs
  exact va_sld X.exec X.bytes x1 x2 x3 P.2.2.1 hi hdg (kk _ _ _ _ _ _ _ _ _ _ _ _ _ _ _ _ _ _ _ _ _ _ X P h ⟨hv.1, hv.2.t.t.i⟩)
theorem aw_slen {n x : Nat} {xs : Nat → Int32} (hs : sc = some (n, xs)) (hdg : decode Y.2.1 pc = .ok (.arraylength, 1)) (kk : AW l Y sc d Q (pc + 1) L (.int (nI n) :: S) u) : AW l Y sc d Q pc L (.retAddr x :: S) u := by
  intro p e R s m args below meth c n0 b0 ad0 sb ids D A H locs cells slots ad ls X P h hv
  obtain ⟨x1, x2, x3⟩ := X.script n xs hs
  exact va_slen X.exec X.bytes x1 x2 x3 P.2.2.1 hdg (kk _ _ _ _ _ _ _ _ _ _ _ _ _ _ _ _ _ _ _ _ _ _ X P h ⟨hv.1, hv.2.t.i⟩)
end OwHeap
