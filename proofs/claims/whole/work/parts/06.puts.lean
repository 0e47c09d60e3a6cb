/-- the entry 'index' of the class own names the field k (of type ty, final or not) of the class number ci, which may be written -/
def ow_Fw (own : String) (index ci k : Nat) (fin : Bool) (ty : FieldType) : Prop := ∃ (C : String) (T : u_T) (ty0 : Nat → FieldType), ow_cl[ci]? = some (C, T, ow_nf ci) ∧ k < ow_nf ci ∧ (∀ w ∈ u_ws C T (ow_nf ci), w ∈ ow_ws) ∧ Cond.fieldLink own index (T k).1 (T k).2.1 (T k).2.2.1 ∈ ow_ws ∧
  (∀ k, k < ow_nf ci → parseFieldDescriptor (T k).2.2.1 = some (ty0 k)) ∧ (∀ a, a < ow_nf ci → ∀ b, b < ow_nf ci → a ≠ b → (T a).2.1 ≠ (T b).2.1) ∧ (T k).2.2.2 = fin ∧ (fin = true → (T k).1 = own) ∧ parseFieldDescriptor (T k).2.2.1 = some ty
section OwPuts
variable {l : Launch} {Y : ow_Y} {sc : Option (Nat × (Nat → Int32))} {d : Nat × Nat} {Q : ow_R → ow_M → Prop} {pc : Nat} {L : List (Option Value)} {S : List Value} {u : ow_M}
theorem ow_puti_W {ids : Nat → ClassId} {ad : Nat → Nat} {a ci k : Nat} {x : Int32} (ha : a < u.1) (hk : ow_kd a = (0, ci)) (hr : ow_isr ci k = false) :
    (ow_W ids ad u).set a (ad a, .inr (ci, ((List.range (ow_nf ci)).map (ow_sv ad u a ci)).set k (.int x))) = ow_W ids ad (u.1, u.2.1, ow_u u.2.2.1 a k x, u.2.2.2.1, u.2.2.2.2) := by
  rw [← ow_set (ids := ids) (ad := ad) (u := u) (u' := (u.1, u.2.1, ow_u u.2.2.1 a k x, u.2.2.2.1, u.2.2.2.2)) (c := a) rfl ha (fun b hb => ow_E_congr rfl (ow_u_ne hb) rfl), ow_E_0 hk]
  congr 3
  rw [ow_fset (u' := (u.1, u.2.1, ow_u u.2.2.1 a k x, u.2.2.2.1, u.2.2.2.2))]
  · simp [ow_sv, hr, ow_u_eq, upd]
  · intro j hj
    simp [ow_sv, ow_u_eq, upd, hj]
theorem ow_putr_W {ids : Nat → ClassId} {ad : Nat → Nat} {a ci k t : Nat} (ha : a < u.1) (hk : ow_kd a = (0, ci)) (hr : ow_isr ci k = true) :
    (ow_W ids ad u).set a (ad a, .inr (ci, ((List.range (ow_nf ci)).map (ow_sv ad u a ci)).set k (.ref (ad t)))) = ow_W ids ad (u.1, ow_ur u.2.1 a k (some t), u.2.2.1, u.2.2.2.1, u.2.2.2.2) := by
  rw [← ow_set (ids := ids) (ad := ad) (u := u) (u' := (u.1, ow_ur u.2.1 a k (some t), u.2.2.1, u.2.2.2.1, u.2.2.2.2)) (c := a) rfl ha (fun b hb => ow_E_congr (ow_ur_ne hb) rfl rfl), ow_E_0 hk]
  congr 3
  rw [ow_fset (u' := (u.1, ow_ur u.2.1 a k (some t), u.2.2.1, u.2.2.2.1, u.2.2.2.2))]
  · simp [ow_sv, hr, ow_ur_eq, va_up, va_rf]
  · intro j hj
    simp [ow_sv, ow_ur_eq, va_up, hj]
theorem aw_puti {index ci k a : Nat} {x : Int32} {ty : FieldType} (hF : ow_Fw Y.1.cls index ci k false ty) (hdg : decode Y.2.1 pc = .ok (.putfield index, 3)) (ha : a < u.1) (hk : ow_kd a = (0, ci)) (hr : ow_isr ci k = false) (hn : narrow ty (.int x) = .int x) (hf : fits ty (.int x) = true)
    (kk : AW l Y sc d Q (pc + 3) L S (u.1, u.2.1, ow_u u.2.2.1 a k x, u.2.2.2.1, u.2.2.2.2)) : AW l Y sc d Q pc L (.int x :: .ref a :: S) u := by
  intro p e R s m args below meth c n0 b0 ad0 sb ids D A H locs cells slots ad ls X P h hv
  obtain ⟨C, T, ty0, f1, f2, f3, f4, f5, f6, f7, f8, f9⟩ := hF
  have he := ow_at (ids := ids) (ad := ad) ha
  rw [ow_E_0 hk] at he
  refine va_put (v := .int x) X.exec X.bytes X.ts f3 ty0 f5 f6 X.own X.K P.1 P.2.1 P.2.2.1 a he f1 k f2 (X.ts _ f4) (fun x h9 => h9) f7 f9 hn hf (by simpa using f2) hdg (fun H1 locs1 hP hD hS => ?_)
  rw [ow_puti_W ha hk hr] at hP hD
  exact kk _ _ _ _ _ _ _ _ _ _ _ _ _ _ _ _ _ _ _ _ _ _ X (P.moved rfl rfl hP hD hS (P.wf.i ha)) h ⟨hv.1, hv.2.t.t⟩
theorem aw_putr {index ci k a t : Nat} {ty : FieldType} (hF : ow_Fw Y.1.cls index ci k true ty) (hin : Y.1.name = "<init>") (hdg : decode Y.2.1 pc = .ok (.putfield index, 3)) (ha : a < u.1) (hk : ow_kd a = (0, ci)) (hr : ow_isr ci k = true) (hn : ∀ x, narrow ty (.ref x) = .ref x) (hf : ∀ x, fits ty (.ref x) = true)
    (kk : AW l Y sc d Q (pc + 3) L S (u.1, ow_ur u.2.1 a k (some t), u.2.2.1, u.2.2.2.1, u.2.2.2.2)) : AW l Y sc d Q pc L (.ref t :: .ref a :: S) u := by
  intro p e R s m args below meth c n0 b0 ad0 sb ids D A H locs cells slots ad ls X P h hv
  obtain ⟨C, T, ty0, f1, f2, f3, f4, f5, f6, f7, f8, f9⟩ := hF
  have he := ow_at (ids := ids) (ad := ad) ha
  rw [ow_E_0 hk] at he
  refine va_putF (v := .ref (ad t)) X.exec X.bytes X.ts f3 ty0 f5 f6 X.own X.K P.1 P.2.1 P.2.2.1 a he f1 k f2 (X.ts _ f4) (fun x h9 => h9) f7 (X.name.trans hin) (f8 rfl) f9 (hn _) (hf _) (by simpa using f2) hdg (fun H1 locs1 hP hD hS => ?_)
  rw [ow_putr_W ha hk hr] at hP hD
  exact kk _ _ _ _ _ _ _ _ _ _ _ _ _ _ _ _ _ _ _ _ _ _ X (P.moved rfl rfl hP hD hS (P.wf.r ha (hv.2 t List.mem_cons_self))) h ⟨hv.1, hv.2.t.t⟩
end OwPuts
