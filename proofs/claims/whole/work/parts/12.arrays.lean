/-! arrays of arrays, copies of arrays -/
def ow_cp (f : Nat → Nat → Int32) (a0 a N : Nat) : Nat → Nat → Int32 := fun x => if x = a then va_cpy (f a0) (f a) 0 0 N else f x
theorem ow_cp_ne {f : Nat → Nat → Int32} {a0 a N x : Nat} (h : x ≠ a) : ow_cp f a0 a N x = f x := by simp [ow_cp, h]
theorem ow_cp_eq {f : Nat → Nat → Int32} {a0 a N : Nat} : ow_cp f a0 a N a = va_cpy (f a0) (f a) 0 0 N := by simp [ow_cp]
/-- the references of a new array of N rows -/
def ow_um (f : Nat → Nat → Option Nat) (c N : Nat) : Nat → Nat → Option Nat := fun x j => if x = c then (if j < N then some (c + 1 + j) else none) else f x j
def ow_am (ad : Nat → Nat) (c N q : Nat) (r : Nat → Nat) : Nat → Nat := fun x => if x = c then q else if c < x ∧ x < c + 1 + N then r (x - (c + 1)) else ad x
section OwArr
variable {l : Launch} {Y : ow_Y} {sc : Option (Nat × (Nat → Int32))} {d : Nat × Nat} {Q : ow_R → ow_M → Prop} {pc : Nat} {L : List (Option Value)} {S : List Value} {u : ow_M}
theorem aw_copy {index a a0 n n0' N : Nat} (h1 : Cond.methodLink Y.1.cls index arraycopyName ∈ ow_ws) (h2 : Cond.native arraycopyName ∈ ow_ws) (h3 : Cond.static arraycopyName ∈ ow_ws) (h4 : Cond.initialized "java/lang/System" ∈ ow_ws) (hdg : decode Y.2.1 pc = .ok (.invokestatic index, 3))
    (ha : a < u.1) (ha0 : a0 < u.1) (hk : ow_kd a = (1, n)) (hk0 : ow_kd a0 = (1, n0')) (hN : N ≤ n) (hN0 : N ≤ n0') (hlt : N < 2 ^ 31) (hd : 1 ≤ d.1 ∧ (S.map fun v => v.category).sum + (nativeFrameWords "java/lang/System" "arraycopy" 5 + 11) ≤ d.2)
    (kk : AW l Y sc d Q (pc + 3) L S (u.1, u.2.1, ow_cp u.2.2.1 a0 a N, u.2.2.2.1, u.2.2.2.2)) : AW l Y sc d Q pc L (.int (nI N) :: .int 0 :: .ref a :: .int 0 :: .ref a0 :: S) u := by
  intro p e R s m args below meth c n0 b0 ad0 sb ids D A H locs cells slots ad ls X P h hv
  obtain ⟨rf, rl, rc, rs⟩ := X.room
  have he := ow_at (ids := ids) (ad := ad) ha
  rw [ow_E_1 hk] at he
  have he0 := ow_at (ids := ids) (ad := ad) ha0
  rw [ow_E_1 hk0] at he0
  have hz : (0 : Int32).toNatClampNeg = 0 := rfl
  have hc : (nI N).toNatClampNeg = N := nI_clamp hlt
  have hwt := ow_weigh (m := m) (pc := pc) (sb := sb) (ls := ls) (ad := ad) hd.2
  refine va_copyi (ty := .int) X.exec X.bytes (by rw [X.maxL]; exact h.1.1.symm) X.own (X.ts _ h1) (X.ts _ h2) (X.ts _ h3) (X.ts _ h4) X.K P.1 P.2.1 P.2.2.1 a0 a 0 0 he0 he rfl rfl rfl (by decide) (by decide) (nI_pos hlt) (by rw [hz, hc]; omega) (by rw [hz, hc]; omega) (fun i _ => rfl) (by omega) (Nat.le_trans (Nat.le_trans (Nat.le_of_eq (by show _ = 2 * 0 + _ + _; rw [Nat.mul_zero, Nat.zero_add])) hwt) rl) hdg (fun H1 locs1 hP hD hS => ?_)
  rw [hz, hc] at hP hD
  have ew : (ow_W ids ad u).set a (ad a, .inl (ids 0, n, .inl (va_cpy (u.2.2.1 a0) (u.2.2.1 a) 0 0 N))) = ow_W ids ad (u.1, u.2.1, ow_cp u.2.2.1 a0 a N, u.2.2.2.1, u.2.2.2.2) := by
    rw [← ow_set (ids := ids) (ad := ad) (u := u) (u' := (u.1, u.2.1, ow_cp u.2.2.1 a0 a N, u.2.2.2.1, u.2.2.2.2)) (c := a) rfl ha (fun b hb => ow_E_congr rfl (ow_cp_ne hb) rfl), ow_E_1 hk]
    simp only [ow_cp_eq]
  rw [ew] at hP hD
  have hw : ow_wf (u.1, u.2.1, ow_cp u.2.2.1 a0 a N, u.2.2.2.1, u.2.2.2.2) :=
    ⟨P.wf.1, fun c hc => ⟨(P.wf.2 c hc).1, fun j => by show ow_cp u.2.2.1 a0 a N c j = 0; rw [ow_cp_ne (by have : u.1 ≤ c := hc; omega)]; exact (P.wf.2 c hc).2.1 j, (P.wf.2 c hc).2.2⟩⟩
  exact kk _ _ _ _ _ _ _ _ _ _ _ _ _ _ _ _ _ _ _ _ _ _ X (P.moved rfl rfl hP hD hS hw) h ⟨hv.1, hv.2.t.t.t.t.t⟩
theorem ow_W_rows {ids : Nat → ClassId} {ad : Nat → Nat} {N K q b : Nat} {r : Nat → Nat} (hw : ow_wf u) (hk : ow_kd u.1 = (4, N)) (hr : ∀ i, i < N → ow_kd (u.1 + 1 + i) = (1, K)) (f : Nat → va_E) (hrr : ∀ i j : Nat, i < N → j < N → r i = r j → i = j) :
    (ow_W ids ad u ++ [(q, .inl (ids 3, N, .inr (.inr (.inr (.inr (fun i => if i < N then some (r i) else none))))))]) ++ va_pl ([] ++ (List.range N).map r) (vr_up f ((List.range N).map r) (.inl (ids 0, K, .inl (fun _ => 0)))) =
      ow_W ids (ow_am ad u.1 N q r) (u.1 + 1 + N, ow_um u.2.1 u.1 N, u.2.2.1, u.2.2.2.1, b) := by
  apply List.ext_getElem?
  intro k
  by_cases h1 : k < u.1
  · rw [List.getElem?_append_left (by rw [List.length_append, ow_len]; omega), List.getElem?_append_left (by rw [ow_len]; exact h1), ow_at h1, ow_at (by show k < u.1 + 1 + N; omega)]
    have hne : k ≠ u.1 := by omega
    have e0 : ow_am ad u.1 N q r k = ad k := by simp [ow_am, hne, show ¬ (u.1 < k ∧ k < u.1 + 1 + N) by omega]
    rw [e0]
    have er : ∀ j, (ow_um u.2.1 u.1 N k j).map (ow_am ad u.1 N q r) = (u.2.1 k j).map ad := by
      intro j
      have e1 : ow_um u.2.1 u.1 N k j = u.2.1 k j := by simp [ow_um, hne]
      rw [e1]
      cases ht : u.2.1 k j with
      | none => rfl
      | some t =>
        have hlt : t < u.1 := hw.1 k j t ht
        simp [ow_am, show t ≠ u.1 by omega, show ¬ (u.1 < t ∧ t < u.1 + 1 + N) by omega]
    have es : ∀ ci, ow_sv (ow_am ad u.1 N q r) (u.1 + 1 + N, ow_um u.2.1 u.1 N, u.2.2.1, u.2.2.2.1, b) k ci = ow_sv ad u k ci := by
      intro ci
      funext j
      simp only [ow_sv, er]
    have ef : (fun j => (ow_um u.2.1 u.1 N k j).map (ow_am ad u.1 N q r)) = fun j => (u.2.1 k j).map ad := funext er
    congr 2
    simp only [ow_E, es, ef]
  · by_cases h2 : k = u.1
    · subst h2
      rw [List.getElem?_append_left (by rw [List.length_append, ow_len]; simp), List.getElem?_append_right (by rw [ow_len]; exact Nat.le_refl _), ow_len, Nat.sub_self, List.getElem?_cons_zero, ow_at (by show u.1 < u.1 + 1 + N; omega), ow_E_4 hk]
      have e0 : ow_am ad u.1 N q r u.1 = q := by simp [ow_am]
      rw [e0]
      congr 9
      funext j
      show _ = Option.map (ow_am ad u.1 N q r) (ow_um u.2.1 u.1 N u.1 j)
      by_cases hj : j < N
      · simp [ow_um, ow_am, hj, show ¬ (u.1 + 1 + j = u.1) by omega, show u.1 < u.1 + 1 + j ∧ u.1 + 1 + j < u.1 + 1 + N by omega]
      · simp [ow_um, hj]
    · by_cases h3 : k < u.1 + 1 + N
      · obtain ⟨i, rfl⟩ : ∃ i, k = u.1 + 1 + i := ⟨k - (u.1 + 1), by omega⟩
        have hi : i < N := by omega
        rw [List.getElem?_append_right (by rw [List.length_append, ow_len]; simp), List.length_append, ow_len, ow_at (by show u.1 + 1 + i < u.1 + 1 + N; omega), ow_E_1 (hr i hi)]
        have e0 : ow_am ad u.1 N q r (u.1 + 1 + i) = r i := by
          simp [ow_am, show ¬ (u.1 + 1 + i = u.1) by omega, show u.1 < u.1 + 1 + i ∧ u.1 + 1 + i < u.1 + 1 + N by omega]
        have ez : u.2.2.1 (u.1 + 1 + i) = fun _ => 0 := funext ((hw.2 (u.1 + 1 + i) (by omega)).2.1)
        rw [e0]
        show _ = some (r i, Sum.inl (ids 0, K, Sum.inl (u.2.2.1 (u.1 + 1 + i))))
        rw [ez]
        have em : (u.1 + 1 + i) - (u.1 + [((q, Sum.inl (ids 3, N, Sum.inr (Sum.inr (Sum.inr (Sum.inr (fun i => if i < N then some (r i) else none)))))) : Nat × va_E)].length) = i := by simp
        rw [em]
        simp only [va_pl, List.nil_append, List.map_map]
        rw [List.getElem?_map, List.getElem?_range hi]
        show some (r i, vr_up f ((List.range N).map r) _ (r i)) = _
        rw [vr_up_in (List.mem_map.mpr ⟨i, List.mem_range.mpr hi, rfl⟩)]
      · rw [List.getElem?_eq_none (by simp [ow_len, va_pl]; omega), List.getElem?_eq_none (by rw [ow_len]; show u.1 + 1 + N ≤ k; omega)]
theorem aw_rows {index N K b k : Nat} (hcl : Cond.classLink Y.1.cls index "[[I" ∈ ow_ws) (harr : Cond.arrayClass .int ∈ ow_ws) (hdg : decode Y.2.1 pc = .ok (.multianewarray index 2, 4)) (hk : ow_kd u.1 = (4, N)) (hr : ∀ i, i < N → ow_kd (u.1 + 1 + i) = (1, K)) (hN : N ≤ 100) (hK : K ≤ 100)
    (hb : u.2.2.2.2 = b + k) (h1 : 1 + N ≤ 8 * k) (h2 : N + N * K ≤ 128 * k) (kk : AW l Y sc d Q (pc + 4) L (.ref u.1 :: S) (u.1 + 1 + N, ow_um u.2.1 u.1 N, u.2.2.1, u.2.2.2.1, b)) : AW l Y sc d Q pc L (.int (nI K) :: .int (nI N) :: S) u := by
  intro p e R s m args below meth c n0 b0 ad0 sb ids D A H locs cells slots ad ls X P h hv
  obtain ⟨rf, rl, rc, rs⟩ := X.room
  obtain ⟨p1, p2, p3, p4, p5, p6, p7, p8⟩ := P
  rw [hb] at p4 p5
  have hNK : N * K ≤ 100 * 100 := Nat.mul_le_mul hN hK
  have hf0 : ow_W ids ad u ++ va_pl [] (fun _ => .inr (0, [])) = ow_W ids ad u := by simp [va_pl]
  refine va_mna (X := ow_W ids ad u) (L := []) (f := fun _ => .inr (0, [])) (ty := .int) (cy := ids 0) (z := (K, .inl (fun _ => 0))) X.exec X.bytes X.own (X.ts _ hcl) X.given.2.2.2.1 (X.ts _ harr) ((X.K.2 0 (ids 0, .int) rfl).2) X.K (by rw [hf0]; exact p1) (by rw [hf0]; exact p2) p3 X.new (nI_pos (by omega)) (nI_pos (by omega)) (nI_clamp (by omega)) (nI_clamp (by omega)) (by omega) (by show K * 4 ≤ _; omega) (by omega) rfl rfl (by omega) (by omega) (fun c => ?_) hdg (fun q r cA H1 hrr _ hK1 hP hD hS => ?_)
  · show ({ cls := c, slots := Array.replicate K (.int 0), vm := .none } : Cell) = _
    rw [arrV_new]; rfl
  · have hcA : cA = ids 3 := by
      have g1 := (hK1.2 4 (cA, .array .int) rfl).2
      have g2 := (X.K.2 3 (ids 3, .array .int) rfl).2
      exact Option.some.inj (g1.symm.trans g2)
    subst hcA
    rw [ow_W_rows (b := b) p7 hk hr _ hrr] at hP hD
    have had : ∀ c, c < u.1 → ow_am ad u.1 N q r c = ad c := fun c hc => by simp [ow_am, show c ≠ u.1 by omega, show ¬ (u.1 < c ∧ c < u.1 + 1 + N) by omega]
    have hw' : ow_wf (u.1 + 1 + N, ow_um u.2.1 u.1 N, u.2.2.1, u.2.2.2.1, b) := by
      refine ⟨fun c j t ht => ?_, fun c hc => ⟨fun j => ?_, (p7.2 c (by have : u.1 + 1 + N ≤ c := hc; omega)).2⟩⟩
      · by_cases hcu : c = u.1
        · subst hcu
          by_cases hj : j < N
          · have : some (u.1 + 1 + j) = some t := by simpa [ow_um, hj] using ht
            cases this
            show u.1 + 1 + j < u.1 + 1 + N
            omega
          · simp [ow_um, hj] at ht
        · have : u.2.1 c j = some t := by simpa [ow_um, hcu] using ht
          have := p7.1 c j t this
          show t < u.1 + 1 + N
          omega
      · have hc' : u.1 + 1 + N ≤ c := hc
        show ow_um u.2.1 u.1 N c j = none
        simp [ow_um, show c ≠ u.1 by omega, (p7.2 c (by omega)).1 j]
    have hw2 := kk p e R s m args below meth c n0 b0 ad0 sb ids D A H1 locs (cells + 1 + N) (slots + N + N * K) (ow_am ad u.1 N q r) ls X ⟨hP, hD, hS, by show cells + 1 + N + 8 * b ≤ _; omega, by show slots + N + N * K + 128 * b ≤ _; omega, by show n0 ≤ u.1 + 1 + N; omega, hw', fun c hc => (had c (by omega)).trans (p8 c hc)⟩
      (h.re (n := u.1) had hv.1) ⟨hv.1.up (by show u.1 ≤ u.1 + 1 + N; omega), (hv.2.t.t.up (by show u.1 ≤ u.1 + 1 + N; omega)).r (by show u.1 < u.1 + 1 + N; omega)⟩
    rw [List.map_cons, ow_cv_map (n := u.1) had hv.2.t.t] at hw2
    have e1 : ow_cv sb (ow_am ad u.1 N q r) (.ref u.1) = .ref q := by show Value.ref (ow_am ad u.1 N q r u.1) = _; simp [ow_am]
    rw [e1] at hw2
    exact hw2
end OwArr
