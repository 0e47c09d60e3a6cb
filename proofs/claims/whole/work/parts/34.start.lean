/-! the start, and the claim out of the invariant -/
theorem lgl0 : (fun _ _ => 0 : Nat → Nat → Int64) = ow_lF 0 := by
  funext c j
  by_cases h : c = 69
  · subst h; by_cases hj : j = 0 <;> simp [ow_lF, vp_updL, hj]
  · simp [ow_lF, h]
theorem ur_big {R : Nat → Nat → Option Nat} {a k c j : Nat} {v : Option Nat} (h : 27 ≤ j) (hk : k < 27) : ow_ur R a k v c j = R c j := by
  unfold ow_ur
  split
  · have : j ≠ k := by omega
    simp [va_up, this]
  · rfl
theorem um_big {R : Nat → Nat → Option Nat} {a N c j : Nat} (h : 27 ≤ j) (hN : N ≤ 5) (hR : R c j = none) : ow_um R a N c j = none := by
  unfold ow_um
  split
  · rw [if_neg (by omega)]
  · exact hR
theorem ur_far {R : Nat → Nat → Option Nat} {a k c j : Nat} {v : Option Nat} (h : 70 ≤ c) (ha : a < 70) : ow_ur R a k v c j = R c j := by
  rw [ow_ur_ne (by omega)]
theorem um_far {R : Nat → Nat → Option Nat} {a N c j : Nat} (h : 70 ≤ c) (ha : a < 70) : ow_um R a N c j = R c j := by
  unfold ow_um; rw [if_neg (by omega)]
theorem ite_n {p : Prop} [Decidable p] {a b : Option Nat} (h1 : p → a = none) (h2 : ¬ p → b = none) : (if p then a else b) = none := by
  by_cases h : p
  · rw [if_pos h]; exact h1 h
  · rw [if_neg h]; exact h2 h
theorem rF_big {c j : Nat} (h : 27 ≤ j) : ow_rF c j = none := by
  have hl : ([none, none, some 49, none, some 50, some 51, some 52, some 53, none, none, some 54, some 55, some 56, some 57, some 58, some 59, none, some 60, some 61, some 62, none, some 63, some 64, some 65, some 66, some 67, some 68] : List (Option Nat))[j]? = none := List.getElem?_eq_none (by simp; omega)
  unfold ow_rF
  rw [hl]
  repeat' refine ite_n (fun _ => ?_) (fun _ => ?_)
  all_goals first | rfl | omega
theorem rF_far {c j : Nat} (h : 70 ≤ c) : ow_rF c j = none := by
  unfold ow_rF
  repeat rw [if_neg (by omega)]
theorem rF_small : ∀ c, c < 70 → ∀ j, j < 27 → mR0 (oR0 (fun _ _ => none)) c j = ow_rF c j := by decide +kernel
theorem rF_eq : mR0 (oR0 (fun _ _ => none)) = ow_rF := by
  funext c j
  by_cases hc : c < 70
  · by_cases hj : j < 27
    · exact rF_small c hc j hj
    · rw [rF_big (by omega)]
      unfold mR0 oR0 bR26 bR7
      repeat first | rfl | rw [ur_big (by omega) (by decide)] | refine um_big (by omega) (by decide) ?_
  · rw [rF_far (by omega)]
    unfold mR0 oR0 bR26 bR7
    repeat first | rfl | rw [ur_far (by omega) (by decide)] | rw [um_far (by omega) (by decide)]
/-- the memory as the law's loop finds it -/
def Mst : Nat → Nat → Int32 := (ow_u (ow_u (ow_u (ow_u (ow_u (ow_u (ow_u (ow_u (ow_u (ow_u (mF (ow_u (ow_u (ow_u (oM0 (fun _ _ => 0)) 48 9 1) 48 16 (-1)) 48 20 1) 120) 48 16 (-1)) 60 0 (-1)) 60 1 (-1)) 60 2 (-1)) 60 3 (-1)) 61 0 (-1)) 61 1 (-1)) 61 2 (-1)) 61 3 (-1)) 61 4 (-1))
theorem law_ent {l : Launch} {Q : ow_R → ow_M → Prop} {L : Nat} {xs : Nat → Int32} {JJ : Nat → (Nat → Nat → Int32) → Prop} (hrun : LH l Q L xs JJ 0) (h0 : JJ 0 Mst) : AW l Y_W (some (L, xs)) (13, 494) Q 0 [some (.retAddr 0), none, none, none, none, none, none] [] (0, fun _ _ => none, fun _ _ => 0, fun _ _ => 0, 556) := by
  refine gu_new nw_L_8 d_W_0 rfl (by decide) ?_
  refine aw_dup d_W_3 rfl ?_
  refine aw_callI (vs := []) (d' := (2, 28)) d_W_4 lk_L_69 cd_R_init rfl (Nat.le_of_ble_eq_true rfl) rfl ⟨Nat.le_of_ble_eq_true rfl, Nat.le_of_ble_eq_true rfl⟩ (fun _ h => nomatch h) ?_
  refine t_R_init (b := 534) ?_
  refine ow_next_v ?_
  refine aw_astore_n d_W_7 (by decide) ?_
  refine gu_new nw_L_70 d_W_8 rfl (by decide) ?_
  refine aw_dup d_W_11 rfl ?_
  refine aw_callI (vs := []) (d' := (1, 13)) d_W_12 lk_L_72 cd_M_init rfl (Nat.le_of_ble_eq_true rfl) rfl ⟨Nat.le_of_ble_eq_true rfl, Nat.le_of_ble_eq_true rfl⟩ (fun _ h => nomatch h) ?_
  refine t_M_init (b := 513) ?_
  refine ow_next_v ?_
  refine aw_astore_n d_W_15 (by decide) ?_
  refine aw_iconst (v := 1) d_W_16 (by decide) ?_
  refine gu_newl (N := 1) (b := 512) rfl ar_long d_W_17 rfl (by decide) ?_
  refine aw_astore_n d_W_19 (by decide) ?_
  refine aw_iconst (v := 0) d_W_20 (by decide) ?_
  refine aw_istore d_W_21 (by decide) ?_
  have h : AW l Y_W (some (L, xs)) (13, 494) Q 23 [some (.retAddr 0), some (.ref 0), some (.ref 48), some (.ref 69), some (.int (nI (5 * 0))), none, none] [] (70, ow_rF, Mst, ow_lF 0, 512) := hrun Mst 0 512 h0 (by omega) none none
  rw [← rF_eq, ← lgl0] at h
  exact h

def R_law : String := "OwnerRingsLaw"
def lw_P (b : Addr) (xs : List Int32) (args : Array Value) (s : State) : Prop := args = #[.ref b] ∧ s.IntsAt b xs ∧ xs.length ≤ 2560 ∧ (Jvm.Cond.and given_1 narrow_1).before args s = true
def lw_Q (_ : Array Value) (s : State) (o : Outcome) (t : State) : Prop := o = .returned (some (.int 1)) ∧ Framed s o t [] 601024 7293034
theorem st_of {s : State} {b : Nat} {own tx : String} {k : Nat} (hts : ∀ w ∈ lw_tbl, w.before #[Value.ref b] s = true) (hfl : ∀ w ∈ flatC (Jvm.Cond.and given_1 narrow_1), w.before #[Value.ref b] s = true) (h1 : Cond.stringRef own k tx ∈ lw_tbl) (h2 : Cond.exactly (.string own k) "java/lang/String" ∈ flatC (Jvm.Cond.and given_1 narrow_1)) : ∃ a, vk_R own k tx a s := by
  obtain ⟨a, -, -, -, h3, -⟩ := Cond.exactly_spec (hfl _ h2)
  exact ⟨a, vk_R.of (hts _ h1) h3⟩
theorem st_0 {s : State} {b : Nat} (hts : ∀ w ∈ lw_tbl, w.before #[Value.ref b] s = true) (hfl : ∀ w ∈ flatC (Jvm.Cond.and given_1 narrow_1), w.before #[Value.ref b] s = true) : ∀ q ∈ ([("OwnerRings", 39, "a type has 1 to 3 fields"), ("OwnerRings", 50, "no more types can be declared"), ("OwnerRings", 61, "a set needs two types"), ("OwnerRings", 67, "no such order or class"), ("OwnerRings", 72, "no more sets can be declared"), ("OwnerRings", 78, "no such type"), ("OwnerRings", 88, "there are 24 records")] : List (String × Nat × String)), ∃ a, vk_R q.1 q.2.1 q.2.2 a s := List.forall_mem_cons.mpr ⟨st_of hts hfl (List.mem_append_right _ (List.mem_append_left _ (List.mem_of_getElem? (i := 201) rfl))) (by decide +kernel), List.forall_mem_cons.mpr ⟨st_of hts hfl (List.mem_append_right _ (List.mem_append_left _ (List.mem_of_getElem? (i := 237) rfl))) (by decide +kernel), List.forall_mem_cons.mpr ⟨st_of hts hfl (List.mem_append_right _ (List.mem_append_right _ (List.mem_append_left _ (List.mem_of_getElem? (i := 19) rfl)))) (by decide +kernel), List.forall_mem_cons.mpr ⟨st_of hts hfl (List.mem_append_right _ (List.mem_append_right _ (List.mem_append_left _ (List.mem_of_getElem? (i := 29) rfl)))) (by decide +kernel), List.forall_mem_cons.mpr ⟨st_of hts hfl (List.mem_append_right _ (List.mem_append_right _ (List.mem_append_left _ (List.mem_of_getElem? (i := 30) rfl)))) (by decide +kernel), List.forall_mem_cons.mpr ⟨st_of hts hfl (List.mem_append_right _ (List.mem_append_right _ (List.mem_append_left _ (List.mem_of_getElem? (i := 43) rfl)))) (by decide +kernel), List.forall_mem_cons.mpr ⟨st_of hts hfl (List.mem_append_right _ (List.mem_append_right _ (List.mem_append_left _ (List.mem_of_getElem? (i := 80) rfl)))) (by decide +kernel), fun _ h => absurd h List.not_mem_nil⟩⟩⟩⟩⟩⟩⟩
theorem st_1 {s : State} {b : Nat} (hts : ∀ w ∈ lw_tbl, w.before #[Value.ref b] s = true) (hfl : ∀ w ∈ flatC (Jvm.Cond.and given_1 narrow_1), w.before #[Value.ref b] s = true) : ∀ q ∈ ([("OwnerRings", 124, "no such type or field"), ("OwnerRings", 136, "no such way to move"), ("OwnerRings", 145, "no such field"), ("OwnerRings", 173, "nothing that has a current record"), ("OwnerRings", 196, "it cannot become a member"), ("OwnerRings", 204, "it cannot leave"), ("OwnerRings", 212, "it cannot change its ring")] : List (String × Nat × String)), ∃ a, vk_R q.1 q.2.1 q.2.2 a s := List.forall_mem_cons.mpr ⟨st_of hts hfl (List.mem_append_right _ (List.mem_append_right _ (List.mem_append_left _ (List.mem_of_getElem? (i := 173) rfl)))) (by decide +kernel), List.forall_mem_cons.mpr ⟨st_of hts hfl (List.mem_append_right _ (List.mem_append_right _ (List.mem_append_left _ (List.mem_of_getElem? (i := 199) rfl)))) (by decide +kernel), List.forall_mem_cons.mpr ⟨st_of hts hfl (List.mem_append_right _ (List.mem_append_right _ (List.mem_append_left _ (List.mem_of_getElem? (i := 215) rfl)))) (by decide +kernel), List.forall_mem_cons.mpr ⟨st_of hts hfl (List.mem_append_right _ (List.mem_append_right _ (List.mem_append_left _ (List.mem_of_getElem? (i := 233) rfl)))) (by decide +kernel), List.forall_mem_cons.mpr ⟨st_of hts hfl (List.mem_append_right _ (List.mem_append_right _ (List.mem_append_right _ (List.mem_append_left _ (List.mem_of_getElem? (i := 42) rfl))))) (by decide +kernel), List.forall_mem_cons.mpr ⟨st_of hts hfl (List.mem_append_right _ (List.mem_append_right _ (List.mem_append_right _ (List.mem_append_left _ (List.mem_of_getElem? (i := 54) rfl))))) (by decide +kernel), List.forall_mem_cons.mpr ⟨st_of hts hfl (List.mem_append_right _ (List.mem_append_right _ (List.mem_append_right _ (List.mem_append_left _ (List.mem_of_getElem? (i := 66) rfl))))) (by decide +kernel), fun _ h => absurd h List.not_mem_nil⟩⟩⟩⟩⟩⟩⟩
theorem st_2 {s : State} {b : Nat} (hts : ∀ w ∈ lw_tbl, w.before #[Value.ref b] s = true) (hfl : ∀ w ∈ flatC (Jvm.Cond.and given_1 narrow_1), w.before #[Value.ref b] s = true) : ∀ q ∈ ([("OwnerRings", 214, "no such mode"), ("OwnerRings", 222, "it owns members"), ("OwnerRings", 227, "a bound member would be without a ring"), ("OwnerRings", 256, "no such set"), ("OwnerRings", 263, "no record with this key"), ("OwnerRings", 266, "no record is current of the run"), ("OwnerRings", 268, "the set has no current owner")] : List (String × Nat × String)), ∃ a, vk_R q.1 q.2.1 q.2.2 a s := List.forall_mem_cons.mpr ⟨st_of hts hfl (List.mem_append_right _ (List.mem_append_right _ (List.mem_append_right _ (List.mem_append_left _ (List.mem_of_getElem? (i := 74) rfl))))) (by decide +kernel), List.forall_mem_cons.mpr ⟨st_of hts hfl (List.mem_append_right _ (List.mem_append_right _ (List.mem_append_right _ (List.mem_append_left _ (List.mem_of_getElem? (i := 93) rfl))))) (by decide +kernel), List.forall_mem_cons.mpr ⟨st_of hts hfl (List.mem_append_right _ (List.mem_append_right _ (List.mem_append_right _ (List.mem_append_left _ (List.mem_of_getElem? (i := 98) rfl))))) (by decide +kernel), List.forall_mem_cons.mpr ⟨st_of hts hfl (List.mem_append_right _ (List.mem_append_right _ (List.mem_append_left _ (List.mem_of_getElem? (i := 198) rfl)))) (by decide +kernel), List.forall_mem_cons.mpr ⟨st_of hts hfl (List.mem_append_right _ (List.mem_append_right _ (List.mem_append_left _ (List.mem_of_getElem? (i := 164) rfl)))) (by decide +kernel), List.forall_mem_cons.mpr ⟨st_of hts hfl (List.mem_append_right _ (List.mem_append_right _ (List.mem_append_right _ (List.mem_append_left _ (List.mem_of_getElem? (i := 5) rfl))))) (by decide +kernel), List.forall_mem_cons.mpr ⟨st_of hts hfl (List.mem_append_right _ (List.mem_append_right _ (List.mem_append_left _ (List.mem_of_getElem? (i := 69) rfl)))) (by decide +kernel), fun _ h => absurd h List.not_mem_nil⟩⟩⟩⟩⟩⟩⟩
theorem st_3 {s : State} {b : Nat} (hts : ∀ w ∈ lw_tbl, w.before #[Value.ref b] s = true) (hfl : ∀ w ∈ flatC (Jvm.Cond.and given_1 narrow_1), w.before #[Value.ref b] s = true) : ∀ q ∈ ([("OwnerRings", 289, "the ring has a member with this value"), ("OwnerRings", 294, "no such record")] : List (String × Nat × String)), ∃ a, vk_R q.1 q.2.1 q.2.2 a s := List.forall_mem_cons.mpr ⟨st_of hts hfl (List.mem_append_right _ (List.mem_append_right _ (List.mem_append_left _ (List.mem_of_getElem? (i := 109) rfl)))) (by decide +kernel), List.forall_mem_cons.mpr ⟨st_of hts hfl (List.mem_append_right _ (List.mem_append_right _ (List.mem_append_left _ (List.mem_of_getElem? (i := 182) rfl)))) (by decide +kernel), fun _ h => absurd h List.not_mem_nil⟩⟩
theorem st_all {s : State} {b : Nat} (hts : ∀ w ∈ lw_tbl, w.before #[Value.ref b] s = true) (hfl : ∀ w ∈ flatC (Jvm.Cond.and given_1 narrow_1), w.before #[Value.ref b] s = true) : ∀ q ∈ ow_strs, ∃ a, vk_R q.1 q.2.1 q.2.2 a s := by
  show ∀ q ∈ ([("OwnerRings", 39, "a type has 1 to 3 fields"), ("OwnerRings", 50, "no more types can be declared"), ("OwnerRings", 61, "a set needs two types"), ("OwnerRings", 67, "no such order or class"), ("OwnerRings", 72, "no more sets can be declared"), ("OwnerRings", 78, "no such type"), ("OwnerRings", 88, "there are 24 records")] : List (String × Nat × String)) ++ (([("OwnerRings", 124, "no such type or field"), ("OwnerRings", 136, "no such way to move"), ("OwnerRings", 145, "no such field"), ("OwnerRings", 173, "nothing that has a current record"), ("OwnerRings", 196, "it cannot become a member"), ("OwnerRings", 204, "it cannot leave"), ("OwnerRings", 212, "it cannot change its ring")] : List (String × Nat × String)) ++ (([("OwnerRings", 214, "no such mode"), ("OwnerRings", 222, "it owns members"), ("OwnerRings", 227, "a bound member would be without a ring"), ("OwnerRings", 256, "no such set"), ("OwnerRings", 263, "no record with this key"), ("OwnerRings", 266, "no record is current of the run"), ("OwnerRings", 268, "the set has no current owner")] : List (String × Nat × String)) ++ (([("OwnerRings", 289, "the ring has a member with this value"), ("OwnerRings", 294, "no such record")] : List (String × Nat × String))))), ∃ a, vk_R q.1 q.2.1 q.2.2 a s
  exact List.forall_mem_append.mpr ⟨st_0 hts hfl, List.forall_mem_append.mpr ⟨st_1 hts hfl, List.forall_mem_append.mpr ⟨st_2 hts hfl, st_3 hts hfl⟩⟩⟩
theorem nc_all {s : State} {b : Nat} (hfl : ∀ w ∈ flatC (Jvm.Cond.and given_1 narrow_1), w.before #[Value.ref b] s = true) : ∀ i, i < 3 → ∀ j, j < 3 → i ≠ j → va_Nc (ow_exn i) (ow_exn j) s := by
  intro i hi j hj hij
  rcases (show i = 0 ∨ i = 1 ∨ i = 2 by omega) with rfl | rfl | rfl <;> rcases (show j = 0 ∨ j = 1 ∨ j = 2 by omega) with rfl | rfl | rfl
  · exact absurd rfl hij
  · exact va_Nc.of (hfl _ (by decide +kernel))
  · exact va_Nc.of (hfl _ (by decide +kernel))
  · exact va_Nc.of (hfl _ (by decide +kernel))
  · exact absurd rfl hij
  · exact va_Nc.of (hfl _ (by decide +kernel))
  · exact va_Nc.of (hfl _ (by decide +kernel))
  · exact va_Nc.of (hfl _ (by decide +kernel))
  · exact absurd rfl hij
theorem aoa_spec {s : State} (h : va_AOA .int s) : ∃ c, ArrOfT s c (.array .int) ∧ va_RA s c (.array .int) := by
  unfold va_AOA at h
  simp only [Cond.before, Cond.holds, Cond.value, beq_iff_eq] at h
  cases hc : s.vm.findClass (FieldType.array .int).toString with
  | none => simp [hc] at h
  | some comp =>
    simp only [hc, Option.bind_some, Option.bind_eq_some_iff, Option.map_eq_some_iff] at h
    obtain ⟨c, hi, k, hk, hb⟩ := h
    cases hkind : k.kind with
    | array component ty =>
      rw [hkind] at hb
      simp at hb
      exact ⟨c, fun N z => ⟨(fun k h => by cases h), k, hk, component, by rw [hkind, hb.1]⟩, hb.2⟩
    | _ => rw [hkind] at hb; simp at hb
theorem arr_spec {s : State} {args : Array Value} {ty : FieldType} (hp : ∀ C, ty ≠ .object C) (h : (Cond.arrayClass ty).before args s = true) : ∃ c, ArrOfT s c ty ∧ va_RA s c ty := by
  obtain ⟨c, k, comp, h1, h2, h3⟩ := Cond.arrayClass_spec h
  refine ⟨c, fun N z => ⟨(fun k h => by cases h), k, h2, comp, h3⟩, ?_⟩
  cases ty with
  | object C => exact absurd rfl (hp C)
  | _ => exact h1

set_option maxHeartbeats 4000000 in
theorem lw_walkJ {JJ : Nat → (Nat → Nat → Int32) → Prop} (H_type : HX_type JJ) (H_set : HX_set JJ) (H_store : HX_store JJ) (H_find : HX_find JJ) (H_seek : HX_seek JJ) (H_move : HX_move JJ) (H_scan : HX_scan JJ) (H_current : HX_current JJ) (H_get : HX_get JJ) (H_modify : HX_modify JJ) (H_connect : HX_connect JJ) (H_disconnect : HX_disconnect JJ) (H_reconnect : HX_reconnect JJ) (H_erase : HX_erase JJ) (H_members : HX_members JJ) (H_owner : HX_owner JJ) (H_keep : HX_keep JJ) (H_rollBack : HX_rollBack JJ) (H_count : HX_count JJ) (hN : HX_none JJ) (h0 : JJ 0 Mst) (l : Launch) (hl : l.stackTraces = false) (b : Addr) (xs : List Int32) : MetFree l x (headSpec (Jvm.Cond.code x code maxLocals ret :: tables_1) room_1) (lw_P b xs) (fun _ _ _ _ _ => True) lw_Q := by
  refine MetFree.of_bodyS (code := code) (maxLocals := maxLocals) (ret := ret) (by decide) ?_ ?_
  · intro args s m h hn
    obtain ⟨meth, c, h1, h2, h3, h4, h5, h6, -, -⟩ := Cond.code_spec hn (atoms_spec (ws := Jvm.Cond.code x code maxLocals ret :: tables_1) h _ List.mem_cons_self)
    exact ⟨meth, c, h1, h2, h3, h4, h5, h6⟩
  · intro p e s m args below meth c s₁ B hml0 hP _
    obtain ⟨rfl, hx, hbd, hgv⟩ := hP
    obtain ⟨scr, harrAt, hlist, hof, hsmall⟩ := hx
    obtain ⟨hcb, hkn, -, -⟩ := State.arrayAt?_spec harrAt
    have hown : s.vm.findClass R_law = some m.cls := findClass_of_methodNamed B.named
    have hts0 : ∀ c ∈ (Jvm.Cond.code x code maxLocals ret :: tables_1), c.before #[Value.ref b] s = true := atoms_spec (ws := Jvm.Cond.code x code maxLocals ret :: tables_1) B.pre
    have hts : ∀ w ∈ lw_tbl, w.before #[Value.ref b] s = true := k2_hts_sels lw_privs (fun w hw => hts0 w (List.mem_cons_of_mem _ hw)) lw_privs_ok
    have hml : c.maxLocals = 7 := B.maxLocals_eq (hts0 _ List.mem_cons_self)
    have X₀ : Stand p l e room_1 s m #[Value.ref b] below meth c s₁ [] 0 0 := Stand.of_body B
    have hh0 : s₁.heap = s.heap := by rw [B.state]; rfl
    have hsz : scr.slots.size = xs.length := by rw [← Array.length_toList, hlist, List.length_map]
    have hval : ∀ j : Nat, j < xs.length → scr.slots[j]? = some (.int (xs.getD j 0)) := fun j hj => by
      rw [← Array.getElem?_toList, hlist]
      simp [hj]
    have hbl : b < s.heap.size := (Array.getElem?_eq_some_iff.mp hcb).1
    have hX : va_X b xs.length (fun j => xs.getD j 0) s s.heap := ⟨scr, hcb, hof, hkn, hsz, hval⟩
    have hfl : ∀ w ∈ flatC (Jvm.Cond.and given_1 narrow_1), w.before #[Value.ref b] s = true := flat_of_before _ hgv
    have hws : ∀ w ∈ ow_ws, w.before #[Value.ref b] s = true := fun w hw => hts w (List.mem_filter.mp hw).1
    obtain ⟨meth', c', hm', hc', -, -, -, -, h7, -⟩ := Cond.code_spec B.named (hts0 _ List.mem_cons_self)
    cases B.method.symm.trans hm'
    cases X₀.code.symm.trans hc'
    have hexc : c.exceptionTable = #[] := by simpa using h7
    have hAOA : va_AOA .int s := va_AOA.of (hts _ (List.mem_append_right _ (List.mem_append_left _ (List.mem_of_getElem? (i := 63) rfl))))
    have hnA : ∀ a : Nat, a < s.heap.size → ¬ s.heap.size ≤ a := fun a h => by omega
    have hG : ow_G s (fun q => s.heap.size ≤ q) := by
      refine ⟨fun w hw => ?_, va_Nw.of rfl (hts _ (List.mem_append_right _ (List.mem_append_left _ (List.mem_of_getElem? (i := 24) rfl)))), va_Nw.of rfl (hts _ (List.mem_append_right _ (List.mem_append_right _ (List.mem_append_right _ (List.mem_append_left _ (List.mem_of_getElem? (i := 88) rfl)))))), hAOA, vx_Zqof (hts _ (List.mem_append_right _ (List.mem_append_left _ (List.mem_of_getElem? (i := 187) rfl)))) (hts _ (List.mem_append_right _ (List.mem_append_left _ (List.mem_of_getElem? (i := 6) rfl)))) (hfl _ (by decide +kernel)) hnA, vx_Zqof (hts _ (List.mem_append_right _ (List.mem_append_left _ (List.mem_of_getElem? (i := 189) rfl)))) (hts _ (List.mem_append_right _ (List.mem_append_left _ (List.mem_of_getElem? (i := 6) rfl)))) (hfl _ (by decide +kernel)) hnA, st_all hts hfl, nc_all hfl⟩
      have hf := List.mem_filter.mp hw
      have h2 := hf.2
      rw [Bool.and_eq_true] at h2
      exact va_tabs h2.1 rfl (hts _ hf.1)
    obtain ⟨c0, i0, k0⟩ := u_known hws ow_in0 (hts _ (List.mem_append_right _ (List.mem_append_left _ (List.mem_of_getElem? (i := 15) rfl))))
    obtain ⟨c1, i1, k1⟩ := u_known hws ow_in1 (hts _ (List.mem_append_right _ (List.mem_append_left _ (List.mem_of_getElem? (i := 23) rfl))))
    obtain ⟨c2, i2, k2⟩ := u_known hws ow_in2 (hts _ (List.mem_append_right _ (List.mem_append_left _ (List.mem_of_getElem? (i := 57) rfl))))
    obtain ⟨c3, i3, k3⟩ := u_known hws ow_in3 (hts _ (List.mem_append_right _ (List.mem_append_left _ (List.mem_of_getElem? (i := 93) rfl))))
    obtain ⟨c4, i4, k4⟩ := u_known hws ow_in4 (hts _ (List.mem_append_right _ (List.mem_append_right _ (List.mem_append_right _ (List.mem_append_left _ (List.mem_of_getElem? (i := 132) rfl))))))
    obtain ⟨a0, q0, r0⟩ := arr_spec (ty := .int) (fun _ h => by cases h) (hws _ ar_int)
    obtain ⟨a1, q1, r1⟩ := arr_spec (ty := .boolean) (fun _ h => by cases h) (hws _ ar_boolean)
    obtain ⟨a2, q2, r2⟩ := arr_spec (ty := .long) (fun _ h => by cases h) (hws _ ar_long)
    obtain ⟨a3, q3, r3⟩ := aoa_spec hAOA
    have hK : va_K (fun k => if k = 0 then c0 else if k = 1 then c1 else if k = 2 then c2 else if k = 3 then c3 else c4, fun k => if k = 0 then i0 else if k = 1 then i1 else if k = 2 then i2 else if k = 3 then i3 else i4) ow_cl (ow_tys (fun k => if k = 0 then a0 else if k = 1 then a1 else if k = 2 then a2 else a3)) s := by
      refine ⟨fun k q hq => ?_, fun k q hq => ?_⟩
      · have hk := (List.getElem?_eq_some_iff.mp hq).1
        have hk5 : k < 5 := hk
        rcases (show k = 0 ∨ k = 1 ∨ k = 2 ∨ k = 3 ∨ k = 4 by omega) with rfl | rfl | rfl | rfl | rfl
        · cases hq; exact k0
        · cases hq; exact k1
        · cases hq; exact k2
        · cases hq; exact k3
        · cases hq; exact k4
      · have hk := (List.getElem?_eq_some_iff.mp hq).1
        have hk5 : k < 4 := hk
        rcases (show k = 0 ∨ k = 1 ∨ k = 2 ∨ k = 3 by omega) with rfl | rfl | rfl | rfl
        · cases hq; exact ⟨q0, r0⟩
        · cases hq; exact ⟨q1, r1⟩
        · cases hq; exact ⟨q2, r2⟩
        · cases hq; exact ⟨q3, r3⟩
    obtain ⟨D, ids, hK⟩ : ∃ (D : va_G) (ids : Nat → ClassId), va_K D ow_cl (ow_tys ids) s := ⟨_, _, hK⟩
    have hXX : ow_X Y_W (some (xs.length, fun j => xs.getD j 0)) (13, 494) 556 b ids D (fun q => s.heap.size ≤ q) p room_1 s m #[Value.ref b] meth c :=
      ⟨B.exec, B.bytes, hml, B.returns, B.notSynchronized, hown, (name_of_methodNamed B.named B.method).1, by rw [hexc]; rfl, hws, hK, fun q h => h, ⟨by decide, by decide, by decide, by decide⟩, hG, fun n ys h => by cases h; exact ⟨hX, hbl, hnA b hbl⟩⟩
    have hPP : ow_P 0 556 (fun _ => 0) ids D (fun q => s.heap.size ≤ q) s s.heap [] 0 0 (fun _ => 0) (0, fun _ _ => none, fun _ _ => 0, fun _ _ => 0, 556) :=
      ⟨fun k q hq => by simp [ow_W] at hq, ⟨fun i j p q hp => by simp [ow_W] at hp, fun k q hq => by simp [ow_W] at hq⟩, va_S.rf, by decide, by decide, Nat.le_refl _, ⟨fun c k t h => (by cases h), fun c _ => ⟨fun _ => rfl, fun _ => rfl, fun _ => rfl⟩⟩, fun _ _ => rfl⟩
    have hcv : ∀ v ∈ [Value.retAddr 0], v.category = 1 := fun v hv => by
      rcases List.mem_singleton.mp hv with rfl
      rfl
    have hcat : (lg_sl [Value.ref b]).length ≤ 7 := Nat.le_trans (Nat.le_of_eq (ow_sl_len b (fun _ => 0) [Value.retAddr 0] hcv)) (by decide)
    have hlv := lv_entry [Value.ref b] (n := 7) hcat
    have hls := ow_entry b (fun _ => 0) [Value.retAddr 0] hcv hlv 6
    have hrun := law_run (l := l) (Q := fun r _ => r = .inl (some 1)) (L := xs.length) (xs := fun j => xs.getD j 0) hl (fun _ => rfl) hbd H_type H_set H_store H_find H_seek H_move H_scan H_current H_get H_modify H_connect H_disconnect H_reconnect H_erase H_members H_owner H_keep H_rollBack H_count hN
    have K := law_ent hrun h0 p e room_1 s m #[Value.ref b] below meth c 0 556 (fun _ => 0) b ids D (fun q => s.heap.size ≤ q) s.heap [] 0 0 (fun _ => 0) _ hXX hPP hls ⟨fun c hc => by simp at hc, fun c hc => nomatch hc⟩
    simp only [List.map_nil] at K
    rw [← lg_entry_eq] at K
    obtain ⟨t, a1, o, b1, b2, b3⟩ := K s₁ hh0 X₀
    refine ⟨t, o, a1, b1, b2, ?_⟩
    obtain ⟨u, ad, Ls, kc, ks, g1, g2, g3, g4⟩ := b3
    rcases g4 with ⟨v, rfl, hv⟩ | ⟨x9, kx, -, -, hv⟩
    · cases hv
      refine ⟨rfl, ⟨_, rfl⟩, g1, ?_⟩
      obtain ⟨e1, e2, e3, e4, e5, e6⟩ := g2
      have hS := g3.2.2.1
      have hc1 := g3.2.2.2.1
      have hc2 := g3.2.2.2.2.1
      refine ⟨e1, e2, by omega, e4, by omega, fun a cl hcl => ?_⟩
      obtain ⟨cl', f1, f2, f3, f4⟩ := e6 a cl hcl
      refine ⟨cl', f1, f2, f3, fun i _ => f4 i (fun hin => ?_)⟩
      have h1 := hS.2.2 _ hin
      have h2 := (Array.getElem?_eq_some_iff.mp hcl).1
      exact absurd h1 (by
        show ¬ s.heap.size ≤ a
        omega)
    · cases hv

theorem lw_pre_spec {args : Array Value} {s : State} (h : (Jvm.Cond.and given_1 narrow_1).before args s = true) (hr : rest_1_c.before args s = true) : ∃ (b : Addr) (xs : List Int32), lw_P b xs args s := by
  have hs := flat_of_before _ h
  have hq := flat_of_before _ hr
  have hc : (Cond.count 1).before args s = true := hs _ (by decide +kernel)
  have harr : (Cond.arrayOf (.arg 0) .int).before args s = true := hs _ (by decide +kernel)
  have hle : (Cond.le (.length (.arg 0)) (.int 2560)).before args s = true := hs _ (by decide +kernel)
  have hlen : (Cond.isInt (.length (.arg 0))).before args s = true := hq _ (by decide +kernel)
  have hall : (Cond.all (.arg 0) (.isInt (.elem (.arg 0) (.index 0)))).before args s = true := hq _ (by decide +kernel)
  obtain ⟨b, xs, hb, hx⟩ := State.ints_of_pre rfl harr hlen hall
  have hsm : xs.length < 2 ^ 31 := hx.choose_spec.2.2.2
  have hev : (Term.length (.arg 0)).eval args s none [] s = some (.int xs.length.toInt32) := hx.length_eval hb
  have hv := Cond.le_ints hev (show (Term.int 2560).eval args s none [] s = some (.int 2560) from rfl)
  have hd : xs.length.toInt32 ≤ 2560 := by
    simpa [Cond.before, Cond.holds, hv] using hle
  have hN : xs.length ≤ 2560 := (Int32.ofNat_le_ofNat hsm (by decide)).mp (show Int32.ofNat xs.length ≤ Int32.ofNat 2560 from hd)
  exact ⟨b, xs, Cond.one_arg hc (show args[0]? = some (.ref b) from hb), hx, hN, h⟩
theorem i_vcJ {JJ : Nat → (Nat → Nat → Int32) → Prop} (H_type : HX_type JJ) (H_set : HX_set JJ) (H_store : HX_store JJ) (H_find : HX_find JJ) (H_seek : HX_seek JJ) (H_move : HX_move JJ) (H_scan : HX_scan JJ) (H_current : HX_current JJ) (H_get : HX_get JJ) (H_modify : HX_modify JJ) (H_connect : HX_connect JJ) (H_disconnect : HX_disconnect JJ) (H_reconnect : HX_reconnect JJ) (H_erase : HX_erase JJ) (H_members : HX_members JJ) (H_owner : HX_owner JJ) (H_keep : HX_keep JJ) (H_rollBack : HX_rollBack JJ) (H_count : HX_count JJ) (hN : HX_none JJ) (h0 : JJ 0 Mst) : Claimed_1_1 ∧ Claimed_1_2 := by
  have comes : ∀ l : Launch, l.flags = flags0 → Comes l x (Jvm.Cond.code x code maxLocals ret :: tables_1) room_1 (fun tb e args s => Calls_1 tb e args s ∧ rest_1 tb e args s ∧ Pre_1 tb e args s) (fun _ _ args s o t => lw_Q args s o t) := by
    intro l hfl p e ha hc hk s m args below hf hfit hheap happ hpre
    have hl : l.stackTraces = false := by unfold Launch.stackTraces; rw [hfl]; decide +kernel
    obtain ⟨b, xs, hP⟩ := lw_pre_spec hpre.2.2 hpre.2.1
    obtain ⟨k, o, h1, h2, h3, hQ⟩ := lw_walkJ H_type H_set H_store H_find H_seek H_move H_scan H_current H_get H_modify H_connect H_disconnect H_reconnect H_erase H_members H_owner H_keep H_rollBack H_count hN h0 l hl b xs p e ha hc hk s m args below hf ((Spec.applies_iff_loose hf).mp happ).1 hP trivial
    exact ⟨k, o, h1, h2, h3, hQ⟩
  have limb : ∀ L : Cond, (∀ (args : Array Value) (s t : State), L.after args s (.returned (some (.int 1))) t = true) → ArmFor flags0 classFile x code maxLocals ret World_1 tables_1 room_1 Calls_1 rest_1 Pre_1
      (fun tb e a s o t => postC L tb e a s o t ∧ Framed s o t (fieldLocs frame_1_writes a s ++ arrayLocs frame_1_arrays a s ++ staticLocs frame_1_statics s) 601024 7293034) := by
    intro L hL l hfl _ _ p e ha hc hk s m args below hf hfit hheap happ hpre
    obtain ⟨k, o, h1, h2, h3, rfl, hF⟩ := comes l hfl p e ha hc hk s m args below hf hfit hheap happ hpre
    exact ⟨k, _, h1, h2, h3, hL args s _, hF⟩
  exact ⟨limb limb_1_1 (fun args s t => by simp [limb_1_1, Cond.after, Cond.holds, Cond.value]), limb limb_1_2 (fun args s t => Cond.after_iff.mpr (by
    first | (rw [show limb_1_2 = Cond.eq .result (.int 1) from rfl, Cond.eq_ints (x := 1) (y := 1) rfl rfl]; simp; done) | (simp [limb_1_2, Cond.value, Term.eval]; done)))⟩
