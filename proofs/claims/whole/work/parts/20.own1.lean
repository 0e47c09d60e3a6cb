/-! OwnerRings: what its own methods do, first part -/
theorem nI_m1 {k : Nat} (h : k < 2 ^ 31) : ¬ nI k = -1 := by
  intro e
  have h1 := nI_toInt h
  rw [e] at h1
  have h2 : ((-1 : Int32)).toInt = -1 := by decide
  omega
def plc (x : Int32) : Prop := x = -1 ∨ ∃ p, p < 24 ∧ x = nI p
/-- the current owner of a set -/
def co (M : Nat → Nat → Int32) (s : Nat) : Int32 := if M 47 s = -1 ∨ M 9 (M 47 s).toNatClampNeg = M 3 s then M 47 s else M (15 + s) (M 47 s).toNatClampNeg
def HF (M : Nat → Nat → Int32) (t f : Int32) : Prop := 0 ≤ t ∧ t < M 1 0 ∧ 0 ≤ f ∧ f < M 2 t.toNatClampNeg
def sfv (M : Nat → Nat → Int32) (s : Nat) : Nat := (M 5 s - M 5 s / 10 * 10).toNatClampNeg
/-- another member of the ring ow has the value x, in a set without equals -/
def NE (M : Nat → Nat → Int32) (s : Nat) (pl ow x : Int32) : Prop := 30 ≤ M 5 s ∧ ∃ k, k < 24 ∧ ¬ nI k = pl ∧ M (15 + s) k = ow ∧ M (11 + sfv M s) k = x
def JW (M : Nat → Nat → Int32) (s : Nat) (t : Int32) : Prop := M 4 s = t ∧ 3 ≤ M 6 s
/-- the ranges of what the class holds -/
def CI (M : Nat → Nat → Int32) (tc sc : Nat) : Prop := tc ≤ 4 ∧ sc ≤ 5 ∧ M 1 0 = nI tc ∧ M 1 1 = nI sc ∧ plc (M 45 0) ∧ (∀ t, t < 4 → plc (M 46 t)) ∧ (∀ s, s < 5 → plc (M 47 s)) ∧ (∀ s, s < 5 → ∀ p, p < 24 → plc (M (15 + s) p)) ∧ (∀ p, p < 24 → ∃ t, t < 4 ∧ M 9 p = nI t) ∧
  ∀ s, s < 5 → (0 ≤ M 5 s ∧ M 5 s ≤ 3) ∨ (10 ≤ M 5 s ∧ ∃ f, f < 3 ∧ M 5 s - M 5 s / 10 * 10 = nI f)
theorem CI.tc {M : Nat → Nat → Int32} {tc sc : Nat} (h : CI M tc sc) : M 1 0 = nI tc := h.2.2.1
theorem CI.t4 {M : Nat → Nat → Int32} {tc sc : Nat} (h : CI M tc sc) : tc ≤ 4 := h.1
theorem CI.sc {M : Nat → Nat → Int32} {tc sc : Nat} (h : CI M tc sc) : M 1 1 = nI sc := h.2.2.2.1
theorem CI.s5 {M : Nat → Nat → Int32} {tc sc : Nat} (h : CI M tc sc) : sc ≤ 5 := h.2.1
theorem CI.run {M : Nat → Nat → Int32} {tc sc : Nat} (h : CI M tc sc) : plc (M 45 0) := h.2.2.2.2.1
theorem CI.ofT {M : Nat → Nat → Int32} {tc sc : Nat} (h : CI M tc sc) {t : Nat} (ht : t < 4) : plc (M 46 t) := h.2.2.2.2.2.1 t ht
theorem CI.ofS {M : Nat → Nat → Int32} {tc sc : Nat} (h : CI M tc sc) {s : Nat} (hs : s < 5) : plc (M 47 s) := h.2.2.2.2.2.2.1 s hs
theorem CI.own {M : Nat → Nat → Int32} {tc sc : Nat} (h : CI M tc sc) {s p : Nat} (hs : s < 5) (hp : p < 24) : plc (M (15 + s) p) := h.2.2.2.2.2.2.2.1 s hs p hp
theorem CI.ty {M : Nat → Nat → Int32} {tc sc : Nat} (h : CI M tc sc) {p : Nat} (hp : p < 24) : ∃ t, t < 4 ∧ M 9 p = nI t := h.2.2.2.2.2.2.2.2.1 p hp
theorem CI.ord {M : Nat → Nat → Int32} {tc sc : Nat} (h : CI M tc sc) {s : Nat} (hs : s < 5) : (0 ≤ M 5 s ∧ M 5 s ≤ 3) ∨ (10 ≤ M 5 s ∧ ∃ f, f < 3 ∧ M 5 s - M 5 s / 10 * 10 = nI f) := h.2.2.2.2.2.2.2.2.2 s hs
theorem CI.sf {M : Nat → Nat → Int32} {tc sc : Nat} (h : CI M tc sc) {s : Nat} (hs : s < 5) (h10 : 10 ≤ M 5 s) : sfv M s < 3 ∧ M 5 s - M 5 s / 10 * 10 = nI (sfv M s) := by
  rcases h.ord hs with h1 | ⟨-, f, hf, e⟩
  · exfalso; have := h1.2; grind
  · have : sfv M s = f := by unfold sfv; rw [e, nI_clamp (by omega)]
    rw [this]; exact ⟨hf, e⟩
theorem co_plc {M : Nat → Nat → Int32} {tc sc s : Nat} (h : CI M tc sc) (hs : s < 5) : plc (co M s) := by
  unfold co
  split
  · exact h.ofS hs
  · rename_i hn
    rcases h.ofS hs with e | ⟨p, hp, e⟩
    · exact absurd (Or.inl e) hn
    · rw [e, nI_clamp (by omega)]; exact h.own hs hp
section TOwn1
variable {l : Launch} {Q : ow_R → ow_M → Prop} {M : Nat → Nat → Int32} {K : Int64} {b : Nat} {tc sc : Nat}
/-- R_currentOwner -/
theorem t_R_currentOwner {s : Nat} (hC : CI M tc sc) (hs : s < 5) (hq : Q (.inl (some (co M s))) (mm M K b)) : MT l Y_R_currentOwner (0, 0) [.ref 0, .int (nI s)] (mm M K b) Q := by
  refine mt_of (k := 1) (by decide) cd_R_currentOwner.1 (by simp [Value.category]) rfl ?_
  refine aw_aload_n d_R_currentOwner_0 rfl ?_
  refine mm_getr (t := 45) f_R_29 d_R_currentOwner_1 (by decide) rfl rfl rfl ?_
  refine mm_getr (t := 47) f_R_154 d_R_currentOwner_4 (by decide) rfl rfl rfl ?_
  refine aw_iload_n d_R_currentOwner_7 rfl ?_
  refine mm_iald rfl d_R_currentOwner_8 (by decide) rfl (by omega) (by decide) ?_
  refine aw_istore_n d_R_currentOwner_9 (by decide) ?_
  refine aw_iload_n d_R_currentOwner_10 rfl ?_
  refine aw_iconst (v := -1) d_R_currentOwner_11 (by decide) ?_
  refine aw_icmp_eq (tgt := 36) d_R_currentOwner_12 rfl (fun g12 => ?_) (fun g12 => ?_)
  · refine aw_iload_n d_R_currentOwner_36 rfl ?_
    refine aw_iret d_R_currentOwner_37 rfl rfl ?_
    have e : co M s = M 47 s := by
      unfold co
      first | exact if_pos (Or.inl g12) | exact if_pos (Or.inr (by rw [e2]; exact g33))
    rw [e] at hq
    exact hq
  · obtain ⟨p, hp, ep⟩ := (hC.ofS hs).resolve_left g12
    have e2 : (M 47 s).toNatClampNeg = p := by rw [ep, nI_clamp (by omega)]
    refine aw_aload_n d_R_currentOwner_15 rfl ?_
    refine mm_getr (t := 7) f_R_19 d_R_currentOwner_16 (by decide) rfl rfl rfl ?_
    refine mm_getr (t := 9) f_R_190 d_R_currentOwner_19 (by decide) rfl rfl rfl ?_
    refine aw_iload_n d_R_currentOwner_22 rfl ?_
    refine mm_iald ep d_R_currentOwner_23 (by decide) rfl (by omega) (by decide) ?_
    refine aw_aload_n d_R_currentOwner_24 rfl ?_
    refine mm_getr (t := 1) f_R_10 d_R_currentOwner_25 (by decide) rfl rfl rfl ?_
    refine mm_getr (t := 3) f_R_291 d_R_currentOwner_28 (by decide) rfl rfl rfl ?_
    refine aw_iload_n d_R_currentOwner_31 rfl ?_
    refine mm_iald rfl d_R_currentOwner_32 (by decide) rfl (by omega) (by decide) ?_
    refine aw_icmp_ne (tgt := 38) d_R_currentOwner_33 rfl (fun g33 => ?_) (fun g33 => ?_)
    · refine aw_aload_n d_R_currentOwner_38 rfl ?_
      refine mm_getr (t := 7) f_R_19 d_R_currentOwner_39 (by decide) rfl rfl rfl ?_
      refine mm_getr (t := 14) f_R_243 d_R_currentOwner_42 (by decide) rfl rfl rfl ?_
      refine aw_iload_n d_R_currentOwner_45 rfl ?_
      refine mm_aald rfl d_R_currentOwner_46 (by decide) rfl hs (by decide) (rF_own hs) ?_
      refine aw_iload_n d_R_currentOwner_47 rfl ?_
      refine mm_iald ep d_R_currentOwner_48 (by omega) (kd_own hs) (by omega) (by decide) ?_
      refine aw_iret d_R_currentOwner_49 rfl rfl ?_
      rw [show co M s = M (15 + s) p by simp [co, e2, g12, g33]] at hq
      exact hq
    · refine aw_iload_n d_R_currentOwner_36 rfl ?_
      refine aw_iret d_R_currentOwner_37 rfl rfl ?_
      have e : co M s = M 47 s := by
        unfold co
        first | exact if_pos (Or.inl g12) | exact if_pos (Or.inr (by rw [e2]; exact g33))
      rw [e] at hq
      exact hq
/-- R_requireSet -/
theorem t_R_requireSet (hl : l.stackTraces = false) {x : Int32} (h0 : 0 ≤ x ∧ x < M 1 1 → Q (.inl none) (mm M K (b + 1))) (h1 : ¬ (0 ≤ x ∧ x < M 1 1) → Q (.inr 0) (mm M K b)) : MT l Y_R_requireSet (6, 82) [.ref 0, .int x] (mm M K (b + 1)) Q := by
  refine mt_of (k := 0) (by decide) cd_R_requireSet.1 (by simp [Value.category]) rfl ?_
  refine aw_aload_n d_R_requireSet_0 rfl ?_
  refine mm_getr (t := 1) f_R_10 d_R_requireSet_1 (by decide) rfl rfl rfl ?_
  refine aw_iload_n d_R_requireSet_4 rfl ?_
  refine aw_cV1 (d' := (0, 0)) d_R_requireSet_5 lk_R_170 cd_P_hasSet (Nat.le_of_ble_eq_true rfl) rfl rfl ⟨Nat.le_of_ble_eq_true rfl, Nat.le_of_ble_eq_true rfl⟩ (fun _ h => nomatch h) ?_
  refine t_P_hasSet ?_
  refine ow_next_i ?_
  refine aw_if_ne (tgt := 22) d_R_requireSet_8 rfl (fun g8 => ?_) (fun g8 => ?_)
  · refine aw_vret d_R_requireSet_22 rfl ?_
    exact h0 (by grind)
  · refine aw_throwW (text := "no such set") hl th_R_0 (by decide +kernel) (fun _ h => nomatch h) d_R_requireSet_11 d_R_requireSet_14 d_R_requireSet_15 d_R_requireSet_18 d_R_requireSet_21 ⟨by decide, Nat.le_of_ble_eq_true rfl⟩ rfl ?_
    exact h1 (by grind)
/-- R_requireFieldOf -/
theorem t_R_requireFieldOf (hl : l.stackTraces = false) {p : Nat} {f : Int32} (hC : CI M tc sc) (hp : p < 24) (h0 : HF M (M 9 p) f → Q (.inl none) (mm M K (b + 1))) (h1 : ¬ HF M (M 9 p) f → Q (.inr 0) (mm M K b)) : MT l Y_R_requireFieldOf (6, 82) [.ref 0, .int (nI p), .int f] (mm M K (b + 1)) Q := by
  refine mt_of (k := 0) (by decide) cd_R_requireFieldOf.1 (by simp [Value.category]) rfl ?_
  refine aw_aload_n d_R_requireFieldOf_0 rfl ?_
  refine mm_getr (t := 1) f_R_10 d_R_requireFieldOf_1 (by decide) rfl rfl rfl ?_
  refine aw_aload_n d_R_requireFieldOf_4 rfl ?_
  refine mm_getr (t := 7) f_R_19 d_R_requireFieldOf_5 (by decide) rfl rfl rfl ?_
  refine mm_getr (t := 9) f_R_190 d_R_requireFieldOf_8 (by decide) rfl rfl rfl ?_
  refine aw_iload_n d_R_requireFieldOf_11 rfl ?_
  refine mm_iald rfl d_R_requireFieldOf_12 (by decide) rfl (by omega) (by decide) ?_
  refine aw_iload_n d_R_requireFieldOf_13 rfl ?_
  refine aw_cV2 (d' := (1, 13)) d_R_requireFieldOf_14 lk_R_121 cd_P_hasField (Nat.le_of_ble_eq_true rfl) rfl rfl ⟨Nat.le_of_ble_eq_true rfl, Nat.le_of_ble_eq_true rfl⟩ (fun _ h => nomatch h) ?_
  refine t_P_hasField hC.tc hC.t4 ?_
  refine ow_next_i ?_
  refine aw_if_ne (tgt := 30) d_R_requireFieldOf_17 rfl (fun g17 => ?_) (fun g17 => ?_)
  · refine aw_vret d_R_requireFieldOf_30 rfl ?_
    exact h0 (by unfold HF; grind)
  · refine aw_throw (text := "no such field") hl th_R_0 (by decide +kernel) (fun _ h => nomatch h) d_R_requireFieldOf_20 d_R_requireFieldOf_23 d_R_requireFieldOf_24 d_R_requireFieldOf_26 d_R_requireFieldOf_29 ⟨by decide, Nat.le_of_ble_eq_true rfl⟩ rfl ?_
    exact h1 (fun h => by unfold HF at h; grind)
/-- R_requireRecord -/
theorem t_R_requireRecord (hl : l.stackTraces = false) {x : Int32} (h0 : (∀ k, k < 24 → ¬ (¬ M 8 k = 0 ∧ M 8 k = x)) → Q (.inr 2) (mm M K b)) (h1 : ∀ k, k < 24 → ¬ M 8 k = 0 → M 8 k = x → (∀ j, j < k → ¬ (¬ M 8 j = 0 ∧ M 8 j = x)) → Q (.inl (some (nI k))) (mm M K (b + 1))) : MT l Y_R_requireRecord (6, 82) [.ref 0, .int x] (mm M K (b + 1)) Q := by
  refine mt_of (k := 1) (by decide) cd_R_requireRecord.1 (by simp [Value.category]) rfl ?_
  refine aw_aload_n d_R_requireRecord_0 rfl ?_
  refine mm_getr (t := 7) f_R_19 d_R_requireRecord_1 (by decide) rfl rfl rfl ?_
  refine aw_iload_n d_R_requireRecord_4 rfl ?_
  refine aw_cV1 (d' := (0, 0)) d_R_requireRecord_5 lk_R_258 cd_B_placeOf (Nat.le_of_ble_eq_true rfl) rfl rfl ⟨Nat.le_of_ble_eq_true rfl, Nat.le_of_ble_eq_true rfl⟩ (fun _ h => nomatch h) ?_
  refine t_B_placeOf (fun hn => ?_) (fun k hk k1 k2 km => ?_)
  · refine ow_next_i ?_
    refine aw_istore_n d_R_requireRecord_8 (by decide) ?_
    refine aw_iload_n d_R_requireRecord_9 rfl ?_
    refine aw_iconst (v := -1) d_R_requireRecord_10 (by decide) ?_
    refine aw_icmp_ne (tgt := 25) d_R_requireRecord_11 rfl (fun g11 => ?_) (fun g11 => ?_)
    · exact absurd rfl g11
    · refine aw_throwNW (text := "no record with this key") hl th_R_2 (by decide +kernel) (fun _ h => nomatch h) d_R_requireRecord_14 d_R_requireRecord_17 d_R_requireRecord_18 d_R_requireRecord_21 d_R_requireRecord_24 ⟨by decide, Nat.le_of_ble_eq_true rfl⟩ rfl ?_
      exact h0 hn
  · refine ow_next_i ?_
    refine aw_istore_n d_R_requireRecord_8 (by decide) ?_
    refine aw_iload_n d_R_requireRecord_9 rfl ?_
    refine aw_iconst (v := -1) d_R_requireRecord_10 (by decide) ?_
    refine aw_icmp_ne (tgt := 25) d_R_requireRecord_11 rfl (fun g11 => ?_) (fun g11 => ?_)
    · refine aw_iload_n d_R_requireRecord_25 rfl ?_
      refine aw_iret d_R_requireRecord_26 rfl rfl ?_
      exact h1 k hk k1 k2 km
    · exact absurd g11 (nI_m1 (by omega))
/-- R_requireRunRecord -/
theorem t_R_requireRunRecord (hl : l.stackTraces = false) (h0 : M 45 0 = -1 → Q (.inr 2) (mm M K b)) (h1 : ¬ M 45 0 = -1 → Q (.inl (some (M 45 0))) (mm M K (b + 1))) : MT l Y_R_requireRunRecord (6, 82) [.ref 0] (mm M K (b + 1)) Q := by
  refine mt_of (k := 0) (by decide) cd_R_requireRunRecord.1 (by simp [Value.category]) rfl ?_
  refine aw_aload_n d_R_requireRunRecord_0 rfl ?_
  refine mm_getr (t := 45) f_R_29 d_R_requireRunRecord_1 (by decide) rfl rfl rfl ?_
  refine mm_geti f_R_161 d_R_requireRunRecord_4 (by decide) rfl rfl ?_
  refine aw_iconst (v := -1) d_R_requireRunRecord_7 (by decide) ?_
  refine aw_icmp_ne (tgt := 22) d_R_requireRunRecord_8 rfl (fun g8 => ?_) (fun g8 => ?_)
  · refine aw_aload_n d_R_requireRunRecord_22 rfl ?_
    refine mm_getr (t := 45) f_R_29 d_R_requireRunRecord_23 (by decide) rfl rfl rfl ?_
    refine mm_geti f_R_161 d_R_requireRunRecord_26 (by decide) rfl rfl ?_
    refine aw_iret d_R_requireRunRecord_29 rfl rfl ?_
    exact h1 g8
  · refine aw_throwNW (text := "no record is current of the run") hl th_R_2 (by decide +kernel) (fun _ h => nomatch h) d_R_requireRunRecord_11 d_R_requireRunRecord_14 d_R_requireRunRecord_15 d_R_requireRunRecord_18 d_R_requireRunRecord_21 ⟨by decide, Nat.le_of_ble_eq_true rfl⟩ rfl ?_
    exact h0 g8
/-- R_requireCurrentOwner -/
theorem t_R_requireCurrentOwner (hl : l.stackTraces = false) {s : Nat} (hC : CI M tc sc) (hs : s < 5) (h0 : co M s = -1 → Q (.inr 2) (mm M K b)) (h1 : ¬ co M s = -1 → Q (.inl (some (co M s))) (mm M K (b + 1))) : MT l Y_R_requireCurrentOwner (6, 82) [.ref 0, .int (nI s)] (mm M K (b + 1)) Q := by
  refine mt_of (k := 1) (by decide) cd_R_requireCurrentOwner.1 (by simp [Value.category]) rfl ?_
  refine aw_aload_n d_R_requireCurrentOwner_0 rfl ?_
  refine aw_iload_n d_R_requireCurrentOwner_1 rfl ?_
  refine aw_cV1 (d' := (0, 0)) d_R_requireCurrentOwner_2 lk_R_104 cd_R_currentOwner (Nat.le_of_ble_eq_true rfl) rfl rfl ⟨Nat.le_of_ble_eq_true rfl, Nat.le_of_ble_eq_true rfl⟩ (fun _ h => nomatch h) ?_
  refine t_R_currentOwner hC hs ?_
  refine ow_next_i ?_
  refine aw_istore_n d_R_requireCurrentOwner_5 (by decide) ?_
  refine aw_iload_n d_R_requireCurrentOwner_6 rfl ?_
  refine aw_iconst (v := -1) d_R_requireCurrentOwner_7 (by decide) ?_
  refine aw_icmp_ne (tgt := 22) d_R_requireCurrentOwner_8 rfl (fun g8 => ?_) (fun g8 => ?_)
  · refine aw_iload_n d_R_requireCurrentOwner_22 rfl ?_
    refine aw_iret d_R_requireCurrentOwner_23 rfl rfl ?_
    exact h1 g8
  · refine aw_throwNW (text := "the set has no current owner") hl th_R_2 (by decide +kernel) (fun _ h => nomatch h) d_R_requireCurrentOwner_11 d_R_requireCurrentOwner_14 d_R_requireCurrentOwner_15 d_R_requireCurrentOwner_18 d_R_requireCurrentOwner_21 ⟨by decide, Nat.le_of_ble_eq_true rfl⟩ rfl ?_
    exact h0 g8
/-- R_requireNoEqual -/
theorem t_R_requireNoEqual (hl : l.stackTraces = false) {s : Nat} {pl ow x : Int32} (hC : CI M tc sc) (hs : s < 5) (h0 : ¬ NE M s pl ow x → Q (.inl none) (mm M K (b + 1))) (h1 : NE M s pl ow x → Q (.inr 1) (mm M K b)) : MT l Y_R_requireNoEqual (6, 82) [.ref 0, .int (nI s), .int pl, .int ow, .int x] (mm M K (b + 1)) Q := by
  refine mt_of (k := 0) (by decide) cd_R_requireNoEqual.1 (by simp [Value.category]) rfl ?_
  refine aw_aload_n d_R_requireNoEqual_0 rfl ?_
  refine mm_getr (t := 1) f_R_10 d_R_requireNoEqual_1 (by decide) rfl rfl rfl ?_
  refine mm_getr (t := 5) f_R_282 d_R_requireNoEqual_4 (by decide) rfl rfl rfl ?_
  refine aw_iload_n d_R_requireNoEqual_7 rfl ?_
  refine mm_iald rfl d_R_requireNoEqual_8 (by decide) rfl (by omega) (by decide) ?_
  refine aw_bipush (v := 30) d_R_requireNoEqual_9 (by decide) ?_
  refine aw_icmp_lt (tgt := 48) d_R_requireNoEqual_11 rfl (fun g11 => ?_) (fun g11 => ?_)
  · refine aw_vret d_R_requireNoEqual_48 rfl ?_
    exact h0 (fun h => by have := h.1; grind)
  · have hsf := hC.sf hs (by grind)
    refine aw_aload_n d_R_requireNoEqual_14 rfl ?_
    refine mm_getr (t := 7) f_R_19 d_R_requireNoEqual_15 (by decide) rfl rfl rfl ?_
    refine aw_iload_n d_R_requireNoEqual_18 rfl ?_
    refine aw_iload_n d_R_requireNoEqual_19 rfl ?_
    refine aw_iload_n d_R_requireNoEqual_20 rfl ?_
    refine aw_aload_n d_R_requireNoEqual_21 rfl ?_
    refine mm_getr (t := 1) f_R_10 d_R_requireNoEqual_22 (by decide) rfl rfl rfl ?_
    refine aw_iload_n d_R_requireNoEqual_25 rfl ?_
    refine aw_cV1 (d' := (0, 0)) d_R_requireNoEqual_26 lk_R_273 cd_P_sortField (Nat.le_of_ble_eq_true rfl) rfl rfl ⟨Nat.le_of_ble_eq_true rfl, Nat.le_of_ble_eq_true rfl⟩ (fun _ h => nomatch h) ?_
    refine t_P_sortField hs ?_
    rw [hsf.2]
    refine ow_next_i ?_
    refine aw_iload d_R_requireNoEqual_29 rfl ?_
    refine aw_cV5 (d' := (0, 0)) d_R_requireNoEqual_31 lk_R_285 cd_B_hasOtherWithValue (Nat.le_of_ble_eq_true rfl) rfl rfl ⟨Nat.le_of_ble_eq_true rfl, Nat.le_of_ble_eq_true rfl⟩ (fun _ h => nomatch h) ?_
    refine t_B_hasOtherWithValue hs hsf.1 (fun hn => ?_) (fun k hk k1 k2 k3 => ?_)
    · refine ow_next_i ?_
      refine aw_if_eq (tgt := 48) d_R_requireNoEqual_34 rfl (fun g34 => ?_) (fun g34 => ?_)
      · refine aw_vret d_R_requireNoEqual_48 rfl ?_
        exact h0 (fun h => by obtain ⟨-, k, a1, a2, a3, a4⟩ := h; exact hn k a1 ⟨a2, a3, a4⟩)
      · exact absurd rfl g34
    · refine ow_next_i ?_
      refine aw_if_eq (tgt := 48) d_R_requireNoEqual_34 rfl (fun g34 => ?_) (fun g34 => ?_)
      · exact absurd g34 (by decide)
      · refine aw_throwW (text := "the ring has a member with this value") hl th_R_1 (by decide +kernel) (fun _ h => nomatch h) d_R_requireNoEqual_37 d_R_requireNoEqual_40 d_R_requireNoEqual_41 d_R_requireNoEqual_44 d_R_requireNoEqual_47 ⟨by decide, Nat.le_of_ble_eq_true rfl⟩ rfl ?_
        exact h1 ⟨by grind, k, hk, k1, k2, k3⟩
/-- R_requireNoRefusal -/
theorem t_R_requireNoRefusal (hl : l.stackTraces = false) {s p : Nat} {ow : Int32} (hC : CI M tc sc) (hs : s < 5) (hp : p < 24) (h0 : ¬ NE M s (nI p) ow (M (11 + sfv M s) p) → Q (.inl none) (mm M K (b + 1))) (h1 : NE M s (nI p) ow (M (11 + sfv M s) p) → Q (.inr 1) (mm M K b)) : MT l Y_R_requireNoRefusal (7, 98) [.ref 0, .int (nI s), .int (nI p), .int ow] (mm M K (b + 1)) Q := by
  refine mt_of (k := 0) (by decide) cd_R_requireNoRefusal.1 (by simp [Value.category]) rfl ?_
  refine aw_aload_n d_R_requireNoRefusal_0 rfl ?_
  refine mm_getr (t := 1) f_R_10 d_R_requireNoRefusal_1 (by decide) rfl rfl rfl ?_
  refine aw_iload_n d_R_requireNoRefusal_4 rfl ?_
  refine aw_cV1 (d' := (0, 0)) d_R_requireNoRefusal_5 lk_R_270 cd_P_isSorted (Nat.le_of_ble_eq_true rfl) rfl rfl ⟨Nat.le_of_ble_eq_true rfl, Nat.le_of_ble_eq_true rfl⟩ (fun _ h => nomatch h) ?_
  refine t_P_isSorted hs ?_
  refine ow_next_i ?_
  refine aw_if_eq (tgt := 36) d_R_requireNoRefusal_8 rfl (fun g8 => ?_) (fun g8 => ?_)
  · refine aw_vret d_R_requireNoRefusal_36 rfl ?_
    exact h0 (fun h => by have := h.1; grind)
  · have hsf := hC.sf hs (by grind)
    refine aw_aload_n d_R_requireNoRefusal_11 rfl ?_
    refine aw_iload_n d_R_requireNoRefusal_12 rfl ?_
    refine aw_iload_n d_R_requireNoRefusal_13 rfl ?_
    refine aw_iload_n d_R_requireNoRefusal_14 rfl ?_
    refine aw_aload_n d_R_requireNoRefusal_15 rfl ?_
    refine mm_getr (t := 7) f_R_19 d_R_requireNoRefusal_16 (by decide) rfl rfl rfl ?_
    refine mm_getr (t := 10) f_R_181 d_R_requireNoRefusal_19 (by decide) rfl rfl rfl ?_
    refine aw_aload_n d_R_requireNoRefusal_22 rfl ?_
    refine mm_getr (t := 1) f_R_10 d_R_requireNoRefusal_23 (by decide) rfl rfl rfl ?_
    refine aw_iload_n d_R_requireNoRefusal_26 rfl ?_
    refine aw_cV1 (d' := (0, 0)) d_R_requireNoRefusal_27 lk_R_273 cd_P_sortField (Nat.le_of_ble_eq_true rfl) rfl rfl ⟨Nat.le_of_ble_eq_true rfl, Nat.le_of_ble_eq_true rfl⟩ (fun _ h => nomatch h) ?_
    refine t_P_sortField hs ?_
    rw [hsf.2]
    refine ow_next_i ?_
    refine mm_aald rfl d_R_requireNoRefusal_30 (by decide) rfl hsf.1 (by decide) (rF_fld hsf.1) ?_
    refine aw_iload_n d_R_requireNoRefusal_31 rfl ?_
    refine mm_iald rfl d_R_requireNoRefusal_32 (by omega) (kd_fld hsf.1) (by omega) (by decide) ?_
    refine aw_cV4 (d' := (6, 82)) d_R_requireNoRefusal_33 lk_R_276 cd_R_requireNoEqual (Nat.le_of_ble_eq_true rfl) rfl rfl ⟨Nat.le_of_ble_eq_true rfl, Nat.le_of_ble_eq_true rfl⟩ (fun _ h => nomatch h) ?_
    refine t_R_requireNoEqual hl hC hs (fun k => ?_) (fun k => ?_)
    · refine ow_next_v ?_
      refine aw_vret d_R_requireNoRefusal_36 rfl ?_
      exact h0 k
    · refine ow_next_x ?_
      exact h1 k
end TOwn1
