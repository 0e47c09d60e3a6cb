/-! Base; the last rows of Plan -/
theorem loop_dn {P : Nat → Prop} (N : Nat) (h : ∀ i, i ≤ N → (i < N → P (i + 1)) → P i) : ∀ i, i ≤ N → P i := by
  have key : ∀ k i, i + k = N → P i := by
    intro k
    induction k with
    | zero => intro i hi; exact h i (by omega) (fun h2 => by omega)
    | succ k ih => intro i hi; exact h i (by omega) (fun _ => ih (i + 1) (by omega))
  intro i hi
  exact key (N - i) i (by omega)
theorem ge_n {i n : Nat} {x : Int32} (hx : x = nI n) (hi : i ≤ n) (hn : n < 2 ^ 31) (g : x ≤ nI i) : i = n := by
  subst hx
  have := (nI_leI hn (by omega)).mp g
  omega
theorem lt_n {i n : Nat} {x : Int32} (hx : x = nI n) (hi : i ≤ n) (hn : n < 2 ^ 31) (g : ¬ x ≤ nI i) : i < n := by
  subst hx
  have := mt (nI_leI (a := n) (b := i) hn (by omega)).mpr g
  omega
theorem q_mem {Q : ow_R → ow_M → Prop} {r : ow_R} {M M' : Nat → Nat → Int32} {K : Int64} {b : Nat} (h : Q r (mm M K b)) (e : M' = M) : Q r (mm M' K b) := e ▸ h
/-- how many k below n -/
def cn (p : Nat → Bool) : Nat → Nat
  | 0 => 0
  | n + 1 => cn p n + (if p n = true then 1 else 0)
theorem cn_le (p : Nat → Bool) (n : Nat) : cn p n ≤ n := by
  induction n with
  | zero => exact Nat.le_refl _
  | succ n ih => simp only [cn]; split <;> omega
/-- the ring o of the set s moved by 'by' from 'fr' on, the places below i -/
def shf (M : Nat → Nat → Int32) (s : Nat) (ow fr by_ : Int32) (i : Nat) : Nat → Nat → Int32 := fun c p => if c = 21 + s ∧ p < i ∧ M (15 + s) p = ow ∧ fr ≤ M (21 + s) p then M c p + by_ else M c p
theorem shf_0 (M : Nat → Nat → Int32) (s : Nat) (ow fr by_ : Int32) : shf M s ow fr by_ 0 = M := by
  funext c p; simp [shf]
theorem shf_no {M : Nat → Nat → Int32} {s i : Nat} {ow fr by_ : Int32} (h : ¬ (M (15 + s) i = ow ∧ fr ≤ M (21 + s) i)) : shf M s ow fr by_ (i + 1) = shf M s ow fr by_ i := by
  funext c p
  by_cases hp : p = i
  · subst hp; simp only [shf]; simp [h]
  · simp only [shf]
    have : p < i + 1 ↔ p < i := by omega
    simp only [this]
theorem shf_yes {M : Nat → Nat → Int32} {s i : Nat} {ow fr by_ : Int32} (h : M (15 + s) i = ow ∧ fr ≤ M (21 + s) i) : shf M s ow fr by_ (i + 1) = ow_u (shf M s ow fr by_ i) (21 + s) i (M (21 + s) i + by_) := by
  funext c p
  by_cases hc : c = 21 + s
  · subst hc
    by_cases hp : p = i
    · subst hp; simp [shf, ow_u, upd, h]
    · have : p < i + 1 ↔ p < i := by omega
      simp [shf, ow_u, upd, hp, this]
  · simp [shf, ow_u, hc]
theorem shf_own {M : Nat → Nat → Int32} {s i : Nat} {ow fr by_ : Int32} {c : Nat} (h : c ≠ 21 + s) : shf M s ow fr by_ i c = M c := by
  funext p; simp [shf, h]
theorem shf_at {M : Nat → Nat → Int32} {s i : Nat} {ow fr by_ : Int32} {p : Nat} (h : i ≤ p) : shf M s ow fr by_ i (21 + s) p = M (21 + s) p := by
  simp [shf, Nat.not_lt.mpr h]
section TBase
variable {l : Launch} {Q : ow_R → ow_M → Prop} {M : Nat → Nat → Int32} {K : Int64} {b : Nat}
/-- P_isOrder -/
theorem t_P_isOrder {x t : Int32} {tc : Nat} (htc : M 1 0 = nI tc) (h4 : tc ≤ 4) (hq : Q (.inl (some (if (0 ≤ x ∧ x ≤ 3) ∨ (10 ≤ x ∧ x < 40 ∧ 0 ≤ t ∧ t < M 1 0 ∧ 0 ≤ x - x / 10 * 10 ∧ x - x / 10 * 10 < M 2 t.toNatClampNeg) then 1 else 0))) (mm M K b)) : MT l Y_P_isOrder (2, 27) [.ref 1, .int x, .int t] (mm M K b) Q := by
  refine mt_of (k := 0) (by decide) cd_P_isOrder.1 (by simp [Value.category]) rfl ?_
  refine aw_iload_n d_P_isOrder_0 rfl ?_
  refine aw_if_lt (tgt := 11) d_P_isOrder_1 rfl (fun g1 => ?_) (fun g1 => ?_)
  · refine aw_iload_n d_P_isOrder_11 rfl ?_
    refine aw_bipush (v := 10) d_P_isOrder_12 (by decide) ?_
    refine aw_icmp_lt (tgt := 39) d_P_isOrder_14 rfl (fun g14 => ?_) (fun g14 => ?_)
    · refine aw_iconst (v := 0) d_P_isOrder_39 (by decide) ?_
      refine aw_iret d_P_isOrder_40 rfl rfl ?_
      first | (rw [if_pos (by grind)] at hq; exact hq) | (rw [if_neg (by grind)] at hq; exact hq)
    · refine aw_iload_n d_P_isOrder_17 rfl ?_
      refine aw_bipush (v := 40) d_P_isOrder_18 (by decide) ?_
      refine aw_icmp_ge (tgt := 39) d_P_isOrder_20 rfl (fun g20 => ?_) (fun g20 => ?_)
      · refine aw_iconst (v := 0) d_P_isOrder_39 (by decide) ?_
        refine aw_iret d_P_isOrder_40 rfl rfl ?_
        first | (rw [if_pos (by grind)] at hq; exact hq) | (rw [if_neg (by grind)] at hq; exact hq)
      · refine aw_aload_n d_P_isOrder_23 rfl ?_
        refine aw_iload_n d_P_isOrder_24 rfl ?_
        refine aw_iload_n d_P_isOrder_25 rfl ?_
        refine aw_bipush (v := 10) d_P_isOrder_26 (by decide) ?_
        refine aw_irem d_P_isOrder_28 (by decide) ?_
        refine aw_cV2 (d' := (1, 13)) d_P_isOrder_29 lk_P_38 cd_P_hasField (Nat.le_of_ble_eq_true rfl) rfl rfl ⟨Nat.le_of_ble_eq_true rfl, Nat.le_of_ble_eq_true rfl⟩ (fun _ h => nomatch h) ?_
        refine t_P_hasField htc h4 ?_
        refine ow_next_i ?_
        refine aw_if_eq (tgt := 39) d_P_isOrder_32 rfl (fun g32 => ?_) (fun g32 => ?_)
        · refine aw_iconst (v := 0) d_P_isOrder_39 (by decide) ?_
          refine aw_iret d_P_isOrder_40 rfl rfl ?_
          first | (rw [if_pos (by grind)] at hq; exact hq) | (rw [if_neg (by grind)] at hq; exact hq)
        · refine aw_iconst (v := 1) d_P_isOrder_35 (by decide) ?_
          refine aw_goto (tgt := 40) d_P_isOrder_36 rfl ?_
          refine aw_iret d_P_isOrder_40 rfl rfl ?_
          first | (rw [if_pos (by grind)] at hq; exact hq) | (rw [if_neg (by grind)] at hq; exact hq)
  · refine aw_iload_n d_P_isOrder_4 rfl ?_
    refine aw_iconst (v := 3) d_P_isOrder_5 (by decide) ?_
    refine aw_icmp_gt (tgt := 11) d_P_isOrder_6 rfl (fun g6 => ?_) (fun g6 => ?_)
    · refine aw_iload_n d_P_isOrder_11 rfl ?_
      refine aw_bipush (v := 10) d_P_isOrder_12 (by decide) ?_
      refine aw_icmp_lt (tgt := 39) d_P_isOrder_14 rfl (fun g14 => ?_) (fun g14 => ?_)
      · refine aw_iconst (v := 0) d_P_isOrder_39 (by decide) ?_
        refine aw_iret d_P_isOrder_40 rfl rfl ?_
        first | (rw [if_pos (by grind)] at hq; exact hq) | (rw [if_neg (by grind)] at hq; exact hq)
      · refine aw_iload_n d_P_isOrder_17 rfl ?_
        refine aw_bipush (v := 40) d_P_isOrder_18 (by decide) ?_
        refine aw_icmp_ge (tgt := 39) d_P_isOrder_20 rfl (fun g20 => ?_) (fun g20 => ?_)
        · refine aw_iconst (v := 0) d_P_isOrder_39 (by decide) ?_
          refine aw_iret d_P_isOrder_40 rfl rfl ?_
          first | (rw [if_pos (by grind)] at hq; exact hq) | (rw [if_neg (by grind)] at hq; exact hq)
        · refine aw_aload_n d_P_isOrder_23 rfl ?_
          refine aw_iload_n d_P_isOrder_24 rfl ?_
          refine aw_iload_n d_P_isOrder_25 rfl ?_
          refine aw_bipush (v := 10) d_P_isOrder_26 (by decide) ?_
          refine aw_irem d_P_isOrder_28 (by decide) ?_
          refine aw_cV2 (d' := (1, 13)) d_P_isOrder_29 lk_P_38 cd_P_hasField (Nat.le_of_ble_eq_true rfl) rfl rfl ⟨Nat.le_of_ble_eq_true rfl, Nat.le_of_ble_eq_true rfl⟩ (fun _ h => nomatch h) ?_
          refine t_P_hasField htc h4 ?_
          refine ow_next_i ?_
          refine aw_if_eq (tgt := 39) d_P_isOrder_32 rfl (fun g32 => ?_) (fun g32 => ?_)
          · refine aw_iconst (v := 0) d_P_isOrder_39 (by decide) ?_
            refine aw_iret d_P_isOrder_40 rfl rfl ?_
            first | (rw [if_pos (by grind)] at hq; exact hq) | (rw [if_neg (by grind)] at hq; exact hq)
          · refine aw_iconst (v := 1) d_P_isOrder_35 (by decide) ?_
            refine aw_goto (tgt := 40) d_P_isOrder_36 rfl ?_
            refine aw_iret d_P_isOrder_40 rfl rfl ?_
            first | (rw [if_pos (by grind)] at hq; exact hq) | (rw [if_neg (by grind)] at hq; exact hq)
    · refine aw_iconst (v := 1) d_P_isOrder_9 (by decide) ?_
      refine aw_iret d_P_isOrder_10 rfl rfl ?_
      first | (rw [if_pos (by grind)] at hq; exact hq) | (rw [if_neg (by grind)] at hq; exact hq)
/-- P_addType -/
theorem t_P_addType {x : Int32} {tc : Nat} (htc : M 1 0 = nI tc) (h4 : tc < 4) (hq : Q (.inl (some (M 1 0 + 1 - 1))) (mm (ow_u (ow_u M 2 tc x) 1 0 (M 1 0 + 1)) K b)) : MT l Y_P_addType (0, 0) [.ref 1, .int x] (mm M K b) Q := by
  refine mt_of (k := 0) (by decide) cd_P_addType.1 (by simp [Value.category]) rfl ?_
  refine aw_aload_n d_P_addType_0 rfl ?_
  refine mm_getr (t := 2) f_P_18 d_P_addType_1 (by decide) rfl rfl rfl ?_
  refine aw_aload_n d_P_addType_4 rfl ?_
  refine mm_geti f_P_9 d_P_addType_5 (by decide) rfl rfl ?_
  refine aw_iload_n d_P_addType_8 rfl ?_
  refine mm_iast htc d_P_addType_9 (by decide) rfl (by omega) (by decide) ?_
  refine aw_aload_n d_P_addType_10 rfl ?_
  refine aw_dup d_P_addType_11 rfl ?_
  refine mm_geti f_P_9 d_P_addType_12 (by decide) rfl rfl ?_
  refine aw_iconst (v := 1) d_P_addType_15 (by decide) ?_
  refine aw_iadd d_P_addType_16 ?_
  refine mm_puti fw_P_9 d_P_addType_17 (by decide) rfl rfl rfl rfl ?_
  refine aw_aload_n d_P_addType_20 rfl ?_
  refine mm_geti f_P_9 d_P_addType_21 (by decide) rfl rfl ?_
  refine aw_iconst (v := 1) d_P_addType_24 (by decide) ?_
  refine aw_isub d_P_addType_25 ?_
  refine aw_iret d_P_addType_26 rfl rfl ?_
  simpa [ow_u, upd] using hq
/-- P_addSet -/
theorem t_P_addSet {x1 x2 x3 x4 : Int32} {sc : Nat} (hsc : M 1 1 = nI sc) (h5 : sc < 5) (hq : Q (.inl (some (M 1 1 + 1 - 1))) (mm (ow_u (ow_u (ow_u (ow_u (ow_u M 3 sc x1) 4 sc x2) 5 sc x3) 6 sc x4) 1 1 (M 1 1 + 1)) K b)) : MT l Y_P_addSet (0, 0) [.ref 1, .int x1, .int x2, .int x3, .int x4] (mm M K b) Q := by
  refine mt_of (k := 0) (by decide) cd_P_addSet.1 (by simp [Value.category]) rfl ?_
  refine aw_aload_n d_P_addSet_0 rfl ?_
  refine mm_getr (t := 3) f_P_22 d_P_addSet_1 (by decide) rfl rfl rfl ?_
  refine aw_aload_n d_P_addSet_4 rfl ?_
  refine mm_geti f_P_15 d_P_addSet_5 (by decide) rfl rfl ?_
  refine aw_iload_n d_P_addSet_8 rfl ?_
  refine mm_iast (by simpa [ow_u] using hsc) d_P_addSet_9 (by decide) rfl (by omega) (by decide) ?_
  refine aw_aload_n d_P_addSet_10 rfl ?_
  refine mm_getr (t := 4) f_P_25 d_P_addSet_11 (by decide) rfl rfl rfl ?_
  refine aw_aload_n d_P_addSet_14 rfl ?_
  refine mm_geti f_P_15 d_P_addSet_15 (by decide) rfl rfl ?_
  refine aw_iload_n d_P_addSet_18 rfl ?_
  refine mm_iast (by simpa [ow_u] using hsc) d_P_addSet_19 (by decide) rfl (by omega) (by decide) ?_
  refine aw_aload_n d_P_addSet_20 rfl ?_
  refine mm_getr (t := 5) f_P_28 d_P_addSet_21 (by decide) rfl rfl rfl ?_
  refine aw_aload_n d_P_addSet_24 rfl ?_
  refine mm_geti f_P_15 d_P_addSet_25 (by decide) rfl rfl ?_
  refine aw_iload_n d_P_addSet_28 rfl ?_
  refine mm_iast (by simpa [ow_u] using hsc) d_P_addSet_29 (by decide) rfl (by omega) (by decide) ?_
  refine aw_aload_n d_P_addSet_30 rfl ?_
  refine mm_getr (t := 6) f_P_31 d_P_addSet_31 (by decide) rfl rfl rfl ?_
  refine aw_aload_n d_P_addSet_34 rfl ?_
  refine mm_geti f_P_15 d_P_addSet_35 (by decide) rfl rfl ?_
  refine aw_iload d_P_addSet_38 rfl ?_
  refine mm_iast (by simpa [ow_u] using hsc) d_P_addSet_40 (by decide) rfl (by omega) (by decide) ?_
  refine aw_aload_n d_P_addSet_41 rfl ?_
  refine aw_dup d_P_addSet_42 rfl ?_
  refine mm_geti f_P_15 d_P_addSet_43 (by decide) rfl rfl ?_
  refine aw_iconst (v := 1) d_P_addSet_46 (by decide) ?_
  refine aw_iadd d_P_addSet_47 ?_
  refine mm_puti fw_P_15 d_P_addSet_48 (by decide) rfl rfl rfl rfl ?_
  refine aw_aload_n d_P_addSet_51 rfl ?_
  refine mm_geti f_P_15 d_P_addSet_52 (by decide) rfl rfl ?_
  refine aw_iconst (v := 1) d_P_addSet_55 (by decide) ?_
  refine aw_isub d_P_addSet_56 ?_
  refine aw_iret d_P_addSet_57 rfl rfl ?_
  simpa [ow_u, upd] using hq
/-- B_writeFields -/
theorem t_B_writeFields {p : Nat} {x y z : Int32} (hp : p < 24) (hq : Q (.inl none) (mm (ow_u (ow_u (ow_u M 11 p x) 12 p y) 13 p z) K b)) : MT l Y_B_writeFields (0, 0) [.ref 7, .int (nI p), .int x, .int y, .int z] (mm M K b) Q := by
  refine mt_of (k := 0) (by decide) cd_B_writeFields.1 (by simp [Value.category]) rfl ?_
  refine aw_aload_n d_B_writeFields_0 rfl ?_
  refine mm_getr (t := 10) f_B_27 d_B_writeFields_1 (by decide) rfl rfl rfl ?_
  refine aw_iconst (v := 0) d_B_writeFields_4 (by decide) ?_
  refine mm_aald nI_0.symm d_B_writeFields_5 (by decide) rfl (show 0 < 3 by decide) (by decide) (rF_fld (show 0 < 3 by decide)) ?_
  refine aw_iload_n d_B_writeFields_6 rfl ?_
  refine aw_iload_n d_B_writeFields_7 rfl ?_
  refine mm_iast rfl d_B_writeFields_8 (by omega) (kd_fld (show 0 < 3 by decide)) (by omega) (by decide) ?_
  refine aw_aload_n d_B_writeFields_9 rfl ?_
  refine mm_getr (t := 10) f_B_27 d_B_writeFields_10 (by decide) rfl rfl rfl ?_
  refine aw_iconst (v := 1) d_B_writeFields_13 (by decide) ?_
  refine mm_aald (show (1 : Int32) = nI 1 from rfl) d_B_writeFields_14 (by decide) rfl (show 1 < 3 by decide) (by decide) (rF_fld (show 1 < 3 by decide)) ?_
  refine aw_iload_n d_B_writeFields_15 rfl ?_
  refine aw_iload_n d_B_writeFields_16 rfl ?_
  refine mm_iast rfl d_B_writeFields_17 (by omega) (kd_fld (show 1 < 3 by decide)) (by omega) (by decide) ?_
  refine aw_aload_n d_B_writeFields_18 rfl ?_
  refine mm_getr (t := 10) f_B_27 d_B_writeFields_19 (by decide) rfl rfl rfl ?_
  refine aw_iconst (v := 2) d_B_writeFields_22 (by decide) ?_
  refine mm_aald (show (2 : Int32) = nI 2 from rfl) d_B_writeFields_23 (by decide) rfl (show 2 < 3 by decide) (by decide) (rF_fld (show 2 < 3 by decide)) ?_
  refine aw_iload_n d_B_writeFields_24 rfl ?_
  refine aw_iload d_B_writeFields_25 rfl ?_
  refine mm_iast rfl d_B_writeFields_27 (by omega) (kd_fld (show 2 < 3 by decide)) (by omega) (by decide) ?_
  refine aw_vret d_B_writeFields_28 rfl ?_
  exact hq
/-- B_addRecord -/
theorem t_B_addRecord {p : Nat} {t : Int32} (hp : p < 24) (hq : Q (.inl none) (mm (ow_u (ow_u (ow_u (ow_u M 8 p (M 7 1)) 9 p t) 7 1 (M 7 1 + 1)) 7 0 (M 7 0 + 1)) K b)) : MT l Y_B_addRecord (0, 0) [.ref 7, .int (nI p), .int t] (mm M K b) Q := by
  refine mt_of (k := 0) (by decide) cd_B_addRecord.1 (by simp [Value.category]) rfl ?_
  refine aw_aload_n d_B_addRecord_0 rfl ?_
  refine mm_getr (t := 8) f_B_18 d_B_addRecord_1 (by decide) rfl rfl rfl ?_
  refine aw_iload_n d_B_addRecord_4 rfl ?_
  refine aw_aload_n d_B_addRecord_5 rfl ?_
  refine mm_geti f_B_15 d_B_addRecord_6 (by decide) rfl rfl ?_
  refine mm_iast rfl d_B_addRecord_9 (by decide) rfl (by omega) (by decide) ?_
  refine aw_aload_n d_B_addRecord_10 rfl ?_
  refine mm_getr (t := 9) f_B_22 d_B_addRecord_11 (by decide) rfl rfl rfl ?_
  refine aw_iload_n d_B_addRecord_14 rfl ?_
  refine aw_iload_n d_B_addRecord_15 rfl ?_
  refine mm_iast rfl d_B_addRecord_16 (by decide) rfl (by omega) (by decide) ?_
  refine aw_aload_n d_B_addRecord_17 rfl ?_
  refine aw_dup d_B_addRecord_18 rfl ?_
  refine mm_geti f_B_15 d_B_addRecord_19 (by decide) rfl rfl ?_
  refine aw_iconst (v := 1) d_B_addRecord_22 (by decide) ?_
  refine aw_iadd d_B_addRecord_23 ?_
  refine mm_puti fw_B_15 d_B_addRecord_24 (by decide) rfl rfl rfl rfl ?_
  refine aw_aload_n d_B_addRecord_27 rfl ?_
  refine aw_dup d_B_addRecord_28 rfl ?_
  refine mm_geti f_B_9 d_B_addRecord_29 (by decide) rfl rfl ?_
  refine aw_iconst (v := 1) d_B_addRecord_32 (by decide) ?_
  refine aw_iadd d_B_addRecord_33 ?_
  refine mm_puti fw_B_9 d_B_addRecord_34 (by decide) rfl rfl rfl rfl ?_
  refine aw_vret d_B_addRecord_37 rfl ?_
  exact q_mem hq (by simp [ow_u, upd])
/-- B_dropRecord -/
theorem t_B_dropRecord {p : Nat} (hp : p < 24) (hq : Q (.inl none) (mm (ow_u (ow_u M 8 p 0) 7 0 (M 7 0 - 1)) K b)) : MT l Y_B_dropRecord (0, 0) [.ref 7, .int (nI p)] (mm M K b) Q := by
  refine mt_of (k := 0) (by decide) cd_B_dropRecord.1 (by simp [Value.category]) rfl ?_
  refine aw_aload_n d_B_dropRecord_0 rfl ?_
  refine mm_getr (t := 8) f_B_18 d_B_dropRecord_1 (by decide) rfl rfl rfl ?_
  refine aw_iload_n d_B_dropRecord_4 rfl ?_
  refine aw_iconst (v := 0) d_B_dropRecord_5 (by decide) ?_
  refine mm_iast rfl d_B_dropRecord_6 (by decide) rfl (by omega) (by decide) ?_
  refine aw_aload_n d_B_dropRecord_7 rfl ?_
  refine aw_dup d_B_dropRecord_8 rfl ?_
  refine mm_geti f_B_9 d_B_dropRecord_9 (by decide) rfl rfl ?_
  refine aw_iconst (v := 1) d_B_dropRecord_12 (by decide) ?_
  refine aw_isub d_B_dropRecord_13 ?_
  refine mm_puti fw_B_9 d_B_dropRecord_14 (by decide) rfl rfl rfl rfl ?_
  refine aw_vret d_B_dropRecord_17 rfl ?_
  exact q_mem hq (by simp [ow_u, upd])
/-- B_isMember -/
theorem t_B_isMember {s p : Nat} (hs : s < 5) (hp : p < 24) (hq : Q (.inl (some (if M (15 + s) p = -1 then 0 else 1))) (mm M K b)) : MT l Y_B_isMember (0, 0) [.ref 7, .int (nI s), .int (nI p)] (mm M K b) Q := by
  refine mt_of (k := 0) (by decide) cd_B_isMember.1 (by simp [Value.category]) rfl ?_
  refine aw_aload_n d_B_isMember_0 rfl ?_
  refine mm_getr (t := 14) f_B_30 d_B_isMember_1 (by decide) rfl rfl rfl ?_
  refine aw_iload_n d_B_isMember_4 rfl ?_
  refine mm_aald rfl d_B_isMember_5 (by decide) rfl hs (by decide) (rF_own hs) ?_
  refine aw_iload_n d_B_isMember_6 rfl ?_
  refine mm_iald rfl d_B_isMember_7 (by omega) (kd_own hs) (by omega) (by decide) ?_
  refine aw_iconst (v := -1) d_B_isMember_8 (by decide) ?_
  refine aw_icmp_eq (tgt := 16) d_B_isMember_9 rfl (fun g9 => ?_) (fun g9 => ?_)
  · refine aw_iconst (v := 0) d_B_isMember_16 (by decide) ?_
    refine aw_iret d_B_isMember_17 rfl rfl ?_
    first | (rw [if_pos (by grind)] at hq; exact hq) | (rw [if_neg (by grind)] at hq; exact hq)
  · refine aw_iconst (v := 1) d_B_isMember_12 (by decide) ?_
    refine aw_goto (tgt := 17) d_B_isMember_13 rfl ?_
    refine aw_iret d_B_isMember_17 rfl rfl ?_
    first | (rw [if_pos (by grind)] at hq; exact hq) | (rw [if_neg (by grind)] at hq; exact hq)
/-- B_keyAt -/
theorem t_B_keyAt {x : Int32} (hx : x = -1 ∨ ∃ p, p < 24 ∧ x = nI p) (hq : Q (.inl (some (if x = -1 then 0 else M 8 x.toNatClampNeg))) (mm M K b)) : MT l Y_B_keyAt (0, 0) [.ref 7, .int x] (mm M K b) Q := by
  refine mt_of (k := 0) (by decide) cd_B_keyAt.1 (by simp [Value.category]) rfl ?_
  refine aw_iload_n d_B_keyAt_0 rfl ?_
  refine aw_iconst (v := -1) d_B_keyAt_1 (by decide) ?_
  refine aw_icmp_ne (tgt := 9) d_B_keyAt_2 rfl (fun g2 => ?_) (fun g2 => ?_)
  · obtain ⟨p, hp, rfl⟩ := hx.resolve_left (by grind)
    refine aw_aload_n d_B_keyAt_9 rfl ?_
    refine mm_getr (t := 8) f_B_18 d_B_keyAt_10 (by decide) rfl rfl rfl ?_
    refine aw_iload_n d_B_keyAt_13 rfl ?_
    refine mm_iald rfl d_B_keyAt_14 (by decide) rfl (by omega) (by decide) ?_
    refine aw_iret d_B_keyAt_15 rfl rfl ?_
    first | (rw [if_pos (by grind)] at hq; exact hq) | (rw [if_neg (by grind), nI_clamp (by omega)] at hq; exact hq)
  · refine aw_iconst (v := 0) d_B_keyAt_5 (by decide) ?_
    refine aw_goto (tgt := 15) d_B_keyAt_6 rfl ?_
    refine aw_iret d_B_keyAt_15 rfl rfl ?_
    first | (rw [if_pos (by grind)] at hq; exact hq) | (rw [if_neg (by grind), nI_clamp (by omega)] at hq; exact hq)
/-- B_freePlace -/
theorem t_B_freePlace (h0 : (∀ k, k < 24 → ¬ M 8 k = 0) → Q (.inl (some (-1))) (mm M K b)) (h1 : ∀ k, k < 24 → M 8 k = 0 → (∀ j, j < k → ¬ M 8 j = 0) → Q (.inl (some (nI k))) (mm M K b)) : MT l Y_B_freePlace (0, 0) [.ref 7] (mm M K b) Q := by
  refine mt_of (k := 1) (by decide) cd_B_freePlace.1 (by simp [Value.category]) rfl ?_
  have lp : ∀ i, i ≤ 24 → (∀ k, k < i → ¬ M 8 k = 0) → AW l Y_B_freePlace none (0, 0) Q 2 [some (.ref 7), some (.int (nI i))] [] (mm M K b) := by
    refine loop_dn 24 (fun i hi ih => ?_)
    intro hn
    refine aw_iload_n d_B_freePlace_2 rfl ?_
    refine aw_bipush (v := 24) d_B_freePlace_3 (by decide) ?_
    refine aw_icmp_ge (tgt := 25) d_B_freePlace_5 rfl (fun g5 => ?_) (fun g5 => ?_)
    · have hi2 := ge_n (n := 24) rfl hi (by omega) g5
      subst hi2
      refine aw_iconst (v := -1) d_B_freePlace_25 (by decide) ?_
      refine aw_iret d_B_freePlace_26 rfl rfl ?_
      exact h0 hn
    · have hi2 := lt_n (n := 24) rfl hi (by omega) g5
      refine aw_aload_n d_B_freePlace_8 rfl ?_
      refine mm_getr (t := 8) f_B_18 d_B_freePlace_9 (by decide) rfl rfl rfl ?_
      refine aw_iload_n d_B_freePlace_12 rfl ?_
      refine mm_iald rfl d_B_freePlace_13 (by decide) rfl (by omega) (by decide) ?_
      refine aw_if_ne (tgt := 19) d_B_freePlace_14 rfl (fun g14 => ?_) (fun g14 => ?_)
      · refine aw_iinc (v := nI (i + 1)) d_B_freePlace_19 rfl (nI_succ i).symm (by decide) ?_
        refine aw_goto (tgt := 2) d_B_freePlace_22 rfl ?_
        refine ih hi2 (fun k hk => ?_)
        rcases Nat.lt_succ_iff_lt_or_eq.mp hk with h | h
        · exact hn k h
        · subst h; exact g14
      · refine aw_iload_n d_B_freePlace_17 rfl ?_
        refine aw_iret d_B_freePlace_18 rfl rfl ?_
        exact h1 i hi2 g14 hn
  refine aw_iconst (v := 0) d_B_freePlace_0 (by decide) ?_
  refine aw_istore_n d_B_freePlace_1 (by decide) ?_
  exact lp 0 (by omega) (fun k hk => by omega)
/-- B_placeOf -/
theorem t_B_placeOf {x : Int32} (h0 : (∀ k, k < 24 → ¬ (¬ M 8 k = 0 ∧ M 8 k = x)) → Q (.inl (some (-1))) (mm M K b)) (h1 : ∀ k, k < 24 → ¬ M 8 k = 0 → M 8 k = x → (∀ j, j < k → ¬ (¬ M 8 j = 0 ∧ M 8 j = x)) → Q (.inl (some (nI k))) (mm M K b)) : MT l Y_B_placeOf (0, 0) [.ref 7, .int x] (mm M K b) Q := by
  refine mt_of (k := 1) (by decide) cd_B_placeOf.1 (by simp [Value.category]) rfl ?_
  have lp : ∀ i, i ≤ 24 → (∀ k, k < i → ¬ (¬ M 8 k = 0 ∧ M 8 k = x)) → AW l Y_B_placeOf none (0, 0) Q 2 [some (.ref 7), some (.int x), some (.int (nI i))] [] (mm M K b) := by
    refine loop_dn 24 (fun i hi ih => ?_)
    intro hn
    refine aw_iload_n d_B_placeOf_2 rfl ?_
    refine aw_bipush (v := 24) d_B_placeOf_3 (by decide) ?_
    refine aw_icmp_ge (tgt := 35) d_B_placeOf_5 rfl (fun g5 => ?_) (fun g5 => ?_)
    · have hi2 := ge_n (n := 24) rfl hi (by omega) g5
      subst hi2
      refine aw_iconst (v := -1) d_B_placeOf_35 (by decide) ?_
      refine aw_iret d_B_placeOf_36 rfl rfl ?_
      exact h0 hn
    · have hi2 := lt_n (n := 24) rfl hi (by omega) g5
      refine aw_aload_n d_B_placeOf_8 rfl ?_
      refine mm_getr (t := 8) f_B_18 d_B_placeOf_9 (by decide) rfl rfl rfl ?_
      refine aw_iload_n d_B_placeOf_12 rfl ?_
      refine mm_iald rfl d_B_placeOf_13 (by decide) rfl (by omega) (by decide) ?_
      refine aw_if_eq (tgt := 29) d_B_placeOf_14 rfl (fun g14 => ?_) (fun g14 => ?_)
      · refine aw_iinc (v := nI (i + 1)) d_B_placeOf_29 rfl (nI_succ i).symm (by decide) ?_
        refine aw_goto (tgt := 2) d_B_placeOf_32 rfl ?_
        refine ih hi2 (fun k hk => ?_)
        rcases Nat.lt_succ_iff_lt_or_eq.mp hk with h | h
        · exact hn k h
        · subst h; grind
      · refine aw_aload_n d_B_placeOf_17 rfl ?_
        refine mm_getr (t := 8) f_B_18 d_B_placeOf_18 (by decide) rfl rfl rfl ?_
        refine aw_iload_n d_B_placeOf_21 rfl ?_
        refine mm_iald rfl d_B_placeOf_22 (by decide) rfl (by omega) (by decide) ?_
        refine aw_iload_n d_B_placeOf_23 rfl ?_
        refine aw_icmp_ne (tgt := 29) d_B_placeOf_24 rfl (fun g24 => ?_) (fun g24 => ?_)
        · refine aw_iinc (v := nI (i + 1)) d_B_placeOf_29 rfl (nI_succ i).symm (by decide) ?_
          refine aw_goto (tgt := 2) d_B_placeOf_32 rfl ?_
          refine ih hi2 (fun k hk => ?_)
          rcases Nat.lt_succ_iff_lt_or_eq.mp hk with h | h
          · exact hn k h
          · subst h; grind
        · refine aw_iload_n d_B_placeOf_27 rfl ?_
          refine aw_iret d_B_placeOf_28 rfl rfl ?_
          exact h1 i hi2 g14 g24 hn
  refine aw_iconst (v := 0) d_B_placeOf_0 (by decide) ?_
  refine aw_istore_n d_B_placeOf_1 (by decide) ?_
  exact lp 0 (by omega) (fun k hk => by omega)
/-- B_ringSize -/
theorem t_B_ringSize {s : Nat} {ow : Int32} (hs : s < 5) (hq : Q (.inl (some (nI (cn (fun p => M (15 + s) p == ow) 24)))) (mm M K b)) : MT l Y_B_ringSize (0, 0) [.ref 7, .int (nI s), .int ow] (mm M K b) Q := by
  refine mt_of (k := 2) (by decide) cd_B_ringSize.1 (by simp [Value.category]) rfl ?_
  have lp : ∀ i, i ≤ 24 → AW l Y_B_ringSize none (0, 0) Q 5 [some (.ref 7), some (.int (nI s)), some (.int ow), some (.int (nI (cn (fun p => M (15 + s) p == ow) i))), some (.int (nI i))] [] (mm M K b) := by
    refine loop_dn 24 (fun i hi ih => ?_)
    refine aw_iload d_B_ringSize_5 rfl ?_
    refine aw_bipush (v := 24) d_B_ringSize_7 (by decide) ?_
    refine aw_icmp_ge (tgt := 34) d_B_ringSize_9 rfl (fun g9 => ?_) (fun g9 => ?_)
    · have hi2 := ge_n (n := 24) rfl hi (by omega) g9
      subst hi2
      refine aw_iload_n d_B_ringSize_34 rfl ?_
      refine aw_iret d_B_ringSize_35 rfl rfl ?_
      exact hq
    · have hi2 := lt_n (n := 24) rfl hi (by omega) g9
      refine aw_aload_n d_B_ringSize_12 rfl ?_
      refine mm_getr (t := 14) f_B_30 d_B_ringSize_13 (by decide) rfl rfl rfl ?_
      refine aw_iload_n d_B_ringSize_16 rfl ?_
      refine mm_aald rfl d_B_ringSize_17 (by decide) rfl hs (by decide) (rF_own hs) ?_
      refine aw_iload d_B_ringSize_18 rfl ?_
      refine mm_iald rfl d_B_ringSize_20 (by omega) (kd_own hs) (by omega) (by decide) ?_
      refine aw_iload_n d_B_ringSize_21 rfl ?_
      refine aw_icmp_ne (tgt := 28) d_B_ringSize_22 rfl (fun g22 => ?_) (fun g22 => ?_)
      · refine aw_iinc (v := nI (i + 1)) d_B_ringSize_28 rfl (nI_succ i).symm (by decide) ?_
        refine aw_goto (tgt := 5) d_B_ringSize_31 rfl ?_
        have e : cn (fun p => M (15 + s) p == ow) (i + 1) = cn (fun p => M (15 + s) p == ow) i := by simp [cn, g22]
        rw [e] at ih
        exact ih hi2
      · refine aw_iinc (v := nI (cn (fun p => M (15 + s) p == ow) i + 1)) d_B_ringSize_25 rfl (nI_succ _).symm (by decide) ?_
        refine aw_iinc (v := nI (i + 1)) d_B_ringSize_28 rfl (nI_succ i).symm (by decide) ?_
        refine aw_goto (tgt := 5) d_B_ringSize_31 rfl ?_
        have e : cn (fun p => M (15 + s) p == ow) (i + 1) = cn (fun p => M (15 + s) p == ow) i + 1 := by simp [cn, g22]
        rw [e] at ih
        exact ih hi2
  refine aw_iconst (v := 0) d_B_ringSize_0 (by decide) ?_
  refine aw_istore_n d_B_ringSize_1 (by decide) ?_
  refine aw_iconst (v := 0) d_B_ringSize_2 (by decide) ?_
  refine aw_istore d_B_ringSize_3 (by decide) ?_
  exact lp 0 (by omega)
/-- B_memberAt -/
theorem t_B_memberAt {s : Nat} {ow x : Int32} (hs : s < 5) (h0 : (∀ k, k < 24 → ¬ (M (15 + s) k = ow ∧ M (21 + s) k = x)) → Q (.inl (some (-1))) (mm M K b)) (h1 : ∀ k, k < 24 → M (15 + s) k = ow → M (21 + s) k = x → (∀ j, j < k → ¬ (M (15 + s) j = ow ∧ M (21 + s) j = x)) → Q (.inl (some (nI k))) (mm M K b)) : MT l Y_B_memberAt (0, 0) [.ref 7, .int (nI s), .int ow, .int x] (mm M K b) Q := by
  refine mt_of (k := 1) (by decide) cd_B_memberAt.1 (by simp [Value.category]) rfl ?_
  have lp : ∀ i, i ≤ 24 → (∀ k, k < i → ¬ (M (15 + s) k = ow ∧ M (21 + s) k = x)) → AW l Y_B_memberAt none (0, 0) Q 3 [some (.ref 7), some (.int (nI s)), some (.int ow), some (.int x), some (.int (nI i))] [] (mm M K b) := by
    refine loop_dn 24 (fun i hi ih => ?_)
    intro hn
    refine aw_iload d_B_memberAt_3 rfl ?_
    refine aw_bipush (v := 24) d_B_memberAt_5 (by decide) ?_
    refine aw_icmp_ge (tgt := 45) d_B_memberAt_7 rfl (fun g7 => ?_) (fun g7 => ?_)
    · have hi2 := ge_n (n := 24) rfl hi (by omega) g7
      subst hi2
      refine aw_iconst (v := -1) d_B_memberAt_45 (by decide) ?_
      refine aw_iret d_B_memberAt_46 rfl rfl ?_
      exact h0 hn
    · have hi2 := lt_n (n := 24) rfl hi (by omega) g7
      refine aw_aload_n d_B_memberAt_10 rfl ?_
      refine mm_getr (t := 14) f_B_30 d_B_memberAt_11 (by decide) rfl rfl rfl ?_
      refine aw_iload_n d_B_memberAt_14 rfl ?_
      refine mm_aald rfl d_B_memberAt_15 (by decide) rfl hs (by decide) (rF_own hs) ?_
      refine aw_iload d_B_memberAt_16 rfl ?_
      refine mm_iald rfl d_B_memberAt_18 (by omega) (kd_own hs) (by omega) (by decide) ?_
      refine aw_iload_n d_B_memberAt_19 rfl ?_
      refine aw_icmp_ne (tgt := 39) d_B_memberAt_20 rfl (fun g20 => ?_) (fun g20 => ?_)
      · refine aw_iinc (v := nI (i + 1)) d_B_memberAt_39 rfl (nI_succ i).symm (by decide) ?_
        refine aw_goto (tgt := 3) d_B_memberAt_42 rfl ?_
        refine ih hi2 (fun k hk => ?_)
        rcases Nat.lt_succ_iff_lt_or_eq.mp hk with h | h
        · exact hn k h
        · subst h; grind
      · refine aw_aload_n d_B_memberAt_23 rfl ?_
        refine mm_getr (t := 20) f_B_33 d_B_memberAt_24 (by decide) rfl rfl rfl ?_
        refine aw_iload_n d_B_memberAt_27 rfl ?_
        refine mm_aald rfl d_B_memberAt_28 (by decide) rfl hs (by decide) (rF_pos hs) ?_
        refine aw_iload d_B_memberAt_29 rfl ?_
        refine mm_iald rfl d_B_memberAt_31 (by omega) (kd_pos hs) (by omega) (by decide) ?_
        refine aw_iload_n d_B_memberAt_32 rfl ?_
        refine aw_icmp_ne (tgt := 39) d_B_memberAt_33 rfl (fun g33 => ?_) (fun g33 => ?_)
        · refine aw_iinc (v := nI (i + 1)) d_B_memberAt_39 rfl (nI_succ i).symm (by decide) ?_
          refine aw_goto (tgt := 3) d_B_memberAt_42 rfl ?_
          refine ih hi2 (fun k hk => ?_)
          rcases Nat.lt_succ_iff_lt_or_eq.mp hk with h | h
          · exact hn k h
          · subst h; grind
        · refine aw_iload d_B_memberAt_36 rfl ?_
          refine aw_iret d_B_memberAt_38 rfl rfl ?_
          exact h1 i hi2 g20 g33 hn
  refine aw_iconst (v := 0) d_B_memberAt_0 (by decide) ?_
  refine aw_istore d_B_memberAt_1 (by decide) ?_
  exact lp 0 (by omega) (fun k hk => by omega)
/-- B_hasOtherWithValue -/
theorem t_B_hasOtherWithValue {s f : Nat} {ow pl x : Int32} (hs : s < 5) (hf : f < 3) (h0 : (∀ k, k < 24 → ¬ (¬ nI k = pl ∧ M (15 + s) k = ow ∧ M (11 + f) k = x)) → Q (.inl (some 0)) (mm M K b)) (h1 : ∀ k, k < 24 → ¬ nI k = pl → M (15 + s) k = ow → M (11 + f) k = x → Q (.inl (some 1)) (mm M K b)) : MT l Y_B_hasOtherWithValue (0, 0) [.ref 7, .int (nI s), .int ow, .int pl, .int (nI f), .int x] (mm M K b) Q := by
  refine mt_of (k := 1) (by decide) cd_B_hasOtherWithValue.1 (by simp [Value.category]) rfl ?_
  have lp : ∀ i, i ≤ 24 → (∀ k, k < i → ¬ (¬ nI k = pl ∧ M (15 + s) k = ow ∧ M (11 + f) k = x)) → AW l Y_B_hasOtherWithValue none (0, 0) Q 3 [some (.ref 7), some (.int (nI s)), some (.int ow), some (.int pl), some (.int (nI f)), some (.int x), some (.int (nI i))] [] (mm M K b) := by
    refine loop_dn 24 (fun i hi ih => ?_)
    intro hn
    refine aw_iload d_B_hasOtherWithValue_3 rfl ?_
    refine aw_bipush (v := 24) d_B_hasOtherWithValue_5 (by decide) ?_
    refine aw_icmp_ge (tgt := 52) d_B_hasOtherWithValue_7 rfl (fun g7 => ?_) (fun g7 => ?_)
    · have hi2 := ge_n (n := 24) rfl hi (by omega) g7
      subst hi2
      refine aw_iconst (v := 0) d_B_hasOtherWithValue_52 (by decide) ?_
      refine aw_iret d_B_hasOtherWithValue_53 rfl rfl ?_
      exact h0 hn
    · have hi2 := lt_n (n := 24) rfl hi (by omega) g7
      refine aw_iload d_B_hasOtherWithValue_10 rfl ?_
      refine aw_iload_n d_B_hasOtherWithValue_12 rfl ?_
      refine aw_icmp_eq (tgt := 46) d_B_hasOtherWithValue_13 rfl (fun g13 => ?_) (fun g13 => ?_)
      · refine aw_iinc (v := nI (i + 1)) d_B_hasOtherWithValue_46 rfl (nI_succ i).symm (by decide) ?_
        refine aw_goto (tgt := 3) d_B_hasOtherWithValue_49 rfl ?_
        refine ih hi2 (fun k hk => ?_)
        rcases Nat.lt_succ_iff_lt_or_eq.mp hk with h | h
        · exact hn k h
        · subst h; grind
      · refine aw_aload_n d_B_hasOtherWithValue_16 rfl ?_
        refine mm_getr (t := 14) f_B_30 d_B_hasOtherWithValue_17 (by decide) rfl rfl rfl ?_
        refine aw_iload_n d_B_hasOtherWithValue_20 rfl ?_
        refine mm_aald rfl d_B_hasOtherWithValue_21 (by decide) rfl hs (by decide) (rF_own hs) ?_
        refine aw_iload d_B_hasOtherWithValue_22 rfl ?_
        refine mm_iald rfl d_B_hasOtherWithValue_24 (by omega) (kd_own hs) (by omega) (by decide) ?_
        refine aw_iload_n d_B_hasOtherWithValue_25 rfl ?_
        refine aw_icmp_ne (tgt := 46) d_B_hasOtherWithValue_26 rfl (fun g26 => ?_) (fun g26 => ?_)
        · refine aw_iinc (v := nI (i + 1)) d_B_hasOtherWithValue_46 rfl (nI_succ i).symm (by decide) ?_
          refine aw_goto (tgt := 3) d_B_hasOtherWithValue_49 rfl ?_
          refine ih hi2 (fun k hk => ?_)
          rcases Nat.lt_succ_iff_lt_or_eq.mp hk with h | h
          · exact hn k h
          · subst h; grind
        · refine aw_aload_n d_B_hasOtherWithValue_29 rfl ?_
          refine mm_getr (t := 10) f_B_27 d_B_hasOtherWithValue_30 (by decide) rfl rfl rfl ?_
          refine aw_iload d_B_hasOtherWithValue_33 rfl ?_
          refine mm_aald rfl d_B_hasOtherWithValue_35 (by decide) rfl hf (by decide) (rF_fld hf) ?_
          refine aw_iload d_B_hasOtherWithValue_36 rfl ?_
          refine mm_iald rfl d_B_hasOtherWithValue_38 (by omega) (kd_fld hf) (by omega) (by decide) ?_
          refine aw_iload d_B_hasOtherWithValue_39 rfl ?_
          refine aw_icmp_ne (tgt := 46) d_B_hasOtherWithValue_41 rfl (fun g41 => ?_) (fun g41 => ?_)
          · refine aw_iinc (v := nI (i + 1)) d_B_hasOtherWithValue_46 rfl (nI_succ i).symm (by decide) ?_
            refine aw_goto (tgt := 3) d_B_hasOtherWithValue_49 rfl ?_
            refine ih hi2 (fun k hk => ?_)
            rcases Nat.lt_succ_iff_lt_or_eq.mp hk with h | h
            · exact hn k h
            · subst h; grind
          · refine aw_iconst (v := 1) d_B_hasOtherWithValue_44 (by decide) ?_
            refine aw_iret d_B_hasOtherWithValue_45 rfl rfl ?_
            exact h1 i hi2 g13 g26 g41
  refine aw_iconst (v := 0) d_B_hasOtherWithValue_0 (by decide) ?_
  refine aw_istore d_B_hasOtherWithValue_1 (by decide) ?_
  exact lp 0 (by omega) (fun k hk => by omega)
/-- B_shiftRing -/
theorem t_B_shiftRing {s : Nat} {ow fr by_ : Int32} (hs : s < 5) (hq : Q (.inl none) (mm (shf M s ow fr by_ 24) K b)) : MT l Y_B_shiftRing (0, 0) [.ref 7, .int (nI s), .int ow, .int fr, .int by_] (mm M K b) Q := by
  refine mt_of (k := 1) (by decide) cd_B_shiftRing.1 (by simp [Value.category]) rfl ?_
  have lp : ∀ i, i ≤ 24 → AW l Y_B_shiftRing none (0, 0) Q 3 [some (.ref 7), some (.int (nI s)), some (.int ow), some (.int fr), some (.int by_), some (.int (nI i))] [] (mm (shf M s ow fr by_ i) K b) := by
    refine loop_dn 24 (fun i hi ih => ?_)
    refine aw_iload d_B_shiftRing_3 rfl ?_
    refine aw_bipush (v := 24) d_B_shiftRing_5 (by decide) ?_
    refine aw_icmp_ge (tgt := 56) d_B_shiftRing_7 rfl (fun g7 => ?_) (fun g7 => ?_)
    · have hi2 := ge_n (n := 24) rfl hi (by omega) g7
      subst hi2
      refine aw_vret d_B_shiftRing_56 rfl ?_
      exact hq
    · have hi2 := lt_n (n := 24) rfl hi (by omega) g7
      refine aw_aload_n d_B_shiftRing_10 rfl ?_
      refine mm_getr (t := 14) f_B_30 d_B_shiftRing_11 (by decide) rfl rfl rfl ?_
      refine aw_iload_n d_B_shiftRing_14 rfl ?_
      refine mm_aald rfl d_B_shiftRing_15 (by decide) rfl hs (by decide) (rF_own hs) ?_
      refine aw_iload d_B_shiftRing_16 rfl ?_
      refine mm_iald rfl d_B_shiftRing_18 (by omega) (kd_own hs) (by omega) (by decide) ?_
      refine aw_iload_n d_B_shiftRing_19 rfl ?_
      rw [shf_own (show 15 + s ≠ 21 + s by omega)]
      refine aw_icmp_ne (tgt := 50) d_B_shiftRing_20 rfl (fun g20 => ?_) (fun g20 => ?_)
      · refine aw_iinc (v := nI (i + 1)) d_B_shiftRing_50 rfl (nI_succ i).symm (by decide) ?_
        refine aw_goto (tgt := 3) d_B_shiftRing_53 rfl ?_
        first
          | (rw [shf_no (by intro hc; grind)] at ih; exact ih hi2)
          | (rw [shf_yes ⟨g20, Int32.not_lt.mp g33⟩] at ih; exact ih hi2)
      · refine aw_aload_n d_B_shiftRing_23 rfl ?_
        refine mm_getr (t := 20) f_B_33 d_B_shiftRing_24 (by decide) rfl rfl rfl ?_
        refine aw_iload_n d_B_shiftRing_27 rfl ?_
        refine mm_aald rfl d_B_shiftRing_28 (by decide) rfl hs (by decide) (rF_pos hs) ?_
        refine aw_iload d_B_shiftRing_29 rfl ?_
        refine mm_iald rfl d_B_shiftRing_31 (by omega) (kd_pos hs) (by omega) (by decide) ?_
        refine aw_iload_n d_B_shiftRing_32 rfl ?_
        rw [shf_at (Nat.le_refl i)]
        refine aw_icmp_lt (tgt := 50) d_B_shiftRing_33 rfl (fun g33 => ?_) (fun g33 => ?_)
        · refine aw_iinc (v := nI (i + 1)) d_B_shiftRing_50 rfl (nI_succ i).symm (by decide) ?_
          refine aw_goto (tgt := 3) d_B_shiftRing_53 rfl ?_
          first
            | (rw [shf_no (by intro hc; grind)] at ih; exact ih hi2)
            | (rw [shf_yes ⟨g20, Int32.not_lt.mp g33⟩] at ih; exact ih hi2)
        · refine aw_aload_n d_B_shiftRing_36 rfl ?_
          refine mm_getr (t := 20) f_B_33 d_B_shiftRing_37 (by decide) rfl rfl rfl ?_
          refine aw_iload_n d_B_shiftRing_40 rfl ?_
          refine mm_aald rfl d_B_shiftRing_41 (by decide) rfl hs (by decide) (rF_pos hs) ?_
          refine aw_iload d_B_shiftRing_42 rfl ?_
          refine aw_dup2 d_B_shiftRing_44 rfl rfl ?_
          refine mm_iald rfl d_B_shiftRing_45 (by omega) (kd_pos hs) (by omega) (by decide) ?_
          refine aw_iload d_B_shiftRing_46 rfl ?_
          rw [shf_at (Nat.le_refl i)]
          refine aw_iadd d_B_shiftRing_48 ?_
          refine mm_iast rfl d_B_shiftRing_49 (by omega) (kd_pos hs) (by omega) (by decide) ?_
          refine aw_iinc (v := nI (i + 1)) d_B_shiftRing_50 rfl (nI_succ i).symm (by decide) ?_
          refine aw_goto (tgt := 3) d_B_shiftRing_53 rfl ?_
          first
            | (rw [shf_no (by intro hc; grind)] at ih; exact ih hi2)
            | (rw [shf_yes ⟨g20, Int32.not_lt.mp g33⟩] at ih; exact ih hi2)
  refine aw_iconst (v := 0) d_B_shiftRing_0 (by decide) ?_
  refine aw_istore d_B_shiftRing_1 (by decide) ?_
  have h0 := lp 0 (by omega)
  rw [shf_0] at h0
  exact h0
end TBase
