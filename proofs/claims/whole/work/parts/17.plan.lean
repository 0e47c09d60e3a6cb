/-! Plan -/
theorem nI_ix {x : Int32} {n : Nat} (h0 : 0 ≤ x) (h1 : x < nI n) (hn : n < 2 ^ 31) : ∃ j : Nat, j < n ∧ x = nI j := by
  obtain ⟨j, hj, rfl⟩ := nI_of (x := x) (Int32.not_lt.mpr h0)
  exact ⟨j, (nI_ltI hj hn).mp h1, rfl⟩
section TPlan
variable {l : Launch} {Q : ow_R → ow_M → Prop} {M : Nat → Nat → Int32} {K : Int64} {b : Nat}
/-- P_hasSet -/
theorem t_P_hasSet {t : Int32} (hq : Q (.inl (some (if 0 ≤ t ∧ t < M 1 1 then 1 else 0))) (mm M K b)) : MT l Y_P_hasSet (0, 0) [.ref 1, .int t] (mm M K b) Q := by
  refine mt_of (k := 0) (by decide) cd_P_hasSet.1 (by simp [Value.category]) rfl ?_
  refine aw_iload_n d_P_hasSet_0 rfl ?_
  refine aw_if_lt (tgt := 16) d_P_hasSet_1 rfl (fun g1 => ?_) (fun g1 => ?_)
  · refine aw_iconst (v := 0) d_P_hasSet_16 (by decide) ?_
    refine aw_iret d_P_hasSet_17 rfl rfl ?_
    first | (rw [if_pos (by grind)] at hq; exact hq) | (rw [if_neg (by grind)] at hq; exact hq)
  · refine aw_iload_n d_P_hasSet_4 rfl ?_
    refine aw_aload_n d_P_hasSet_5 rfl ?_
    refine mm_geti f_P_15 d_P_hasSet_6 (by decide) rfl rfl ?_
    refine aw_icmp_ge (tgt := 16) d_P_hasSet_9 rfl (fun g9 => ?_) (fun g9 => ?_)
    · refine aw_iconst (v := 0) d_P_hasSet_16 (by decide) ?_
      refine aw_iret d_P_hasSet_17 rfl rfl ?_
      first | (rw [if_pos (by grind)] at hq; exact hq) | (rw [if_neg (by grind)] at hq; exact hq)
    · refine aw_iconst (v := 1) d_P_hasSet_12 (by decide) ?_
      refine aw_goto (tgt := 17) d_P_hasSet_13 rfl ?_
      refine aw_iret d_P_hasSet_17 rfl rfl ?_
      first | (rw [if_pos (by grind)] at hq; exact hq) | (rw [if_neg (by grind)] at hq; exact hq)
/-- P_hasField -/
theorem t_P_hasField {t f : Int32} {tc : Nat} (htc : M 1 0 = nI tc) (h4 : tc ≤ 4) (hq : Q (.inl (some (if 0 ≤ t ∧ t < M 1 0 ∧ 0 ≤ f ∧ f < M 2 t.toNatClampNeg then 1 else 0))) (mm M K b)) : MT l Y_P_hasField (1, 13) [.ref 1, .int t, .int f] (mm M K b) Q := by
  refine mt_of (k := 0) (by decide) cd_P_hasField.1 (by simp [Value.category]) rfl ?_
  refine aw_aload_n d_P_hasField_0 rfl ?_
  refine aw_iload_n d_P_hasField_1 rfl ?_
  refine aw_cV1 (d' := (0, 0)) d_P_hasField_2 lk_P_34 cd_P_hasType (Nat.le_of_ble_eq_true rfl) rfl rfl ⟨Nat.le_of_ble_eq_true rfl, Nat.le_of_ble_eq_true rfl⟩ (fun _ h => nomatch h) ?_
  refine t_P_hasType ?_
  refine ow_next_i ?_
  refine aw_if_eq (tgt := 26) d_P_hasField_5 rfl (fun g5 => ?_) (fun g5 => ?_)
  · refine aw_iconst (v := 0) d_P_hasField_26 (by decide) ?_
    refine aw_iret d_P_hasField_27 rfl rfl ?_
    first | (rw [if_pos (by grind [nI_clamp])] at hq; exact hq) | (rw [if_neg (by grind [nI_clamp])] at hq; exact hq)
  · obtain ⟨j, hj, rfl⟩ := nI_ix (x := t) (n := tc) (by grind) (by grind) (by omega)
    refine aw_iload_n d_P_hasField_8 rfl ?_
    refine aw_if_lt (tgt := 26) d_P_hasField_9 rfl (fun g9 => ?_) (fun g9 => ?_)
    · refine aw_iconst (v := 0) d_P_hasField_26 (by decide) ?_
      refine aw_iret d_P_hasField_27 rfl rfl ?_
      first | (rw [if_pos (by grind [nI_clamp])] at hq; exact hq) | (rw [if_neg (by grind [nI_clamp])] at hq; exact hq)
    · refine aw_iload_n d_P_hasField_12 rfl ?_
      refine aw_aload_n d_P_hasField_13 rfl ?_
      refine mm_getr (t := 2) f_P_18 d_P_hasField_14 (by decide) rfl rfl rfl ?_
      refine aw_iload_n d_P_hasField_17 rfl ?_
      refine mm_iald rfl d_P_hasField_18 (by decide) rfl (by omega) (by decide) ?_
      refine aw_icmp_ge (tgt := 26) d_P_hasField_19 rfl (fun g19 => ?_) (fun g19 => ?_)
      · refine aw_iconst (v := 0) d_P_hasField_26 (by decide) ?_
        refine aw_iret d_P_hasField_27 rfl rfl ?_
        first | (rw [if_pos (by grind [nI_clamp])] at hq; exact hq) | (rw [if_neg (by grind [nI_clamp])] at hq; exact hq)
      · refine aw_iconst (v := 1) d_P_hasField_22 (by decide) ?_
        refine aw_goto (tgt := 27) d_P_hasField_23 rfl ?_
        refine aw_iret d_P_hasField_27 rfl rfl ?_
        first | (rw [if_pos (by grind [nI_clamp])] at hq; exact hq) | (rw [if_neg (by grind [nI_clamp])] at hq; exact hq)
/-- P_joinsWhenStored -/
theorem t_P_joinsWhenStored {s : Nat} {t : Int32} (hs : s < 5) (hq : Q (.inl (some (if M 4 s = t ∧ 3 ≤ M 6 s then 1 else 0))) (mm M K b)) : MT l Y_P_joinsWhenStored (0, 0) [.ref 1, .int (nI s), .int t] (mm M K b) Q := by
  refine mt_of (k := 0) (by decide) cd_P_joinsWhenStored.1 (by simp [Value.category]) rfl ?_
  refine aw_aload_n d_P_joinsWhenStored_0 rfl ?_
  refine mm_getr (t := 4) f_P_25 d_P_joinsWhenStored_1 (by decide) rfl rfl rfl ?_
  refine aw_iload_n d_P_joinsWhenStored_4 rfl ?_
  refine mm_iald rfl d_P_joinsWhenStored_5 (by decide) rfl (by omega) (by decide) ?_
  refine aw_iload_n d_P_joinsWhenStored_6 rfl ?_
  refine aw_icmp_ne (tgt := 24) d_P_joinsWhenStored_7 rfl (fun g7 => ?_) (fun g7 => ?_)
  · refine aw_iconst (v := 0) d_P_joinsWhenStored_24 (by decide) ?_
    refine aw_iret d_P_joinsWhenStored_25 rfl rfl ?_
    first | (rw [if_pos (by grind)] at hq; exact hq) | (rw [if_neg (by grind)] at hq; exact hq)
  · refine aw_aload_n d_P_joinsWhenStored_10 rfl ?_
    refine mm_getr (t := 6) f_P_31 d_P_joinsWhenStored_11 (by decide) rfl rfl rfl ?_
    refine aw_iload_n d_P_joinsWhenStored_14 rfl ?_
    refine mm_iald rfl d_P_joinsWhenStored_15 (by decide) rfl (by omega) (by decide) ?_
    refine aw_iconst (v := 3) d_P_joinsWhenStored_16 (by decide) ?_
    refine aw_icmp_lt (tgt := 24) d_P_joinsWhenStored_17 rfl (fun g17 => ?_) (fun g17 => ?_)
    · refine aw_iconst (v := 0) d_P_joinsWhenStored_24 (by decide) ?_
      refine aw_iret d_P_joinsWhenStored_25 rfl rfl ?_
      first | (rw [if_pos (by grind)] at hq; exact hq) | (rw [if_neg (by grind)] at hq; exact hq)
    · refine aw_iconst (v := 1) d_P_joinsWhenStored_20 (by decide) ?_
      refine aw_goto (tgt := 25) d_P_joinsWhenStored_21 rfl ?_
      refine aw_iret d_P_joinsWhenStored_25 rfl rfl ?_
      first | (rw [if_pos (by grind)] at hq; exact hq) | (rw [if_neg (by grind)] at hq; exact hq)
/-- P_hold -/
theorem t_P_hold {s : Nat} (hs : s < 5) (hq : Q (.inl (some (M 6 s - M 6 s / 3 * 3))) (mm M K b)) : MT l Y_P_hold (0, 0) [.ref 1, .int (nI s)] (mm M K b) Q := by
  refine mt_of (k := 0) (by decide) cd_P_hold.1 (by simp [Value.category]) rfl ?_
  refine aw_aload_n d_P_hold_0 rfl ?_
  refine mm_getr (t := 6) f_P_31 d_P_hold_1 (by decide) rfl rfl rfl ?_
  refine aw_iload_n d_P_hold_4 rfl ?_
  refine mm_iald rfl d_P_hold_5 (by decide) rfl (by omega) (by decide) ?_
  refine aw_iconst (v := 3) d_P_hold_6 (by decide) ?_
  refine aw_irem d_P_hold_7 (by decide) ?_
  refine aw_iret d_P_hold_8 rfl rfl ?_
  exact hq
/-- P_goesWithOwner -/
theorem t_P_goesWithOwner {s : Nat} {m : Int32} (hs : s < 5) (hq : Q (.inl (some (if M 6 s - M 6 s / 3 * 3 < m then 1 else 0))) (mm M K b)) : MT l Y_P_goesWithOwner (1, 13) [.ref 1, .int (nI s), .int m] (mm M K b) Q := by
  refine mt_of (k := 0) (by decide) cd_P_goesWithOwner.1 (by simp [Value.category]) rfl ?_
  refine aw_aload_n d_P_goesWithOwner_0 rfl ?_
  refine aw_iload_n d_P_goesWithOwner_1 rfl ?_
  refine aw_cV1 (d' := (0, 0)) d_P_goesWithOwner_2 lk_P_42 cd_P_hold (Nat.le_of_ble_eq_true rfl) rfl rfl ⟨Nat.le_of_ble_eq_true rfl, Nat.le_of_ble_eq_true rfl⟩ (fun _ h => nomatch h) ?_
  refine t_P_hold hs ?_
  refine ow_next_i ?_
  refine aw_iload_n d_P_goesWithOwner_5 rfl ?_
  refine aw_icmp_ge (tgt := 13) d_P_goesWithOwner_6 rfl (fun g6 => ?_) (fun g6 => ?_)
  · refine aw_iconst (v := 0) d_P_goesWithOwner_13 (by decide) ?_
    refine aw_iret d_P_goesWithOwner_14 rfl rfl ?_
    first | (rw [if_pos (by grind)] at hq; exact hq) | (rw [if_neg (by grind)] at hq; exact hq)
  · refine aw_iconst (v := 1) d_P_goesWithOwner_9 (by decide) ?_
    refine aw_goto (tgt := 14) d_P_goesWithOwner_10 rfl ?_
    refine aw_iret d_P_goesWithOwner_14 rfl rfl ?_
    first | (rw [if_pos (by grind)] at hq; exact hq) | (rw [if_neg (by grind)] at hq; exact hq)
/-- P_isSorted -/
theorem t_P_isSorted {s : Nat} (hs : s < 5) (hq : Q (.inl (some (if 10 ≤ M 5 s then 1 else 0))) (mm M K b)) : MT l Y_P_isSorted (0, 0) [.ref 1, .int (nI s)] (mm M K b) Q := by
  refine mt_of (k := 0) (by decide) cd_P_isSorted.1 (by simp [Value.category]) rfl ?_
  refine aw_aload_n d_P_isSorted_0 rfl ?_
  refine mm_getr (t := 5) f_P_28 d_P_isSorted_1 (by decide) rfl rfl rfl ?_
  refine aw_iload_n d_P_isSorted_4 rfl ?_
  refine mm_iald rfl d_P_isSorted_5 (by decide) rfl (by omega) (by decide) ?_
  refine aw_bipush (v := 10) d_P_isSorted_6 (by decide) ?_
  refine aw_icmp_lt (tgt := 15) d_P_isSorted_8 rfl (fun g8 => ?_) (fun g8 => ?_)
  · refine aw_iconst (v := 0) d_P_isSorted_15 (by decide) ?_
    refine aw_iret d_P_isSorted_16 rfl rfl ?_
    first | (rw [if_pos (by grind)] at hq; exact hq) | (rw [if_neg (by grind)] at hq; exact hq)
  · refine aw_iconst (v := 1) d_P_isSorted_11 (by decide) ?_
    refine aw_goto (tgt := 16) d_P_isSorted_12 rfl ?_
    refine aw_iret d_P_isSorted_16 rfl rfl ?_
    first | (rw [if_pos (by grind)] at hq; exact hq) | (rw [if_neg (by grind)] at hq; exact hq)
/-- P_sortField -/
theorem t_P_sortField {s : Nat} (hs : s < 5) (hq : Q (.inl (some (M 5 s - M 5 s / 10 * 10))) (mm M K b)) : MT l Y_P_sortField (0, 0) [.ref 1, .int (nI s)] (mm M K b) Q := by
  refine mt_of (k := 0) (by decide) cd_P_sortField.1 (by simp [Value.category]) rfl ?_
  refine aw_aload_n d_P_sortField_0 rfl ?_
  refine mm_getr (t := 5) f_P_28 d_P_sortField_1 (by decide) rfl rfl rfl ?_
  refine aw_iload_n d_P_sortField_4 rfl ?_
  refine mm_iald rfl d_P_sortField_5 (by decide) rfl (by omega) (by decide) ?_
  refine aw_bipush (v := 10) d_P_sortField_6 (by decide) ?_
  refine aw_irem d_P_sortField_8 (by decide) ?_
  refine aw_iret d_P_sortField_9 rfl rfl ?_
  exact hq
/-- P_isSortedBy -/
theorem t_P_isSortedBy {s : Nat} {f : Int32} (hs : s < 5) (hq : Q (.inl (some (if 10 ≤ M 5 s ∧ M 5 s - M 5 s / 10 * 10 = f then 1 else 0))) (mm M K b)) : MT l Y_P_isSortedBy (1, 13) [.ref 1, .int (nI s), .int f] (mm M K b) Q := by
  refine mt_of (k := 0) (by decide) cd_P_isSortedBy.1 (by simp [Value.category]) rfl ?_
  refine aw_aload_n d_P_isSortedBy_0 rfl ?_
  refine aw_iload_n d_P_isSortedBy_1 rfl ?_
  refine aw_cV1 (d' := (0, 0)) d_P_isSortedBy_2 lk_P_46 cd_P_isSorted (Nat.le_of_ble_eq_true rfl) rfl rfl ⟨Nat.le_of_ble_eq_true rfl, Nat.le_of_ble_eq_true rfl⟩ (fun _ h => nomatch h) ?_
  refine t_P_isSorted hs ?_
  refine ow_next_i ?_
  refine aw_if_eq (tgt := 21) d_P_isSortedBy_5 rfl (fun g5 => ?_) (fun g5 => ?_)
  · refine aw_iconst (v := 0) d_P_isSortedBy_21 (by decide) ?_
    refine aw_iret d_P_isSortedBy_22 rfl rfl ?_
    first | (rw [if_pos (by grind)] at hq; exact hq) | (rw [if_neg (by grind)] at hq; exact hq)
  · refine aw_aload_n d_P_isSortedBy_8 rfl ?_
    refine aw_iload_n d_P_isSortedBy_9 rfl ?_
    refine aw_cV1 (d' := (0, 0)) d_P_isSortedBy_10 lk_P_49 cd_P_sortField (Nat.le_of_ble_eq_true rfl) rfl rfl ⟨Nat.le_of_ble_eq_true rfl, Nat.le_of_ble_eq_true rfl⟩ (fun _ h => nomatch h) ?_
    refine t_P_sortField hs ?_
    refine ow_next_i ?_
    refine aw_iload_n d_P_isSortedBy_13 rfl ?_
    refine aw_icmp_ne (tgt := 21) d_P_isSortedBy_14 rfl (fun g14 => ?_) (fun g14 => ?_)
    · refine aw_iconst (v := 0) d_P_isSortedBy_21 (by decide) ?_
      refine aw_iret d_P_isSortedBy_22 rfl rfl ?_
      first | (rw [if_pos (by grind)] at hq; exact hq) | (rw [if_neg (by grind)] at hq; exact hq)
    · refine aw_iconst (v := 1) d_P_isSortedBy_17 (by decide) ?_
      refine aw_goto (tgt := 22) d_P_isSortedBy_18 rfl ?_
      refine aw_iret d_P_isSortedBy_22 rfl rfl ?_
      first | (rw [if_pos (by grind)] at hq; exact hq) | (rw [if_neg (by grind)] at hq; exact hq)
end TPlan
