/-! the law's own small methods: a call with its exceptions as codes -/
theorem imp_all {α : Sort _} {p q : α → Prop} (h : ∀ a, p a → q a) : (∀ a, p a) → ∀ a, q a := fun f a => h a (f a)
section OwNT
variable {l : Launch} {Y : ow_Y} {sc : Option (Nat × (Nat → Int32))} {d : Nat × Nat} {Q : ow_R → ow_M → Prop} {pc : Nat} {L : List (Option Value)} {S : List Value} {u : ow_M}
theorem ow_nextT_i {r : Int32} (h : AW l Y sc d Q (pc + 3) L (.int r :: S) u) : ow_nextT l Y sc d Q pc L S (.inl (some r)) u := h
theorem ow_nextT_v (h : AW l Y sc d Q (pc + 3) L S u) : ow_nextT l Y sc d Q pc L S (.inl none) u := h
end OwNT
theorem C_type.mono {M : Nat → Nat → Int32} {tc : Nat} {x : Int32} {E E' : Nat → (Nat → Nat → Int32) → Prop} {F F' : Int32 → (Nat → Nat → Int32) → Prop} (H0 : ∀ M', E 0 M' → E' 0 M') (H1 : ∀ M', E 1 M' → E' 1 M') (HF : ∀ r M', F r M' → F' r M') : C_type M tc x E F → C_type M tc x E' F' := by
  unfold C_type
  repeat' first | exact H0 _ | exact H1 _ | exact HF _ _ | refine And.imp ?_ ?_ | refine imp_all (fun _ => ?_)
theorem C_set.mono {M : Nat → Nat → Int32} {sc : Nat} {x y z w : Int32} {E E' : Nat → (Nat → Nat → Int32) → Prop} {F F' : Int32 → (Nat → Nat → Int32) → Prop} (H0 : ∀ M', E 0 M' → E' 0 M') (H1 : ∀ M', E 1 M' → E' 1 M') (HF : ∀ r M', F r M' → F' r M') : C_set M sc x y z w E F → C_set M sc x y z w E' F' := by
  unfold C_set
  repeat' first | exact H0 _ | exact H1 _ | exact HF _ _ | refine And.imp ?_ ?_ | refine imp_all (fun _ => ?_)
theorem C_store.mono {M : Nat → Nat → Int32} {sc : Nat} {x y z w : Int32} {E E' : Nat → (Nat → Nat → Int32) → Prop} {F F' : Int32 → (Nat → Nat → Int32) → Prop} (H0 : ∀ M', E 0 M' → E' 0 M') (H1 : ∀ M', E 1 M' → E' 1 M') (H2 : ∀ M', E 2 M' → E' 2 M') (HF : ∀ r M', F r M' → F' r M') : C_store M sc x y z w E F → C_store M sc x y z w E' F' := by
  unfold C_store
  repeat' first | exact H0 _ | exact H1 _ | exact H2 _ | exact HF _ _ | refine And.imp ?_ ?_ | refine imp_all (fun _ => ?_)
theorem C_find.mono {M : Nat → Nat → Int32} {sc : Nat} {x y : Int32} {E E' : Nat → (Nat → Nat → Int32) → Prop} {F F' : (Nat → Nat → Int32) → Prop} (H2 : ∀ M', E 2 M' → E' 2 M') (HF : ∀ M', F M' → F' M') : C_find M sc x y E F → C_find M sc x y E' F' := by
  unfold C_find
  repeat' first | exact H2 _ | exact HF _ | refine And.imp ?_ ?_ | refine imp_all (fun _ => ?_)
theorem C_seek.mono {M : Nat → Nat → Int32} {sc : Nat} {x y z : Int32} {E E' : Nat → (Nat → Nat → Int32) → Prop} {F F' : Int32 → (Nat → Nat → Int32) → Prop} (H0 : ∀ M', E 0 M' → E' 0 M') (H2 : ∀ M', E 2 M' → E' 2 M') (HF : ∀ r M', F r M' → F' r M') : C_seek M sc x y z E F → C_seek M sc x y z E' F' := by
  unfold C_seek
  repeat' first | exact H0 _ | exact H2 _ | exact HF _ _ | refine And.imp ?_ ?_ | refine imp_all (fun _ => ?_)
theorem C_move.mono {M : Nat → Nat → Int32} {sc : Nat} {x y : Int32} {E E' : Nat → (Nat → Nat → Int32) → Prop} {F F' : Int32 → (Nat → Nat → Int32) → Prop} (H0 : ∀ M', E 0 M' → E' 0 M') (H2 : ∀ M', E 2 M' → E' 2 M') (HF : ∀ r M', F r M' → F' r M') : C_move M sc x y E F → C_move M sc x y E' F' := by
  unfold C_move
  repeat' first | exact H0 _ | exact H2 _ | exact HF _ _ | refine And.imp ?_ ?_ | refine imp_all (fun _ => ?_)
theorem C_scan.mono {M : Nat → Nat → Int32} {sc : Nat} {x y z : Int32} {E E' : Nat → (Nat → Nat → Int32) → Prop} {F F' : Int32 → (Nat → Nat → Int32) → Prop} (H0 : ∀ M', E 0 M' → E' 0 M') (H2 : ∀ M', E 2 M' → E' 2 M') (HF : ∀ r M', F r M' → F' r M') : C_scan M sc x y z E F → C_scan M sc x y z E' F' := by
  unfold C_scan
  repeat' first | exact H0 _ | exact H2 _ | exact HF _ _ | refine And.imp ?_ ?_ | refine imp_all (fun _ => ?_)
theorem C_current.mono {M : Nat → Nat → Int32} {tc : Nat} {sc : Nat} {x y : Int32} {E E' : Nat → (Nat → Nat → Int32) → Prop} {F F' : Int32 → (Nat → Nat → Int32) → Prop} (H0 : ∀ M', E 0 M' → E' 0 M') (HF : ∀ r M', F r M' → F' r M') : C_current M tc sc x y E F → C_current M tc sc x y E' F' := by
  unfold C_current
  repeat' first | exact H0 _ | exact HF _ _ | refine And.imp ?_ ?_ | refine imp_all (fun _ => ?_)
theorem C_get.mono {M : Nat → Nat → Int32}  {x : Int32} {E E' : Nat → (Nat → Nat → Int32) → Prop} {F F' : Int32 → (Nat → Nat → Int32) → Prop} (H0 : ∀ M', E 0 M' → E' 0 M') (H2 : ∀ M', E 2 M' → E' 2 M') (HF : ∀ r M', F r M' → F' r M') : C_get M  x E F → C_get M  x E' F' := by
  unfold C_get
  repeat' first | exact H0 _ | exact H2 _ | exact HF _ _ | refine And.imp ?_ ?_ | refine imp_all (fun _ => ?_)
theorem C_modify.mono {M : Nat → Nat → Int32} {sc : Nat} {x y : Int32} {E E' : Nat → (Nat → Nat → Int32) → Prop} {F F' : (Nat → Nat → Int32) → Prop} (H0 : ∀ M', E 0 M' → E' 0 M') (H1 : ∀ M', E 1 M' → E' 1 M') (H2 : ∀ M', E 2 M' → E' 2 M') (HF : ∀ M', F M' → F' M') : C_modify M sc x y E F → C_modify M sc x y E' F' := by
  unfold C_modify
  repeat' first | exact H0 _ | exact H1 _ | exact H2 _ | exact HF _ | refine And.imp ?_ ?_ | refine imp_all (fun _ => ?_)
theorem C_connect.mono {M : Nat → Nat → Int32} {sc : Nat} {x : Int32} {E E' : Nat → (Nat → Nat → Int32) → Prop} {F F' : (Nat → Nat → Int32) → Prop} (H0 : ∀ M', E 0 M' → E' 0 M') (H1 : ∀ M', E 1 M' → E' 1 M') (H2 : ∀ M', E 2 M' → E' 2 M') (HF : ∀ M', F M' → F' M') : C_connect M sc x E F → C_connect M sc x E' F' := by
  unfold C_connect
  repeat' first | exact H0 _ | exact H1 _ | exact H2 _ | exact HF _ | refine And.imp ?_ ?_ | refine imp_all (fun _ => ?_)
theorem C_disconnect.mono {M : Nat → Nat → Int32} {sc : Nat} {x : Int32} {E E' : Nat → (Nat → Nat → Int32) → Prop} {F F' : (Nat → Nat → Int32) → Prop} (H0 : ∀ M', E 0 M' → E' 0 M') (H1 : ∀ M', E 1 M' → E' 1 M') (H2 : ∀ M', E 2 M' → E' 2 M') (HF : ∀ M', F M' → F' M') : C_disconnect M sc x E F → C_disconnect M sc x E' F' := by
  unfold C_disconnect
  repeat' first | exact H0 _ | exact H1 _ | exact H2 _ | exact HF _ | refine And.imp ?_ ?_ | refine imp_all (fun _ => ?_)
theorem C_reconnect.mono {M : Nat → Nat → Int32} {sc : Nat} {x : Int32} {E E' : Nat → (Nat → Nat → Int32) → Prop} {F F' : (Nat → Nat → Int32) → Prop} (H0 : ∀ M', E 0 M' → E' 0 M') (H1 : ∀ M', E 1 M' → E' 1 M') (H2 : ∀ M', E 2 M' → E' 2 M') (HF : ∀ M', F M' → F' M') : C_reconnect M sc x E F → C_reconnect M sc x E' F' := by
  unfold C_reconnect
  repeat' first | exact H0 _ | exact H1 _ | exact H2 _ | exact HF _ | refine And.imp ?_ ?_ | refine imp_all (fun _ => ?_)
theorem C_erase.mono {M : Nat → Nat → Int32} {tc : Nat} {sc : Nat} {x : Int32} {E E' : Nat → (Nat → Nat → Int32) → Prop} {F F' : Int32 → (Nat → Nat → Int32) → Prop} (H0 : ∀ M', E 0 M' → E' 0 M') (H1 : ∀ M', E 1 M' → E' 1 M') (H2 : ∀ M', E 2 M' → E' 2 M') (HF : ∀ r M', F r M' → F' r M') : C_erase M tc sc x E F → C_erase M tc sc x E' F' := by
  unfold C_erase
  repeat' first | exact H0 _ | exact H1 _ | exact H2 _ | exact HF _ _ | refine And.imp ?_ ?_ | refine imp_all (fun _ => ?_)
theorem C_members.mono {M : Nat → Nat → Int32} {sc : Nat} {x : Int32} {E E' : Nat → (Nat → Nat → Int32) → Prop} {F F' : Int32 → (Nat → Nat → Int32) → Prop} (H0 : ∀ M', E 0 M' → E' 0 M') (H2 : ∀ M', E 2 M' → E' 2 M') (HF : ∀ r M', F r M' → F' r M') : C_members M sc x E F → C_members M sc x E' F' := by
  unfold C_members
  repeat' first | exact H0 _ | exact H2 _ | exact HF _ _ | refine And.imp ?_ ?_ | refine imp_all (fun _ => ?_)
theorem C_owner.mono {M : Nat → Nat → Int32} {sc : Nat} {x y : Int32} {E E' : Nat → (Nat → Nat → Int32) → Prop} {F F' : Int32 → (Nat → Nat → Int32) → Prop} (H0 : ∀ M', E 0 M' → E' 0 M') (H2 : ∀ M', E 2 M' → E' 2 M') (HF : ∀ r M', F r M' → F' r M') : C_owner M sc x y E F → C_owner M sc x y E' F' := by
  unfold C_owner
  repeat' first | exact H0 _ | exact H2 _ | exact HF _ _ | refine And.imp ?_ ?_ | refine imp_all (fun _ => ?_)
section TLaw1
variable {l : Launch} {Q : ow_R → ow_M → Prop} {M : Nat → Nat → Int32} {K : Int64} {b : Nat} {tc sc : Nat}
theorem t_L_type (hl : l.stackTraces = false) (hC : CI M tc sc) {x : Int32} (hq : C_type M tc x (fun k M' => Q (.inl (some (if k = 0 then 1 else if k = 1 then 2 else 0))) (mm M' K b)) (fun r M' => Q (.inl (some 0)) (mm M' r.toInt64 (b + 1)))) : MT l Y_L_type (7, 97) [.ref 0, .int x, .ref 69] (mm M K (b + 1)) Q := by
  refine mt_of (k := 1) (by decide) cd_L_type.1 (by simp [Value.category]) rfl ?_
  refine aw_aload_n d_L_type_0 rfl ?_
  refine aw_iconst (v := 0) d_L_type_1 (by decide) ?_
  refine aw_aload_n d_L_type_2 rfl ?_
  refine aw_iload_n d_L_type_3 rfl ?_
  refine aw_cT1 (d' := (6, 82)) d_L_type_4 lk_L_7 cd_R_type (Nat.le_of_ble_eq_true rfl) rfl rfl ⟨Nat.le_of_ble_eq_true rfl, Nat.le_of_ble_eq_true rfl⟩ ?_
  refine t_R_type hl hC (C_type.mono ?_ ?_ ?_ hq)
  · intro M' h
    refine ⟨12, 3, 1, ⟨by decide, cx_0, [], [(0, 9, 15, 15)], 0, 9, 13, rfl, ⟨by decide, by decide⟩, by decide, ct_L_13, fun z hz => nomatch hz⟩, by decide, Or.inr ⟨3, d_L_type_12, rfl, rfl⟩, ?_⟩
    refine aw_iconst (v := 1) d_L_type_13 (by decide) ?_
    refine aw_iret d_L_type_14 rfl rfl ?_
    exact h
  · intro M' h
    refine ⟨15, 3, 1, ⟨by decide, cx_1, [(0, 9, 12, 13)], [], 0, 9, 15, rfl, ⟨by decide, by decide⟩, by decide, ct_L_15, List.forall_mem_cons.mpr ⟨⟨by decide, 0, by decide, by decide, ct_L_13⟩, fun z hz => nomatch hz⟩⟩, by decide, Or.inr ⟨3, d_L_type_15, rfl, rfl⟩, ?_⟩
    refine aw_iconst (v := 2) d_L_type_16 (by decide) ?_
    refine aw_iret d_L_type_17 rfl rfl ?_
    exact h
  · intro r M' h
    refine ow_nextT_i ?_
    refine aw_i2l d_L_type_7 ?_
    refine mm_last d_L_type_8 ?_
    refine aw_goto (tgt := 18) d_L_type_9 rfl ?_
    refine aw_iconst (v := 0) d_L_type_18 (by decide) ?_
    refine aw_iret d_L_type_19 rfl rfl ?_
    exact h
theorem t_L_set (hl : l.stackTraces = false) (hC : CI M tc sc) {x y z w : Int32} (hq : C_set M sc x y z w (fun k M' => Q (.inl (some (if k = 0 then 1 else if k = 1 then 2 else 0))) (mm M' K b)) (fun r M' => Q (.inl (some 0)) (mm M' r.toInt64 (b + 1)))) : MT l Y_L_set (7, 100) [.ref 0, .int x, .int y, .int z, .int w, .ref 69] (mm M K (b + 1)) Q := by
  refine mt_of (k := 1) (by decide) cd_L_set.1 (by simp [Value.category]) rfl ?_
  refine aw_aload d_L_set_0 rfl ?_
  refine aw_iconst (v := 0) d_L_set_2 (by decide) ?_
  refine aw_aload_n d_L_set_3 rfl ?_
  refine aw_iload_n d_L_set_4 rfl ?_
  refine aw_iload_n d_L_set_5 rfl ?_
  refine aw_iload_n d_L_set_6 rfl ?_
  refine aw_iload d_L_set_7 rfl ?_
  refine aw_cT4 (d' := (6, 82)) d_L_set_9 lk_L_17 cd_R_set (Nat.le_of_ble_eq_true rfl) rfl rfl ⟨Nat.le_of_ble_eq_true rfl, Nat.le_of_ble_eq_true rfl⟩ ?_
  refine t_R_set hl hC (C_set.mono ?_ ?_ ?_ hq)
  · intro M' h
    refine ⟨17, 6, 2, ⟨by decide, cx_0, [], [(0, 14, 21, 15)], 0, 14, 13, rfl, ⟨by decide, by decide⟩, by decide, ct_L_13, fun z hz => nomatch hz⟩, by decide, Or.inl ⟨d_L_set_17, rfl⟩, ?_⟩
    refine aw_iconst (v := 1) d_L_set_19 (by decide) ?_
    refine aw_iret d_L_set_20 rfl rfl ?_
    exact h
  · intro M' h
    refine ⟨21, 6, 2, ⟨by decide, cx_1, [(0, 14, 17, 13)], [], 0, 14, 15, rfl, ⟨by decide, by decide⟩, by decide, ct_L_15, List.forall_mem_cons.mpr ⟨⟨by decide, 0, by decide, by decide, ct_L_13⟩, fun z hz => nomatch hz⟩⟩, by decide, Or.inl ⟨d_L_set_21, rfl⟩, ?_⟩
    refine aw_iconst (v := 2) d_L_set_23 (by decide) ?_
    refine aw_iret d_L_set_24 rfl rfl ?_
    exact h
  · intro r M' h
    refine ow_nextT_i ?_
    refine aw_i2l d_L_set_12 ?_
    refine mm_last d_L_set_13 ?_
    refine aw_goto (tgt := 25) d_L_set_14 rfl ?_
    refine aw_iconst (v := 0) d_L_set_25 (by decide) ?_
    refine aw_iret d_L_set_26 rfl rfl ?_
    exact h
theorem t_L_store (hl : l.stackTraces = false) (hC : CI M tc sc) {x y z w : Int32} (hq : C_store M sc x y z w (fun k M' => Q (.inl (some (if k = 0 then 1 else if k = 2 then 2 else if k = 1 then 3 else 0))) (mm M' K b)) (fun r M' => Q (.inl (some 0)) (mm M' r.toInt64 (b + 1)))) : MT l Y_L_store (10, 148) [.ref 0, .int x, .int y, .int z, .int w, .ref 69] (mm M K (b + 1)) Q := by
  refine mt_of (k := 1) (by decide) cd_L_store.1 (by simp [Value.category]) rfl ?_
  refine aw_aload d_L_store_0 rfl ?_
  refine aw_iconst (v := 0) d_L_store_2 (by decide) ?_
  refine aw_aload_n d_L_store_3 rfl ?_
  refine aw_iload_n d_L_store_4 rfl ?_
  refine aw_iload_n d_L_store_5 rfl ?_
  refine aw_iload_n d_L_store_6 rfl ?_
  refine aw_iload d_L_store_7 rfl ?_
  refine aw_cT4 (d' := (9, 128)) d_L_store_9 lk_L_21 cd_R_store (Nat.le_of_ble_eq_true rfl) rfl rfl ⟨Nat.le_of_ble_eq_true rfl, Nat.le_of_ble_eq_true rfl⟩ ?_
  refine t_R_store hl hC (C_store.mono ?_ ?_ ?_ ?_ hq)
  · intro M' h
    refine ⟨17, 6, 2, ⟨by decide, cx_0, [], [(0, 14, 21, 24), (0, 14, 25, 15)], 0, 14, 13, rfl, ⟨by decide, by decide⟩, by decide, ct_L_13, fun z hz => nomatch hz⟩, by decide, Or.inl ⟨d_L_store_17, rfl⟩, ?_⟩
    refine aw_iconst (v := 1) d_L_store_19 (by decide) ?_
    refine aw_iret d_L_store_20 rfl rfl ?_
    exact h
  · intro M' h
    refine ⟨25, 6, 2, ⟨by decide, cx_1, [(0, 14, 17, 13), (0, 14, 21, 24)], [], 0, 14, 15, rfl, ⟨by decide, by decide⟩, by decide, ct_L_15, List.forall_mem_cons.mpr ⟨⟨by decide, 0, by decide, by decide, ct_L_13⟩, List.forall_mem_cons.mpr ⟨⟨by decide, 2, by decide, by decide, ct_L_24⟩, fun z hz => nomatch hz⟩⟩⟩, by decide, Or.inl ⟨d_L_store_25, rfl⟩, ?_⟩
    refine aw_iconst (v := 3) d_L_store_27 (by decide) ?_
    refine aw_iret d_L_store_28 rfl rfl ?_
    exact h
  · intro M' h
    refine ⟨21, 6, 2, ⟨by decide, cx_2, [(0, 14, 17, 13)], [(0, 14, 25, 15)], 0, 14, 24, rfl, ⟨by decide, by decide⟩, by decide, ct_L_24, List.forall_mem_cons.mpr ⟨⟨by decide, 0, by decide, by decide, ct_L_13⟩, fun z hz => nomatch hz⟩⟩, by decide, Or.inl ⟨d_L_store_21, rfl⟩, ?_⟩
    refine aw_iconst (v := 2) d_L_store_23 (by decide) ?_
    refine aw_iret d_L_store_24 rfl rfl ?_
    exact h
  · intro r M' h
    refine ow_nextT_i ?_
    refine aw_i2l d_L_store_12 ?_
    refine mm_last d_L_store_13 ?_
    refine aw_goto (tgt := 29) d_L_store_14 rfl ?_
    refine aw_iconst (v := 0) d_L_store_29 (by decide) ?_
    refine aw_iret d_L_store_30 rfl rfl ?_
    exact h
theorem t_L_find (hl : l.stackTraces = false) (hC : CI M tc sc) {x y : Int32} (hq : C_find M sc x y (fun k M' => Q (.inl (some (if k = 2 then 1 else 0))) (mm M' K b)) (fun M' => Q (.inl (some 0)) (mm M' K (b + 1)))) : MT l Y_L_find (8, 111) [.ref 0, .int x, .int y] (mm M K (b + 1)) Q := by
  refine mt_of (k := 1) (by decide) cd_L_find.1 (by simp [Value.category]) rfl ?_
  refine aw_aload_n d_L_find_0 rfl ?_
  refine aw_iload_n d_L_find_1 rfl ?_
  refine aw_iload_n d_L_find_2 rfl ?_
  refine aw_cT2 (d' := (7, 97)) d_L_find_3 lk_L_26 cd_R_find (Nat.le_of_ble_eq_true rfl) rfl rfl ⟨Nat.le_of_ble_eq_true rfl, Nat.le_of_ble_eq_true rfl⟩ ?_
  refine t_R_find hl hC (C_find.mono ?_ ?_ hq)
  · intro M' h
    refine ⟨9, 3, 1, ⟨by decide, cx_2, [], [], 0, 6, 24, rfl, ⟨by decide, by decide⟩, by decide, ct_L_24, fun z hz => nomatch hz⟩, by decide, Or.inr ⟨3, d_L_find_9, rfl, rfl⟩, ?_⟩
    refine aw_iconst (v := 1) d_L_find_10 (by decide) ?_
    refine aw_iret d_L_find_11 rfl rfl ?_
    exact h
  · intro M' h
    refine ow_nextT_v ?_
    refine aw_goto (tgt := 12) d_L_find_6 rfl ?_
    refine aw_iconst (v := 0) d_L_find_12 (by decide) ?_
    refine aw_iret d_L_find_13 rfl rfl ?_
    exact h
theorem t_L_seek (hl : l.stackTraces = false) (hC : CI M tc sc) (hF : FC M) {x y z : Int32} (hq : C_seek M sc x y z (fun k M' => Q (.inl (some (if k = 0 then 1 else if k = 2 then 2 else 0))) (mm M' K b)) (fun r M' => Q (.inl (some 0)) (mm M' r.toInt64 (b + 1)))) : MT l Y_L_seek (8, 112) [.ref 0, .int x, .int y, .int z, .ref 69] (mm M K (b + 1)) Q := by
  refine mt_of (k := 1) (by decide) cd_L_seek.1 (by simp [Value.category]) rfl ?_
  refine aw_aload d_L_seek_0 rfl ?_
  refine aw_iconst (v := 0) d_L_seek_2 (by decide) ?_
  refine aw_aload_n d_L_seek_3 rfl ?_
  refine aw_iload_n d_L_seek_4 rfl ?_
  refine aw_iload_n d_L_seek_5 rfl ?_
  refine aw_iload_n d_L_seek_6 rfl ?_
  refine aw_cT3 (d' := (7, 95)) d_L_seek_7 lk_L_30 cd_R_seek (Nat.le_of_ble_eq_true rfl) rfl rfl ⟨Nat.le_of_ble_eq_true rfl, Nat.le_of_ble_eq_true rfl⟩ ?_
  refine t_R_seek hl hC hF (C_seek.mono ?_ ?_ ?_ hq)
  · intro M' h
    refine ⟨15, 5, 2, ⟨by decide, cx_0, [], [(0, 12, 19, 24)], 0, 12, 13, rfl, ⟨by decide, by decide⟩, by decide, ct_L_13, fun z hz => nomatch hz⟩, by decide, Or.inl ⟨d_L_seek_15, rfl⟩, ?_⟩
    refine aw_iconst (v := 1) d_L_seek_17 (by decide) ?_
    refine aw_iret d_L_seek_18 rfl rfl ?_
    exact h
  · intro M' h
    refine ⟨19, 5, 2, ⟨by decide, cx_2, [(0, 12, 15, 13)], [], 0, 12, 24, rfl, ⟨by decide, by decide⟩, by decide, ct_L_24, List.forall_mem_cons.mpr ⟨⟨by decide, 0, by decide, by decide, ct_L_13⟩, fun z hz => nomatch hz⟩⟩, by decide, Or.inl ⟨d_L_seek_19, rfl⟩, ?_⟩
    refine aw_iconst (v := 2) d_L_seek_21 (by decide) ?_
    refine aw_iret d_L_seek_22 rfl rfl ?_
    exact h
  · intro r M' h
    refine ow_nextT_i ?_
    refine aw_i2l d_L_seek_10 ?_
    refine mm_last d_L_seek_11 ?_
    refine aw_goto (tgt := 23) d_L_seek_12 rfl ?_
    refine aw_iconst (v := 0) d_L_seek_23 (by decide) ?_
    refine aw_iret d_L_seek_24 rfl rfl ?_
    exact h
theorem t_L_move (hl : l.stackTraces = false) (hC : CI M tc sc) {x y : Int32} (hq : C_move M sc x y (fun k M' => Q (.inl (some (if k = 0 then 1 else if k = 2 then 2 else 0))) (mm M' K b)) (fun r M' => Q (.inl (some 0)) (mm M' r.toInt64 (b + 1)))) : MT l Y_L_move (8, 111) [.ref 0, .int x, .int y, .ref 69] (mm M K (b + 1)) Q := by
  refine mt_of (k := 1) (by decide) cd_L_move.1 (by simp [Value.category]) rfl ?_
  refine aw_aload_n d_L_move_0 rfl ?_
  refine aw_iconst (v := 0) d_L_move_1 (by decide) ?_
  refine aw_aload_n d_L_move_2 rfl ?_
  refine aw_iload_n d_L_move_3 rfl ?_
  refine aw_iload_n d_L_move_4 rfl ?_
  refine aw_cT2 (d' := (7, 95)) d_L_move_5 lk_L_34 cd_R_move (Nat.le_of_ble_eq_true rfl) rfl rfl ⟨Nat.le_of_ble_eq_true rfl, Nat.le_of_ble_eq_true rfl⟩ ?_
  refine t_R_move hl hC (C_move.mono ?_ ?_ ?_ hq)
  · intro M' h
    refine ⟨13, 4, 2, ⟨by decide, cx_0, [], [(0, 10, 17, 24)], 0, 10, 13, rfl, ⟨by decide, by decide⟩, by decide, ct_L_13, fun z hz => nomatch hz⟩, by decide, Or.inl ⟨d_L_move_13, rfl⟩, ?_⟩
    refine aw_iconst (v := 1) d_L_move_15 (by decide) ?_
    refine aw_iret d_L_move_16 rfl rfl ?_
    exact h
  · intro M' h
    refine ⟨17, 4, 2, ⟨by decide, cx_2, [(0, 10, 13, 13)], [], 0, 10, 24, rfl, ⟨by decide, by decide⟩, by decide, ct_L_24, List.forall_mem_cons.mpr ⟨⟨by decide, 0, by decide, by decide, ct_L_13⟩, fun z hz => nomatch hz⟩⟩, by decide, Or.inl ⟨d_L_move_17, rfl⟩, ?_⟩
    refine aw_iconst (v := 2) d_L_move_19 (by decide) ?_
    refine aw_iret d_L_move_20 rfl rfl ?_
    exact h
  · intro r M' h
    refine ow_nextT_i ?_
    refine aw_i2l d_L_move_8 ?_
    refine mm_last d_L_move_9 ?_
    refine aw_goto (tgt := 21) d_L_move_10 rfl ?_
    refine aw_iconst (v := 0) d_L_move_21 (by decide) ?_
    refine aw_iret d_L_move_22 rfl rfl ?_
    exact h
theorem t_L_scan (hl : l.stackTraces = false) (hC : CI M tc sc) (hF : FC M) (hP : ∀ s, s < 5 → PO2 M s) {x y z : Int32} (hq : C_scan M sc x y z (fun k M' => Q (.inl (some (if k = 0 then 1 else if k = 2 then 2 else 0))) (mm M' K b)) (fun r M' => Q (.inl (some 0)) (mm M' r.toInt64 (b + 1)))) : MT l Y_L_scan (8, 115) [.ref 0, .int x, .int y, .int z, .ref 69] (mm M K (b + 1)) Q := by
  refine mt_of (k := 1) (by decide) cd_L_scan.1 (by simp [Value.category]) rfl ?_
  refine aw_aload d_L_scan_0 rfl ?_
  refine aw_iconst (v := 0) d_L_scan_2 (by decide) ?_
  refine aw_aload_n d_L_scan_3 rfl ?_
  refine aw_iload_n d_L_scan_4 rfl ?_
  refine aw_iload_n d_L_scan_5 rfl ?_
  refine aw_iload_n d_L_scan_6 rfl ?_
  refine aw_cT3 (d' := (7, 96)) d_L_scan_7 lk_L_38 cd_R_scan (Nat.le_of_ble_eq_true rfl) rfl rfl ⟨Nat.le_of_ble_eq_true rfl, Nat.le_of_ble_eq_true rfl⟩ ?_
  refine t_R_scan hl hC hF hP (C_scan.mono ?_ ?_ ?_ hq)
  · intro M' h
    refine ⟨15, 5, 2, ⟨by decide, cx_0, [], [(0, 12, 19, 24)], 0, 12, 13, rfl, ⟨by decide, by decide⟩, by decide, ct_L_13, fun z hz => nomatch hz⟩, by decide, Or.inl ⟨d_L_scan_15, rfl⟩, ?_⟩
    refine aw_iconst (v := 1) d_L_scan_17 (by decide) ?_
    refine aw_iret d_L_scan_18 rfl rfl ?_
    exact h
  · intro M' h
    refine ⟨19, 5, 2, ⟨by decide, cx_2, [(0, 12, 15, 13)], [], 0, 12, 24, rfl, ⟨by decide, by decide⟩, by decide, ct_L_24, List.forall_mem_cons.mpr ⟨⟨by decide, 0, by decide, by decide, ct_L_13⟩, fun z hz => nomatch hz⟩⟩, by decide, Or.inl ⟨d_L_scan_19, rfl⟩, ?_⟩
    refine aw_iconst (v := 2) d_L_scan_21 (by decide) ?_
    refine aw_iret d_L_scan_22 rfl rfl ?_
    exact h
  · intro r M' h
    refine ow_nextT_i ?_
    refine aw_i2l d_L_scan_10 ?_
    refine mm_last d_L_scan_11 ?_
    refine aw_goto (tgt := 23) d_L_scan_12 rfl ?_
    refine aw_iconst (v := 0) d_L_scan_23 (by decide) ?_
    refine aw_iret d_L_scan_24 rfl rfl ?_
    exact h
theorem t_L_current (hl : l.stackTraces = false) (hC : CI M tc sc) {x y : Int32} (hq : C_current M tc sc x y (fun k M' => Q (.inl (some (if k = 0 then 1 else 0))) (mm M' K b)) (fun r M' => Q (.inl (some 0)) (mm M' r.toInt64 (b + 1)))) : MT l Y_L_current (7, 98) [.ref 0, .int x, .int y, .ref 69] (mm M K (b + 1)) Q := by
  refine mt_of (k := 1) (by decide) cd_L_current.1 (by simp [Value.category]) rfl ?_
  refine aw_aload_n d_L_current_0 rfl ?_
  refine aw_iconst (v := 0) d_L_current_1 (by decide) ?_
  refine aw_aload_n d_L_current_2 rfl ?_
  refine aw_iload_n d_L_current_3 rfl ?_
  refine aw_iload_n d_L_current_4 rfl ?_
  refine aw_cT2 (d' := (6, 82)) d_L_current_5 lk_L_41 cd_R_current (Nat.le_of_ble_eq_true rfl) rfl rfl ⟨Nat.le_of_ble_eq_true rfl, Nat.le_of_ble_eq_true rfl⟩ ?_
  refine t_R_current hl hC (C_current.mono ?_ ?_ hq)
  · intro M' h
    refine ⟨13, 4, 2, ⟨by decide, cx_0, [], [], 0, 10, 13, rfl, ⟨by decide, by decide⟩, by decide, ct_L_13, fun z hz => nomatch hz⟩, by decide, Or.inl ⟨d_L_current_13, rfl⟩, ?_⟩
    refine aw_iconst (v := 1) d_L_current_15 (by decide) ?_
    refine aw_iret d_L_current_16 rfl rfl ?_
    exact h
  · intro r M' h
    refine ow_nextT_i ?_
    refine aw_i2l d_L_current_8 ?_
    refine mm_last d_L_current_9 ?_
    refine aw_goto (tgt := 17) d_L_current_10 rfl ?_
    refine aw_iconst (v := 0) d_L_current_17 (by decide) ?_
    refine aw_iret d_L_current_18 rfl rfl ?_
    exact h
theorem t_L_get (hl : l.stackTraces = false) (hC : CI M tc sc) (hF : FC M) {x : Int32} (hq : C_get M  x (fun k M' => Q (.inl (some (if k = 2 then 1 else if k = 0 then 2 else 0))) (mm M' K b)) (fun r M' => Q (.inl (some 0)) (mm M' r.toInt64 (b + 1)))) : MT l Y_L_get (8, 112) [.ref 0, .int x, .ref 69] (mm M K (b + 1)) Q := by
  refine mt_of (k := 1) (by decide) cd_L_get.1 (by simp [Value.category]) rfl ?_
  refine aw_aload_n d_L_get_0 rfl ?_
  refine aw_iconst (v := 0) d_L_get_1 (by decide) ?_
  refine aw_aload_n d_L_get_2 rfl ?_
  refine aw_iload_n d_L_get_3 rfl ?_
  refine aw_cT1 (d' := (7, 96)) d_L_get_4 lk_L_44 cd_R_get (Nat.le_of_ble_eq_true rfl) rfl rfl ⟨Nat.le_of_ble_eq_true rfl, Nat.le_of_ble_eq_true rfl⟩ ?_
  refine t_R_get hl hC hF (C_get.mono ?_ ?_ ?_ hq)
  · intro M' h
    refine ⟨15, 3, 1, ⟨by decide, cx_0, [(0, 9, 12, 24)], [], 0, 9, 13, rfl, ⟨by decide, by decide⟩, by decide, ct_L_13, List.forall_mem_cons.mpr ⟨⟨by decide, 2, by decide, by decide, ct_L_24⟩, fun z hz => nomatch hz⟩⟩, by decide, Or.inr ⟨3, d_L_get_15, rfl, rfl⟩, ?_⟩
    refine aw_iconst (v := 2) d_L_get_16 (by decide) ?_
    refine aw_iret d_L_get_17 rfl rfl ?_
    exact h
  · intro M' h
    refine ⟨12, 3, 1, ⟨by decide, cx_2, [], [(0, 9, 15, 13)], 0, 9, 24, rfl, ⟨by decide, by decide⟩, by decide, ct_L_24, fun z hz => nomatch hz⟩, by decide, Or.inr ⟨3, d_L_get_12, rfl, rfl⟩, ?_⟩
    refine aw_iconst (v := 1) d_L_get_13 (by decide) ?_
    refine aw_iret d_L_get_14 rfl rfl ?_
    exact h
  · intro r M' h
    refine ow_nextT_i ?_
    refine aw_i2l d_L_get_7 ?_
    refine mm_last d_L_get_8 ?_
    refine aw_goto (tgt := 18) d_L_get_9 rfl ?_
    refine aw_iconst (v := 0) d_L_get_18 (by decide) ?_
    refine aw_iret d_L_get_19 rfl rfl ?_
    exact h
theorem t_L_modify (hl : l.stackTraces = false) (hC : CI M tc sc) (hF : FC M) {x y : Int32} (hq : C_modify M sc x y (fun k M' => Q (.inl (some (if k = 2 then 1 else if k = 0 then 2 else if k = 1 then 3 else 0))) (mm M' K b)) (fun M' => Q (.inl (some 0)) (mm M' K (b + 1)))) : MT l Y_L_modify (9, 129) [.ref 0, .int x, .int y] (mm M K (b + 1)) Q := by
  refine mt_of (k := 1) (by decide) cd_L_modify.1 (by simp [Value.category]) rfl ?_
  refine aw_aload_n d_L_modify_0 rfl ?_
  refine aw_iload_n d_L_modify_1 rfl ?_
  refine aw_iload_n d_L_modify_2 rfl ?_
  refine aw_cT2 (d' := (8, 114)) d_L_modify_3 lk_L_47 cd_R_modify (Nat.le_of_ble_eq_true rfl) rfl rfl ⟨Nat.le_of_ble_eq_true rfl, Nat.le_of_ble_eq_true rfl⟩ ?_
  refine t_R_modify hl hC hF (C_modify.mono ?_ ?_ ?_ ?_ hq)
  · intro M' h
    refine ⟨12, 3, 1, ⟨by decide, cx_0, [(0, 6, 9, 24)], [(0, 6, 15, 15)], 0, 6, 13, rfl, ⟨by decide, by decide⟩, by decide, ct_L_13, List.forall_mem_cons.mpr ⟨⟨by decide, 2, by decide, by decide, ct_L_24⟩, fun z hz => nomatch hz⟩⟩, by decide, Or.inr ⟨3, d_L_modify_12, rfl, rfl⟩, ?_⟩
    refine aw_iconst (v := 2) d_L_modify_13 (by decide) ?_
    refine aw_iret d_L_modify_14 rfl rfl ?_
    exact h
  · intro M' h
    refine ⟨15, 3, 1, ⟨by decide, cx_1, [(0, 6, 9, 24), (0, 6, 12, 13)], [], 0, 6, 15, rfl, ⟨by decide, by decide⟩, by decide, ct_L_15, List.forall_mem_cons.mpr ⟨⟨by decide, 2, by decide, by decide, ct_L_24⟩, List.forall_mem_cons.mpr ⟨⟨by decide, 0, by decide, by decide, ct_L_13⟩, fun z hz => nomatch hz⟩⟩⟩, by decide, Or.inr ⟨3, d_L_modify_15, rfl, rfl⟩, ?_⟩
    refine aw_iconst (v := 3) d_L_modify_16 (by decide) ?_
    refine aw_iret d_L_modify_17 rfl rfl ?_
    exact h
  · intro M' h
    refine ⟨9, 3, 1, ⟨by decide, cx_2, [], [(0, 6, 12, 13), (0, 6, 15, 15)], 0, 6, 24, rfl, ⟨by decide, by decide⟩, by decide, ct_L_24, fun z hz => nomatch hz⟩, by decide, Or.inr ⟨3, d_L_modify_9, rfl, rfl⟩, ?_⟩
    refine aw_iconst (v := 1) d_L_modify_10 (by decide) ?_
    refine aw_iret d_L_modify_11 rfl rfl ?_
    exact h
  · intro M' h
    refine ow_nextT_v ?_
    refine aw_goto (tgt := 18) d_L_modify_6 rfl ?_
    refine aw_iconst (v := 0) d_L_modify_18 (by decide) ?_
    refine aw_iret d_L_modify_19 rfl rfl ?_
    exact h
theorem t_L_connect (hl : l.stackTraces = false) (hC : CI M tc sc) {x : Int32} (hq : C_connect M sc x (fun k M' => Q (.inl (some (if k = 0 then 1 else if k = 2 then 2 else if k = 1 then 3 else 0))) (mm M' K b)) (fun M' => Q (.inl (some 0)) (mm M' K (b + 1)))) : MT l Y_L_connect (9, 128) [.ref 0, .int x] (mm M K (b + 1)) Q := by
  refine mt_of (k := 1) (by decide) cd_L_connect.1 (by simp [Value.category]) rfl ?_
  refine aw_aload_n d_L_connect_0 rfl ?_
  refine aw_iload_n d_L_connect_1 rfl ?_
  refine aw_cT1 (d' := (8, 113)) d_L_connect_2 lk_L_50 cd_R_connect (Nat.le_of_ble_eq_true rfl) rfl rfl ⟨Nat.le_of_ble_eq_true rfl, Nat.le_of_ble_eq_true rfl⟩ ?_
  refine t_R_connect hl hC (C_connect.mono ?_ ?_ ?_ ?_ hq)
  · intro M' h
    refine ⟨8, 2, 1, ⟨by decide, cx_0, [], [(0, 5, 11, 24), (0, 5, 14, 15)], 0, 5, 13, rfl, ⟨by decide, by decide⟩, by decide, ct_L_13, fun z hz => nomatch hz⟩, by decide, Or.inr ⟨2, d_L_connect_8, rfl, rfl⟩, ?_⟩
    refine aw_iconst (v := 1) d_L_connect_9 (by decide) ?_
    refine aw_iret d_L_connect_10 rfl rfl ?_
    exact h
  · intro M' h
    refine ⟨14, 2, 1, ⟨by decide, cx_1, [(0, 5, 8, 13), (0, 5, 11, 24)], [], 0, 5, 15, rfl, ⟨by decide, by decide⟩, by decide, ct_L_15, List.forall_mem_cons.mpr ⟨⟨by decide, 0, by decide, by decide, ct_L_13⟩, List.forall_mem_cons.mpr ⟨⟨by decide, 2, by decide, by decide, ct_L_24⟩, fun z hz => nomatch hz⟩⟩⟩, by decide, Or.inr ⟨2, d_L_connect_14, rfl, rfl⟩, ?_⟩
    refine aw_iconst (v := 3) d_L_connect_15 (by decide) ?_
    refine aw_iret d_L_connect_16 rfl rfl ?_
    exact h
  · intro M' h
    refine ⟨11, 2, 1, ⟨by decide, cx_2, [(0, 5, 8, 13)], [(0, 5, 14, 15)], 0, 5, 24, rfl, ⟨by decide, by decide⟩, by decide, ct_L_24, List.forall_mem_cons.mpr ⟨⟨by decide, 0, by decide, by decide, ct_L_13⟩, fun z hz => nomatch hz⟩⟩, by decide, Or.inr ⟨2, d_L_connect_11, rfl, rfl⟩, ?_⟩
    refine aw_iconst (v := 2) d_L_connect_12 (by decide) ?_
    refine aw_iret d_L_connect_13 rfl rfl ?_
    exact h
  · intro M' h
    refine ow_nextT_v ?_
    refine aw_goto (tgt := 17) d_L_connect_5 rfl ?_
    refine aw_iconst (v := 0) d_L_connect_17 (by decide) ?_
    refine aw_iret d_L_connect_18 rfl rfl ?_
    exact h
theorem t_L_disconnect (hl : l.stackTraces = false) (hC : CI M tc sc) (hP : ∀ s, s < 5 → POK M s) {x : Int32} (hq : C_disconnect M sc x (fun k M' => Q (.inl (some (if k = 0 then 1 else if k = 2 then 2 else if k = 1 then 3 else 0))) (mm M' K b)) (fun M' => Q (.inl (some 0)) (mm M' K (b + 1)))) : MT l Y_L_disconnect (8, 109) [.ref 0, .int x] (mm M K (b + 1)) Q := by
  refine mt_of (k := 1) (by decide) cd_L_disconnect.1 (by simp [Value.category]) rfl ?_
  refine aw_aload_n d_L_disconnect_0 rfl ?_
  refine aw_iload_n d_L_disconnect_1 rfl ?_
  refine aw_cT1 (d' := (7, 95)) d_L_disconnect_2 lk_L_54 cd_R_disconnect (Nat.le_of_ble_eq_true rfl) rfl rfl ⟨Nat.le_of_ble_eq_true rfl, Nat.le_of_ble_eq_true rfl⟩ ?_
  refine t_R_disconnect hl hC hP (C_disconnect.mono ?_ ?_ ?_ ?_ hq)
  · intro M' h
    refine ⟨8, 2, 1, ⟨by decide, cx_0, [], [(0, 5, 11, 24), (0, 5, 14, 15)], 0, 5, 13, rfl, ⟨by decide, by decide⟩, by decide, ct_L_13, fun z hz => nomatch hz⟩, by decide, Or.inr ⟨2, d_L_disconnect_8, rfl, rfl⟩, ?_⟩
    refine aw_iconst (v := 1) d_L_disconnect_9 (by decide) ?_
    refine aw_iret d_L_disconnect_10 rfl rfl ?_
    exact h
  · intro M' h
    refine ⟨14, 2, 1, ⟨by decide, cx_1, [(0, 5, 8, 13), (0, 5, 11, 24)], [], 0, 5, 15, rfl, ⟨by decide, by decide⟩, by decide, ct_L_15, List.forall_mem_cons.mpr ⟨⟨by decide, 0, by decide, by decide, ct_L_13⟩, List.forall_mem_cons.mpr ⟨⟨by decide, 2, by decide, by decide, ct_L_24⟩, fun z hz => nomatch hz⟩⟩⟩, by decide, Or.inr ⟨2, d_L_disconnect_14, rfl, rfl⟩, ?_⟩
    refine aw_iconst (v := 3) d_L_disconnect_15 (by decide) ?_
    refine aw_iret d_L_disconnect_16 rfl rfl ?_
    exact h
  · intro M' h
    refine ⟨11, 2, 1, ⟨by decide, cx_2, [(0, 5, 8, 13)], [(0, 5, 14, 15)], 0, 5, 24, rfl, ⟨by decide, by decide⟩, by decide, ct_L_24, List.forall_mem_cons.mpr ⟨⟨by decide, 0, by decide, by decide, ct_L_13⟩, fun z hz => nomatch hz⟩⟩, by decide, Or.inr ⟨2, d_L_disconnect_11, rfl, rfl⟩, ?_⟩
    refine aw_iconst (v := 2) d_L_disconnect_12 (by decide) ?_
    refine aw_iret d_L_disconnect_13 rfl rfl ?_
    exact h
  · intro M' h
    refine ow_nextT_v ?_
    refine aw_goto (tgt := 17) d_L_disconnect_5 rfl ?_
    refine aw_iconst (v := 0) d_L_disconnect_17 (by decide) ?_
    refine aw_iret d_L_disconnect_18 rfl rfl ?_
    exact h
theorem t_L_reconnect (hl : l.stackTraces = false) (hC : CI M tc sc) {x : Int32} (hq : C_reconnect M sc x (fun k M' => Q (.inl (some (if k = 0 then 1 else if k = 2 then 2 else if k = 1 then 3 else 0))) (mm M' K b)) (fun M' => Q (.inl (some 0)) (mm M' K (b + 1)))) : MT l Y_L_reconnect (9, 128) [.ref 0, .int x] (mm M K (b + 1)) Q := by
  refine mt_of (k := 1) (by decide) cd_L_reconnect.1 (by simp [Value.category]) rfl ?_
  refine aw_aload_n d_L_reconnect_0 rfl ?_
  refine aw_iload_n d_L_reconnect_1 rfl ?_
  refine aw_cT1 (d' := (8, 113)) d_L_reconnect_2 lk_L_57 cd_R_reconnect (Nat.le_of_ble_eq_true rfl) rfl rfl ⟨Nat.le_of_ble_eq_true rfl, Nat.le_of_ble_eq_true rfl⟩ ?_
  refine t_R_reconnect hl hC (C_reconnect.mono ?_ ?_ ?_ ?_ hq)
  · intro M' h
    refine ⟨8, 2, 1, ⟨by decide, cx_0, [], [(0, 5, 11, 24), (0, 5, 14, 15)], 0, 5, 13, rfl, ⟨by decide, by decide⟩, by decide, ct_L_13, fun z hz => nomatch hz⟩, by decide, Or.inr ⟨2, d_L_reconnect_8, rfl, rfl⟩, ?_⟩
    refine aw_iconst (v := 1) d_L_reconnect_9 (by decide) ?_
    refine aw_iret d_L_reconnect_10 rfl rfl ?_
    exact h
  · intro M' h
    refine ⟨14, 2, 1, ⟨by decide, cx_1, [(0, 5, 8, 13), (0, 5, 11, 24)], [], 0, 5, 15, rfl, ⟨by decide, by decide⟩, by decide, ct_L_15, List.forall_mem_cons.mpr ⟨⟨by decide, 0, by decide, by decide, ct_L_13⟩, List.forall_mem_cons.mpr ⟨⟨by decide, 2, by decide, by decide, ct_L_24⟩, fun z hz => nomatch hz⟩⟩⟩, by decide, Or.inr ⟨2, d_L_reconnect_14, rfl, rfl⟩, ?_⟩
    refine aw_iconst (v := 3) d_L_reconnect_15 (by decide) ?_
    refine aw_iret d_L_reconnect_16 rfl rfl ?_
    exact h
  · intro M' h
    refine ⟨11, 2, 1, ⟨by decide, cx_2, [(0, 5, 8, 13)], [(0, 5, 14, 15)], 0, 5, 24, rfl, ⟨by decide, by decide⟩, by decide, ct_L_24, List.forall_mem_cons.mpr ⟨⟨by decide, 0, by decide, by decide, ct_L_13⟩, fun z hz => nomatch hz⟩⟩, by decide, Or.inr ⟨2, d_L_reconnect_11, rfl, rfl⟩, ?_⟩
    refine aw_iconst (v := 2) d_L_reconnect_12 (by decide) ?_
    refine aw_iret d_L_reconnect_13 rfl rfl ?_
    exact h
  · intro M' h
    refine ow_nextT_v ?_
    refine aw_goto (tgt := 17) d_L_reconnect_5 rfl ?_
    refine aw_iconst (v := 0) d_L_reconnect_17 (by decide) ?_
    refine aw_iret d_L_reconnect_18 rfl rfl ?_
    exact h
theorem t_L_erase (hl : l.stackTraces = false) (hC : CI M tc sc) (hP : ∀ s, s < 5 → POK M s) {x : Int32} (hq : C_erase M tc sc x (fun k M' => Q (.inl (some (if k = 0 then 1 else if k = 2 then 2 else if k = 1 then 3 else 0))) (mm M' K b)) (fun r M' => Q (.inl (some 0)) (mm M' r.toInt64 (b + 1)))) : MT l Y_L_erase (8, 111) [.ref 0, .int x, .ref 69] (mm M K (b + 1)) Q := by
  refine mt_of (k := 1) (by decide) cd_L_erase.1 (by simp [Value.category]) rfl ?_
  refine aw_aload_n d_L_erase_0 rfl ?_
  refine aw_iconst (v := 0) d_L_erase_1 (by decide) ?_
  refine aw_aload_n d_L_erase_2 rfl ?_
  refine aw_iload_n d_L_erase_3 rfl ?_
  refine aw_cT1 (d' := (7, 94)) d_L_erase_4 lk_L_60 cd_R_erase (Nat.le_of_ble_eq_true rfl) rfl rfl ⟨Nat.le_of_ble_eq_true rfl, Nat.le_of_ble_eq_true rfl⟩ ?_
  refine t_R_erase hl hC hP (C_erase.mono ?_ ?_ ?_ ?_ hq)
  · intro M' h
    refine ⟨12, 3, 1, ⟨by decide, cx_0, [], [(0, 9, 15, 24), (0, 9, 18, 15)], 0, 9, 13, rfl, ⟨by decide, by decide⟩, by decide, ct_L_13, fun z hz => nomatch hz⟩, by decide, Or.inr ⟨3, d_L_erase_12, rfl, rfl⟩, ?_⟩
    refine aw_iconst (v := 1) d_L_erase_13 (by decide) ?_
    refine aw_iret d_L_erase_14 rfl rfl ?_
    exact h
  · intro M' h
    refine ⟨18, 3, 1, ⟨by decide, cx_1, [(0, 9, 12, 13), (0, 9, 15, 24)], [], 0, 9, 15, rfl, ⟨by decide, by decide⟩, by decide, ct_L_15, List.forall_mem_cons.mpr ⟨⟨by decide, 0, by decide, by decide, ct_L_13⟩, List.forall_mem_cons.mpr ⟨⟨by decide, 2, by decide, by decide, ct_L_24⟩, fun z hz => nomatch hz⟩⟩⟩, by decide, Or.inr ⟨3, d_L_erase_18, rfl, rfl⟩, ?_⟩
    refine aw_iconst (v := 3) d_L_erase_19 (by decide) ?_
    refine aw_iret d_L_erase_20 rfl rfl ?_
    exact h
  · intro M' h
    refine ⟨15, 3, 1, ⟨by decide, cx_2, [(0, 9, 12, 13)], [(0, 9, 18, 15)], 0, 9, 24, rfl, ⟨by decide, by decide⟩, by decide, ct_L_24, List.forall_mem_cons.mpr ⟨⟨by decide, 0, by decide, by decide, ct_L_13⟩, fun z hz => nomatch hz⟩⟩, by decide, Or.inr ⟨3, d_L_erase_15, rfl, rfl⟩, ?_⟩
    refine aw_iconst (v := 2) d_L_erase_16 (by decide) ?_
    refine aw_iret d_L_erase_17 rfl rfl ?_
    exact h
  · intro r M' h
    refine ow_nextT_i ?_
    refine aw_i2l d_L_erase_7 ?_
    refine mm_last d_L_erase_8 ?_
    refine aw_goto (tgt := 21) d_L_erase_9 rfl ?_
    refine aw_iconst (v := 0) d_L_erase_21 (by decide) ?_
    refine aw_iret d_L_erase_22 rfl rfl ?_
    exact h
theorem t_L_members (hl : l.stackTraces = false) (hC : CI M tc sc) {x : Int32} (hq : C_members M sc x (fun k M' => Q (.inl (some (if k = 0 then 1 else if k = 2 then 2 else 0))) (mm M' K b)) (fun r M' => Q (.inl (some 0)) (mm M' r.toInt64 (b + 1)))) : MT l Y_L_members (8, 113) [.ref 0, .int x, .ref 69] (mm M K (b + 1)) Q := by
  refine mt_of (k := 1) (by decide) cd_L_members.1 (by simp [Value.category]) rfl ?_
  refine aw_aload_n d_L_members_0 rfl ?_
  refine aw_iconst (v := 0) d_L_members_1 (by decide) ?_
  refine aw_aload_n d_L_members_2 rfl ?_
  refine aw_iload_n d_L_members_3 rfl ?_
  refine aw_cT1 (d' := (7, 98)) d_L_members_4 lk_L_63 cd_R_members (Nat.le_of_ble_eq_true rfl) rfl rfl ⟨Nat.le_of_ble_eq_true rfl, Nat.le_of_ble_eq_true rfl⟩ ?_
  refine t_R_members hl hC (C_members.mono ?_ ?_ ?_ hq)
  · intro M' h
    refine ⟨12, 3, 1, ⟨by decide, cx_0, [], [(0, 9, 15, 24)], 0, 9, 13, rfl, ⟨by decide, by decide⟩, by decide, ct_L_13, fun z hz => nomatch hz⟩, by decide, Or.inr ⟨3, d_L_members_12, rfl, rfl⟩, ?_⟩
    refine aw_iconst (v := 1) d_L_members_13 (by decide) ?_
    refine aw_iret d_L_members_14 rfl rfl ?_
    exact h
  · intro M' h
    refine ⟨15, 3, 1, ⟨by decide, cx_2, [(0, 9, 12, 13)], [], 0, 9, 24, rfl, ⟨by decide, by decide⟩, by decide, ct_L_24, List.forall_mem_cons.mpr ⟨⟨by decide, 0, by decide, by decide, ct_L_13⟩, fun z hz => nomatch hz⟩⟩, by decide, Or.inr ⟨3, d_L_members_15, rfl, rfl⟩, ?_⟩
    refine aw_iconst (v := 2) d_L_members_16 (by decide) ?_
    refine aw_iret d_L_members_17 rfl rfl ?_
    exact h
  · intro r M' h
    refine ow_nextT_i ?_
    refine aw_i2l d_L_members_7 ?_
    refine mm_last d_L_members_8 ?_
    refine aw_goto (tgt := 18) d_L_members_9 rfl ?_
    refine aw_iconst (v := 0) d_L_members_18 (by decide) ?_
    refine aw_iret d_L_members_19 rfl rfl ?_
    exact h
theorem t_L_owner (hl : l.stackTraces = false) (hC : CI M tc sc) {x y : Int32} (hq : C_owner M sc x y (fun k M' => Q (.inl (some (if k = 0 then 1 else if k = 2 then 2 else 0))) (mm M' K b)) (fun r M' => Q (.inl (some 0)) (mm M' r.toInt64 (b + 1)))) : MT l Y_L_owner (8, 114) [.ref 0, .int x, .int y, .ref 69] (mm M K (b + 1)) Q := by
  refine mt_of (k := 1) (by decide) cd_L_owner.1 (by simp [Value.category]) rfl ?_
  refine aw_aload_n d_L_owner_0 rfl ?_
  refine aw_iconst (v := 0) d_L_owner_1 (by decide) ?_
  refine aw_aload_n d_L_owner_2 rfl ?_
  refine aw_iload_n d_L_owner_3 rfl ?_
  refine aw_iload_n d_L_owner_4 rfl ?_
  refine aw_cT2 (d' := (7, 98)) d_L_owner_5 lk_L_66 cd_R_owner (Nat.le_of_ble_eq_true rfl) rfl rfl ⟨Nat.le_of_ble_eq_true rfl, Nat.le_of_ble_eq_true rfl⟩ ?_
  refine t_R_owner hl hC (C_owner.mono ?_ ?_ ?_ hq)
  · intro M' h
    refine ⟨13, 4, 2, ⟨by decide, cx_0, [], [(0, 10, 17, 24)], 0, 10, 13, rfl, ⟨by decide, by decide⟩, by decide, ct_L_13, fun z hz => nomatch hz⟩, by decide, Or.inl ⟨d_L_owner_13, rfl⟩, ?_⟩
    refine aw_iconst (v := 1) d_L_owner_15 (by decide) ?_
    refine aw_iret d_L_owner_16 rfl rfl ?_
    exact h
  · intro M' h
    refine ⟨17, 4, 2, ⟨by decide, cx_2, [(0, 10, 13, 13)], [], 0, 10, 24, rfl, ⟨by decide, by decide⟩, by decide, ct_L_24, List.forall_mem_cons.mpr ⟨⟨by decide, 0, by decide, by decide, ct_L_13⟩, fun z hz => nomatch hz⟩⟩, by decide, Or.inl ⟨d_L_owner_17, rfl⟩, ?_⟩
    refine aw_iconst (v := 2) d_L_owner_19 (by decide) ?_
    refine aw_iret d_L_owner_20 rfl rfl ?_
    exact h
  · intro r M' h
    refine ow_nextT_i ?_
    refine aw_i2l d_L_owner_8 ?_
    refine mm_last d_L_owner_9 ?_
    refine aw_goto (tgt := 21) d_L_owner_10 rfl ?_
    refine aw_iconst (v := 0) d_L_owner_21 (by decide) ?_
    refine aw_iret d_L_owner_22 rfl rfl ?_
    exact h
end TLaw1
