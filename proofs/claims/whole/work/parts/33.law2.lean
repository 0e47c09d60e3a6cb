/-! the law's body, over an invariant that each call keeps -/
abbrev Y_W : ow_Y := (x, code, 7, some .boolean, [])
theorem lgc (r : Int64) : lg_cmp r r = 0 := by simp [lg_cmp]
theorem law_sld {l : Launch} {Y : ow_Y} {L : Nat} {xs : Nat → Int32} {d : Nat × Nat} {Q : ow_R → ow_M → Prop} {pc : Nat} {Lo : List (Option Value)} {S : List Value} {u : ow_M} {j z : Nat} {i : Int32} (hi : i = nI j) (hj : j < L) (hL : L < 2 ^ 31) (hdg : decode Y.2.1 pc = .ok (.iaload, 1)) (kk : AW l Y (some (L, xs)) d Q (pc + 1) Lo (.int (xs j) :: S) u) : AW l Y (some (L, xs)) d Q pc Lo (.int i :: .retAddr z :: S) u := by
  subst hi
  refine aw_sld rfl hdg (vp_in_nI hj hL) ?_
  rw [nI_clamp (by omega)]
  exact kk
theorem nIsub5 {L : Nat} (h : L < 2 ^ 31) : (nI L - 5).toInt = (L : Int) - 5 := by
  have h1 := nI_toInt h
  have e : (5 : Int32).toInt = 5 := by decide
  rw [Int32.toInt_sub, h1, e]
  simp only [Int.bmod]
  split <;> omega
theorem D_type.mono {M : Nat → Nat → Int32} {tc : Nat} {x : Int32} {G G' : Int32 → (Nat → Nat → Int32) → Prop} (H : ∀ r M', G r M' → G' r M') : D_type M tc x G → D_type M tc x G' := by
  unfold D_type
  repeat' first | exact H _ _ | exact id | refine And.imp ?_ ?_ | refine imp_all (fun _ => ?_)
theorem D_set.mono {M : Nat → Nat → Int32} {sc : Nat} {x y z w : Int32} {G G' : Int32 → (Nat → Nat → Int32) → Prop} (H : ∀ r M', G r M' → G' r M') : D_set M sc x y z w G → D_set M sc x y z w G' := by
  unfold D_set
  repeat' first | exact H _ _ | exact id | refine And.imp ?_ ?_ | refine imp_all (fun _ => ?_)
theorem D_store.mono {M : Nat → Nat → Int32} {tc : Nat} {sc : Nat} {x y z w : Int32} {G G' : Int32 → (Nat → Nat → Int32) → Prop} (H : ∀ r M', G r M' → G' r M') : D_store M tc sc x y z w G → D_store M tc sc x y z w G' := by
  unfold D_store
  repeat' first | exact H _ _ | exact id | refine And.imp ?_ ?_ | refine imp_all (fun _ => ?_)
theorem D_find.mono {M : Nat → Nat → Int32} {sc : Nat} {x y : Int32} {G G' : (Nat → Nat → Int32) → Prop} (H : ∀ M', G M' → G' M') : D_find M sc x y G → D_find M sc x y G' := by
  unfold D_find
  repeat' first | exact H _ | exact id | refine And.imp ?_ ?_ | refine imp_all (fun _ => ?_)
theorem D_seek.mono {M : Nat → Nat → Int32} {tc : Nat} {sc : Nat} {x y z : Int32} {G G' : Int32 → (Nat → Nat → Int32) → Prop} (H : ∀ r M', G r M' → G' r M') : D_seek M tc sc x y z G → D_seek M tc sc x y z G' := by
  unfold D_seek D_comeTo
  repeat' first | exact H _ _ | exact id | refine And.imp ?_ ?_ | refine imp_all (fun _ => ?_)
theorem D_move.mono {M : Nat → Nat → Int32} {sc : Nat} {x y : Int32} {G G' : Int32 → (Nat → Nat → Int32) → Prop} (H : ∀ r M', G r M' → G' r M') : D_move M sc x y G → D_move M sc x y G' := by
  unfold D_move D_comeTo
  repeat' first | exact H _ _ | exact id | refine And.imp ?_ ?_ | refine imp_all (fun _ => ?_)
theorem D_scan.mono {M : Nat → Nat → Int32} {sc : Nat} {x y z : Int32} {G G' : Int32 → (Nat → Nat → Int32) → Prop} (H : ∀ r M', G r M' → G' r M') : D_scan M sc x y z G → D_scan M sc x y z G' := by
  unfold D_scan D_comeTo
  repeat' first | exact H _ _ | exact id | refine And.imp ?_ ?_ | refine imp_all (fun _ => ?_)
theorem D_current.mono {M : Nat → Nat → Int32} {tc : Nat} {sc : Nat} {x y : Int32} {G G' : Int32 → (Nat → Nat → Int32) → Prop} (H : ∀ r M', G r M' → G' r M') : D_current M tc sc x y G → D_current M tc sc x y G' := by
  unfold D_current
  repeat' first | exact H _ _ | exact id | refine And.imp ?_ ?_ | refine imp_all (fun _ => ?_)
theorem D_get.mono {M : Nat → Nat → Int32}  {x : Int32} {G G' : Int32 → (Nat → Nat → Int32) → Prop} (H : ∀ r M', G r M' → G' r M') : D_get M  x G → D_get M  x G' := by
  unfold D_get
  repeat' first | exact H _ _ | exact id | refine And.imp ?_ ?_ | refine imp_all (fun _ => ?_)
theorem D_modify.mono {M : Nat → Nat → Int32} {sc : Nat} {x y : Int32} {G G' : (Nat → Nat → Int32) → Prop} (H : ∀ M', G M' → G' M') : D_modify M sc x y G → D_modify M sc x y G' := by
  unfold D_modify
  repeat' first | exact H _ | exact id | refine And.imp ?_ ?_ | refine imp_all (fun _ => ?_)
theorem D_connect.mono {M : Nat → Nat → Int32} {sc : Nat} {x : Int32} {G G' : (Nat → Nat → Int32) → Prop} (H : ∀ M', G M' → G' M') : D_connect M sc x G → D_connect M sc x G' := by
  unfold D_connect
  repeat' first | exact H _ | exact id | refine And.imp ?_ ?_ | refine imp_all (fun _ => ?_)
theorem D_disconnect.mono {M : Nat → Nat → Int32} {sc : Nat} {x : Int32} {G G' : (Nat → Nat → Int32) → Prop} (H : ∀ M', G M' → G' M') : D_disconnect M sc x G → D_disconnect M sc x G' := by
  unfold D_disconnect
  repeat' first | exact H _ | exact id | refine And.imp ?_ ?_ | refine imp_all (fun _ => ?_)
theorem D_reconnect.mono {M : Nat → Nat → Int32} {sc : Nat} {x : Int32} {G G' : (Nat → Nat → Int32) → Prop} (H : ∀ M', G M' → G' M') : D_reconnect M sc x G → D_reconnect M sc x G' := by
  unfold D_reconnect
  repeat' first | exact H _ | exact id | refine And.imp ?_ ?_ | refine imp_all (fun _ => ?_)
theorem D_erase.mono {M : Nat → Nat → Int32} {tc : Nat} {sc : Nat} {x : Int32} {G G' : Int32 → (Nat → Nat → Int32) → Prop} (H : ∀ r M', G r M' → G' r M') : D_erase M tc sc x G → D_erase M tc sc x G' := by
  unfold D_erase
  repeat' first | exact H _ _ | exact id | refine And.imp ?_ ?_ | refine imp_all (fun _ => ?_)
theorem D_members.mono {M : Nat → Nat → Int32} {sc : Nat} {x : Int32} {G G' : Int32 → (Nat → Nat → Int32) → Prop} (H : ∀ r M', G r M' → G' r M') : D_members M sc x G → D_members M sc x G' := by
  unfold D_members
  repeat' first | exact H _ _ | exact id | refine And.imp ?_ ?_ | refine imp_all (fun _ => ?_)
theorem D_owner.mono {M : Nat → Nat → Int32} {sc : Nat} {x y : Int32} {G G' : Int32 → (Nat → Nat → Int32) → Prop} (H : ∀ r M', G r M' → G' r M') : D_owner M sc x y G → D_owner M sc x y G' := by
  unfold D_owner
  repeat' first | exact H _ _ | exact id | refine And.imp ?_ ?_ | refine imp_all (fun _ => ?_)
def HX_type (JJ : Nat → (Nat → Nat → Int32) → Prop) : Prop := ∀ (k : Nat) (M : Nat → Nat → Int32) (x : Int32), k < 512 → JJ k M → ∃ tc sc : Nat, CI M tc sc ∧ C_type M tc x
  (fun i M' => MI M' tc sc ∧ D_type M' tc x (fun _ M2 => M2 48 0 = (if i = 0 then 1 else if i = 1 then 2 else 0) ∧ JJ (k + 1) M2))
  (fun r M' => MI M' tc sc ∧ D_type M' tc x (fun r2 M2 => M2 48 0 = 0 ∧ r2 = r ∧ JJ (k + 1) M2))
def HX_set (JJ : Nat → (Nat → Nat → Int32) → Prop) : Prop := ∀ (k : Nat) (M : Nat → Nat → Int32) (x y z w : Int32), k < 512 → JJ k M → ∃ tc sc : Nat, CI M tc sc ∧ C_set M sc x y z w
  (fun i M' => MI M' tc sc ∧ D_set M' sc x y z w (fun _ M2 => M2 48 0 = (if i = 0 then 1 else if i = 1 then 2 else 0) ∧ JJ (k + 1) M2))
  (fun r M' => MI M' tc sc ∧ D_set M' sc x y z w (fun r2 M2 => M2 48 0 = 0 ∧ r2 = r ∧ JJ (k + 1) M2))
def HX_store (JJ : Nat → (Nat → Nat → Int32) → Prop) : Prop := ∀ (k : Nat) (M : Nat → Nat → Int32) (x y z w : Int32), k < 512 → JJ k M → ∃ tc sc : Nat, CI M tc sc ∧ C_store M sc x y z w
  (fun i M' => MI M' tc sc ∧ D_store M' tc sc x y z w (fun _ M2 => M2 48 0 = (if i = 0 then 1 else if i = 2 then 2 else if i = 1 then 3 else 0) ∧ JJ (k + 1) M2))
  (fun r M' => MI M' tc sc ∧ D_store M' tc sc x y z w (fun r2 M2 => M2 48 0 = 0 ∧ r2 = r ∧ JJ (k + 1) M2))
def HX_find (JJ : Nat → (Nat → Nat → Int32) → Prop) : Prop := ∀ (k : Nat) (M : Nat → Nat → Int32) (x y : Int32), k < 512 → JJ k M → ∃ tc sc : Nat, CI M tc sc ∧ C_find M sc x y
  (fun i M' => MI M' tc sc ∧ D_find M' sc x y (fun M2 => M2 48 0 = (if i = 2 then 1 else 0) ∧ JJ (k + 1) M2))
  (fun M' => MI M' tc sc ∧ D_find M' sc x y (fun M2 => M2 48 0 = 0 ∧ JJ (k + 1) M2))
def HX_seek (JJ : Nat → (Nat → Nat → Int32) → Prop) : Prop := ∀ (k : Nat) (M : Nat → Nat → Int32) (x y z : Int32), k < 512 → JJ k M → ∃ tc sc : Nat, CI M tc sc ∧ FC M ∧ C_seek M sc x y z
  (fun i M' => MI M' tc sc ∧ FCm M' ∧ D_seek M' tc sc x y z (fun _ M2 => M2 48 0 = (if i = 0 then 1 else if i = 2 then 2 else 0) ∧ JJ (k + 1) M2))
  (fun r M' => MI M' tc sc ∧ FCm M' ∧ D_seek M' tc sc x y z (fun r2 M2 => M2 48 0 = 0 ∧ r2 = r ∧ JJ (k + 1) M2))
def HX_move (JJ : Nat → (Nat → Nat → Int32) → Prop) : Prop := ∀ (k : Nat) (M : Nat → Nat → Int32) (x y : Int32), k < 512 → JJ k M → ∃ tc sc : Nat, CI M tc sc ∧ C_move M sc x y
  (fun i M' => MI M' tc sc ∧ D_move M' sc x y (fun _ M2 => M2 48 0 = (if i = 0 then 1 else if i = 2 then 2 else 0) ∧ JJ (k + 1) M2))
  (fun r M' => MI M' tc sc ∧ D_move M' sc x y (fun r2 M2 => M2 48 0 = 0 ∧ r2 = r ∧ JJ (k + 1) M2))
def HX_scan (JJ : Nat → (Nat → Nat → Int32) → Prop) : Prop := ∀ (k : Nat) (M : Nat → Nat → Int32) (x y z : Int32), k < 512 → JJ k M → ∃ tc sc : Nat, CI M tc sc ∧ FC M ∧ (∀ s, s < 5 → PO2 M s) ∧ C_scan M sc x y z
  (fun i M' => MI M' tc sc ∧ FCm M' ∧ (∀ s, s < sc → ∃ t, t < 4 ∧ M' 51 s = nI t) ∧ (∀ s, s < sc → LIJ M' s) ∧ D_scan M' sc x y z (fun _ M2 => M2 48 0 = (if i = 0 then 1 else if i = 2 then 2 else 0) ∧ JJ (k + 1) M2))
  (fun r M' => MI M' tc sc ∧ FCm M' ∧ (∀ s, s < sc → ∃ t, t < 4 ∧ M' 51 s = nI t) ∧ (∀ s, s < sc → LIJ M' s) ∧ D_scan M' sc x y z (fun r2 M2 => M2 48 0 = 0 ∧ r2 = r ∧ JJ (k + 1) M2))
def HX_current (JJ : Nat → (Nat → Nat → Int32) → Prop) : Prop := ∀ (k : Nat) (M : Nat → Nat → Int32) (x y : Int32), k < 512 → JJ k M → ∃ tc sc : Nat, CI M tc sc ∧ C_current M tc sc x y
  (fun i M' => MI M' tc sc ∧ D_current M' tc sc x y (fun _ M2 => M2 48 0 = (if i = 0 then 1 else 0) ∧ JJ (k + 1) M2))
  (fun r M' => MI M' tc sc ∧ D_current M' tc sc x y (fun r2 M2 => M2 48 0 = 0 ∧ r2 = r ∧ JJ (k + 1) M2))
def HX_get (JJ : Nat → (Nat → Nat → Int32) → Prop) : Prop := ∀ (k : Nat) (M : Nat → Nat → Int32) (x : Int32), k < 512 → JJ k M → ∃ tc sc : Nat, CI M tc sc ∧ FC M ∧ C_get M  x
  (fun i M' => MI M' tc sc ∧ FCm M' ∧ D_get M'  x (fun _ M2 => M2 48 0 = (if i = 2 then 1 else if i = 0 then 2 else 0) ∧ JJ (k + 1) M2))
  (fun r M' => MI M' tc sc ∧ FCm M' ∧ D_get M'  x (fun r2 M2 => M2 48 0 = 0 ∧ r2 = r ∧ JJ (k + 1) M2))
def HX_modify (JJ : Nat → (Nat → Nat → Int32) → Prop) : Prop := ∀ (k : Nat) (M : Nat → Nat → Int32) (x y : Int32), k < 512 → JJ k M → ∃ tc sc : Nat, CI M tc sc ∧ FC M ∧ C_modify M sc x y
  (fun i M' => MI M' tc sc ∧ FCm M' ∧ D_modify M' sc x y (fun M2 => M2 48 0 = (if i = 2 then 1 else if i = 0 then 2 else if i = 1 then 3 else 0) ∧ JJ (k + 1) M2))
  (fun M' => MI M' tc sc ∧ FCm M' ∧ D_modify M' sc x y (fun M2 => M2 48 0 = 0 ∧ JJ (k + 1) M2))
def HX_connect (JJ : Nat → (Nat → Nat → Int32) → Prop) : Prop := ∀ (k : Nat) (M : Nat → Nat → Int32) (x : Int32), k < 512 → JJ k M → ∃ tc sc : Nat, CI M tc sc ∧ C_connect M sc x
  (fun i M' => MI M' tc sc ∧ D_connect M' sc x (fun M2 => M2 48 0 = (if i = 0 then 1 else if i = 2 then 2 else if i = 1 then 3 else 0) ∧ JJ (k + 1) M2))
  (fun M' => MI M' tc sc ∧ D_connect M' sc x (fun M2 => M2 48 0 = 0 ∧ JJ (k + 1) M2))
def HX_disconnect (JJ : Nat → (Nat → Nat → Int32) → Prop) : Prop := ∀ (k : Nat) (M : Nat → Nat → Int32) (x : Int32), k < 512 → JJ k M → ∃ tc sc : Nat, CI M tc sc ∧ (∀ s, s < 5 → POK M s) ∧ C_disconnect M sc x
  (fun i M' => MI M' tc sc ∧ D_disconnect M' sc x (fun M2 => M2 48 0 = (if i = 0 then 1 else if i = 2 then 2 else if i = 1 then 3 else 0) ∧ JJ (k + 1) M2))
  (fun M' => MI M' tc sc ∧ D_disconnect M' sc x (fun M2 => M2 48 0 = 0 ∧ JJ (k + 1) M2))
def HX_reconnect (JJ : Nat → (Nat → Nat → Int32) → Prop) : Prop := ∀ (k : Nat) (M : Nat → Nat → Int32) (x : Int32), k < 512 → JJ k M → ∃ tc sc : Nat, CI M tc sc ∧ C_reconnect M sc x
  (fun i M' => MI M' tc sc ∧ D_reconnect M' sc x (fun M2 => M2 48 0 = (if i = 0 then 1 else if i = 2 then 2 else if i = 1 then 3 else 0) ∧ JJ (k + 1) M2))
  (fun M' => MI M' tc sc ∧ D_reconnect M' sc x (fun M2 => M2 48 0 = 0 ∧ JJ (k + 1) M2))
def HX_erase (JJ : Nat → (Nat → Nat → Int32) → Prop) : Prop := ∀ (k : Nat) (M : Nat → Nat → Int32) (x : Int32), k < 512 → JJ k M → ∃ tc sc : Nat, CI M tc sc ∧ (∀ s, s < 5 → POK M s) ∧ C_erase M tc sc x
  (fun i M' => MI M' tc sc ∧ (∀ s, s < 5 → 0 ≤ M' 53 s - M' 53 s / 3 * 3) ∧ D_erase M' tc sc x (fun _ M2 => M2 48 0 = (if i = 0 then 1 else if i = 2 then 2 else if i = 1 then 3 else 0) ∧ JJ (k + 1) M2))
  (fun r M' => MI M' tc sc ∧ (∀ s, s < 5 → 0 ≤ M' 53 s - M' 53 s / 3 * 3) ∧ D_erase M' tc sc x (fun r2 M2 => M2 48 0 = 0 ∧ r2 = r ∧ JJ (k + 1) M2))
def HX_members (JJ : Nat → (Nat → Nat → Int32) → Prop) : Prop := ∀ (k : Nat) (M : Nat → Nat → Int32) (x : Int32), k < 512 → JJ k M → ∃ tc sc : Nat, CI M tc sc ∧ C_members M sc x
  (fun i M' => MI M' tc sc ∧ D_members M' sc x (fun _ M2 => M2 48 0 = (if i = 0 then 1 else if i = 2 then 2 else 0) ∧ JJ (k + 1) M2))
  (fun r M' => MI M' tc sc ∧ D_members M' sc x (fun r2 M2 => M2 48 0 = 0 ∧ r2 = r ∧ JJ (k + 1) M2))
def HX_owner (JJ : Nat → (Nat → Nat → Int32) → Prop) : Prop := ∀ (k : Nat) (M : Nat → Nat → Int32) (x y : Int32), k < 512 → JJ k M → ∃ tc sc : Nat, CI M tc sc ∧ C_owner M sc x y
  (fun i M' => MI M' tc sc ∧ D_owner M' sc x y (fun _ M2 => M2 48 0 = (if i = 0 then 1 else if i = 2 then 2 else 0) ∧ JJ (k + 1) M2))
  (fun r M' => MI M' tc sc ∧ D_owner M' sc x y (fun r2 M2 => M2 48 0 = 0 ∧ r2 = r ∧ JJ (k + 1) M2))
def HX_keep (JJ : Nat → (Nat → Nat → Int32) → Prop) : Prop := ∀ (k : Nat) (M : Nat → Nat → Int32), k < 512 → JJ k M → M 7 0 = nI (cn (fun r => decide (0 < mkp (cp_keep M) 54 r)) 24) ∧ JJ (k + 1) (mkp (cp_keep M))
def HX_rollBack (JJ : Nat → (Nat → Nat → Int32) → Prop) : Prop := ∀ (k : Nat) (M : Nat → Nat → Int32), k < 512 → JJ k M → M 26 0 = nI (cn (fun r => decide (0 < fgM (mrb (clS (cp_back M))) 54 r)) 24) ∧ JJ (k + 1) (fgM (mrb (clS (cp_back M))))
def HX_count (JJ : Nat → (Nat → Nat → Int32) → Prop) : Prop := ∀ (k : Nat) (M : Nat → Nat → Int32), k < 512 → JJ k M → M 7 0 = nI (cn (fun r => decide (0 < ow_u M 48 0 0 54 r)) 24) ∧ JJ (k + 1) (ow_u M 48 0 0)
def HX_none (JJ : Nat → (Nat → Nat → Int32) → Prop) : Prop := ∀ (k : Nat) (M : Nat → Nat → Int32), JJ k M → JJ (k + 1) M
section TLaw2
variable {l : Launch} {Q : ow_R → ow_M → Prop} {L : Nat} {xs : Nat → Int32} {JJ : Nat → (Nat → Nat → Int32) → Prop}
/-- at the loop's head, k calls done, budget b -/
def LH (l : Launch) (Q : ow_R → ow_M → Prop) (L : Nat) (xs : Nat → Int32) (JJ : Nat → (Nat → Nat → Int32) → Prop) (k : Nat) : Prop := ∀ (M : Nat → Nat → Int32) (K : Int64) (b : Nat), JJ k M → 512 ≤ b + k → ∀ w5 w6 : Option Value, AW l Y_W (some (L, xs)) (13, 494) Q 23 [some (.retAddr 0), some (.ref 0), some (.ref 48), some (.ref 69), some (.int (nI (5 * k))), w5, w6] [] (mm M K b)
theorem law_inc {k : Nat} (h : LH l Q L xs JJ (k + 1)) {M : Nat → Nat → Int32} {K : Int64} {b : Nat} (hJ : JJ (k + 1) M) (hb : 512 ≤ b + (k + 1)) {w5 w6 : Option Value} : AW l Y_W (some (L, xs)) (13, 494) Q 1143 [some (.retAddr 0), some (.ref 0), some (.ref 48), some (.ref 69), some (.int (nI (5 * k))), w5, w6] [] (mm M K b) := by
  refine aw_iinc (v := nI (5 * (k + 1))) d_W_1143 rfl (show nI (5 * k) + nI 5 = nI (5 * (k + 1)) from by rw [nIadd]; rfl) (by decide) ?_
  refine aw_goto (tgt := 23) d_W_1146 rfl ?_
  exact h M K b hJ hb w5 w6
theorem aft_type (hL : L < 2 ^ 31) {k : Nat} (hk : 5 * k + 5 ≤ L) (h5 : k < 512) (nx : LH l Q L xs JJ (k + 1)) {M : Nat → Nat → Int32} {K : Int64} {b tc sc : Nat} {c : Int32} (hb : 512 ≤ b + (k + 1)) (hI : MI M tc sc) (hX : D_type M tc (xs (5 * k + 1)) (fun r2 M2 => M2 48 0 = c ∧ (c = 0 → K = r2.toInt64) ∧ JJ (k + 1) M2)) (w5 w6 : Option Value) : AW l Y_W (some (L, xs)) (13, 494) Q 139 [some (.retAddr 0), some (.ref 0), some (.ref 48), some (.ref 69), some (.int (nI (5 * k))), w5, w6] [.int c] (mm M K b) := by
  refine aw_istore d_W_139 (by decide) ?_
  refine aw_aload_n d_W_141 rfl ?_
  refine aw_sload_n d_W_142 rfl ?_
  refine aw_iload d_W_143 rfl ?_
  refine aw_iconst (v := 1) d_W_145 (by decide) ?_
  refine aw_iadd d_W_146 ?_
  refine law_sld (j := 5 * k + 1) (show nI (5 * k) + nI 1 = nI (5 * k + 1) from nIadd _ _) (by omega) hL d_W_147 ?_
  refine aw_cV1 (d' := (0, 0)) d_W_148 lk_L_78 cd_M_type (Nat.le_of_ble_eq_true rfl) rfl rfl ⟨Nat.le_of_ble_eq_true rfl, Nat.le_of_ble_eq_true rfl⟩ (fun _ h => nomatch h) ?_
  refine t_M_type hI (D_type.mono ?_ hX)
  intro r2 M2 hM
  refine ow_next_i ?_
  refine aw_istore d_W_151 (by decide) ?_
  refine aw_aload_n d_W_153 rfl ?_
  refine aw_cV0 (d' := (0, 0)) d_W_154 lk_L_79 cd_M_thrown (Nat.le_of_ble_eq_true rfl) rfl rfl ⟨Nat.le_of_ble_eq_true rfl, Nat.le_of_ble_eq_true rfl⟩ (fun _ h => nomatch h) ?_
  refine t_M_thrown ?_
  refine ow_next_i ?_
  refine aw_iload d_W_157 rfl ?_
  refine aw_icmp_eq (tgt := 164) d_W_159 rfl (fun _ => ?_) (fun g => absurd hM.1 g)
  refine aw_iload d_W_164 rfl ?_
  refine aw_if_ne (tgt := 181) d_W_166 rfl (fun g => ?_) (fun g => ?_)
  · refine aw_goto (tgt := 1143) d_W_181 rfl ?_
    exact law_inc nx hM.2.2 hb
  · refine aw_aload_n d_W_169 rfl ?_
    refine aw_iconst (v := 0) d_W_170 (by decide) ?_
    refine mm_lald d_W_171 ?_
    refine aw_iload d_W_172 rfl ?_
    refine aw_i2l d_W_174 ?_
    refine aw_lcmp d_W_175 ?_
    rw [hM.2.1 g, lgc]
    refine aw_if_eq (tgt := 181) d_W_176 rfl (fun _ => ?_) (fun g => absurd rfl g)
    refine aw_goto (tgt := 1143) d_W_181 rfl ?_
    exact law_inc nx hM.2.2 hb
theorem cas_type (hl : l.stackTraces = false) (hL : L < 2 ^ 31) {k : Nat} (hk : 5 * k + 5 ≤ L) (h5 : k < 512) (nx : LH l Q L xs JJ (k + 1)) (hH : HX_type JJ) {M : Nat → Nat → Int32} {K : Int64} {b : Nat} (hJ : JJ k M) (hb : 512 ≤ b + k) (w5 w6 : Option Value) : AW l Y_W (some (L, xs)) (13, 494) Q 128 [some (.retAddr 0), some (.ref 0), some (.ref 48), some (.ref 69), some (.int (nI (5 * k))), w5, w6] [] (mm M K b) := by
  obtain ⟨tc, sc, hC, hZ⟩ := hH k M (xs (5 * k + 1)) h5 hJ
  obtain ⟨b, rfl⟩ : ∃ b', b = b' + 1 := ⟨b - 1, by omega⟩
  refine aw_aload_n d_W_128 rfl ?_
  refine aw_sload_n d_W_129 rfl ?_
  refine aw_iload d_W_130 rfl ?_
  refine aw_iconst (v := 1) d_W_132 (by decide) ?_
  refine aw_iadd d_W_133 ?_
  refine law_sld (j := 5 * k + 1) (show nI (5 * k) + nI 1 = nI (5 * k + 1) from nIadd _ _) (by omega) hL d_W_134 ?_
  refine aw_aload_n d_W_135 rfl ?_
  refine aw_cS3 (d' := (7, 97)) d_W_136 lk_L_73 cd_L_type ⟨Nat.le_of_ble_eq_true rfl, Nat.le_of_ble_eq_true rfl⟩ (fun _ h => nomatch h) ?_
  refine t_L_type hl hC (C_type.mono ?_ ?_ ?_ hZ)
  · intro M' h
    exact ow_next_i (aft_type hL hk h5 nx (c := 1) (by omega) h.1 (D_type.mono (fun _ _ q => ⟨q.1, fun q0 => absurd q0 (by decide), q.2⟩) h.2) w5 w6)
  · intro M' h
    exact ow_next_i (aft_type hL hk h5 nx (c := 2) (by omega) h.1 (D_type.mono (fun _ _ q => ⟨q.1, fun q0 => absurd q0 (by decide), q.2⟩) h.2) w5 w6)
  · intro r M' h
    exact ow_next_i (aft_type hL hk h5 nx (c := 0) (by omega) h.1 (D_type.mono (fun _ _ q => ⟨q.1, fun _ => by rw [q.2.1], q.2.2⟩) h.2) w5 w6)
theorem aft_set (hL : L < 2 ^ 31) {k : Nat} (hk : 5 * k + 5 ≤ L) (h5 : k < 512) (nx : LH l Q L xs JJ (k + 1)) {M : Nat → Nat → Int32} {K : Int64} {b tc sc : Nat} {c : Int32} (hb : 512 ≤ b + (k + 1)) (hI : MI M tc sc) (hX : D_set M sc (xs (5 * k + 1)) (xs (5 * k + 2)) (xs (5 * k + 3)) (xs (5 * k + 4)) (fun r2 M2 => M2 48 0 = c ∧ (c = 0 → K = r2.toInt64) ∧ JJ (k + 1) M2)) (w5 w6 : Option Value) : AW l Y_W (some (L, xs)) (13, 494) Q 213 [some (.retAddr 0), some (.ref 0), some (.ref 48), some (.ref 69), some (.int (nI (5 * k))), w5, w6] [.int c] (mm M K b) := by
  refine aw_istore d_W_213 (by decide) ?_
  refine aw_aload_n d_W_215 rfl ?_
  refine aw_sload_n d_W_216 rfl ?_
  refine aw_iload d_W_217 rfl ?_
  refine aw_iconst (v := 1) d_W_219 (by decide) ?_
  refine aw_iadd d_W_220 ?_
  refine law_sld (j := 5 * k + 1) (show nI (5 * k) + nI 1 = nI (5 * k + 1) from nIadd _ _) (by omega) hL d_W_221 ?_
  refine aw_sload_n d_W_222 rfl ?_
  refine aw_iload d_W_223 rfl ?_
  refine aw_iconst (v := 2) d_W_225 (by decide) ?_
  refine aw_iadd d_W_226 ?_
  refine law_sld (j := 5 * k + 2) (show nI (5 * k) + nI 2 = nI (5 * k + 2) from nIadd _ _) (by omega) hL d_W_227 ?_
  refine aw_sload_n d_W_228 rfl ?_
  refine aw_iload d_W_229 rfl ?_
  refine aw_iconst (v := 3) d_W_231 (by decide) ?_
  refine aw_iadd d_W_232 ?_
  refine law_sld (j := 5 * k + 3) (show nI (5 * k) + nI 3 = nI (5 * k + 3) from nIadd _ _) (by omega) hL d_W_233 ?_
  refine aw_sload_n d_W_234 rfl ?_
  refine aw_iload d_W_235 rfl ?_
  refine aw_iconst (v := 4) d_W_237 (by decide) ?_
  refine aw_iadd d_W_238 ?_
  refine law_sld (j := 5 * k + 4) (show nI (5 * k) + nI 4 = nI (5 * k + 4) from nIadd _ _) (by omega) hL d_W_239 ?_
  refine aw_cV4 (d' := (1, 15)) d_W_240 lk_L_86 cd_M_set (Nat.le_of_ble_eq_true rfl) rfl rfl ⟨Nat.le_of_ble_eq_true rfl, Nat.le_of_ble_eq_true rfl⟩ (fun _ h => nomatch h) ?_
  refine t_M_set hI (D_set.mono ?_ hX)
  intro r2 M2 hM
  refine ow_next_i ?_
  refine aw_istore d_W_243 (by decide) ?_
  refine aw_aload_n d_W_245 rfl ?_
  refine aw_cV0 (d' := (0, 0)) d_W_246 lk_L_79 cd_M_thrown (Nat.le_of_ble_eq_true rfl) rfl rfl ⟨Nat.le_of_ble_eq_true rfl, Nat.le_of_ble_eq_true rfl⟩ (fun _ h => nomatch h) ?_
  refine t_M_thrown ?_
  refine ow_next_i ?_
  refine aw_iload d_W_249 rfl ?_
  refine aw_icmp_eq (tgt := 256) d_W_251 rfl (fun _ => ?_) (fun g => absurd hM.1 g)
  refine aw_iload d_W_256 rfl ?_
  refine aw_if_ne (tgt := 273) d_W_258 rfl (fun g => ?_) (fun g => ?_)
  · refine aw_goto (tgt := 1143) d_W_273 rfl ?_
    exact law_inc nx hM.2.2 hb
  · refine aw_aload_n d_W_261 rfl ?_
    refine aw_iconst (v := 0) d_W_262 (by decide) ?_
    refine mm_lald d_W_263 ?_
    refine aw_iload d_W_264 rfl ?_
    refine aw_i2l d_W_266 ?_
    refine aw_lcmp d_W_267 ?_
    rw [hM.2.1 g, lgc]
    refine aw_if_eq (tgt := 273) d_W_268 rfl (fun _ => ?_) (fun g => absurd rfl g)
    refine aw_goto (tgt := 1143) d_W_273 rfl ?_
    exact law_inc nx hM.2.2 hb
theorem cas_set (hl : l.stackTraces = false) (hL : L < 2 ^ 31) {k : Nat} (hk : 5 * k + 5 ≤ L) (h5 : k < 512) (nx : LH l Q L xs JJ (k + 1)) (hH : HX_set JJ) {M : Nat → Nat → Int32} {K : Int64} {b : Nat} (hJ : JJ k M) (hb : 512 ≤ b + k) (w5 w6 : Option Value) : AW l Y_W (some (L, xs)) (13, 494) Q 184 [some (.retAddr 0), some (.ref 0), some (.ref 48), some (.ref 69), some (.int (nI (5 * k))), w5, w6] [] (mm M K b) := by
  obtain ⟨tc, sc, hC, hZ⟩ := hH k M (xs (5 * k + 1)) (xs (5 * k + 2)) (xs (5 * k + 3)) (xs (5 * k + 4)) h5 hJ
  obtain ⟨b, rfl⟩ : ∃ b', b = b' + 1 := ⟨b - 1, by omega⟩
  refine aw_aload_n d_W_184 rfl ?_
  refine aw_sload_n d_W_185 rfl ?_
  refine aw_iload d_W_186 rfl ?_
  refine aw_iconst (v := 1) d_W_188 (by decide) ?_
  refine aw_iadd d_W_189 ?_
  refine law_sld (j := 5 * k + 1) (show nI (5 * k) + nI 1 = nI (5 * k + 1) from nIadd _ _) (by omega) hL d_W_190 ?_
  refine aw_sload_n d_W_191 rfl ?_
  refine aw_iload d_W_192 rfl ?_
  refine aw_iconst (v := 2) d_W_194 (by decide) ?_
  refine aw_iadd d_W_195 ?_
  refine law_sld (j := 5 * k + 2) (show nI (5 * k) + nI 2 = nI (5 * k + 2) from nIadd _ _) (by omega) hL d_W_196 ?_
  refine aw_sload_n d_W_197 rfl ?_
  refine aw_iload d_W_198 rfl ?_
  refine aw_iconst (v := 3) d_W_200 (by decide) ?_
  refine aw_iadd d_W_201 ?_
  refine law_sld (j := 5 * k + 3) (show nI (5 * k) + nI 3 = nI (5 * k + 3) from nIadd _ _) (by omega) hL d_W_202 ?_
  refine aw_sload_n d_W_203 rfl ?_
  refine aw_iload d_W_204 rfl ?_
  refine aw_iconst (v := 4) d_W_206 (by decide) ?_
  refine aw_iadd d_W_207 ?_
  refine law_sld (j := 5 * k + 4) (show nI (5 * k) + nI 4 = nI (5 * k + 4) from nIadd _ _) (by omega) hL d_W_208 ?_
  refine aw_aload_n d_W_209 rfl ?_
  refine aw_callS (vs := [.ref 0, .int (xs (5 * k + 1)), .int (xs (5 * k + 2)), .int (xs (5 * k + 3)), .int (xs (5 * k + 4)), .ref 69]) (S := []) (d' := (7, 100)) d_W_210 lk_L_83 cd_L_set rfl ⟨Nat.le_of_ble_eq_true rfl, Nat.le_of_ble_eq_true rfl⟩ (fun _ h => nomatch h) ?_
  refine t_L_set hl hC (C_set.mono ?_ ?_ ?_ hZ)
  · intro M' h
    exact ow_next_i (aft_set hL hk h5 nx (c := 1) (by omega) h.1 (D_set.mono (fun _ _ q => ⟨q.1, fun q0 => absurd q0 (by decide), q.2⟩) h.2) w5 w6)
  · intro M' h
    exact ow_next_i (aft_set hL hk h5 nx (c := 2) (by omega) h.1 (D_set.mono (fun _ _ q => ⟨q.1, fun q0 => absurd q0 (by decide), q.2⟩) h.2) w5 w6)
  · intro r M' h
    exact ow_next_i (aft_set hL hk h5 nx (c := 0) (by omega) h.1 (D_set.mono (fun _ _ q => ⟨q.1, fun _ => by rw [q.2.1], q.2.2⟩) h.2) w5 w6)
theorem aft_store (hL : L < 2 ^ 31) {k : Nat} (hk : 5 * k + 5 ≤ L) (h5 : k < 512) (nx : LH l Q L xs JJ (k + 1)) {M : Nat → Nat → Int32} {K : Int64} {b tc sc : Nat} {c : Int32} (hb : 512 ≤ b + (k + 1)) (hI : MI M tc sc) (hX : D_store M tc sc (xs (5 * k + 1)) (xs (5 * k + 2)) (xs (5 * k + 3)) (xs (5 * k + 4)) (fun r2 M2 => M2 48 0 = c ∧ (c = 0 → K = r2.toInt64) ∧ JJ (k + 1) M2)) (w5 w6 : Option Value) : AW l Y_W (some (L, xs)) (13, 494) Q 305 [some (.retAddr 0), some (.ref 0), some (.ref 48), some (.ref 69), some (.int (nI (5 * k))), w5, w6] [.int c] (mm M K b) := by
  refine aw_istore d_W_305 (by decide) ?_
  refine aw_aload_n d_W_307 rfl ?_
  refine aw_sload_n d_W_308 rfl ?_
  refine aw_iload d_W_309 rfl ?_
  refine aw_iconst (v := 1) d_W_311 (by decide) ?_
  refine aw_iadd d_W_312 ?_
  refine law_sld (j := 5 * k + 1) (show nI (5 * k) + nI 1 = nI (5 * k + 1) from nIadd _ _) (by omega) hL d_W_313 ?_
  refine aw_sload_n d_W_314 rfl ?_
  refine aw_iload d_W_315 rfl ?_
  refine aw_iconst (v := 2) d_W_317 (by decide) ?_
  refine aw_iadd d_W_318 ?_
  refine law_sld (j := 5 * k + 2) (show nI (5 * k) + nI 2 = nI (5 * k + 2) from nIadd _ _) (by omega) hL d_W_319 ?_
  refine aw_sload_n d_W_320 rfl ?_
  refine aw_iload d_W_321 rfl ?_
  refine aw_iconst (v := 3) d_W_323 (by decide) ?_
  refine aw_iadd d_W_324 ?_
  refine law_sld (j := 5 * k + 3) (show nI (5 * k) + nI 3 = nI (5 * k + 3) from nIadd _ _) (by omega) hL d_W_325 ?_
  refine aw_sload_n d_W_326 rfl ?_
  refine aw_iload d_W_327 rfl ?_
  refine aw_iconst (v := 4) d_W_329 (by decide) ?_
  refine aw_iadd d_W_330 ?_
  refine law_sld (j := 5 * k + 4) (show nI (5 * k) + nI 4 = nI (5 * k + 4) from nIadd _ _) (by omega) hL d_W_331 ?_
  refine aw_cV4 (d' := (4, 70)) d_W_332 lk_L_89 cd_M_store (Nat.le_of_ble_eq_true rfl) rfl rfl ⟨Nat.le_of_ble_eq_true rfl, Nat.le_of_ble_eq_true rfl⟩ (fun _ h => nomatch h) ?_
  refine t_M_store hI (D_store.mono ?_ hX)
  intro r2 M2 hM
  refine ow_next_i ?_
  refine aw_istore d_W_335 (by decide) ?_
  refine aw_aload_n d_W_337 rfl ?_
  refine aw_cV0 (d' := (0, 0)) d_W_338 lk_L_79 cd_M_thrown (Nat.le_of_ble_eq_true rfl) rfl rfl ⟨Nat.le_of_ble_eq_true rfl, Nat.le_of_ble_eq_true rfl⟩ (fun _ h => nomatch h) ?_
  refine t_M_thrown ?_
  refine ow_next_i ?_
  refine aw_iload d_W_341 rfl ?_
  refine aw_icmp_eq (tgt := 348) d_W_343 rfl (fun _ => ?_) (fun g => absurd hM.1 g)
  refine aw_iload d_W_348 rfl ?_
  refine aw_if_ne (tgt := 365) d_W_350 rfl (fun g => ?_) (fun g => ?_)
  · refine aw_goto (tgt := 1143) d_W_365 rfl ?_
    exact law_inc nx hM.2.2 hb
  · refine aw_aload_n d_W_353 rfl ?_
    refine aw_iconst (v := 0) d_W_354 (by decide) ?_
    refine mm_lald d_W_355 ?_
    refine aw_iload d_W_356 rfl ?_
    refine aw_i2l d_W_358 ?_
    refine aw_lcmp d_W_359 ?_
    rw [hM.2.1 g, lgc]
    refine aw_if_eq (tgt := 365) d_W_360 rfl (fun _ => ?_) (fun g => absurd rfl g)
    refine aw_goto (tgt := 1143) d_W_365 rfl ?_
    exact law_inc nx hM.2.2 hb
theorem cas_store (hl : l.stackTraces = false) (hL : L < 2 ^ 31) {k : Nat} (hk : 5 * k + 5 ≤ L) (h5 : k < 512) (nx : LH l Q L xs JJ (k + 1)) (hH : HX_store JJ) {M : Nat → Nat → Int32} {K : Int64} {b : Nat} (hJ : JJ k M) (hb : 512 ≤ b + k) (w5 w6 : Option Value) : AW l Y_W (some (L, xs)) (13, 494) Q 276 [some (.retAddr 0), some (.ref 0), some (.ref 48), some (.ref 69), some (.int (nI (5 * k))), w5, w6] [] (mm M K b) := by
  obtain ⟨tc, sc, hC, hZ⟩ := hH k M (xs (5 * k + 1)) (xs (5 * k + 2)) (xs (5 * k + 3)) (xs (5 * k + 4)) h5 hJ
  obtain ⟨b, rfl⟩ : ∃ b', b = b' + 1 := ⟨b - 1, by omega⟩
  refine aw_aload_n d_W_276 rfl ?_
  refine aw_sload_n d_W_277 rfl ?_
  refine aw_iload d_W_278 rfl ?_
  refine aw_iconst (v := 1) d_W_280 (by decide) ?_
  refine aw_iadd d_W_281 ?_
  refine law_sld (j := 5 * k + 1) (show nI (5 * k) + nI 1 = nI (5 * k + 1) from nIadd _ _) (by omega) hL d_W_282 ?_
  refine aw_sload_n d_W_283 rfl ?_
  refine aw_iload d_W_284 rfl ?_
  refine aw_iconst (v := 2) d_W_286 (by decide) ?_
  refine aw_iadd d_W_287 ?_
  refine law_sld (j := 5 * k + 2) (show nI (5 * k) + nI 2 = nI (5 * k + 2) from nIadd _ _) (by omega) hL d_W_288 ?_
  refine aw_sload_n d_W_289 rfl ?_
  refine aw_iload d_W_290 rfl ?_
  refine aw_iconst (v := 3) d_W_292 (by decide) ?_
  refine aw_iadd d_W_293 ?_
  refine law_sld (j := 5 * k + 3) (show nI (5 * k) + nI 3 = nI (5 * k + 3) from nIadd _ _) (by omega) hL d_W_294 ?_
  refine aw_sload_n d_W_295 rfl ?_
  refine aw_iload d_W_296 rfl ?_
  refine aw_iconst (v := 4) d_W_298 (by decide) ?_
  refine aw_iadd d_W_299 ?_
  refine law_sld (j := 5 * k + 4) (show nI (5 * k) + nI 4 = nI (5 * k + 4) from nIadd _ _) (by omega) hL d_W_300 ?_
  refine aw_aload_n d_W_301 rfl ?_
  refine aw_callS (vs := [.ref 0, .int (xs (5 * k + 1)), .int (xs (5 * k + 2)), .int (xs (5 * k + 3)), .int (xs (5 * k + 4)), .ref 69]) (S := []) (d' := (10, 148)) d_W_302 lk_L_87 cd_L_store rfl ⟨Nat.le_of_ble_eq_true rfl, Nat.le_of_ble_eq_true rfl⟩ (fun _ h => nomatch h) ?_
  refine t_L_store hl hC (C_store.mono ?_ ?_ ?_ ?_ hZ)
  · intro M' h
    exact ow_next_i (aft_store hL hk h5 nx (c := 1) (by omega) h.1 (D_store.mono (fun _ _ q => ⟨q.1, fun q0 => absurd q0 (by decide), q.2⟩) h.2) w5 w6)
  · intro M' h
    exact ow_next_i (aft_store hL hk h5 nx (c := 3) (by omega) h.1 (D_store.mono (fun _ _ q => ⟨q.1, fun q0 => absurd q0 (by decide), q.2⟩) h.2) w5 w6)
  · intro M' h
    exact ow_next_i (aft_store hL hk h5 nx (c := 2) (by omega) h.1 (D_store.mono (fun _ _ q => ⟨q.1, fun q0 => absurd q0 (by decide), q.2⟩) h.2) w5 w6)
  · intro r M' h
    exact ow_next_i (aft_store hL hk h5 nx (c := 0) (by omega) h.1 (D_store.mono (fun _ _ q => ⟨q.1, fun _ => by rw [q.2.1], q.2.2⟩) h.2) w5 w6)
theorem aft_find (hL : L < 2 ^ 31) {k : Nat} (hk : 5 * k + 5 ≤ L) (h5 : k < 512) (nx : LH l Q L xs JJ (k + 1)) {M : Nat → Nat → Int32} {K : Int64} {b tc sc : Nat} {c : Int32} (hb : 512 ≤ b + (k + 1)) (hI : MI M tc sc) (hX : D_find M sc (xs (5 * k + 1)) (xs (5 * k + 2)) (fun M2 => M2 48 0 = c ∧ JJ (k + 1) M2)) (w5 w6 : Option Value) : AW l Y_W (some (L, xs)) (13, 494) Q 384 [some (.retAddr 0), some (.ref 0), some (.ref 48), some (.ref 69), some (.int (nI (5 * k))), w5, w6] [.int c] (mm M K b) := by
  refine aw_istore d_W_384 (by decide) ?_
  refine aw_aload_n d_W_386 rfl ?_
  refine aw_sload_n d_W_387 rfl ?_
  refine aw_iload d_W_388 rfl ?_
  refine aw_iconst (v := 1) d_W_390 (by decide) ?_
  refine aw_iadd d_W_391 ?_
  refine law_sld (j := 5 * k + 1) (show nI (5 * k) + nI 1 = nI (5 * k + 1) from nIadd _ _) (by omega) hL d_W_392 ?_
  refine aw_sload_n d_W_393 rfl ?_
  refine aw_iload d_W_394 rfl ?_
  refine aw_iconst (v := 2) d_W_396 (by decide) ?_
  refine aw_iadd d_W_397 ?_
  refine law_sld (j := 5 * k + 2) (show nI (5 * k) + nI 2 = nI (5 * k + 2) from nIadd _ _) (by omega) hL d_W_398 ?_
  refine aw_cV2 (d' := (1, 16)) d_W_399 lk_L_93 cd_M_find (Nat.le_of_ble_eq_true rfl) rfl rfl ⟨Nat.le_of_ble_eq_true rfl, Nat.le_of_ble_eq_true rfl⟩ (fun _ h => nomatch h) ?_
  refine t_M_find hI (D_find.mono ?_ hX)
  intro M2 hM
  refine ow_next_v ?_
  refine aw_aload_n d_W_402 rfl ?_
  refine aw_cV0 (d' := (0, 0)) d_W_403 lk_L_79 cd_M_thrown (Nat.le_of_ble_eq_true rfl) rfl rfl ⟨Nat.le_of_ble_eq_true rfl, Nat.le_of_ble_eq_true rfl⟩ (fun _ h => nomatch h) ?_
  refine t_M_thrown ?_
  refine ow_next_i ?_
  refine aw_iload d_W_406 rfl ?_
  refine aw_icmp_eq (tgt := 413) d_W_408 rfl (fun _ => ?_) (fun g => absurd hM.1 g)
  refine aw_goto (tgt := 1143) d_W_413 rfl ?_
  exact law_inc nx hM.2 hb
theorem cas_find (hl : l.stackTraces = false) (hL : L < 2 ^ 31) {k : Nat} (hk : 5 * k + 5 ≤ L) (h5 : k < 512) (nx : LH l Q L xs JJ (k + 1)) (hH : HX_find JJ) {M : Nat → Nat → Int32} {K : Int64} {b : Nat} (hJ : JJ k M) (hb : 512 ≤ b + k) (w5 w6 : Option Value) : AW l Y_W (some (L, xs)) (13, 494) Q 368 [some (.retAddr 0), some (.ref 0), some (.ref 48), some (.ref 69), some (.int (nI (5 * k))), w5, w6] [] (mm M K b) := by
  obtain ⟨tc, sc, hC, hZ⟩ := hH k M (xs (5 * k + 1)) (xs (5 * k + 2)) h5 hJ
  obtain ⟨b, rfl⟩ : ∃ b', b = b' + 1 := ⟨b - 1, by omega⟩
  refine aw_aload_n d_W_368 rfl ?_
  refine aw_sload_n d_W_369 rfl ?_
  refine aw_iload d_W_370 rfl ?_
  refine aw_iconst (v := 1) d_W_372 (by decide) ?_
  refine aw_iadd d_W_373 ?_
  refine law_sld (j := 5 * k + 1) (show nI (5 * k) + nI 1 = nI (5 * k + 1) from nIadd _ _) (by omega) hL d_W_374 ?_
  refine aw_sload_n d_W_375 rfl ?_
  refine aw_iload d_W_376 rfl ?_
  refine aw_iconst (v := 2) d_W_378 (by decide) ?_
  refine aw_iadd d_W_379 ?_
  refine law_sld (j := 5 * k + 2) (show nI (5 * k) + nI 2 = nI (5 * k + 2) from nIadd _ _) (by omega) hL d_W_380 ?_
  refine aw_cS3 (d' := (8, 111)) d_W_381 lk_L_90 cd_L_find ⟨Nat.le_of_ble_eq_true rfl, Nat.le_of_ble_eq_true rfl⟩ (fun _ h => nomatch h) ?_
  refine t_L_find hl hC (C_find.mono ?_ ?_ hZ)
  · intro M' h
    exact ow_next_i (aft_find hL hk h5 nx (c := 1) (by omega) h.1 h.2 w5 w6)
  · intro M' h
    exact ow_next_i (aft_find hL hk h5 nx (c := 0) (by omega) h.1 h.2 w5 w6)
theorem aft_seek (hL : L < 2 ^ 31) {k : Nat} (hk : 5 * k + 5 ≤ L) (h5 : k < 512) (nx : LH l Q L xs JJ (k + 1)) {M : Nat → Nat → Int32} {K : Int64} {b tc sc : Nat} {c : Int32} (hb : 512 ≤ b + (k + 1)) (hI : MI M tc sc) (hX : FCm M ∧ D_seek M tc sc (xs (5 * k + 1)) (xs (5 * k + 2)) (xs (5 * k + 3)) (fun r2 M2 => M2 48 0 = c ∧ (c = 0 → K = r2.toInt64) ∧ JJ (k + 1) M2)) (w5 w6 : Option Value) : AW l Y_W (some (L, xs)) (13, 494) Q 439 [some (.retAddr 0), some (.ref 0), some (.ref 48), some (.ref 69), some (.int (nI (5 * k))), w5, w6] [.int c] (mm M K b) := by
  refine aw_istore d_W_439 (by decide) ?_
  refine aw_aload_n d_W_441 rfl ?_
  refine aw_sload_n d_W_442 rfl ?_
  refine aw_iload d_W_443 rfl ?_
  refine aw_iconst (v := 1) d_W_445 (by decide) ?_
  refine aw_iadd d_W_446 ?_
  refine law_sld (j := 5 * k + 1) (show nI (5 * k) + nI 1 = nI (5 * k + 1) from nIadd _ _) (by omega) hL d_W_447 ?_
  refine aw_sload_n d_W_448 rfl ?_
  refine aw_iload d_W_449 rfl ?_
  refine aw_iconst (v := 2) d_W_451 (by decide) ?_
  refine aw_iadd d_W_452 ?_
  refine law_sld (j := 5 * k + 2) (show nI (5 * k) + nI 2 = nI (5 * k + 2) from nIadd _ _) (by omega) hL d_W_453 ?_
  refine aw_sload_n d_W_454 rfl ?_
  refine aw_iload d_W_455 rfl ?_
  refine aw_iconst (v := 3) d_W_457 (by decide) ?_
  refine aw_iadd d_W_458 ?_
  refine law_sld (j := 5 * k + 3) (show nI (5 * k) + nI 3 = nI (5 * k + 3) from nIadd _ _) (by omega) hL d_W_459 ?_
  refine aw_cV3 (d' := (2, 30)) d_W_460 lk_L_97 cd_M_seek (Nat.le_of_ble_eq_true rfl) rfl rfl ⟨Nat.le_of_ble_eq_true rfl, Nat.le_of_ble_eq_true rfl⟩ (fun _ h => nomatch h) ?_
  refine t_M_seek hI hX.1 (D_seek.mono ?_ hX.2)
  intro r2 M2 hM
  refine ow_next_i ?_
  refine aw_istore d_W_463 (by decide) ?_
  refine aw_aload_n d_W_465 rfl ?_
  refine aw_cV0 (d' := (0, 0)) d_W_466 lk_L_79 cd_M_thrown (Nat.le_of_ble_eq_true rfl) rfl rfl ⟨Nat.le_of_ble_eq_true rfl, Nat.le_of_ble_eq_true rfl⟩ (fun _ h => nomatch h) ?_
  refine t_M_thrown ?_
  refine ow_next_i ?_
  refine aw_iload d_W_469 rfl ?_
  refine aw_icmp_eq (tgt := 476) d_W_471 rfl (fun _ => ?_) (fun g => absurd hM.1 g)
  refine aw_iload d_W_476 rfl ?_
  refine aw_if_ne (tgt := 493) d_W_478 rfl (fun g => ?_) (fun g => ?_)
  · refine aw_goto (tgt := 1143) d_W_493 rfl ?_
    exact law_inc nx hM.2.2 hb
  · refine aw_aload_n d_W_481 rfl ?_
    refine aw_iconst (v := 0) d_W_482 (by decide) ?_
    refine mm_lald d_W_483 ?_
    refine aw_iload d_W_484 rfl ?_
    refine aw_i2l d_W_486 ?_
    refine aw_lcmp d_W_487 ?_
    rw [hM.2.1 g, lgc]
    refine aw_if_eq (tgt := 493) d_W_488 rfl (fun _ => ?_) (fun g => absurd rfl g)
    refine aw_goto (tgt := 1143) d_W_493 rfl ?_
    exact law_inc nx hM.2.2 hb
theorem cas_seek (hl : l.stackTraces = false) (hL : L < 2 ^ 31) {k : Nat} (hk : 5 * k + 5 ≤ L) (h5 : k < 512) (nx : LH l Q L xs JJ (k + 1)) (hH : HX_seek JJ) {M : Nat → Nat → Int32} {K : Int64} {b : Nat} (hJ : JJ k M) (hb : 512 ≤ b + k) (w5 w6 : Option Value) : AW l Y_W (some (L, xs)) (13, 494) Q 416 [some (.retAddr 0), some (.ref 0), some (.ref 48), some (.ref 69), some (.int (nI (5 * k))), w5, w6] [] (mm M K b) := by
  obtain ⟨tc, sc, hC, hZ⟩ := hH k M (xs (5 * k + 1)) (xs (5 * k + 2)) (xs (5 * k + 3)) h5 hJ
  obtain ⟨b, rfl⟩ : ∃ b', b = b' + 1 := ⟨b - 1, by omega⟩
  refine aw_aload_n d_W_416 rfl ?_
  refine aw_sload_n d_W_417 rfl ?_
  refine aw_iload d_W_418 rfl ?_
  refine aw_iconst (v := 1) d_W_420 (by decide) ?_
  refine aw_iadd d_W_421 ?_
  refine law_sld (j := 5 * k + 1) (show nI (5 * k) + nI 1 = nI (5 * k + 1) from nIadd _ _) (by omega) hL d_W_422 ?_
  refine aw_sload_n d_W_423 rfl ?_
  refine aw_iload d_W_424 rfl ?_
  refine aw_iconst (v := 2) d_W_426 (by decide) ?_
  refine aw_iadd d_W_427 ?_
  refine law_sld (j := 5 * k + 2) (show nI (5 * k) + nI 2 = nI (5 * k + 2) from nIadd _ _) (by omega) hL d_W_428 ?_
  refine aw_sload_n d_W_429 rfl ?_
  refine aw_iload d_W_430 rfl ?_
  refine aw_iconst (v := 3) d_W_432 (by decide) ?_
  refine aw_iadd d_W_433 ?_
  refine law_sld (j := 5 * k + 3) (show nI (5 * k) + nI 3 = nI (5 * k + 3) from nIadd _ _) (by omega) hL d_W_434 ?_
  refine aw_aload_n d_W_435 rfl ?_
  refine aw_cS5 (d' := (8, 112)) d_W_436 lk_L_94 cd_L_seek ⟨Nat.le_of_ble_eq_true rfl, Nat.le_of_ble_eq_true rfl⟩ (fun _ h => nomatch h) ?_
  refine t_L_seek hl hC hZ.1 (C_seek.mono ?_ ?_ ?_ hZ.2)
  · intro M' h
    exact ow_next_i (aft_seek hL hk h5 nx (c := 1) (by omega) h.1 ⟨h.2.1, D_seek.mono (fun _ _ q => ⟨q.1, fun q0 => absurd q0 (by decide), q.2⟩) h.2.2⟩ w5 w6)
  · intro M' h
    exact ow_next_i (aft_seek hL hk h5 nx (c := 2) (by omega) h.1 ⟨h.2.1, D_seek.mono (fun _ _ q => ⟨q.1, fun q0 => absurd q0 (by decide), q.2⟩) h.2.2⟩ w5 w6)
  · intro r M' h
    exact ow_next_i (aft_seek hL hk h5 nx (c := 0) (by omega) h.1 ⟨h.2.1, D_seek.mono (fun _ _ q => ⟨q.1, fun _ => by rw [q.2.1], q.2.2⟩) h.2.2⟩ w5 w6)
theorem aft_move (hL : L < 2 ^ 31) {k : Nat} (hk : 5 * k + 5 ≤ L) (h5 : k < 512) (nx : LH l Q L xs JJ (k + 1)) {M : Nat → Nat → Int32} {K : Int64} {b tc sc : Nat} {c : Int32} (hb : 512 ≤ b + (k + 1)) (hI : MI M tc sc) (hX : D_move M sc (xs (5 * k + 1)) (xs (5 * k + 2)) (fun r2 M2 => M2 48 0 = c ∧ (c = 0 → K = r2.toInt64) ∧ JJ (k + 1) M2)) (w5 w6 : Option Value) : AW l Y_W (some (L, xs)) (13, 494) Q 513 [some (.retAddr 0), some (.ref 0), some (.ref 48), some (.ref 69), some (.int (nI (5 * k))), w5, w6] [.int c] (mm M K b) := by
  refine aw_istore d_W_513 (by decide) ?_
  refine aw_aload_n d_W_515 rfl ?_
  refine aw_sload_n d_W_516 rfl ?_
  refine aw_iload d_W_517 rfl ?_
  refine aw_iconst (v := 1) d_W_519 (by decide) ?_
  refine aw_iadd d_W_520 ?_
  refine law_sld (j := 5 * k + 1) (show nI (5 * k) + nI 1 = nI (5 * k + 1) from nIadd _ _) (by omega) hL d_W_521 ?_
  refine aw_sload_n d_W_522 rfl ?_
  refine aw_iload d_W_523 rfl ?_
  refine aw_iconst (v := 2) d_W_525 (by decide) ?_
  refine aw_iadd d_W_526 ?_
  refine law_sld (j := 5 * k + 2) (show nI (5 * k) + nI 2 = nI (5 * k + 2) from nIadd _ _) (by omega) hL d_W_527 ?_
  refine aw_cV2 (d' := (3, 47)) d_W_528 lk_L_101 cd_M_move (Nat.le_of_ble_eq_true rfl) rfl rfl ⟨Nat.le_of_ble_eq_true rfl, Nat.le_of_ble_eq_true rfl⟩ (fun _ h => nomatch h) ?_
  refine t_M_move hI (D_move.mono ?_ hX)
  intro r2 M2 hM
  refine ow_next_i ?_
  refine aw_istore d_W_531 (by decide) ?_
  refine aw_aload_n d_W_533 rfl ?_
  refine aw_cV0 (d' := (0, 0)) d_W_534 lk_L_79 cd_M_thrown (Nat.le_of_ble_eq_true rfl) rfl rfl ⟨Nat.le_of_ble_eq_true rfl, Nat.le_of_ble_eq_true rfl⟩ (fun _ h => nomatch h) ?_
  refine t_M_thrown ?_
  refine ow_next_i ?_
  refine aw_iload d_W_537 rfl ?_
  refine aw_icmp_eq (tgt := 544) d_W_539 rfl (fun _ => ?_) (fun g => absurd hM.1 g)
  refine aw_iload d_W_544 rfl ?_
  refine aw_if_ne (tgt := 561) d_W_546 rfl (fun g => ?_) (fun g => ?_)
  · refine aw_goto (tgt := 1143) d_W_561 rfl ?_
    exact law_inc nx hM.2.2 hb
  · refine aw_aload_n d_W_549 rfl ?_
    refine aw_iconst (v := 0) d_W_550 (by decide) ?_
    refine mm_lald d_W_551 ?_
    refine aw_iload d_W_552 rfl ?_
    refine aw_i2l d_W_554 ?_
    refine aw_lcmp d_W_555 ?_
    rw [hM.2.1 g, lgc]
    refine aw_if_eq (tgt := 561) d_W_556 rfl (fun _ => ?_) (fun g => absurd rfl g)
    refine aw_goto (tgt := 1143) d_W_561 rfl ?_
    exact law_inc nx hM.2.2 hb
theorem cas_move (hl : l.stackTraces = false) (hL : L < 2 ^ 31) {k : Nat} (hk : 5 * k + 5 ≤ L) (h5 : k < 512) (nx : LH l Q L xs JJ (k + 1)) (hH : HX_move JJ) {M : Nat → Nat → Int32} {K : Int64} {b : Nat} (hJ : JJ k M) (hb : 512 ≤ b + k) (w5 w6 : Option Value) : AW l Y_W (some (L, xs)) (13, 494) Q 496 [some (.retAddr 0), some (.ref 0), some (.ref 48), some (.ref 69), some (.int (nI (5 * k))), w5, w6] [] (mm M K b) := by
  obtain ⟨tc, sc, hC, hZ⟩ := hH k M (xs (5 * k + 1)) (xs (5 * k + 2)) h5 hJ
  obtain ⟨b, rfl⟩ : ∃ b', b = b' + 1 := ⟨b - 1, by omega⟩
  refine aw_aload_n d_W_496 rfl ?_
  refine aw_sload_n d_W_497 rfl ?_
  refine aw_iload d_W_498 rfl ?_
  refine aw_iconst (v := 1) d_W_500 (by decide) ?_
  refine aw_iadd d_W_501 ?_
  refine law_sld (j := 5 * k + 1) (show nI (5 * k) + nI 1 = nI (5 * k + 1) from nIadd _ _) (by omega) hL d_W_502 ?_
  refine aw_sload_n d_W_503 rfl ?_
  refine aw_iload d_W_504 rfl ?_
  refine aw_iconst (v := 2) d_W_506 (by decide) ?_
  refine aw_iadd d_W_507 ?_
  refine law_sld (j := 5 * k + 2) (show nI (5 * k) + nI 2 = nI (5 * k + 2) from nIadd _ _) (by omega) hL d_W_508 ?_
  refine aw_aload_n d_W_509 rfl ?_
  refine aw_cS4 (d' := (8, 111)) d_W_510 lk_L_98 cd_L_move ⟨Nat.le_of_ble_eq_true rfl, Nat.le_of_ble_eq_true rfl⟩ (fun _ h => nomatch h) ?_
  refine t_L_move hl hC (C_move.mono ?_ ?_ ?_ hZ)
  · intro M' h
    exact ow_next_i (aft_move hL hk h5 nx (c := 1) (by omega) h.1 (D_move.mono (fun _ _ q => ⟨q.1, fun q0 => absurd q0 (by decide), q.2⟩) h.2) w5 w6)
  · intro M' h
    exact ow_next_i (aft_move hL hk h5 nx (c := 2) (by omega) h.1 (D_move.mono (fun _ _ q => ⟨q.1, fun q0 => absurd q0 (by decide), q.2⟩) h.2) w5 w6)
  · intro r M' h
    exact ow_next_i (aft_move hL hk h5 nx (c := 0) (by omega) h.1 (D_move.mono (fun _ _ q => ⟨q.1, fun _ => by rw [q.2.1], q.2.2⟩) h.2) w5 w6)
theorem aft_scan (hL : L < 2 ^ 31) {k : Nat} (hk : 5 * k + 5 ≤ L) (h5 : k < 512) (nx : LH l Q L xs JJ (k + 1)) {M : Nat → Nat → Int32} {K : Int64} {b tc sc : Nat} {c : Int32} (hb : 512 ≤ b + (k + 1)) (hI : MI M tc sc) (hX : FCm M ∧ (∀ s, s < sc → ∃ t, t < 4 ∧ M 51 s = nI t) ∧ (∀ s, s < sc → LIJ M s) ∧ D_scan M sc (xs (5 * k + 1)) (xs (5 * k + 2)) (xs (5 * k + 3)) (fun r2 M2 => M2 48 0 = c ∧ (c = 0 → K = r2.toInt64) ∧ JJ (k + 1) M2)) (w5 w6 : Option Value) : AW l Y_W (some (L, xs)) (13, 494) Q 587 [some (.retAddr 0), some (.ref 0), some (.ref 48), some (.ref 69), some (.int (nI (5 * k))), w5, w6] [.int c] (mm M K b) := by
  refine aw_istore d_W_587 (by decide) ?_
  refine aw_aload_n d_W_589 rfl ?_
  refine aw_sload_n d_W_590 rfl ?_
  refine aw_iload d_W_591 rfl ?_
  refine aw_iconst (v := 1) d_W_593 (by decide) ?_
  refine aw_iadd d_W_594 ?_
  refine law_sld (j := 5 * k + 1) (show nI (5 * k) + nI 1 = nI (5 * k + 1) from nIadd _ _) (by omega) hL d_W_595 ?_
  refine aw_sload_n d_W_596 rfl ?_
  refine aw_iload d_W_597 rfl ?_
  refine aw_iconst (v := 2) d_W_599 (by decide) ?_
  refine aw_iadd d_W_600 ?_
  refine law_sld (j := 5 * k + 2) (show nI (5 * k) + nI 2 = nI (5 * k + 2) from nIadd _ _) (by omega) hL d_W_601 ?_
  refine aw_sload_n d_W_602 rfl ?_
  refine aw_iload d_W_603 rfl ?_
  refine aw_iconst (v := 3) d_W_605 (by decide) ?_
  refine aw_iadd d_W_606 ?_
  refine law_sld (j := 5 * k + 3) (show nI (5 * k) + nI 3 = nI (5 * k + 3) from nIadd _ _) (by omega) hL d_W_607 ?_
  refine aw_cV3 (d' := (3, 47)) d_W_608 lk_L_104 cd_M_scan (Nat.le_of_ble_eq_true rfl) rfl rfl ⟨Nat.le_of_ble_eq_true rfl, Nat.le_of_ble_eq_true rfl⟩ (fun _ h => nomatch h) ?_
  refine t_M_scan hI hX.1 hX.2.1 hX.2.2.1 (D_scan.mono ?_ hX.2.2.2)
  intro r2 M2 hM
  refine ow_next_i ?_
  refine aw_istore d_W_611 (by decide) ?_
  refine aw_aload_n d_W_613 rfl ?_
  refine aw_cV0 (d' := (0, 0)) d_W_614 lk_L_79 cd_M_thrown (Nat.le_of_ble_eq_true rfl) rfl rfl ⟨Nat.le_of_ble_eq_true rfl, Nat.le_of_ble_eq_true rfl⟩ (fun _ h => nomatch h) ?_
  refine t_M_thrown ?_
  refine ow_next_i ?_
  refine aw_iload d_W_617 rfl ?_
  refine aw_icmp_eq (tgt := 624) d_W_619 rfl (fun _ => ?_) (fun g => absurd hM.1 g)
  refine aw_iload d_W_624 rfl ?_
  refine aw_if_ne (tgt := 641) d_W_626 rfl (fun g => ?_) (fun g => ?_)
  · refine aw_goto (tgt := 1143) d_W_641 rfl ?_
    exact law_inc nx hM.2.2 hb
  · refine aw_aload_n d_W_629 rfl ?_
    refine aw_iconst (v := 0) d_W_630 (by decide) ?_
    refine mm_lald d_W_631 ?_
    refine aw_iload d_W_632 rfl ?_
    refine aw_i2l d_W_634 ?_
    refine aw_lcmp d_W_635 ?_
    rw [hM.2.1 g, lgc]
    refine aw_if_eq (tgt := 641) d_W_636 rfl (fun _ => ?_) (fun g => absurd rfl g)
    refine aw_goto (tgt := 1143) d_W_641 rfl ?_
    exact law_inc nx hM.2.2 hb
theorem cas_scan (hl : l.stackTraces = false) (hL : L < 2 ^ 31) {k : Nat} (hk : 5 * k + 5 ≤ L) (h5 : k < 512) (nx : LH l Q L xs JJ (k + 1)) (hH : HX_scan JJ) {M : Nat → Nat → Int32} {K : Int64} {b : Nat} (hJ : JJ k M) (hb : 512 ≤ b + k) (w5 w6 : Option Value) : AW l Y_W (some (L, xs)) (13, 494) Q 564 [some (.retAddr 0), some (.ref 0), some (.ref 48), some (.ref 69), some (.int (nI (5 * k))), w5, w6] [] (mm M K b) := by
  obtain ⟨tc, sc, hC, hZ⟩ := hH k M (xs (5 * k + 1)) (xs (5 * k + 2)) (xs (5 * k + 3)) h5 hJ
  obtain ⟨b, rfl⟩ : ∃ b', b = b' + 1 := ⟨b - 1, by omega⟩
  refine aw_aload_n d_W_564 rfl ?_
  refine aw_sload_n d_W_565 rfl ?_
  refine aw_iload d_W_566 rfl ?_
  refine aw_iconst (v := 1) d_W_568 (by decide) ?_
  refine aw_iadd d_W_569 ?_
  refine law_sld (j := 5 * k + 1) (show nI (5 * k) + nI 1 = nI (5 * k + 1) from nIadd _ _) (by omega) hL d_W_570 ?_
  refine aw_sload_n d_W_571 rfl ?_
  refine aw_iload d_W_572 rfl ?_
  refine aw_iconst (v := 2) d_W_574 (by decide) ?_
  refine aw_iadd d_W_575 ?_
  refine law_sld (j := 5 * k + 2) (show nI (5 * k) + nI 2 = nI (5 * k + 2) from nIadd _ _) (by omega) hL d_W_576 ?_
  refine aw_sload_n d_W_577 rfl ?_
  refine aw_iload d_W_578 rfl ?_
  refine aw_iconst (v := 3) d_W_580 (by decide) ?_
  refine aw_iadd d_W_581 ?_
  refine law_sld (j := 5 * k + 3) (show nI (5 * k) + nI 3 = nI (5 * k + 3) from nIadd _ _) (by omega) hL d_W_582 ?_
  refine aw_aload_n d_W_583 rfl ?_
  refine aw_cS5 (d' := (8, 115)) d_W_584 lk_L_102 cd_L_scan ⟨Nat.le_of_ble_eq_true rfl, Nat.le_of_ble_eq_true rfl⟩ (fun _ h => nomatch h) ?_
  refine t_L_scan hl hC hZ.1 hZ.2.1 (C_scan.mono ?_ ?_ ?_ hZ.2.2)
  · intro M' h
    exact ow_next_i (aft_scan hL hk h5 nx (c := 1) (by omega) h.1 ⟨h.2.1, h.2.2.1, h.2.2.2.1, D_scan.mono (fun _ _ q => ⟨q.1, fun q0 => absurd q0 (by decide), q.2⟩) h.2.2.2.2⟩ w5 w6)
  · intro M' h
    exact ow_next_i (aft_scan hL hk h5 nx (c := 2) (by omega) h.1 ⟨h.2.1, h.2.2.1, h.2.2.2.1, D_scan.mono (fun _ _ q => ⟨q.1, fun q0 => absurd q0 (by decide), q.2⟩) h.2.2.2.2⟩ w5 w6)
  · intro r M' h
    exact ow_next_i (aft_scan hL hk h5 nx (c := 0) (by omega) h.1 ⟨h.2.1, h.2.2.1, h.2.2.2.1, D_scan.mono (fun _ _ q => ⟨q.1, fun _ => by rw [q.2.1], q.2.2⟩) h.2.2.2.2⟩ w5 w6)
theorem aft_current (hL : L < 2 ^ 31) {k : Nat} (hk : 5 * k + 5 ≤ L) (h5 : k < 512) (nx : LH l Q L xs JJ (k + 1)) {M : Nat → Nat → Int32} {K : Int64} {b tc sc : Nat} {c : Int32} (hb : 512 ≤ b + (k + 1)) (hI : MI M tc sc) (hX : D_current M tc sc (xs (5 * k + 1)) (xs (5 * k + 2)) (fun r2 M2 => M2 48 0 = c ∧ (c = 0 → K = r2.toInt64) ∧ JJ (k + 1) M2)) (w5 w6 : Option Value) : AW l Y_W (some (L, xs)) (13, 494) Q 661 [some (.retAddr 0), some (.ref 0), some (.ref 48), some (.ref 69), some (.int (nI (5 * k))), w5, w6] [.int c] (mm M K b) := by
  refine aw_istore d_W_661 (by decide) ?_
  refine aw_aload_n d_W_663 rfl ?_
  refine aw_sload_n d_W_664 rfl ?_
  refine aw_iload d_W_665 rfl ?_
  refine aw_iconst (v := 1) d_W_667 (by decide) ?_
  refine aw_iadd d_W_668 ?_
  refine law_sld (j := 5 * k + 1) (show nI (5 * k) + nI 1 = nI (5 * k + 1) from nIadd _ _) (by omega) hL d_W_669 ?_
  refine aw_sload_n d_W_670 rfl ?_
  refine aw_iload d_W_671 rfl ?_
  refine aw_iconst (v := 2) d_W_673 (by decide) ?_
  refine aw_iadd d_W_674 ?_
  refine law_sld (j := 5 * k + 2) (show nI (5 * k) + nI 2 = nI (5 * k + 2) from nIadd _ _) (by omega) hL d_W_675 ?_
  refine aw_cV2 (d' := (1, 13)) d_W_676 lk_L_107 cd_M_current (Nat.le_of_ble_eq_true rfl) rfl rfl ⟨Nat.le_of_ble_eq_true rfl, Nat.le_of_ble_eq_true rfl⟩ (fun _ h => nomatch h) ?_
  refine t_M_current hI (D_current.mono ?_ hX)
  intro r2 M2 hM
  refine ow_next_i ?_
  refine aw_istore d_W_679 (by decide) ?_
  refine aw_aload_n d_W_681 rfl ?_
  refine aw_cV0 (d' := (0, 0)) d_W_682 lk_L_79 cd_M_thrown (Nat.le_of_ble_eq_true rfl) rfl rfl ⟨Nat.le_of_ble_eq_true rfl, Nat.le_of_ble_eq_true rfl⟩ (fun _ h => nomatch h) ?_
  refine t_M_thrown ?_
  refine ow_next_i ?_
  refine aw_iload d_W_685 rfl ?_
  refine aw_icmp_eq (tgt := 692) d_W_687 rfl (fun _ => ?_) (fun g => absurd hM.1 g)
  refine aw_iload d_W_692 rfl ?_
  refine aw_if_ne (tgt := 709) d_W_694 rfl (fun g => ?_) (fun g => ?_)
  · refine aw_goto (tgt := 1143) d_W_709 rfl ?_
    exact law_inc nx hM.2.2 hb
  · refine aw_aload_n d_W_697 rfl ?_
    refine aw_iconst (v := 0) d_W_698 (by decide) ?_
    refine mm_lald d_W_699 ?_
    refine aw_iload d_W_700 rfl ?_
    refine aw_i2l d_W_702 ?_
    refine aw_lcmp d_W_703 ?_
    rw [hM.2.1 g, lgc]
    refine aw_if_eq (tgt := 709) d_W_704 rfl (fun _ => ?_) (fun g => absurd rfl g)
    refine aw_goto (tgt := 1143) d_W_709 rfl ?_
    exact law_inc nx hM.2.2 hb
theorem cas_current (hl : l.stackTraces = false) (hL : L < 2 ^ 31) {k : Nat} (hk : 5 * k + 5 ≤ L) (h5 : k < 512) (nx : LH l Q L xs JJ (k + 1)) (hH : HX_current JJ) {M : Nat → Nat → Int32} {K : Int64} {b : Nat} (hJ : JJ k M) (hb : 512 ≤ b + k) (w5 w6 : Option Value) : AW l Y_W (some (L, xs)) (13, 494) Q 644 [some (.retAddr 0), some (.ref 0), some (.ref 48), some (.ref 69), some (.int (nI (5 * k))), w5, w6] [] (mm M K b) := by
  obtain ⟨tc, sc, hC, hZ⟩ := hH k M (xs (5 * k + 1)) (xs (5 * k + 2)) h5 hJ
  obtain ⟨b, rfl⟩ : ∃ b', b = b' + 1 := ⟨b - 1, by omega⟩
  refine aw_aload_n d_W_644 rfl ?_
  refine aw_sload_n d_W_645 rfl ?_
  refine aw_iload d_W_646 rfl ?_
  refine aw_iconst (v := 1) d_W_648 (by decide) ?_
  refine aw_iadd d_W_649 ?_
  refine law_sld (j := 5 * k + 1) (show nI (5 * k) + nI 1 = nI (5 * k + 1) from nIadd _ _) (by omega) hL d_W_650 ?_
  refine aw_sload_n d_W_651 rfl ?_
  refine aw_iload d_W_652 rfl ?_
  refine aw_iconst (v := 2) d_W_654 (by decide) ?_
  refine aw_iadd d_W_655 ?_
  refine law_sld (j := 5 * k + 2) (show nI (5 * k) + nI 2 = nI (5 * k + 2) from nIadd _ _) (by omega) hL d_W_656 ?_
  refine aw_aload_n d_W_657 rfl ?_
  refine aw_cS4 (d' := (7, 98)) d_W_658 lk_L_105 cd_L_current ⟨Nat.le_of_ble_eq_true rfl, Nat.le_of_ble_eq_true rfl⟩ (fun _ h => nomatch h) ?_
  refine t_L_current hl hC (C_current.mono ?_ ?_ hZ)
  · intro M' h
    exact ow_next_i (aft_current hL hk h5 nx (c := 1) (by omega) h.1 (D_current.mono (fun _ _ q => ⟨q.1, fun q0 => absurd q0 (by decide), q.2⟩) h.2) w5 w6)
  · intro r M' h
    exact ow_next_i (aft_current hL hk h5 nx (c := 0) (by omega) h.1 (D_current.mono (fun _ _ q => ⟨q.1, fun _ => by rw [q.2.1], q.2.2⟩) h.2) w5 w6)
theorem aft_get (hL : L < 2 ^ 31) {k : Nat} (hk : 5 * k + 5 ≤ L) (h5 : k < 512) (nx : LH l Q L xs JJ (k + 1)) {M : Nat → Nat → Int32} {K : Int64} {b tc sc : Nat} {c : Int32} (hb : 512 ≤ b + (k + 1)) (hI : MI M tc sc) (hX : FCm M ∧ D_get M  (xs (5 * k + 1)) (fun r2 M2 => M2 48 0 = c ∧ (c = 0 → K = r2.toInt64) ∧ JJ (k + 1) M2)) (w5 w6 : Option Value) : AW l Y_W (some (L, xs)) (13, 494) Q 723 [some (.retAddr 0), some (.ref 0), some (.ref 48), some (.ref 69), some (.int (nI (5 * k))), w5, w6] [.int c] (mm M K b) := by
  refine aw_istore d_W_723 (by decide) ?_
  refine aw_aload_n d_W_725 rfl ?_
  refine aw_sload_n d_W_726 rfl ?_
  refine aw_iload d_W_727 rfl ?_
  refine aw_iconst (v := 1) d_W_729 (by decide) ?_
  refine aw_iadd d_W_730 ?_
  refine law_sld (j := 5 * k + 1) (show nI (5 * k) + nI 1 = nI (5 * k + 1) from nIadd _ _) (by omega) hL d_W_731 ?_
  refine aw_cV1 (d' := (0, 0)) d_W_732 lk_L_110 cd_M_get (Nat.le_of_ble_eq_true rfl) rfl rfl ⟨Nat.le_of_ble_eq_true rfl, Nat.le_of_ble_eq_true rfl⟩ (fun _ h => nomatch h) ?_
  refine t_M_get hI hX.1 (D_get.mono ?_ hX.2)
  intro r2 M2 hM
  refine ow_next_i ?_
  refine aw_istore d_W_735 (by decide) ?_
  refine aw_aload_n d_W_737 rfl ?_
  refine aw_cV0 (d' := (0, 0)) d_W_738 lk_L_79 cd_M_thrown (Nat.le_of_ble_eq_true rfl) rfl rfl ⟨Nat.le_of_ble_eq_true rfl, Nat.le_of_ble_eq_true rfl⟩ (fun _ h => nomatch h) ?_
  refine t_M_thrown ?_
  refine ow_next_i ?_
  refine aw_iload d_W_741 rfl ?_
  refine aw_icmp_eq (tgt := 748) d_W_743 rfl (fun _ => ?_) (fun g => absurd hM.1 g)
  refine aw_iload d_W_748 rfl ?_
  refine aw_if_ne (tgt := 765) d_W_750 rfl (fun g => ?_) (fun g => ?_)
  · refine aw_goto (tgt := 1143) d_W_765 rfl ?_
    exact law_inc nx hM.2.2 hb
  · refine aw_aload_n d_W_753 rfl ?_
    refine aw_iconst (v := 0) d_W_754 (by decide) ?_
    refine mm_lald d_W_755 ?_
    refine aw_iload d_W_756 rfl ?_
    refine aw_i2l d_W_758 ?_
    refine aw_lcmp d_W_759 ?_
    rw [hM.2.1 g, lgc]
    refine aw_if_eq (tgt := 765) d_W_760 rfl (fun _ => ?_) (fun g => absurd rfl g)
    refine aw_goto (tgt := 1143) d_W_765 rfl ?_
    exact law_inc nx hM.2.2 hb
theorem cas_get (hl : l.stackTraces = false) (hL : L < 2 ^ 31) {k : Nat} (hk : 5 * k + 5 ≤ L) (h5 : k < 512) (nx : LH l Q L xs JJ (k + 1)) (hH : HX_get JJ) {M : Nat → Nat → Int32} {K : Int64} {b : Nat} (hJ : JJ k M) (hb : 512 ≤ b + k) (w5 w6 : Option Value) : AW l Y_W (some (L, xs)) (13, 494) Q 712 [some (.retAddr 0), some (.ref 0), some (.ref 48), some (.ref 69), some (.int (nI (5 * k))), w5, w6] [] (mm M K b) := by
  obtain ⟨tc, sc, hC, hZ⟩ := hH k M (xs (5 * k + 1)) h5 hJ
  obtain ⟨b, rfl⟩ : ∃ b', b = b' + 1 := ⟨b - 1, by omega⟩
  refine aw_aload_n d_W_712 rfl ?_
  refine aw_sload_n d_W_713 rfl ?_
  refine aw_iload d_W_714 rfl ?_
  refine aw_iconst (v := 1) d_W_716 (by decide) ?_
  refine aw_iadd d_W_717 ?_
  refine law_sld (j := 5 * k + 1) (show nI (5 * k) + nI 1 = nI (5 * k + 1) from nIadd _ _) (by omega) hL d_W_718 ?_
  refine aw_aload_n d_W_719 rfl ?_
  refine aw_cS3 (d' := (8, 112)) d_W_720 lk_L_108 cd_L_get ⟨Nat.le_of_ble_eq_true rfl, Nat.le_of_ble_eq_true rfl⟩ (fun _ h => nomatch h) ?_
  refine t_L_get hl hC hZ.1 (C_get.mono ?_ ?_ ?_ hZ.2)
  · intro M' h
    exact ow_next_i (aft_get hL hk h5 nx (c := 2) (by omega) h.1 ⟨h.2.1, D_get.mono (fun _ _ q => ⟨q.1, fun q0 => absurd q0 (by decide), q.2⟩) h.2.2⟩ w5 w6)
  · intro M' h
    exact ow_next_i (aft_get hL hk h5 nx (c := 1) (by omega) h.1 ⟨h.2.1, D_get.mono (fun _ _ q => ⟨q.1, fun q0 => absurd q0 (by decide), q.2⟩) h.2.2⟩ w5 w6)
  · intro r M' h
    exact ow_next_i (aft_get hL hk h5 nx (c := 0) (by omega) h.1 ⟨h.2.1, D_get.mono (fun _ _ q => ⟨q.1, fun _ => by rw [q.2.1], q.2.2⟩) h.2.2⟩ w5 w6)
theorem aft_modify (hL : L < 2 ^ 31) {k : Nat} (hk : 5 * k + 5 ≤ L) (h5 : k < 512) (nx : LH l Q L xs JJ (k + 1)) {M : Nat → Nat → Int32} {K : Int64} {b tc sc : Nat} {c : Int32} (hb : 512 ≤ b + (k + 1)) (hI : MI M tc sc) (hX : FCm M ∧ D_modify M sc (xs (5 * k + 1)) (xs (5 * k + 2)) (fun M2 => M2 48 0 = c ∧ JJ (k + 1) M2)) (w5 w6 : Option Value) : AW l Y_W (some (L, xs)) (13, 494) Q 784 [some (.retAddr 0), some (.ref 0), some (.ref 48), some (.ref 69), some (.int (nI (5 * k))), w5, w6] [.int c] (mm M K b) := by
  refine aw_istore d_W_784 (by decide) ?_
  refine aw_aload_n d_W_786 rfl ?_
  refine aw_sload_n d_W_787 rfl ?_
  refine aw_iload d_W_788 rfl ?_
  refine aw_iconst (v := 1) d_W_790 (by decide) ?_
  refine aw_iadd d_W_791 ?_
  refine law_sld (j := 5 * k + 1) (show nI (5 * k) + nI 1 = nI (5 * k + 1) from nIadd _ _) (by omega) hL d_W_792 ?_
  refine aw_sload_n d_W_793 rfl ?_
  refine aw_iload d_W_794 rfl ?_
  refine aw_iconst (v := 2) d_W_796 (by decide) ?_
  refine aw_iadd d_W_797 ?_
  refine law_sld (j := 5 * k + 2) (show nI (5 * k) + nI 2 = nI (5 * k + 2) from nIadd _ _) (by omega) hL d_W_798 ?_
  refine aw_cV2 (d' := (4, 70)) d_W_799 lk_L_113 cd_M_modify (Nat.le_of_ble_eq_true rfl) rfl rfl ⟨Nat.le_of_ble_eq_true rfl, Nat.le_of_ble_eq_true rfl⟩ (fun _ h => nomatch h) ?_
  refine t_M_modify hI hX.1 (D_modify.mono ?_ hX.2)
  intro M2 hM
  refine ow_next_v ?_
  refine aw_aload_n d_W_802 rfl ?_
  refine aw_cV0 (d' := (0, 0)) d_W_803 lk_L_79 cd_M_thrown (Nat.le_of_ble_eq_true rfl) rfl rfl ⟨Nat.le_of_ble_eq_true rfl, Nat.le_of_ble_eq_true rfl⟩ (fun _ h => nomatch h) ?_
  refine t_M_thrown ?_
  refine ow_next_i ?_
  refine aw_iload d_W_806 rfl ?_
  refine aw_icmp_eq (tgt := 813) d_W_808 rfl (fun _ => ?_) (fun g => absurd hM.1 g)
  refine aw_goto (tgt := 1143) d_W_813 rfl ?_
  exact law_inc nx hM.2 hb
theorem cas_modify (hl : l.stackTraces = false) (hL : L < 2 ^ 31) {k : Nat} (hk : 5 * k + 5 ≤ L) (h5 : k < 512) (nx : LH l Q L xs JJ (k + 1)) (hH : HX_modify JJ) {M : Nat → Nat → Int32} {K : Int64} {b : Nat} (hJ : JJ k M) (hb : 512 ≤ b + k) (w5 w6 : Option Value) : AW l Y_W (some (L, xs)) (13, 494) Q 768 [some (.retAddr 0), some (.ref 0), some (.ref 48), some (.ref 69), some (.int (nI (5 * k))), w5, w6] [] (mm M K b) := by
  obtain ⟨tc, sc, hC, hZ⟩ := hH k M (xs (5 * k + 1)) (xs (5 * k + 2)) h5 hJ
  obtain ⟨b, rfl⟩ : ∃ b', b = b' + 1 := ⟨b - 1, by omega⟩
  refine aw_aload_n d_W_768 rfl ?_
  refine aw_sload_n d_W_769 rfl ?_
  refine aw_iload d_W_770 rfl ?_
  refine aw_iconst (v := 1) d_W_772 (by decide) ?_
  refine aw_iadd d_W_773 ?_
  refine law_sld (j := 5 * k + 1) (show nI (5 * k) + nI 1 = nI (5 * k + 1) from nIadd _ _) (by omega) hL d_W_774 ?_
  refine aw_sload_n d_W_775 rfl ?_
  refine aw_iload d_W_776 rfl ?_
  refine aw_iconst (v := 2) d_W_778 (by decide) ?_
  refine aw_iadd d_W_779 ?_
  refine law_sld (j := 5 * k + 2) (show nI (5 * k) + nI 2 = nI (5 * k + 2) from nIadd _ _) (by omega) hL d_W_780 ?_
  refine aw_cS3 (d' := (9, 129)) d_W_781 lk_L_111 cd_L_modify ⟨Nat.le_of_ble_eq_true rfl, Nat.le_of_ble_eq_true rfl⟩ (fun _ h => nomatch h) ?_
  refine t_L_modify hl hC hZ.1 (C_modify.mono ?_ ?_ ?_ ?_ hZ.2)
  · intro M' h
    exact ow_next_i (aft_modify hL hk h5 nx (c := 2) (by omega) h.1 h.2 w5 w6)
  · intro M' h
    exact ow_next_i (aft_modify hL hk h5 nx (c := 3) (by omega) h.1 h.2 w5 w6)
  · intro M' h
    exact ow_next_i (aft_modify hL hk h5 nx (c := 1) (by omega) h.1 h.2 w5 w6)
  · intro M' h
    exact ow_next_i (aft_modify hL hk h5 nx (c := 0) (by omega) h.1 h.2 w5 w6)
theorem aft_connect (hL : L < 2 ^ 31) {k : Nat} (hk : 5 * k + 5 ≤ L) (h5 : k < 512) (nx : LH l Q L xs JJ (k + 1)) {M : Nat → Nat → Int32} {K : Int64} {b tc sc : Nat} {c : Int32} (hb : 512 ≤ b + (k + 1)) (hI : MI M tc sc) (hX : D_connect M sc (xs (5 * k + 1)) (fun M2 => M2 48 0 = c ∧ JJ (k + 1) M2)) (w5 w6 : Option Value) : AW l Y_W (some (L, xs)) (13, 494) Q 826 [some (.retAddr 0), some (.ref 0), some (.ref 48), some (.ref 69), some (.int (nI (5 * k))), w5, w6] [.int c] (mm M K b) := by
  refine aw_istore d_W_826 (by decide) ?_
  refine aw_aload_n d_W_828 rfl ?_
  refine aw_sload_n d_W_829 rfl ?_
  refine aw_iload d_W_830 rfl ?_
  refine aw_iconst (v := 1) d_W_832 (by decide) ?_
  refine aw_iadd d_W_833 ?_
  refine law_sld (j := 5 * k + 1) (show nI (5 * k) + nI 1 = nI (5 * k + 1) from nIadd _ _) (by omega) hL d_W_834 ?_
  refine aw_cV1 (d' := (4, 70)) d_W_835 lk_L_117 cd_M_connect (Nat.le_of_ble_eq_true rfl) rfl rfl ⟨Nat.le_of_ble_eq_true rfl, Nat.le_of_ble_eq_true rfl⟩ (fun _ h => nomatch h) ?_
  refine t_M_connect hI (D_connect.mono ?_ hX)
  intro M2 hM
  refine ow_next_v ?_
  refine aw_aload_n d_W_838 rfl ?_
  refine aw_cV0 (d' := (0, 0)) d_W_839 lk_L_79 cd_M_thrown (Nat.le_of_ble_eq_true rfl) rfl rfl ⟨Nat.le_of_ble_eq_true rfl, Nat.le_of_ble_eq_true rfl⟩ (fun _ h => nomatch h) ?_
  refine t_M_thrown ?_
  refine ow_next_i ?_
  refine aw_iload d_W_842 rfl ?_
  refine aw_icmp_eq (tgt := 849) d_W_844 rfl (fun _ => ?_) (fun g => absurd hM.1 g)
  refine aw_goto (tgt := 1143) d_W_849 rfl ?_
  exact law_inc nx hM.2 hb
theorem cas_connect (hl : l.stackTraces = false) (hL : L < 2 ^ 31) {k : Nat} (hk : 5 * k + 5 ≤ L) (h5 : k < 512) (nx : LH l Q L xs JJ (k + 1)) (hH : HX_connect JJ) {M : Nat → Nat → Int32} {K : Int64} {b : Nat} (hJ : JJ k M) (hb : 512 ≤ b + k) (w5 w6 : Option Value) : AW l Y_W (some (L, xs)) (13, 494) Q 816 [some (.retAddr 0), some (.ref 0), some (.ref 48), some (.ref 69), some (.int (nI (5 * k))), w5, w6] [] (mm M K b) := by
  obtain ⟨tc, sc, hC, hZ⟩ := hH k M (xs (5 * k + 1)) h5 hJ
  obtain ⟨b, rfl⟩ : ∃ b', b = b' + 1 := ⟨b - 1, by omega⟩
  refine aw_aload_n d_W_816 rfl ?_
  refine aw_sload_n d_W_817 rfl ?_
  refine aw_iload d_W_818 rfl ?_
  refine aw_iconst (v := 1) d_W_820 (by decide) ?_
  refine aw_iadd d_W_821 ?_
  refine law_sld (j := 5 * k + 1) (show nI (5 * k) + nI 1 = nI (5 * k + 1) from nIadd _ _) (by omega) hL d_W_822 ?_
  refine aw_cS2 (d' := (9, 128)) d_W_823 lk_L_114 cd_L_connect ⟨Nat.le_of_ble_eq_true rfl, Nat.le_of_ble_eq_true rfl⟩ (fun _ h => nomatch h) ?_
  refine t_L_connect hl hC (C_connect.mono ?_ ?_ ?_ ?_ hZ)
  · intro M' h
    exact ow_next_i (aft_connect hL hk h5 nx (c := 1) (by omega) h.1 h.2 w5 w6)
  · intro M' h
    exact ow_next_i (aft_connect hL hk h5 nx (c := 3) (by omega) h.1 h.2 w5 w6)
  · intro M' h
    exact ow_next_i (aft_connect hL hk h5 nx (c := 2) (by omega) h.1 h.2 w5 w6)
  · intro M' h
    exact ow_next_i (aft_connect hL hk h5 nx (c := 0) (by omega) h.1 h.2 w5 w6)
theorem aft_disconnect (hL : L < 2 ^ 31) {k : Nat} (hk : 5 * k + 5 ≤ L) (h5 : k < 512) (nx : LH l Q L xs JJ (k + 1)) {M : Nat → Nat → Int32} {K : Int64} {b tc sc : Nat} {c : Int32} (hb : 512 ≤ b + (k + 1)) (hI : MI M tc sc) (hX : D_disconnect M sc (xs (5 * k + 1)) (fun M2 => M2 48 0 = c ∧ JJ (k + 1) M2)) (w5 w6 : Option Value) : AW l Y_W (some (L, xs)) (13, 494) Q 862 [some (.retAddr 0), some (.ref 0), some (.ref 48), some (.ref 69), some (.int (nI (5 * k))), w5, w6] [.int c] (mm M K b) := by
  refine aw_istore d_W_862 (by decide) ?_
  refine aw_aload_n d_W_864 rfl ?_
  refine aw_sload_n d_W_865 rfl ?_
  refine aw_iload d_W_866 rfl ?_
  refine aw_iconst (v := 1) d_W_868 (by decide) ?_
  refine aw_iadd d_W_869 ?_
  refine law_sld (j := 5 * k + 1) (show nI (5 * k) + nI 1 = nI (5 * k + 1) from nIadd _ _) (by omega) hL d_W_870 ?_
  refine aw_cV1 (d' := (2, 32)) d_W_871 lk_L_120 cd_M_disconnect (Nat.le_of_ble_eq_true rfl) rfl rfl ⟨Nat.le_of_ble_eq_true rfl, Nat.le_of_ble_eq_true rfl⟩ (fun _ h => nomatch h) ?_
  refine t_M_disconnect hI (D_disconnect.mono ?_ hX)
  intro M2 hM
  refine ow_next_v ?_
  refine aw_aload_n d_W_874 rfl ?_
  refine aw_cV0 (d' := (0, 0)) d_W_875 lk_L_79 cd_M_thrown (Nat.le_of_ble_eq_true rfl) rfl rfl ⟨Nat.le_of_ble_eq_true rfl, Nat.le_of_ble_eq_true rfl⟩ (fun _ h => nomatch h) ?_
  refine t_M_thrown ?_
  refine ow_next_i ?_
  refine aw_iload d_W_878 rfl ?_
  refine aw_icmp_eq (tgt := 885) d_W_880 rfl (fun _ => ?_) (fun g => absurd hM.1 g)
  refine aw_goto (tgt := 1143) d_W_885 rfl ?_
  exact law_inc nx hM.2 hb
theorem cas_disconnect (hl : l.stackTraces = false) (hL : L < 2 ^ 31) {k : Nat} (hk : 5 * k + 5 ≤ L) (h5 : k < 512) (nx : LH l Q L xs JJ (k + 1)) (hH : HX_disconnect JJ) {M : Nat → Nat → Int32} {K : Int64} {b : Nat} (hJ : JJ k M) (hb : 512 ≤ b + k) (w5 w6 : Option Value) : AW l Y_W (some (L, xs)) (13, 494) Q 852 [some (.retAddr 0), some (.ref 0), some (.ref 48), some (.ref 69), some (.int (nI (5 * k))), w5, w6] [] (mm M K b) := by
  obtain ⟨tc, sc, hC, hZ⟩ := hH k M (xs (5 * k + 1)) h5 hJ
  obtain ⟨b, rfl⟩ : ∃ b', b = b' + 1 := ⟨b - 1, by omega⟩
  refine aw_aload_n d_W_852 rfl ?_
  refine aw_sload_n d_W_853 rfl ?_
  refine aw_iload d_W_854 rfl ?_
  refine aw_iconst (v := 1) d_W_856 (by decide) ?_
  refine aw_iadd d_W_857 ?_
  refine law_sld (j := 5 * k + 1) (show nI (5 * k) + nI 1 = nI (5 * k + 1) from nIadd _ _) (by omega) hL d_W_858 ?_
  refine aw_cS2 (d' := (8, 109)) d_W_859 lk_L_118 cd_L_disconnect ⟨Nat.le_of_ble_eq_true rfl, Nat.le_of_ble_eq_true rfl⟩ (fun _ h => nomatch h) ?_
  refine t_L_disconnect hl hC hZ.1 (C_disconnect.mono ?_ ?_ ?_ ?_ hZ.2)
  · intro M' h
    exact ow_next_i (aft_disconnect hL hk h5 nx (c := 1) (by omega) h.1 h.2 w5 w6)
  · intro M' h
    exact ow_next_i (aft_disconnect hL hk h5 nx (c := 3) (by omega) h.1 h.2 w5 w6)
  · intro M' h
    exact ow_next_i (aft_disconnect hL hk h5 nx (c := 2) (by omega) h.1 h.2 w5 w6)
  · intro M' h
    exact ow_next_i (aft_disconnect hL hk h5 nx (c := 0) (by omega) h.1 h.2 w5 w6)
theorem aft_reconnect (hL : L < 2 ^ 31) {k : Nat} (hk : 5 * k + 5 ≤ L) (h5 : k < 512) (nx : LH l Q L xs JJ (k + 1)) {M : Nat → Nat → Int32} {K : Int64} {b tc sc : Nat} {c : Int32} (hb : 512 ≤ b + (k + 1)) (hI : MI M tc sc) (hX : D_reconnect M sc (xs (5 * k + 1)) (fun M2 => M2 48 0 = c ∧ JJ (k + 1) M2)) (w5 w6 : Option Value) : AW l Y_W (some (L, xs)) (13, 494) Q 898 [some (.retAddr 0), some (.ref 0), some (.ref 48), some (.ref 69), some (.int (nI (5 * k))), w5, w6] [.int c] (mm M K b) := by
  refine aw_istore d_W_898 (by decide) ?_
  refine aw_aload_n d_W_900 rfl ?_
  refine aw_sload_n d_W_901 rfl ?_
  refine aw_iload d_W_902 rfl ?_
  refine aw_iconst (v := 1) d_W_904 (by decide) ?_
  refine aw_iadd d_W_905 ?_
  refine law_sld (j := 5 * k + 1) (show nI (5 * k) + nI 1 = nI (5 * k + 1) from nIadd _ _) (by omega) hL d_W_906 ?_
  refine aw_cV1 (d' := (4, 70)) d_W_907 lk_L_123 cd_M_reconnect (Nat.le_of_ble_eq_true rfl) rfl rfl ⟨Nat.le_of_ble_eq_true rfl, Nat.le_of_ble_eq_true rfl⟩ (fun _ h => nomatch h) ?_
  refine t_M_reconnect hI (D_reconnect.mono ?_ hX)
  intro M2 hM
  refine ow_next_v ?_
  refine aw_aload_n d_W_910 rfl ?_
  refine aw_cV0 (d' := (0, 0)) d_W_911 lk_L_79 cd_M_thrown (Nat.le_of_ble_eq_true rfl) rfl rfl ⟨Nat.le_of_ble_eq_true rfl, Nat.le_of_ble_eq_true rfl⟩ (fun _ h => nomatch h) ?_
  refine t_M_thrown ?_
  refine ow_next_i ?_
  refine aw_iload d_W_914 rfl ?_
  refine aw_icmp_eq (tgt := 921) d_W_916 rfl (fun _ => ?_) (fun g => absurd hM.1 g)
  refine aw_goto (tgt := 1143) d_W_921 rfl ?_
  exact law_inc nx hM.2 hb
theorem cas_reconnect (hl : l.stackTraces = false) (hL : L < 2 ^ 31) {k : Nat} (hk : 5 * k + 5 ≤ L) (h5 : k < 512) (nx : LH l Q L xs JJ (k + 1)) (hH : HX_reconnect JJ) {M : Nat → Nat → Int32} {K : Int64} {b : Nat} (hJ : JJ k M) (hb : 512 ≤ b + k) (w5 w6 : Option Value) : AW l Y_W (some (L, xs)) (13, 494) Q 888 [some (.retAddr 0), some (.ref 0), some (.ref 48), some (.ref 69), some (.int (nI (5 * k))), w5, w6] [] (mm M K b) := by
  obtain ⟨tc, sc, hC, hZ⟩ := hH k M (xs (5 * k + 1)) h5 hJ
  obtain ⟨b, rfl⟩ : ∃ b', b = b' + 1 := ⟨b - 1, by omega⟩
  refine aw_aload_n d_W_888 rfl ?_
  refine aw_sload_n d_W_889 rfl ?_
  refine aw_iload d_W_890 rfl ?_
  refine aw_iconst (v := 1) d_W_892 (by decide) ?_
  refine aw_iadd d_W_893 ?_
  refine law_sld (j := 5 * k + 1) (show nI (5 * k) + nI 1 = nI (5 * k + 1) from nIadd _ _) (by omega) hL d_W_894 ?_
  refine aw_cS2 (d' := (9, 128)) d_W_895 lk_L_121 cd_L_reconnect ⟨Nat.le_of_ble_eq_true rfl, Nat.le_of_ble_eq_true rfl⟩ (fun _ h => nomatch h) ?_
  refine t_L_reconnect hl hC (C_reconnect.mono ?_ ?_ ?_ ?_ hZ)
  · intro M' h
    exact ow_next_i (aft_reconnect hL hk h5 nx (c := 1) (by omega) h.1 h.2 w5 w6)
  · intro M' h
    exact ow_next_i (aft_reconnect hL hk h5 nx (c := 3) (by omega) h.1 h.2 w5 w6)
  · intro M' h
    exact ow_next_i (aft_reconnect hL hk h5 nx (c := 2) (by omega) h.1 h.2 w5 w6)
  · intro M' h
    exact ow_next_i (aft_reconnect hL hk h5 nx (c := 0) (by omega) h.1 h.2 w5 w6)
theorem aft_erase (hL : L < 2 ^ 31) {k : Nat} (hk : 5 * k + 5 ≤ L) (h5 : k < 512) (nx : LH l Q L xs JJ (k + 1)) {M : Nat → Nat → Int32} {K : Int64} {b tc sc : Nat} {c : Int32} (hb : 512 ≤ b + (k + 1)) (hI : MI M tc sc) (hX : (∀ s, s < 5 → 0 ≤ M 53 s - M 53 s / 3 * 3) ∧ D_erase M tc sc (xs (5 * k + 1)) (fun r2 M2 => M2 48 0 = c ∧ (c = 0 → K = r2.toInt64) ∧ JJ (k + 1) M2)) (w5 w6 : Option Value) : AW l Y_W (some (L, xs)) (13, 494) Q 935 [some (.retAddr 0), some (.ref 0), some (.ref 48), some (.ref 69), some (.int (nI (5 * k))), w5, w6] [.int c] (mm M K b) := by
  refine aw_istore d_W_935 (by decide) ?_
  refine aw_aload_n d_W_937 rfl ?_
  refine aw_sload_n d_W_938 rfl ?_
  refine aw_iload d_W_939 rfl ?_
  refine aw_iconst (v := 1) d_W_941 (by decide) ?_
  refine aw_iadd d_W_942 ?_
  refine law_sld (j := 5 * k + 1) (show nI (5 * k) + nI 1 = nI (5 * k + 1) from nIadd _ _) (by omega) hL d_W_943 ?_
  refine aw_cV1 (d' := (3, 47)) d_W_944 lk_L_126 cd_M_erase (Nat.le_of_ble_eq_true rfl) rfl rfl ⟨Nat.le_of_ble_eq_true rfl, Nat.le_of_ble_eq_true rfl⟩ (fun _ h => nomatch h) ?_
  refine t_M_erase hI hX.1 (D_erase.mono ?_ hX.2)
  intro r2 M2 hM
  refine ow_next_i ?_
  refine aw_istore d_W_947 (by decide) ?_
  refine aw_aload_n d_W_949 rfl ?_
  refine aw_cV0 (d' := (0, 0)) d_W_950 lk_L_79 cd_M_thrown (Nat.le_of_ble_eq_true rfl) rfl rfl ⟨Nat.le_of_ble_eq_true rfl, Nat.le_of_ble_eq_true rfl⟩ (fun _ h => nomatch h) ?_
  refine t_M_thrown ?_
  refine ow_next_i ?_
  refine aw_iload d_W_953 rfl ?_
  refine aw_icmp_eq (tgt := 960) d_W_955 rfl (fun _ => ?_) (fun g => absurd hM.1 g)
  refine aw_iload d_W_960 rfl ?_
  refine aw_if_ne (tgt := 977) d_W_962 rfl (fun g => ?_) (fun g => ?_)
  · refine aw_goto (tgt := 1143) d_W_977 rfl ?_
    exact law_inc nx hM.2.2 hb
  · refine aw_aload_n d_W_965 rfl ?_
    refine aw_iconst (v := 0) d_W_966 (by decide) ?_
    refine mm_lald d_W_967 ?_
    refine aw_iload d_W_968 rfl ?_
    refine aw_i2l d_W_970 ?_
    refine aw_lcmp d_W_971 ?_
    rw [hM.2.1 g, lgc]
    refine aw_if_eq (tgt := 977) d_W_972 rfl (fun _ => ?_) (fun g => absurd rfl g)
    refine aw_goto (tgt := 1143) d_W_977 rfl ?_
    exact law_inc nx hM.2.2 hb
theorem cas_erase (hl : l.stackTraces = false) (hL : L < 2 ^ 31) {k : Nat} (hk : 5 * k + 5 ≤ L) (h5 : k < 512) (nx : LH l Q L xs JJ (k + 1)) (hH : HX_erase JJ) {M : Nat → Nat → Int32} {K : Int64} {b : Nat} (hJ : JJ k M) (hb : 512 ≤ b + k) (w5 w6 : Option Value) : AW l Y_W (some (L, xs)) (13, 494) Q 924 [some (.retAddr 0), some (.ref 0), some (.ref 48), some (.ref 69), some (.int (nI (5 * k))), w5, w6] [] (mm M K b) := by
  obtain ⟨tc, sc, hC, hZ⟩ := hH k M (xs (5 * k + 1)) h5 hJ
  obtain ⟨b, rfl⟩ : ∃ b', b = b' + 1 := ⟨b - 1, by omega⟩
  refine aw_aload_n d_W_924 rfl ?_
  refine aw_sload_n d_W_925 rfl ?_
  refine aw_iload d_W_926 rfl ?_
  refine aw_iconst (v := 1) d_W_928 (by decide) ?_
  refine aw_iadd d_W_929 ?_
  refine law_sld (j := 5 * k + 1) (show nI (5 * k) + nI 1 = nI (5 * k + 1) from nIadd _ _) (by omega) hL d_W_930 ?_
  refine aw_aload_n d_W_931 rfl ?_
  refine aw_cS3 (d' := (8, 111)) d_W_932 lk_L_124 cd_L_erase ⟨Nat.le_of_ble_eq_true rfl, Nat.le_of_ble_eq_true rfl⟩ (fun _ h => nomatch h) ?_
  refine t_L_erase hl hC hZ.1 (C_erase.mono ?_ ?_ ?_ ?_ hZ.2)
  · intro M' h
    exact ow_next_i (aft_erase hL hk h5 nx (c := 1) (by omega) h.1 ⟨h.2.1, D_erase.mono (fun _ _ q => ⟨q.1, fun q0 => absurd q0 (by decide), q.2⟩) h.2.2⟩ w5 w6)
  · intro M' h
    exact ow_next_i (aft_erase hL hk h5 nx (c := 3) (by omega) h.1 ⟨h.2.1, D_erase.mono (fun _ _ q => ⟨q.1, fun q0 => absurd q0 (by decide), q.2⟩) h.2.2⟩ w5 w6)
  · intro M' h
    exact ow_next_i (aft_erase hL hk h5 nx (c := 2) (by omega) h.1 ⟨h.2.1, D_erase.mono (fun _ _ q => ⟨q.1, fun q0 => absurd q0 (by decide), q.2⟩) h.2.2⟩ w5 w6)
  · intro r M' h
    exact ow_next_i (aft_erase hL hk h5 nx (c := 0) (by omega) h.1 ⟨h.2.1, D_erase.mono (fun _ _ q => ⟨q.1, fun _ => by rw [q.2.1], q.2.2⟩) h.2.2⟩ w5 w6)
theorem aft_members (hL : L < 2 ^ 31) {k : Nat} (hk : 5 * k + 5 ≤ L) (h5 : k < 512) (nx : LH l Q L xs JJ (k + 1)) {M : Nat → Nat → Int32} {K : Int64} {b tc sc : Nat} {c : Int32} (hb : 512 ≤ b + (k + 1)) (hI : MI M tc sc) (hX : D_members M sc (xs (5 * k + 1)) (fun r2 M2 => M2 48 0 = c ∧ (c = 0 → K = r2.toInt64) ∧ JJ (k + 1) M2)) (w5 w6 : Option Value) : AW l Y_W (some (L, xs)) (13, 494) Q 991 [some (.retAddr 0), some (.ref 0), some (.ref 48), some (.ref 69), some (.int (nI (5 * k))), w5, w6] [.int c] (mm M K b) := by
  refine aw_istore d_W_991 (by decide) ?_
  refine aw_aload_n d_W_993 rfl ?_
  refine aw_sload_n d_W_994 rfl ?_
  refine aw_iload d_W_995 rfl ?_
  refine aw_iconst (v := 1) d_W_997 (by decide) ?_
  refine aw_iadd d_W_998 ?_
  refine law_sld (j := 5 * k + 1) (show nI (5 * k) + nI 1 = nI (5 * k + 1) from nIadd _ _) (by omega) hL d_W_999 ?_
  refine aw_cV1 (d' := (1, 15)) d_W_1000 lk_L_129 cd_M_members (Nat.le_of_ble_eq_true rfl) rfl rfl ⟨Nat.le_of_ble_eq_true rfl, Nat.le_of_ble_eq_true rfl⟩ (fun _ h => nomatch h) ?_
  refine t_M_members hI (D_members.mono ?_ hX)
  intro r2 M2 hM
  refine ow_next_i ?_
  refine aw_istore d_W_1003 (by decide) ?_
  refine aw_aload_n d_W_1005 rfl ?_
  refine aw_cV0 (d' := (0, 0)) d_W_1006 lk_L_79 cd_M_thrown (Nat.le_of_ble_eq_true rfl) rfl rfl ⟨Nat.le_of_ble_eq_true rfl, Nat.le_of_ble_eq_true rfl⟩ (fun _ h => nomatch h) ?_
  refine t_M_thrown ?_
  refine ow_next_i ?_
  refine aw_iload d_W_1009 rfl ?_
  refine aw_icmp_eq (tgt := 1016) d_W_1011 rfl (fun _ => ?_) (fun g => absurd hM.1 g)
  refine aw_iload d_W_1016 rfl ?_
  refine aw_if_ne (tgt := 1033) d_W_1018 rfl (fun g => ?_) (fun g => ?_)
  · refine aw_goto (tgt := 1143) d_W_1033 rfl ?_
    exact law_inc nx hM.2.2 hb
  · refine aw_aload_n d_W_1021 rfl ?_
    refine aw_iconst (v := 0) d_W_1022 (by decide) ?_
    refine mm_lald d_W_1023 ?_
    refine aw_iload d_W_1024 rfl ?_
    refine aw_i2l d_W_1026 ?_
    refine aw_lcmp d_W_1027 ?_
    rw [hM.2.1 g, lgc]
    refine aw_if_eq (tgt := 1033) d_W_1028 rfl (fun _ => ?_) (fun g => absurd rfl g)
    refine aw_goto (tgt := 1143) d_W_1033 rfl ?_
    exact law_inc nx hM.2.2 hb
theorem cas_members (hl : l.stackTraces = false) (hL : L < 2 ^ 31) {k : Nat} (hk : 5 * k + 5 ≤ L) (h5 : k < 512) (nx : LH l Q L xs JJ (k + 1)) (hH : HX_members JJ) {M : Nat → Nat → Int32} {K : Int64} {b : Nat} (hJ : JJ k M) (hb : 512 ≤ b + k) (w5 w6 : Option Value) : AW l Y_W (some (L, xs)) (13, 494) Q 980 [some (.retAddr 0), some (.ref 0), some (.ref 48), some (.ref 69), some (.int (nI (5 * k))), w5, w6] [] (mm M K b) := by
  obtain ⟨tc, sc, hC, hZ⟩ := hH k M (xs (5 * k + 1)) h5 hJ
  obtain ⟨b, rfl⟩ : ∃ b', b = b' + 1 := ⟨b - 1, by omega⟩
  refine aw_aload_n d_W_980 rfl ?_
  refine aw_sload_n d_W_981 rfl ?_
  refine aw_iload d_W_982 rfl ?_
  refine aw_iconst (v := 1) d_W_984 (by decide) ?_
  refine aw_iadd d_W_985 ?_
  refine law_sld (j := 5 * k + 1) (show nI (5 * k) + nI 1 = nI (5 * k + 1) from nIadd _ _) (by omega) hL d_W_986 ?_
  refine aw_aload_n d_W_987 rfl ?_
  refine aw_cS3 (d' := (8, 113)) d_W_988 lk_L_127 cd_L_members ⟨Nat.le_of_ble_eq_true rfl, Nat.le_of_ble_eq_true rfl⟩ (fun _ h => nomatch h) ?_
  refine t_L_members hl hC (C_members.mono ?_ ?_ ?_ hZ)
  · intro M' h
    exact ow_next_i (aft_members hL hk h5 nx (c := 1) (by omega) h.1 (D_members.mono (fun _ _ q => ⟨q.1, fun q0 => absurd q0 (by decide), q.2⟩) h.2) w5 w6)
  · intro M' h
    exact ow_next_i (aft_members hL hk h5 nx (c := 2) (by omega) h.1 (D_members.mono (fun _ _ q => ⟨q.1, fun q0 => absurd q0 (by decide), q.2⟩) h.2) w5 w6)
  · intro r M' h
    exact ow_next_i (aft_members hL hk h5 nx (c := 0) (by omega) h.1 (D_members.mono (fun _ _ q => ⟨q.1, fun _ => by rw [q.2.1], q.2.2⟩) h.2) w5 w6)
theorem aft_owner (hL : L < 2 ^ 31) {k : Nat} (hk : 5 * k + 5 ≤ L) (h5 : k < 512) (nx : LH l Q L xs JJ (k + 1)) {M : Nat → Nat → Int32} {K : Int64} {b tc sc : Nat} {c : Int32} (hb : 512 ≤ b + (k + 1)) (hI : MI M tc sc) (hX : D_owner M sc (xs (5 * k + 1)) (xs (5 * k + 2)) (fun r2 M2 => M2 48 0 = c ∧ (c = 0 → K = r2.toInt64) ∧ JJ (k + 1) M2)) (w5 w6 : Option Value) : AW l Y_W (some (L, xs)) (13, 494) Q 1053 [some (.retAddr 0), some (.ref 0), some (.ref 48), some (.ref 69), some (.int (nI (5 * k))), w5, w6] [.int c] (mm M K b) := by
  refine aw_istore d_W_1053 (by decide) ?_
  refine aw_aload_n d_W_1055 rfl ?_
  refine aw_sload_n d_W_1056 rfl ?_
  refine aw_iload d_W_1057 rfl ?_
  refine aw_iconst (v := 1) d_W_1059 (by decide) ?_
  refine aw_iadd d_W_1060 ?_
  refine law_sld (j := 5 * k + 1) (show nI (5 * k) + nI 1 = nI (5 * k + 1) from nIadd _ _) (by omega) hL d_W_1061 ?_
  refine aw_sload_n d_W_1062 rfl ?_
  refine aw_iload d_W_1063 rfl ?_
  refine aw_iconst (v := 2) d_W_1065 (by decide) ?_
  refine aw_iadd d_W_1066 ?_
  refine law_sld (j := 5 * k + 2) (show nI (5 * k) + nI 2 = nI (5 * k + 2) from nIadd _ _) (by omega) hL d_W_1067 ?_
  refine aw_cV2 (d' := (1, 17)) d_W_1068 lk_L_132 cd_M_owner (Nat.le_of_ble_eq_true rfl) rfl rfl ⟨Nat.le_of_ble_eq_true rfl, Nat.le_of_ble_eq_true rfl⟩ (fun _ h => nomatch h) ?_
  refine t_M_owner hI (D_owner.mono ?_ hX)
  intro r2 M2 hM
  refine ow_next_i ?_
  refine aw_istore d_W_1071 (by decide) ?_
  refine aw_aload_n d_W_1073 rfl ?_
  refine aw_cV0 (d' := (0, 0)) d_W_1074 lk_L_79 cd_M_thrown (Nat.le_of_ble_eq_true rfl) rfl rfl ⟨Nat.le_of_ble_eq_true rfl, Nat.le_of_ble_eq_true rfl⟩ (fun _ h => nomatch h) ?_
  refine t_M_thrown ?_
  refine ow_next_i ?_
  refine aw_iload d_W_1077 rfl ?_
  refine aw_icmp_eq (tgt := 1084) d_W_1079 rfl (fun _ => ?_) (fun g => absurd hM.1 g)
  refine aw_iload d_W_1084 rfl ?_
  refine aw_if_ne (tgt := 1101) d_W_1086 rfl (fun g => ?_) (fun g => ?_)
  · refine aw_goto (tgt := 1143) d_W_1101 rfl ?_
    exact law_inc nx hM.2.2 hb
  · refine aw_aload_n d_W_1089 rfl ?_
    refine aw_iconst (v := 0) d_W_1090 (by decide) ?_
    refine mm_lald d_W_1091 ?_
    refine aw_iload d_W_1092 rfl ?_
    refine aw_i2l d_W_1094 ?_
    refine aw_lcmp d_W_1095 ?_
    rw [hM.2.1 g, lgc]
    refine aw_if_eq (tgt := 1101) d_W_1096 rfl (fun _ => ?_) (fun g => absurd rfl g)
    refine aw_goto (tgt := 1143) d_W_1101 rfl ?_
    exact law_inc nx hM.2.2 hb
theorem cas_owner (hl : l.stackTraces = false) (hL : L < 2 ^ 31) {k : Nat} (hk : 5 * k + 5 ≤ L) (h5 : k < 512) (nx : LH l Q L xs JJ (k + 1)) (hH : HX_owner JJ) {M : Nat → Nat → Int32} {K : Int64} {b : Nat} (hJ : JJ k M) (hb : 512 ≤ b + k) (w5 w6 : Option Value) : AW l Y_W (some (L, xs)) (13, 494) Q 1036 [some (.retAddr 0), some (.ref 0), some (.ref 48), some (.ref 69), some (.int (nI (5 * k))), w5, w6] [] (mm M K b) := by
  obtain ⟨tc, sc, hC, hZ⟩ := hH k M (xs (5 * k + 1)) (xs (5 * k + 2)) h5 hJ
  obtain ⟨b, rfl⟩ : ∃ b', b = b' + 1 := ⟨b - 1, by omega⟩
  refine aw_aload_n d_W_1036 rfl ?_
  refine aw_sload_n d_W_1037 rfl ?_
  refine aw_iload d_W_1038 rfl ?_
  refine aw_iconst (v := 1) d_W_1040 (by decide) ?_
  refine aw_iadd d_W_1041 ?_
  refine law_sld (j := 5 * k + 1) (show nI (5 * k) + nI 1 = nI (5 * k + 1) from nIadd _ _) (by omega) hL d_W_1042 ?_
  refine aw_sload_n d_W_1043 rfl ?_
  refine aw_iload d_W_1044 rfl ?_
  refine aw_iconst (v := 2) d_W_1046 (by decide) ?_
  refine aw_iadd d_W_1047 ?_
  refine law_sld (j := 5 * k + 2) (show nI (5 * k) + nI 2 = nI (5 * k + 2) from nIadd _ _) (by omega) hL d_W_1048 ?_
  refine aw_aload_n d_W_1049 rfl ?_
  refine aw_cS4 (d' := (8, 114)) d_W_1050 lk_L_130 cd_L_owner ⟨Nat.le_of_ble_eq_true rfl, Nat.le_of_ble_eq_true rfl⟩ (fun _ h => nomatch h) ?_
  refine t_L_owner hl hC (C_owner.mono ?_ ?_ ?_ hZ)
  · intro M' h
    exact ow_next_i (aft_owner hL hk h5 nx (c := 1) (by omega) h.1 (D_owner.mono (fun _ _ q => ⟨q.1, fun q0 => absurd q0 (by decide), q.2⟩) h.2) w5 w6)
  · intro M' h
    exact ow_next_i (aft_owner hL hk h5 nx (c := 2) (by omega) h.1 (D_owner.mono (fun _ _ q => ⟨q.1, fun q0 => absurd q0 (by decide), q.2⟩) h.2) w5 w6)
  · intro r M' h
    exact ow_next_i (aft_owner hL hk h5 nx (c := 0) (by omega) h.1 (D_owner.mono (fun _ _ q => ⟨q.1, fun _ => by rw [q.2.1], q.2.2⟩) h.2) w5 w6)
theorem cas_keep (hl : l.stackTraces = false) (hL : L < 2 ^ 31) {k : Nat} (hk : 5 * k + 5 ≤ L) (h5 : k < 512) (nx : LH l Q L xs JJ (k + 1)) (hH : HX_keep JJ) {M : Nat → Nat → Int32} {K : Int64} {b : Nat} (hJ : JJ k M) (hb : 512 ≤ b + k) (w5 w6 : Option Value) : AW l Y_W (some (L, xs)) (13, 494) Q 1104 [some (.retAddr 0), some (.ref 0), some (.ref 48), some (.ref 69), some (.int (nI (5 * k))), w5, w6] [] (mm M K b) := by
  obtain ⟨h1, h2⟩ := hH k M h5 hJ
  refine aw_aload_n d_W_1104 rfl ?_
  refine aw_cV0 (d' := (2, 32)) d_W_1105 lk_L_133 cd_R_keep (Nat.le_of_ble_eq_true rfl) rfl rfl ⟨Nat.le_of_ble_eq_true rfl, Nat.le_of_ble_eq_true rfl⟩ (fun _ h => nomatch h) ?_
  refine t_R_keep ?_
  refine ow_next_i ?_
  refine aw_aload_n d_W_1108 rfl ?_
  refine aw_cV0 (d' := (1, 14)) d_W_1109 lk_L_136 cd_M_keep (Nat.le_of_ble_eq_true rfl) rfl rfl ⟨Nat.le_of_ble_eq_true rfl, Nat.le_of_ble_eq_true rfl⟩ (fun _ h => nomatch h) ?_
  refine t_M_keep ?_
  refine ow_next_i ?_
  refine aw_icmp_eq (tgt := 1143) d_W_1112 rfl (fun _ => ?_) (fun g => absurd h1 g)
  exact law_inc nx h2 (by omega)
theorem cas_rollBack (hl : l.stackTraces = false) (hL : L < 2 ^ 31) {k : Nat} (hk : 5 * k + 5 ≤ L) (h5 : k < 512) (nx : LH l Q L xs JJ (k + 1)) (hH : HX_rollBack JJ) {M : Nat → Nat → Int32} {K : Int64} {b : Nat} (hJ : JJ k M) (hb : 512 ≤ b + k) (w5 w6 : Option Value) : AW l Y_W (some (L, xs)) (13, 494) Q 1117 [some (.retAddr 0), some (.ref 0), some (.ref 48), some (.ref 69), some (.int (nI (5 * k))), w5, w6] [] (mm M K b) := by
  obtain ⟨h1, h2⟩ := hH k M h5 hJ
  refine aw_aload_n d_W_1117 rfl ?_
  refine aw_cV0 (d' := (2, 32)) d_W_1118 lk_L_137 cd_R_rollBack (Nat.le_of_ble_eq_true rfl) rfl rfl ⟨Nat.le_of_ble_eq_true rfl, Nat.le_of_ble_eq_true rfl⟩ (fun _ h => nomatch h) ?_
  refine t_R_rollBack ?_
  refine ow_next_i ?_
  refine aw_aload_n d_W_1121 rfl ?_
  refine aw_cV0 (d' := (1, 14)) d_W_1122 lk_L_140 cd_M_rollBack (Nat.le_of_ble_eq_true rfl) rfl rfl ⟨Nat.le_of_ble_eq_true rfl, Nat.le_of_ble_eq_true rfl⟩ (fun _ h => nomatch h) ?_
  refine t_M_rollBack ?_
  refine ow_next_i ?_
  refine aw_icmp_eq (tgt := 1143) d_W_1125 rfl (fun _ => ?_) (fun g => absurd h1 g)
  exact law_inc nx h2 (by omega)
theorem cas_count (hl : l.stackTraces = false) (hL : L < 2 ^ 31) {k : Nat} (hk : 5 * k + 5 ≤ L) (h5 : k < 512) (nx : LH l Q L xs JJ (k + 1)) (hH : HX_count JJ) {M : Nat → Nat → Int32} {K : Int64} {b : Nat} (hJ : JJ k M) (hb : 512 ≤ b + k) (w5 w6 : Option Value) : AW l Y_W (some (L, xs)) (13, 494) Q 1130 [some (.retAddr 0), some (.ref 0), some (.ref 48), some (.ref 69), some (.int (nI (5 * k))), w5, w6] [] (mm M K b) := by
  obtain ⟨h1, h2⟩ := hH k M h5 hJ
  refine aw_aload_n d_W_1130 rfl ?_
  refine aw_cV0 (d' := (0, 0)) d_W_1131 lk_L_141 cd_R_count (Nat.le_of_ble_eq_true rfl) rfl rfl ⟨Nat.le_of_ble_eq_true rfl, Nat.le_of_ble_eq_true rfl⟩ (fun _ h => nomatch h) ?_
  refine t_R_count ?_
  refine ow_next_i ?_
  refine aw_aload_n d_W_1134 rfl ?_
  refine aw_cV0 (d' := (1, 14)) d_W_1135 lk_L_144 cd_M_count (Nat.le_of_ble_eq_true rfl) rfl rfl ⟨Nat.le_of_ble_eq_true rfl, Nat.le_of_ble_eq_true rfl⟩ (fun _ h => nomatch h) ?_
  refine t_M_count ?_
  refine ow_next_i ?_
  refine aw_icmp_eq (tgt := 1143) d_W_1138 rfl (fun _ => ?_) (fun g => absurd h1 g)
  exact law_inc nx h2 (by omega)
theorem law_step (hl : l.stackTraces = false) (hQ : ∀ u, Q (.inl (some 1)) u) (hL : L < 2 ^ 31) (H_type : HX_type JJ) (H_set : HX_set JJ) (H_store : HX_store JJ) (H_find : HX_find JJ) (H_seek : HX_seek JJ) (H_move : HX_move JJ) (H_scan : HX_scan JJ) (H_current : HX_current JJ) (H_get : HX_get JJ) (H_modify : HX_modify JJ) (H_connect : HX_connect JJ) (H_disconnect : HX_disconnect JJ) (H_reconnect : HX_reconnect JJ) (H_erase : HX_erase JJ) (H_members : HX_members JJ) (H_owner : HX_owner JJ) (H_keep : HX_keep JJ) (H_rollBack : HX_rollBack JJ) (H_count : HX_count JJ) (hN : HX_none JJ) {k : Nat} (h512 : k ≤ 512) (hk5 : L ≤ 2560) (nx : LH l Q L xs JJ (k + 1)) : LH l Q L xs JJ k := by
  intro M K b hJ hb w5 w6
  refine aw_iload d_W_23 rfl ?_
  refine aw_sload_n d_W_25 rfl ?_
  refine aw_slen rfl d_W_26 ?_
  refine aw_iconst (v := 5) d_W_27 (by decide) ?_
  refine aw_isub d_W_28 ?_
  refine aw_icmp_gt (tgt := 1149) d_W_29 rfl (fun g => ?_) (fun g => ?_)
  · refine aw_iconst (v := 1) d_W_1149 (by decide) ?_
    refine aw_iret d_W_1150 rfl rfl ?_
    exact hQ _
  · have hk : 5 * k + 5 ≤ L := by
      have h1 := Int32.le_iff_toInt_le.mp (Int32.not_lt.mp g)
      rw [nIsub5 hL, nI_toInt (by omega)] at h1
      omega
    have h5 : k < 512 := by omega
    refine aw_sload_n d_W_32 rfl ?_
    refine aw_iload d_W_33 rfl ?_
    refine law_sld (j := 5 * k) rfl (by omega) hL d_W_35 ?_
    refine aw_bipush (v := 31) d_W_36 (by decide) ?_
    refine aw_iand d_W_38 ?_
    by_cases hv : (xs (5 * k) &&& 31).toInt < 0 ∨ 18 < (xs (5 * k) &&& 31).toInt
    · refine aw_tsOut (tgt := 1143) d_W_39 hv rfl ?_
      exact law_inc nx (hN k M hJ) (by omega)
    · have h0 : 0 ≤ xs (5 * k) &&& 31 := Int32.le_iff_toInt_le.mpr (by rw [show (0 : Int32).toInt = 0 from by decide]; omega)
      have h1 : xs (5 * k) &&& 31 < nI 19 := Int32.lt_iff_toInt_lt.mpr (by rw [nI_toInt (by decide)]; omega)
      obtain ⟨j, hj, ej⟩ := nI_ix h0 h1 (by decide)
      rw [ej]
      rcases (show j = 0 ∨ j = 1 ∨ j = 2 ∨ j = 3 ∨ j = 4 ∨ j = 5 ∨ j = 6 ∨ j = 7 ∨ j = 8 ∨ j = 9 ∨ j = 10 ∨ j = 11 ∨ j = 12 ∨ j = 13 ∨ j = 14 ∨ j = 15 ∨ j = 16 ∨ j = 17 ∨ j = 18 by omega) with rfl | rfl | rfl | rfl | rfl | rfl | rfl | rfl | rfl | rfl | rfl | rfl | rfl | rfl | rfl | rfl | rfl | rfl | rfl
      · refine aw_tsIn (tgt := 128) d_W_39 (by decide) (by decide) rfl rfl ?_
        exact cas_type hl hL hk h5 nx H_type hJ hb w5 w6
      · refine aw_tsIn (tgt := 184) d_W_39 (by decide) (by decide) rfl rfl ?_
        exact cas_set hl hL hk h5 nx H_set hJ hb w5 w6
      · refine aw_tsIn (tgt := 276) d_W_39 (by decide) (by decide) rfl rfl ?_
        exact cas_store hl hL hk h5 nx H_store hJ hb w5 w6
      · refine aw_tsIn (tgt := 368) d_W_39 (by decide) (by decide) rfl rfl ?_
        exact cas_find hl hL hk h5 nx H_find hJ hb w5 w6
      · refine aw_tsIn (tgt := 416) d_W_39 (by decide) (by decide) rfl rfl ?_
        exact cas_seek hl hL hk h5 nx H_seek hJ hb w5 w6
      · refine aw_tsIn (tgt := 496) d_W_39 (by decide) (by decide) rfl rfl ?_
        exact cas_move hl hL hk h5 nx H_move hJ hb w5 w6
      · refine aw_tsIn (tgt := 564) d_W_39 (by decide) (by decide) rfl rfl ?_
        exact cas_scan hl hL hk h5 nx H_scan hJ hb w5 w6
      · refine aw_tsIn (tgt := 644) d_W_39 (by decide) (by decide) rfl rfl ?_
        exact cas_current hl hL hk h5 nx H_current hJ hb w5 w6
      · refine aw_tsIn (tgt := 712) d_W_39 (by decide) (by decide) rfl rfl ?_
        exact cas_get hl hL hk h5 nx H_get hJ hb w5 w6
      · refine aw_tsIn (tgt := 768) d_W_39 (by decide) (by decide) rfl rfl ?_
        exact cas_modify hl hL hk h5 nx H_modify hJ hb w5 w6
      · refine aw_tsIn (tgt := 816) d_W_39 (by decide) (by decide) rfl rfl ?_
        exact cas_connect hl hL hk h5 nx H_connect hJ hb w5 w6
      · refine aw_tsIn (tgt := 852) d_W_39 (by decide) (by decide) rfl rfl ?_
        exact cas_disconnect hl hL hk h5 nx H_disconnect hJ hb w5 w6
      · refine aw_tsIn (tgt := 888) d_W_39 (by decide) (by decide) rfl rfl ?_
        exact cas_reconnect hl hL hk h5 nx H_reconnect hJ hb w5 w6
      · refine aw_tsIn (tgt := 924) d_W_39 (by decide) (by decide) rfl rfl ?_
        exact cas_erase hl hL hk h5 nx H_erase hJ hb w5 w6
      · refine aw_tsIn (tgt := 980) d_W_39 (by decide) (by decide) rfl rfl ?_
        exact cas_members hl hL hk h5 nx H_members hJ hb w5 w6
      · refine aw_tsIn (tgt := 1036) d_W_39 (by decide) (by decide) rfl rfl ?_
        exact cas_owner hl hL hk h5 nx H_owner hJ hb w5 w6
      · refine aw_tsIn (tgt := 1104) d_W_39 (by decide) (by decide) rfl rfl ?_
        exact cas_keep hl hL hk h5 nx H_keep hJ hb w5 w6
      · refine aw_tsIn (tgt := 1117) d_W_39 (by decide) (by decide) rfl rfl ?_
        exact cas_rollBack hl hL hk h5 nx H_rollBack hJ hb w5 w6
      · refine aw_tsIn (tgt := 1130) d_W_39 (by decide) (by decide) rfl rfl ?_
        exact cas_count hl hL hk h5 nx H_count hJ hb w5 w6
theorem law_run (hl : l.stackTraces = false) (hQ : ∀ u, Q (.inl (some 1)) u) (hL : L ≤ 2560) (H_type : HX_type JJ) (H_set : HX_set JJ) (H_store : HX_store JJ) (H_find : HX_find JJ) (H_seek : HX_seek JJ) (H_move : HX_move JJ) (H_scan : HX_scan JJ) (H_current : HX_current JJ) (H_get : HX_get JJ) (H_modify : HX_modify JJ) (H_connect : HX_connect JJ) (H_disconnect : HX_disconnect JJ) (H_reconnect : HX_reconnect JJ) (H_erase : HX_erase JJ) (H_members : HX_members JJ) (H_owner : HX_owner JJ) (H_keep : HX_keep JJ) (H_rollBack : HX_rollBack JJ) (H_count : HX_count JJ) (hN : HX_none JJ) : LH l Q L xs JJ 0 := by
  have end_ : LH l Q L xs JJ 513 := by
    intro M K b hJ hb w5 w6
    refine aw_iload d_W_23 rfl ?_
    refine aw_sload_n d_W_25 rfl ?_
    refine aw_slen rfl d_W_26 ?_
    refine aw_iconst (v := 5) d_W_27 (by decide) ?_
    refine aw_isub d_W_28 ?_
    refine aw_icmp_gt (tgt := 1149) d_W_29 rfl (fun g => ?_) (fun g => ?_)
    · refine aw_iconst (v := 1) d_W_1149 (by decide) ?_
      refine aw_iret d_W_1150 rfl rfl ?_
      exact hQ _
    · exfalso
      have h1 := Int32.le_iff_toInt_le.mp (Int32.not_lt.mp g)
      rw [nIsub5 (by omega), nI_toInt (by decide)] at h1
      omega
  have all : ∀ d, d ≤ 513 → LH l Q L xs JJ (513 - d) := by
    intro d
    induction d with
    | zero => intro _; exact end_
    | succ d ih =>
      intro hd
      have h := ih (by omega)
      rw [show 513 - d = (513 - (d + 1)) + 1 by omega] at h
      exact law_step hl hQ (by omega) H_type H_set H_store H_find H_seek H_move H_scan H_current H_get H_modify H_connect H_disconnect H_reconnect H_erase H_members H_owner H_keep H_rollBack H_count hN (by omega) hL h
  exact all 513 (Nat.le_refl _)
end TLaw2
