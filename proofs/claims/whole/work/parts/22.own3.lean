/-! OwnerRings: what its own methods do, third part -/
def HB (bits n : Int32) : Prop := 0 ≤ n ∧ ¬ (bits >>> (n &&& 31)) &&& 1 = 0
theorem hb_if (bits n : Int32) : (if 0 ≤ n ∧ ¬ (bits >>> (n &&& 31)) &&& 1 = 0 then (1 : Int32) else 0) = 0 ↔ ¬ HB bits n := by
  unfold HB; split <;> simp_all
/-- all of a ring's masks together, the sets below i -/
def morS (M : Nat → Nat → Int32) (g mode : Int32) : Nat → Int32
  | 0 => g
  | i + 1 => if M 6 i - M 6 i / 3 * 3 < mode then morS M g mode i ||| mob M i g 24 else morS M g mode i
def atg (M : Nat → Nat → Int32) (mode : Int32) (sc : Nat) : Nat → Int32 → Int32
  | 0, g => g
  | n + 1, g => if morS M g mode sc = g then g else atg M mode sc n (morS M g mode sc)
/-- a position by its number: none, 0, 1 .. -/
def pv : Nat → Int32
  | 0 => -1
  | k + 1 => nI k
theorem pv_dn (k : Nat) : nI k + Int32.ofInt (-1) = pv k := by
  cases k with
  | zero => decide
  | succ k => show nI (k + 1) + (-1) = nI k; exact pk_m1 k
def wlk (M : Nat → Nat → Int32) (s : Nat) (ow bits : Int32) : Nat → Nat
  | 0 => 0
  | k + 1 => if 0 ≤ mat M s ow (nI k) 24 ∧ ¬ (bits >>> (mat M s ow (nI k) 24 &&& 31)) &&& 1 = 0 then wlk M s ow bits k else k + 1
theorem wlk_le (M : Nat → Nat → Int32) (s : Nat) (ow bits : Int32) (k : Nat) : wlk M s ow bits k ≤ k := by
  induction k with
  | zero => exact Nat.le_refl _
  | succ k ih => simp only [wlk]; split <;> omega
/-- the position (by its number) of the current one of a set -/
def cpn (M : Nat → Nat → Int32) (s : Nat) : Nat := (M (21 + s) (M 47 s).toNatClampNeg + 1).toNatClampNeg
def sbv (M : Nat → Nat → Int32) (s : Nat) (ow : Int32) (k : Nat) : Int32 := if k = 0 then ow else mat M s ow (pv k) 24
def sbk (M : Nat → Nat → Int32) (s : Nat) (bits : Int32) : Nat → Nat → Int32 :=
  if co M s = -1 then M else if 0 ≤ co M s ∧ ¬ (bits >>> (co M s &&& 31)) &&& 1 = 0 then ow_u M 47 s (-1)
  else ow_u M 47 s (sbv M s (co M s) (wlk M s (co M s) bits (cpn M s)))
def POK (M : Nat → Nat → Int32) (s : Nat) : Prop := ¬ M 47 s = -1 → ∃ k, k ≤ 24 ∧ M (21 + s) (M 47 s).toNatClampNeg = pv k
theorem co_m1 {M : Nat → Nat → Int32} {s : Nat} (h : ¬ co M s = -1) : ¬ M 47 s = -1 := by
  intro e; apply h; unfold co; rw [if_pos (Or.inl e)]; exact e
theorem sbv_plc {M : Nat → Nat → Int32} {s k : Nat} {ow : Int32} (h : plc ow) : plc (sbv M s ow k) := by
  unfold sbv; split
  · exact h
  · exact mat_plc _ _ _ _
theorem CI.c47 {M : Nat → Nat → Int32} {tc sc s : Nat} {x : Int32} (h : CI M tc sc) (hx : plc x) : CI (ow_u M 47 s x) tc sc :=
  h.congr (ow_u_ne (by decide)) (ow_u_ne (by decide)) (fun p hp => by rw [ow_u_ne (by decide)]; exact h.ty hp) (by rw [ow_u_ne (by decide)]; exact h.run) (fun t ht => by rw [ow_u_ne (by decide)]; exact h.ofT ht) (fun s' hs' => by
    rw [ow_u_eq]
    by_cases e : s' = s
    · subst e; simp [upd]; exact hx
    · simp [upd, e]; exact h.ofS hs') (fun s' hs' p hp => by rw [ow_u_ne (by omega)]; exact h.own hs' hp)
theorem CI.sb {M : Nat → Nat → Int32} {tc sc s : Nat} {bits : Int32} (h : CI M tc sc) (hs : s < 5) : CI (sbk M s bits) tc sc := by
  unfold sbk
  split
  · exact h
  · split
    · exact h.c47 (Or.inl rfl)
    · exact h.c47 (sbv_plc (co_plc h hs))
def mwv (M : Nat → Nat → Int32) (s : Nat) (ow : Int32) (f : Nat) (v : Int32) : Nat → Nat → Int32
  | 0, _ => -1
  | n + 1, i => if ¬ mat M s ow (nI i) 24 = -1 ∧ M (11 + f) (mat M s ow (nI i) 24).toNatClampNeg = v then mat M s ow (nI i) 24 else mwv M s ow f v n (i + 1)
theorem mwv_plc (M : Nat → Nat → Int32) (s : Nat) (ow : Int32) (f : Nat) (v : Int32) (n i : Nat) : plc (mwv M s ow f v n i) := by
  induction n generalizing i with
  | zero => exact Or.inl rfl
  | succ n ih =>
    simp only [mwv]; split
    · exact mat_plc _ _ _ _
    · exact ih _
def pmt (M : Nat → Nat → Int32) (s : Nat) (how : Int32) : Int32 :=
  if M 47 s = -1 ∨ co M s = -1 then -1 else if how = 0 then mat M s (co M s) 0 24 else if how = 1 then mat M s (co M s) (szr M s (co M s) - 1) 24
  else if how = 2 then mat M s (co M s) (M (21 + s) (M 47 s).toNatClampNeg + 1) 24
  else if how = 3 then mat M s (co M s) (if M 47 s = co M s then szr M s (co M s) - 1 else M (21 + s) (M 47 s).toNatClampNeg - 1) 24 else co M s
theorem pmt_plc {M : Nat → Nat → Int32} {tc sc s : Nat} {how : Int32} (h : CI M tc sc) (hs : s < 5) : plc (pmt M s how) := by
  unfold pmt
  split
  · exact Or.inl rfl
  · split
    · exact mat_plc _ _ _ _
    · split
      · exact mat_plc _ _ _ _
      · split
        · exact mat_plc _ _ _ _
        · split
          · exact mat_plc _ _ _ _
          · exact co_plc h hs
theorem how5 {x : Int32} (h1 : 0 ≤ x) (h2 : x ≤ 4) : x = 0 ∨ x = 1 ∨ x = 2 ∨ x = 3 ∨ x = 4 := by
  obtain ⟨j, hj, rfl⟩ := nI_ix (x := x) (n := 5) h1 (by have : nI 5 = 5 := rfl; rw [this]; grind) (by decide)
  rcases (show j = 0 ∨ j = 1 ∨ j = 2 ∨ j = 3 ∨ j = 4 by omega) with rfl | rfl | rfl | rfl | rfl
  · exact Or.inl rfl
  · exact Or.inr (Or.inl rfl)
  · exact Or.inr (Or.inr (Or.inl rfl))
  · exact Or.inr (Or.inr (Or.inr (Or.inl rfl)))
  · exact Or.inr (Or.inr (Or.inr (Or.inr rfl)))
section TOwn3
variable {l : Launch} {Q : ow_R → ow_M → Prop} {M : Nat → Nat → Int32} {K : Int64} {b : Nat} {tc sc : Nat}
theorem t_B_memberWithValue {s a f : Nat} {ow v : Int32} (hs : s < 5) (hf : f < 3) (ha : a ≤ (cn (fun p => M (15 + s) p == ow) 24)) (hq : Q (.inl (some (mwv M s ow f v ((cn (fun p => M (15 + s) p == ow) 24) - a) a))) (mm M K b)) : MT l Y_B_memberWithValue (1, 16) [.ref 7, .int (nI s), .int ow, .int (nI a), .int (nI f), .int v] (mm M K b) Q := by
  refine mt_of (k := 3) (by decide) cd_B_memberWithValue.1 (by simp [Value.category]) rfl ?_
  have hz : (cn (fun p => M (15 + s) p == ow) 24) ≤ 24 := cn_le _ 24
  have lp : ∀ i, i ≤ (cn (fun p => M (15 + s) p == ow) 24) → ∀ w : Option Value, mwv M s ow f v ((cn (fun p => M (15 + s) p == ow) 24) - i) i = mwv M s ow f v ((cn (fun p => M (15 + s) p == ow) 24) - a) a → AW l Y_B_memberWithValue none (1, 16) Q 11 [some (.ref 7), some (.int (nI s)), some (.int ow), some (.int (nI a)), some (.int (nI f)), some (.int v), some (.int (nI (cn (fun p => M (15 + s) p == ow) 24))), some (.int (nI i)), w] [] (mm M K b) := by
    refine loop_dn (cn (fun p => M (15 + s) p == ow) 24) (fun i hi ih => ?_)
    intro w hR
    refine aw_iload d_B_memberWithValue_11 rfl ?_
    refine aw_iload d_B_memberWithValue_13 rfl ?_
    refine aw_icmp_ge (tgt := 58) d_B_memberWithValue_15 rfl (fun g15 => ?_) (fun g15 => ?_)
    · have hi2 := ge_n (n := (cn (fun p => M (15 + s) p == ow) 24)) rfl hi (by omega) g15
      refine aw_iconst (v := -1) d_B_memberWithValue_58 (by decide) ?_
      refine aw_iret d_B_memberWithValue_59 rfl rfl ?_
      rw [hi2, Nat.sub_self] at hR
      exact q_val hq hR
    · have hi2 := lt_n (n := (cn (fun p => M (15 + s) p == ow) 24)) rfl hi (by omega) g15
      have hu : (cn (fun p => M (15 + s) p == ow) 24) - i = ((cn (fun p => M (15 + s) p == ow) 24) - (i + 1)) + 1 := by omega
      rw [hu] at hR
      simp only [mwv] at hR
      refine aw_aload_n d_B_memberWithValue_18 rfl ?_
      refine aw_iload_n d_B_memberWithValue_19 rfl ?_
      refine aw_iload_n d_B_memberWithValue_20 rfl ?_
      refine aw_iload d_B_memberWithValue_21 rfl ?_
      refine aw_cV3 (d' := (0, 0)) d_B_memberWithValue_23 lk_B_46 cd_B_memberAt (Nat.le_of_ble_eq_true rfl) rfl rfl ⟨Nat.le_of_ble_eq_true rfl, Nat.le_of_ble_eq_true rfl⟩ (fun _ h => nomatch h) ?_
      refine t_B_memberAtF hs ?_
      refine ow_next_i ?_
      refine aw_istore d_B_memberWithValue_26 (by decide) ?_
      refine aw_iload d_B_memberWithValue_28 rfl ?_
      refine aw_iconst (v := -1) d_B_memberWithValue_30 (by decide) ?_
      refine aw_icmp_eq (tgt := 52) d_B_memberWithValue_31 rfl (fun g31 => ?_) (fun g31 => ?_)
      · refine aw_iinc (v := nI (i + 1)) d_B_memberWithValue_52 rfl (nI_succ i).symm (by decide) ?_
        refine aw_goto (tgt := 11) d_B_memberWithValue_55 rfl ?_
        rw [if_neg (by grind)] at hR
        exact ih hi2 _ hR
      · obtain ⟨k, hk, ek⟩ := (mat_plc M s ow (nI i)).resolve_left g31
        have e2 : (mat M s ow (nI i) 24).toNatClampNeg = k := by rw [ek, nI_clamp (by omega)]
        refine aw_aload_n d_B_memberWithValue_34 rfl ?_
        refine mm_getr (t := 10) f_B_27 d_B_memberWithValue_35 (by decide) rfl rfl rfl ?_
        refine aw_iload d_B_memberWithValue_38 rfl ?_
        refine mm_aald rfl d_B_memberWithValue_40 (by decide) rfl hf (by decide) (rF_fld hf) ?_
        refine aw_iload d_B_memberWithValue_41 rfl ?_
        refine mm_iald ek d_B_memberWithValue_43 (by omega) (kd_fld hf) (by omega) (by decide) ?_
        refine aw_iload d_B_memberWithValue_44 rfl ?_
        refine aw_icmp_ne (tgt := 52) d_B_memberWithValue_46 rfl (fun g46 => ?_) (fun g46 => ?_)
        · refine aw_iinc (v := nI (i + 1)) d_B_memberWithValue_52 rfl (nI_succ i).symm (by decide) ?_
          refine aw_goto (tgt := 11) d_B_memberWithValue_55 rfl ?_
          rw [if_neg (by grind)] at hR
          exact ih hi2 _ hR
        · refine aw_iload d_B_memberWithValue_49 rfl ?_
          refine aw_iret d_B_memberWithValue_51 rfl rfl ?_
          rw [if_pos ⟨g31, by rw [e2]; exact g46⟩] at hR
          exact q_val hq hR
  refine aw_aload_n d_B_memberWithValue_0 rfl ?_
  refine aw_iload_n d_B_memberWithValue_1 rfl ?_
  refine aw_iload_n d_B_memberWithValue_2 rfl ?_
  refine aw_cV2 (d' := (0, 0)) d_B_memberWithValue_3 lk_B_42 cd_B_ringSize (Nat.le_of_ble_eq_true rfl) rfl rfl ⟨Nat.le_of_ble_eq_true rfl, Nat.le_of_ble_eq_true rfl⟩ (fun _ h => nomatch h) ?_
  refine t_B_ringSize hs ?_
  refine ow_next_i ?_
  refine aw_istore d_B_memberWithValue_6 (by decide) ?_
  refine aw_iload_n d_B_memberWithValue_8 rfl ?_
  refine aw_istore d_B_memberWithValue_9 (by decide) ?_
  exact lp a ha _ rfl
/-- R_placeToMoveTo -/
theorem t_R_placeToMoveTo {s : Nat} {how : Int32} (hC : CI M tc sc) (hs : s < 5) (hh0 : 0 ≤ how) (hh4 : how ≤ 4) (hq : Q (.inl (some (pmt M s how))) (mm M K b)) : MT l Y_R_placeToMoveTo (1, 16) [.ref 0, .int (nI s), .int how] (mm M K b) Q := by
  refine mt_of (k := 4) (by decide) cd_R_placeToMoveTo.1 (by simp [Value.category]) rfl ?_
  refine aw_aload_n d_R_placeToMoveTo_0 rfl ?_
  refine mm_getr (t := 45) f_R_29 d_R_placeToMoveTo_1 (by decide) rfl rfl rfl ?_
  refine mm_getr (t := 47) f_R_154 d_R_placeToMoveTo_4 (by decide) rfl rfl rfl ?_
  refine aw_iload_n d_R_placeToMoveTo_7 rfl ?_
  refine mm_iald rfl d_R_placeToMoveTo_8 (by decide) rfl (by omega) (by decide) ?_
  refine aw_istore_n d_R_placeToMoveTo_9 (by decide) ?_
  refine aw_aload_n d_R_placeToMoveTo_10 rfl ?_
  refine aw_iload_n d_R_placeToMoveTo_11 rfl ?_
  refine aw_cV1 (d' := (0, 0)) d_R_placeToMoveTo_12 lk_R_104 cd_R_currentOwner (Nat.le_of_ble_eq_true rfl) rfl rfl ⟨Nat.le_of_ble_eq_true rfl, Nat.le_of_ble_eq_true rfl⟩ (fun _ h => nomatch h) ?_
  refine t_R_currentOwner hC hs ?_
  refine ow_next_i ?_
  refine aw_istore d_R_placeToMoveTo_15 (by decide) ?_
  refine aw_iload_n d_R_placeToMoveTo_17 rfl ?_
  refine aw_iconst (v := -1) d_R_placeToMoveTo_18 (by decide) ?_
  refine aw_icmp_eq (tgt := 28) d_R_placeToMoveTo_19 rfl (fun g19 => ?_) (fun g19 => ?_)
  · refine aw_iconst (v := -1) d_R_placeToMoveTo_28 (by decide) ?_
    refine aw_iret d_R_placeToMoveTo_29 rfl rfl ?_
    refine q_val hq ?_
    unfold pmt
    first | rw [if_pos (Or.inl g19)] | rw [if_pos (Or.inr g25)]
  · obtain ⟨c, hc, ec⟩ := (hC.ofS hs).resolve_left g19
    have e2 : (M 47 s).toNatClampNeg = c := by rw [ec, nI_clamp (by omega)]
    refine aw_iload d_R_placeToMoveTo_22 rfl ?_
    refine aw_iconst (v := -1) d_R_placeToMoveTo_24 (by decide) ?_
    refine aw_icmp_ne (tgt := 30) d_R_placeToMoveTo_25 rfl (fun g25 => ?_) (fun g25 => ?_)
    · refine aw_aload_n d_R_placeToMoveTo_30 rfl ?_
      refine mm_getr (t := 7) f_R_19 d_R_placeToMoveTo_31 (by decide) rfl rfl rfl ?_
      refine mm_getr (t := 20) f_R_150 d_R_placeToMoveTo_34 (by decide) rfl rfl rfl ?_
      refine aw_iload_n d_R_placeToMoveTo_37 rfl ?_
      refine mm_aald rfl d_R_placeToMoveTo_38 (by decide) rfl hs (by decide) (rF_pos hs) ?_
      refine aw_iload_n d_R_placeToMoveTo_39 rfl ?_
      refine mm_iald ec d_R_placeToMoveTo_40 (by omega) (kd_pos hs) (by omega) (by decide) ?_
      refine aw_istore d_R_placeToMoveTo_41 (by decide) ?_
      refine aw_aload_n d_R_placeToMoveTo_43 rfl ?_
      refine mm_getr (t := 7) f_R_19 d_R_placeToMoveTo_44 (by decide) rfl rfl rfl ?_
      refine aw_iload_n d_R_placeToMoveTo_47 rfl ?_
      refine aw_iload d_R_placeToMoveTo_48 rfl ?_
      refine aw_cV2 (d' := (0, 0)) d_R_placeToMoveTo_50 lk_R_240 cd_B_ringSize (Nat.le_of_ble_eq_true rfl) rfl rfl ⟨Nat.le_of_ble_eq_true rfl, Nat.le_of_ble_eq_true rfl⟩ (fun _ h => nomatch h) ?_
      refine t_B_ringSize hs ?_
      refine ow_next_i ?_
      refine aw_istore d_R_placeToMoveTo_53 (by decide) ?_
      refine aw_iload_n d_R_placeToMoveTo_55 rfl ?_
      rcases how5 hh0 hh4 with e | e | e | e | e
      · subst e
        refine aw_tsIn (tgt := 88) d_R_placeToMoveTo_56 (by decide) (by decide) rfl rfl ?_
        refine aw_aload_n d_R_placeToMoveTo_88 rfl ?_
        refine mm_getr (t := 7) f_R_19 d_R_placeToMoveTo_89 (by decide) rfl rfl rfl ?_
        refine aw_iload_n d_R_placeToMoveTo_92 rfl ?_
        refine aw_iload d_R_placeToMoveTo_93 rfl ?_
        refine aw_iconst (v := 0) d_R_placeToMoveTo_95 (by decide) ?_
        refine aw_cV3 (d' := (0, 0)) d_R_placeToMoveTo_96 lk_R_299 cd_B_memberAt (Nat.le_of_ble_eq_true rfl) rfl rfl ⟨Nat.le_of_ble_eq_true rfl, Nat.le_of_ble_eq_true rfl⟩ (fun _ h => nomatch h) ?_
        refine t_B_memberAtF hs ?_
        refine ow_next_i ?_
        refine aw_iret d_R_placeToMoveTo_99 rfl rfl ?_
        refine q_val hq ?_
        simp [pmt, szr, g19, g25, e2]
      · subst e
        refine aw_tsIn (tgt := 100) d_R_placeToMoveTo_56 (by decide) (by decide) rfl rfl ?_
        refine aw_aload_n d_R_placeToMoveTo_100 rfl ?_
        refine mm_getr (t := 7) f_R_19 d_R_placeToMoveTo_101 (by decide) rfl rfl rfl ?_
        refine aw_iload_n d_R_placeToMoveTo_104 rfl ?_
        refine aw_iload d_R_placeToMoveTo_105 rfl ?_
        refine aw_iload d_R_placeToMoveTo_107 rfl ?_
        refine aw_iconst (v := 1) d_R_placeToMoveTo_109 (by decide) ?_
        refine aw_isub d_R_placeToMoveTo_110 ?_
        refine aw_cV3 (d' := (0, 0)) d_R_placeToMoveTo_111 lk_R_299 cd_B_memberAt (Nat.le_of_ble_eq_true rfl) rfl rfl ⟨Nat.le_of_ble_eq_true rfl, Nat.le_of_ble_eq_true rfl⟩ (fun _ h => nomatch h) ?_
        refine t_B_memberAtF hs ?_
        refine ow_next_i ?_
        refine aw_iret d_R_placeToMoveTo_114 rfl rfl ?_
        refine q_val hq ?_
        simp [pmt, szr, g19, g25, e2]
      · subst e
        refine aw_tsIn (tgt := 115) d_R_placeToMoveTo_56 (by decide) (by decide) rfl rfl ?_
        refine aw_aload_n d_R_placeToMoveTo_115 rfl ?_
        refine mm_getr (t := 7) f_R_19 d_R_placeToMoveTo_116 (by decide) rfl rfl rfl ?_
        refine aw_iload_n d_R_placeToMoveTo_119 rfl ?_
        refine aw_iload d_R_placeToMoveTo_120 rfl ?_
        refine aw_iload d_R_placeToMoveTo_122 rfl ?_
        refine aw_iconst (v := 1) d_R_placeToMoveTo_124 (by decide) ?_
        refine aw_iadd d_R_placeToMoveTo_125 ?_
        refine aw_cV3 (d' := (0, 0)) d_R_placeToMoveTo_126 lk_R_299 cd_B_memberAt (Nat.le_of_ble_eq_true rfl) rfl rfl ⟨Nat.le_of_ble_eq_true rfl, Nat.le_of_ble_eq_true rfl⟩ (fun _ h => nomatch h) ?_
        refine t_B_memberAtF hs ?_
        refine ow_next_i ?_
        refine aw_iret d_R_placeToMoveTo_129 rfl rfl ?_
        refine q_val hq ?_
        simp [pmt, szr, g19, g25, e2]
      · subst e
        refine aw_tsIn (tgt := 130) d_R_placeToMoveTo_56 (by decide) (by decide) rfl rfl ?_
        refine aw_aload_n d_R_placeToMoveTo_130 rfl ?_
        refine mm_getr (t := 7) f_R_19 d_R_placeToMoveTo_131 (by decide) rfl rfl rfl ?_
        refine aw_iload_n d_R_placeToMoveTo_134 rfl ?_
        refine aw_iload d_R_placeToMoveTo_135 rfl ?_
        refine aw_iload_n d_R_placeToMoveTo_137 rfl ?_
        refine aw_iload d_R_placeToMoveTo_138 rfl ?_
        refine aw_icmp_ne (tgt := 150) d_R_placeToMoveTo_140 rfl (fun g140 => ?_) (fun g140 => ?_)
        · refine aw_iload d_R_placeToMoveTo_150 rfl ?_
          refine aw_iconst (v := 1) d_R_placeToMoveTo_152 (by decide) ?_
          refine aw_isub d_R_placeToMoveTo_153 ?_
          refine aw_cV3 (d' := (0, 0)) d_R_placeToMoveTo_154 lk_R_299 cd_B_memberAt (Nat.le_of_ble_eq_true rfl) rfl rfl ⟨Nat.le_of_ble_eq_true rfl, Nat.le_of_ble_eq_true rfl⟩ (fun _ h => nomatch h) ?_
          refine t_B_memberAtF hs ?_
          refine ow_next_i ?_
          refine aw_iret d_R_placeToMoveTo_157 rfl rfl ?_
          refine q_val hq ?_
          simp [pmt, szr, g19, g25, e2, g140]
        · refine aw_iload d_R_placeToMoveTo_143 rfl ?_
          refine aw_iconst (v := 1) d_R_placeToMoveTo_145 (by decide) ?_
          refine aw_isub d_R_placeToMoveTo_146 ?_
          refine aw_goto (tgt := 154) d_R_placeToMoveTo_147 rfl ?_
          refine aw_cV3 (d' := (0, 0)) d_R_placeToMoveTo_154 lk_R_299 cd_B_memberAt (Nat.le_of_ble_eq_true rfl) rfl rfl ⟨Nat.le_of_ble_eq_true rfl, Nat.le_of_ble_eq_true rfl⟩ (fun _ h => nomatch h) ?_
          refine t_B_memberAtF hs ?_
          refine ow_next_i ?_
          refine aw_iret d_R_placeToMoveTo_157 rfl rfl ?_
          refine q_val hq ?_
          simp [pmt, szr, g19, g25, e2, g140]
      · subst e
        refine aw_tsOut (tgt := 158) d_R_placeToMoveTo_56 (by decide) rfl ?_
        refine aw_iload d_R_placeToMoveTo_158 rfl ?_
        refine aw_iret d_R_placeToMoveTo_160 rfl rfl ?_
        refine q_val hq ?_
        simp [pmt, szr, g19, g25, e2]
    · refine aw_iconst (v := -1) d_R_placeToMoveTo_28 (by decide) ?_
      refine aw_iret d_R_placeToMoveTo_29 rfl rfl ?_
      refine q_val hq ?_
      unfold pmt
      first | rw [if_pos (Or.inl g19)] | rw [if_pos (Or.inr g25)]
theorem t_R_allThatGo {p : Nat} {mode : Int32} (hC : CI M tc sc) (hp : p < 24) (hq : Q (.inl (some (atg M mode sc 24 ((1 : Int32) <<< (nI p &&& 31))))) (mm M K b)) : MT l Y_R_allThatGo (2, 30) [.ref 0, .int (nI p), .int mode] (mm M K b) Q := by
  refine mt_of (k := 4) (by decide) cd_R_allThatGo.1 (by simp [Value.category]) rfl ?_
  have lp : ∀ r, r ≤ 24 → ∀ (g : Int32) (w5 w6 : Option Value), atg M mode sc (24 - r) g = atg M mode sc 24 ((1 : Int32) <<< (nI p &&& 31)) → AW l Y_R_allThatGo none (2, 30) Q 7 [some (.ref 0), some (.int (nI p)), some (.int mode), some (.int g), some (.int (nI r)), w5, w6] [] (mm M K b) := by
    refine loop_dn 24 (fun r hr ih => ?_)
    intro g w5 w6 hR
    have tl : r < 24 → ∀ w6 : Option Value, AW l Y_R_allThatGo none (2, 30) Q 66 [some (.ref 0), some (.int (nI p)), some (.int mode), some (.int g), some (.int (nI r)), some (.int (morS M g mode sc)), w6] [] (mm M K b) := by
      intro hr2 w6
      have hu : 24 - r = (24 - (r + 1)) + 1 := by omega
      rw [hu] at hR
      simp only [atg] at hR
      refine aw_iload d_R_allThatGo_66 rfl ?_
      refine aw_iload_n d_R_allThatGo_68 rfl ?_
      refine aw_icmp_ne (tgt := 75) d_R_allThatGo_69 rfl (fun g69 => ?_) (fun g69 => ?_)
      · refine aw_iload d_R_allThatGo_75 rfl ?_
        refine aw_istore_n d_R_allThatGo_77 (by decide) ?_
        refine aw_iinc (v := nI (r + 1)) d_R_allThatGo_78 rfl (nI_succ r).symm (by decide) ?_
        refine aw_goto (tgt := 7) d_R_allThatGo_81 rfl ?_
        rw [if_neg g69] at hR
        exact ih hr2 _ _ _ hR
      · refine aw_goto (tgt := 84) d_R_allThatGo_72 rfl ?_
        refine aw_iload_n d_R_allThatGo_84 rfl ?_
        refine aw_iret d_R_allThatGo_85 rfl rfl ?_
        rw [if_pos g69] at hR
        exact q_val hq hR
    have il : r < 24 → ∀ i, i ≤ sc → AW l Y_R_allThatGo none (2, 30) Q 20 [some (.ref 0), some (.int (nI p)), some (.int mode), some (.int g), some (.int (nI r)), some (.int (morS M g mode i)), some (.int (nI i))] [] (mm M K b) := by
      intro hr2
      refine loop_dn sc (fun i hi ih2 => ?_)
      refine aw_iload d_R_allThatGo_20 rfl ?_
      refine aw_aload_n d_R_allThatGo_22 rfl ?_
      refine mm_getr (t := 1) f_R_10 d_R_allThatGo_23 (by decide) rfl rfl rfl ?_
      refine mm_geti f_R_69 d_R_allThatGo_26 (by decide) rfl rfl ?_
      refine aw_icmp_ge (tgt := 66) d_R_allThatGo_29 rfl (fun g29 => ?_) (fun g29 => ?_)
      · have hi2 := ge_n (n := sc) hC.sc hi (by have := hC.s5; omega) g29
        subst hi2
        exact tl hr2 _
      · have hi2 := lt_n (n := sc) hC.sc hi (by have := hC.s5; omega) g29
        have hi5 : i < 5 := by have := hC.s5; omega
        refine aw_aload_n d_R_allThatGo_32 rfl ?_
        refine mm_getr (t := 1) f_R_10 d_R_allThatGo_33 (by decide) rfl rfl rfl ?_
        refine aw_iload d_R_allThatGo_36 rfl ?_
        refine aw_iload_n d_R_allThatGo_38 rfl ?_
        refine aw_cV2 (d' := (1, 13)) d_R_allThatGo_39 lk_R_311 cd_P_goesWithOwner (Nat.le_of_ble_eq_true rfl) rfl rfl ⟨Nat.le_of_ble_eq_true rfl, Nat.le_of_ble_eq_true rfl⟩ (fun _ h => nomatch h) ?_
        refine t_P_goesWithOwner hi5 ?_
        refine ow_next_i ?_
        refine aw_if_eq (tgt := 60) d_R_allThatGo_42 rfl (fun g42 => ?_) (fun g42 => ?_)
        · refine aw_iinc (v := nI (i + 1)) d_R_allThatGo_60 rfl (nI_succ i).symm (by decide) ?_
          refine aw_goto (tgt := 20) d_R_allThatGo_63 rfl ?_
          first
            | (rw [show morS M g mode (i + 1) = morS M g mode i from by simp only [morS]; rw [if_neg (by grind)]] at ih2; exact ih2 hi2)
            | (rw [show morS M g mode (i + 1) = morS M g mode i ||| mob M i g 24 from by simp only [morS]; rw [if_pos (by grind)]] at ih2; exact ih2 hi2)
        · refine aw_iload d_R_allThatGo_45 rfl ?_
          refine aw_aload_n d_R_allThatGo_47 rfl ?_
          refine mm_getr (t := 7) f_R_19 d_R_allThatGo_48 (by decide) rfl rfl rfl ?_
          refine aw_iload d_R_allThatGo_51 rfl ?_
          refine aw_iload_n d_R_allThatGo_53 rfl ?_
          refine aw_cV2 (d' := (1, 13)) d_R_allThatGo_54 lk_R_314 cd_B_membersOwnedBy (Nat.le_of_ble_eq_true rfl) rfl rfl ⟨Nat.le_of_ble_eq_true rfl, Nat.le_of_ble_eq_true rfl⟩ (fun _ h => nomatch h) ?_
          refine t_B_membersOwnedBy hi5 ?_
          refine ow_next_i ?_
          refine aw_ior d_R_allThatGo_57 ?_
          refine aw_istore d_R_allThatGo_58 (by decide) ?_
          refine aw_iinc (v := nI (i + 1)) d_R_allThatGo_60 rfl (nI_succ i).symm (by decide) ?_
          refine aw_goto (tgt := 20) d_R_allThatGo_63 rfl ?_
          first
            | (rw [show morS M g mode (i + 1) = morS M g mode i from by simp only [morS]; rw [if_neg (by grind)]] at ih2; exact ih2 hi2)
            | (rw [show morS M g mode (i + 1) = morS M g mode i ||| mob M i g 24 from by simp only [morS]; rw [if_pos (by grind)]] at ih2; exact ih2 hi2)
    refine aw_iload d_R_allThatGo_7 rfl ?_
    refine aw_bipush (v := 24) d_R_allThatGo_9 (by decide) ?_
    refine aw_icmp_ge (tgt := 84) d_R_allThatGo_11 rfl (fun g11 => ?_) (fun g11 => ?_)
    · have hr2 := ge_n (n := 24) rfl hr (by omega) g11
      subst hr2
      refine aw_iload_n d_R_allThatGo_84 rfl ?_
      refine aw_iret d_R_allThatGo_85 rfl rfl ?_
      rw [Nat.sub_self] at hR
      exact q_val hq hR
    · have hr2 := lt_n (n := 24) rfl hr (by omega) g11
      refine aw_iload_n d_R_allThatGo_14 rfl ?_
      refine aw_istore d_R_allThatGo_15 (by decide) ?_
      refine aw_iconst (v := 0) d_R_allThatGo_17 (by decide) ?_
      refine aw_istore d_R_allThatGo_18 (by decide) ?_
      exact il hr2 0 (by omega)
  refine aw_iconst (v := 1) d_R_allThatGo_0 (by decide) ?_
  refine aw_iload_n d_R_allThatGo_1 rfl ?_
  refine aw_ishl d_R_allThatGo_2 ?_
  refine aw_istore_n d_R_allThatGo_3 (by decide) ?_
  refine aw_iconst (v := 0) d_R_allThatGo_4 (by decide) ?_
  refine aw_istore d_R_allThatGo_5 (by decide) ?_
  exact lp 0 (by omega) _ _ _ rfl
/-- R_ownsMembers -/
theorem t_R_ownsMembers {x : Int32} (hC : CI M tc sc) (h0 : (∀ k, k < sc → szr M k x ≤ 0) → Q (.inl (some 0)) (mm M K b)) (h1 : (∃ k, k < sc ∧ ¬ szr M k x ≤ 0) → Q (.inl (some 1)) (mm M K b)) : MT l Y_R_ownsMembers (1, 16) [.ref 0, .int x] (mm M K b) Q := by
  refine mt_of (k := 1) (by decide) cd_R_ownsMembers.1 (by simp [Value.category]) rfl ?_
  have lp : ∀ i, i ≤ sc → (∀ k, k < i → szr M k x ≤ 0) → AW l Y_R_ownsMembers none (1, 16) Q 2 [some (.ref 0), some (.int x), some (.int (nI i))] [] (mm M K b) := by
    refine loop_dn sc (fun i hi ih => ?_)
    intro hn
    refine aw_iload_n d_R_ownsMembers_2 rfl ?_
    refine aw_aload_n d_R_ownsMembers_3 rfl ?_
    refine mm_getr (t := 1) f_R_10 d_R_ownsMembers_4 (by decide) rfl rfl rfl ?_
    refine mm_geti f_R_69 d_R_ownsMembers_7 (by decide) rfl rfl ?_
    refine aw_icmp_ge (tgt := 33) d_R_ownsMembers_10 rfl (fun g10 => ?_) (fun g10 => ?_)
    · have hi2 := ge_n (n := sc) hC.sc hi (by have := hC.s5; omega) g10
      subst hi2
      refine aw_iconst (v := 0) d_R_ownsMembers_33 (by decide) ?_
      refine aw_iret d_R_ownsMembers_34 rfl rfl ?_
      exact h0 hn
    · have hi2 := lt_n (n := sc) hC.sc hi (by have := hC.s5; omega) g10
      have hi5 : i < 5 := by have := hC.s5; omega
      refine aw_aload_n d_R_ownsMembers_13 rfl ?_
      refine mm_getr (t := 7) f_R_19 d_R_ownsMembers_14 (by decide) rfl rfl rfl ?_
      refine aw_iload_n d_R_ownsMembers_17 rfl ?_
      refine aw_iload_n d_R_ownsMembers_18 rfl ?_
      refine aw_cV2 (d' := (0, 0)) d_R_ownsMembers_19 lk_R_240 cd_B_ringSize (Nat.le_of_ble_eq_true rfl) rfl rfl ⟨Nat.le_of_ble_eq_true rfl, Nat.le_of_ble_eq_true rfl⟩ (fun _ h => nomatch h) ?_
      refine t_B_ringSize hi5 ?_
      refine ow_next_i ?_
      refine aw_if_le (tgt := 27) d_R_ownsMembers_22 rfl (fun g22 => ?_) (fun g22 => ?_)
      · refine aw_iinc (v := nI (i + 1)) d_R_ownsMembers_27 rfl (nI_succ i).symm (by decide) ?_
        refine aw_goto (tgt := 2) d_R_ownsMembers_30 rfl ?_
        refine ih hi2 (fun k hk => ?_)
        rcases Nat.lt_succ_iff_lt_or_eq.mp hk with h | h
        · exact hn k h
        · subst h; exact g22
      · refine aw_iconst (v := 1) d_R_ownsMembers_25 (by decide) ?_
        refine aw_iret d_R_ownsMembers_26 rfl rfl ?_
        exact h1 ⟨i, hi2, g22⟩
  refine aw_iconst (v := 0) d_R_ownsMembers_0 (by decide) ?_
  refine aw_istore_n d_R_ownsMembers_1 (by decide) ?_
  exact lp 0 (by omega) (fun k hk => by omega)
/-- R_boundOneWouldStay -/
theorem t_R_boundOneWouldStay {g : Int32} (hC : CI M tc sc) (h0 : (∀ k, k < sc → ¬ (M 6 k - M 6 k / 3 * 3 = 1 ∧ ¬ mob M k g 24 &&& (g ^^^ -1) = 0)) → Q (.inl (some 0)) (mm M K b)) (h1 : (∃ k, k < sc ∧ (M 6 k - M 6 k / 3 * 3 = 1 ∧ ¬ mob M k g 24 &&& (g ^^^ -1) = 0)) → Q (.inl (some 1)) (mm M K b)) : MT l Y_R_boundOneWouldStay (2, 29) [.ref 0, .int g] (mm M K b) Q := by
  refine mt_of (k := 1) (by decide) cd_R_boundOneWouldStay.1 (by simp [Value.category]) rfl ?_
  have lp : ∀ i, i ≤ sc → (∀ k, k < i → ¬ (M 6 k - M 6 k / 3 * 3 = 1 ∧ ¬ mob M k g 24 &&& (g ^^^ -1) = 0)) → AW l Y_R_boundOneWouldStay none (2, 29) Q 2 [some (.ref 0), some (.int g), some (.int (nI i))] [] (mm M K b) := by
    refine loop_dn sc (fun i hi ih => ?_)
    intro hn
    refine aw_iload_n d_R_boundOneWouldStay_2 rfl ?_
    refine aw_aload_n d_R_boundOneWouldStay_3 rfl ?_
    refine mm_getr (t := 1) f_R_10 d_R_boundOneWouldStay_4 (by decide) rfl rfl rfl ?_
    refine mm_geti f_R_69 d_R_boundOneWouldStay_7 (by decide) rfl rfl ?_
    refine aw_icmp_ge (tgt := 49) d_R_boundOneWouldStay_10 rfl (fun g10 => ?_) (fun g10 => ?_)
    · have hi2 := ge_n (n := sc) hC.sc hi (by have := hC.s5; omega) g10
      subst hi2
      refine aw_iconst (v := 0) d_R_boundOneWouldStay_49 (by decide) ?_
      refine aw_iret d_R_boundOneWouldStay_50 rfl rfl ?_
      exact h0 hn
    · have hi2 := lt_n (n := sc) hC.sc hi (by have := hC.s5; omega) g10
      have hi5 : i < 5 := by have := hC.s5; omega
      refine aw_aload_n d_R_boundOneWouldStay_13 rfl ?_
      refine mm_getr (t := 1) f_R_10 d_R_boundOneWouldStay_14 (by decide) rfl rfl rfl ?_
      refine aw_iload_n d_R_boundOneWouldStay_17 rfl ?_
      refine aw_cV1 (d' := (0, 0)) d_R_boundOneWouldStay_18 lk_R_201 cd_P_hold (Nat.le_of_ble_eq_true rfl) rfl rfl ⟨Nat.le_of_ble_eq_true rfl, Nat.le_of_ble_eq_true rfl⟩ (fun _ h => nomatch h) ?_
      refine t_P_hold hi5 ?_
      refine ow_next_i ?_
      refine aw_iconst (v := 1) d_R_boundOneWouldStay_21 (by decide) ?_
      refine aw_icmp_ne (tgt := 43) d_R_boundOneWouldStay_22 rfl (fun g22 => ?_) (fun g22 => ?_)
      · refine aw_iinc (v := nI (i + 1)) d_R_boundOneWouldStay_43 rfl (nI_succ i).symm (by decide) ?_
        refine aw_goto (tgt := 2) d_R_boundOneWouldStay_46 rfl ?_
        refine ih hi2 (fun k hk => ?_)
        rcases Nat.lt_succ_iff_lt_or_eq.mp hk with h | h
        · exact hn k h
        · subst h; grind
      · refine aw_aload_n d_R_boundOneWouldStay_25 rfl ?_
        refine mm_getr (t := 7) f_R_19 d_R_boundOneWouldStay_26 (by decide) rfl rfl rfl ?_
        refine aw_iload_n d_R_boundOneWouldStay_29 rfl ?_
        refine aw_iload_n d_R_boundOneWouldStay_30 rfl ?_
        refine aw_cV2 (d' := (1, 13)) d_R_boundOneWouldStay_31 lk_R_314 cd_B_membersOwnedBy (Nat.le_of_ble_eq_true rfl) rfl rfl ⟨Nat.le_of_ble_eq_true rfl, Nat.le_of_ble_eq_true rfl⟩ (fun _ h => nomatch h) ?_
        refine t_B_membersOwnedBy hi5 ?_
        refine ow_next_i ?_
        refine aw_iload_n d_R_boundOneWouldStay_34 rfl ?_
        refine aw_iconst (v := -1) d_R_boundOneWouldStay_35 (by decide) ?_
        refine aw_ixor d_R_boundOneWouldStay_36 ?_
        refine aw_iand d_R_boundOneWouldStay_37 ?_
        refine aw_if_eq (tgt := 43) d_R_boundOneWouldStay_38 rfl (fun g38 => ?_) (fun g38 => ?_)
        · refine aw_iinc (v := nI (i + 1)) d_R_boundOneWouldStay_43 rfl (nI_succ i).symm (by decide) ?_
          refine aw_goto (tgt := 2) d_R_boundOneWouldStay_46 rfl ?_
          refine ih hi2 (fun k hk => ?_)
          rcases Nat.lt_succ_iff_lt_or_eq.mp hk with h | h
          · exact hn k h
          · subst h; grind
        · refine aw_iconst (v := 1) d_R_boundOneWouldStay_41 (by decide) ?_
          refine aw_iret d_R_boundOneWouldStay_42 rfl rfl ?_
          exact h1 ⟨i, hi2, g22, g38⟩
  refine aw_iconst (v := 0) d_R_boundOneWouldStay_0 (by decide) ?_
  refine aw_istore_n d_R_boundOneWouldStay_1 (by decide) ?_
  exact lp 0 (by omega) (fun k hk => by omega)
theorem t_R_stepBack {s : Nat} {bits : Int32} (hC : CI M tc sc) (hs : s < 5) (hP : POK M s) (hq : Q (.inl none) (mm (sbk M s bits) K b)) : MT l Y_R_stepBack (1, 18) [.ref 0, .int (nI s), .int bits] (mm M K b) Q := by
  refine mt_of (k := 2) (by decide) cd_R_stepBack.1 (by simp [Value.category]) rfl ?_
  have tl : ∀ k, k ≤ 24 → (¬ co M s = -1) → (¬ (0 ≤ co M s ∧ ¬ (bits >>> (co M s &&& 31)) &&& 1 = 0)) → wlk M s (co M s) bits (cpn M s) = k → AW l Y_R_stepBack none (1, 18) Q 81 [some (.ref 0), some (.int (nI s)), some (.int bits), some (.int (co M s)), some (.int (pv k))] [] (mm M K b) := by
    intro k hk hc1 hc2 hw
    have e3 : sbk M s bits = ow_u M 47 s (sbv M s (co M s) k) := by unfold sbk; rw [if_neg hc1, if_neg hc2, hw]
    refine aw_aload_n d_R_stepBack_81 rfl ?_
    refine mm_getr (t := 45) f_R_29 d_R_stepBack_82 (by decide) rfl rfl rfl ?_
    refine mm_getr (t := 47) f_R_154 d_R_stepBack_85 (by decide) rfl rfl rfl ?_
    refine aw_iload_n d_R_stepBack_88 rfl ?_
    refine aw_iload d_R_stepBack_89 rfl ?_
    refine aw_if_lt (tgt := 108) d_R_stepBack_91 rfl (fun g91 => ?_) (fun g91 => ?_)
    · have hk0 : k = 0 := by
        cases k with
        | zero => rfl
        | succ k => exact absurd g91 (nI_pos (by omega))
      refine aw_iload_n d_R_stepBack_108 rfl ?_
      refine mm_iast rfl d_R_stepBack_109 (by decide) rfl (by omega) (by decide) ?_
      refine aw_vret d_R_stepBack_110 rfl ?_
      refine q_mem hq ?_
      rw [e3]
      simp [sbv, hk0]
    · have hk0 : ¬ k = 0 := by
        intro e; subst e; exact absurd g91 (by decide)
      refine aw_aload_n d_R_stepBack_94 rfl ?_
      refine mm_getr (t := 7) f_R_19 d_R_stepBack_95 (by decide) rfl rfl rfl ?_
      refine aw_iload_n d_R_stepBack_98 rfl ?_
      refine aw_iload_n d_R_stepBack_99 rfl ?_
      refine aw_iload d_R_stepBack_100 rfl ?_
      refine aw_cV3 (d' := (0, 0)) d_R_stepBack_102 lk_R_299 cd_B_memberAt (Nat.le_of_ble_eq_true rfl) rfl rfl ⟨Nat.le_of_ble_eq_true rfl, Nat.le_of_ble_eq_true rfl⟩ (fun _ h => nomatch h) ?_
      refine t_B_memberAtF hs ?_
      refine ow_next_i ?_
      refine aw_goto (tgt := 109) d_R_stepBack_105 rfl ?_
      refine mm_iast rfl d_R_stepBack_109 (by decide) rfl (by omega) (by decide) ?_
      refine aw_vret d_R_stepBack_110 rfl ?_
      refine q_mem hq ?_
      rw [e3]
      simp [sbv, hk0]
  have lp : (¬ co M s = -1) → (¬ (0 ≤ co M s ∧ ¬ (bits >>> (co M s &&& 31)) &&& 1 = 0)) → ∀ k, k ≤ 24 → wlk M s (co M s) bits (cpn M s) = wlk M s (co M s) bits k → AW l Y_R_stepBack none (1, 18) Q 52 [some (.ref 0), some (.int (nI s)), some (.int bits), some (.int (co M s)), some (.int (pv k))] [] (mm M K b) := by
    intro hc1 hc2 k
    induction k with
    | zero =>
      intro hk hw
      refine aw_iload d_R_stepBack_52 rfl ?_
      refine aw_if_lt (tgt := 81) d_R_stepBack_54 rfl (fun g54 => ?_) (fun g54 => ?_)
      · exact tl 0 (by omega) hc1 hc2 hw
      · exact absurd (by decide) g54
    | succ k ih =>
      intro hk hw
      simp only [wlk] at hw
      show AW l Y_R_stepBack none (1, 18) Q 52 [some (.ref 0), some (.int (nI s)), some (.int bits), some (.int (co M s)), some (.int (nI k))] [] (mm M K b)
      refine aw_iload d_R_stepBack_52 rfl ?_
      refine aw_if_lt (tgt := 81) d_R_stepBack_54 rfl (fun g54 => ?_) (fun g54 => ?_)
      · exact absurd g54 (nI_pos (by omega))
      · refine aw_iload_n d_R_stepBack_57 rfl ?_
        refine aw_aload_n d_R_stepBack_58 rfl ?_
        refine mm_getr (t := 7) f_R_19 d_R_stepBack_59 (by decide) rfl rfl rfl ?_
        refine aw_iload_n d_R_stepBack_62 rfl ?_
        refine aw_iload_n d_R_stepBack_63 rfl ?_
        refine aw_iload d_R_stepBack_64 rfl ?_
        refine aw_cV3 (d' := (0, 0)) d_R_stepBack_66 lk_R_299 cd_B_memberAt (Nat.le_of_ble_eq_true rfl) rfl rfl ⟨Nat.le_of_ble_eq_true rfl, Nat.le_of_ble_eq_true rfl⟩ (fun _ h => nomatch h) ?_
        refine t_B_memberAtF hs ?_
        refine ow_next_i ?_
        refine aw_cS2 (d' := (0, 0)) d_R_stepBack_69 lk_R_296 cd_R_hasBit ⟨Nat.le_of_ble_eq_true rfl, Nat.le_of_ble_eq_true rfl⟩ (fun _ h => nomatch h) ?_
        refine t_R_hasBit ?_
        refine ow_next_i ?_
        refine aw_if_eq (tgt := 81) d_R_stepBack_72 rfl (fun g72 => ?_) (fun g72 => ?_)
        · exact tl (k + 1) (by omega) hc1 hc2 (by rw [if_neg (by grind)] at hw; exact hw)
        · refine aw_iinc (v := pv k) d_R_stepBack_75 rfl (pv_dn k) (by decide) ?_
          refine aw_goto (tgt := 52) d_R_stepBack_78 rfl ?_
          exact ih (by omega) (by rw [if_pos (by grind)] at hw; exact hw)
  refine aw_aload_n d_R_stepBack_0 rfl ?_
  refine aw_iload_n d_R_stepBack_1 rfl ?_
  refine aw_cV1 (d' := (0, 0)) d_R_stepBack_2 lk_R_104 cd_R_currentOwner (Nat.le_of_ble_eq_true rfl) rfl rfl ⟨Nat.le_of_ble_eq_true rfl, Nat.le_of_ble_eq_true rfl⟩ (fun _ h => nomatch h) ?_
  refine t_R_currentOwner hC hs ?_
  refine ow_next_i ?_
  refine aw_istore_n d_R_stepBack_5 (by decide) ?_
  refine aw_iload_n d_R_stepBack_6 rfl ?_
  refine aw_iconst (v := -1) d_R_stepBack_7 (by decide) ?_
  refine aw_icmp_ne (tgt := 12) d_R_stepBack_8 rfl (fun g8 => ?_) (fun g8 => ?_)
  · refine aw_iload_n d_R_stepBack_12 rfl ?_
    refine aw_iload_n d_R_stepBack_13 rfl ?_
    refine aw_cS2 (d' := (0, 0)) d_R_stepBack_14 lk_R_296 cd_R_hasBit ⟨Nat.le_of_ble_eq_true rfl, Nat.le_of_ble_eq_true rfl⟩ (fun _ h => nomatch h) ?_
    refine t_R_hasBit ?_
    refine ow_next_i ?_
    refine aw_if_eq (tgt := 31) d_R_stepBack_17 rfl (fun g17 => ?_) (fun g17 => ?_)
    · refine aw_aload_n d_R_stepBack_31 rfl ?_
      refine mm_getr (t := 7) f_R_19 d_R_stepBack_32 (by decide) rfl rfl rfl ?_
      refine mm_getr (t := 20) f_R_150 d_R_stepBack_35 (by decide) rfl rfl rfl ?_
      refine aw_iload_n d_R_stepBack_38 rfl ?_
      refine mm_aald rfl d_R_stepBack_39 (by decide) rfl hs (by decide) (rF_pos hs) ?_
      refine aw_aload_n d_R_stepBack_40 rfl ?_
      refine mm_getr (t := 45) f_R_29 d_R_stepBack_41 (by decide) rfl rfl rfl ?_
      refine mm_getr (t := 47) f_R_154 d_R_stepBack_44 (by decide) rfl rfl rfl ?_
      refine aw_iload_n d_R_stepBack_47 rfl ?_
      refine mm_iald rfl d_R_stepBack_48 (by decide) rfl (by omega) (by decide) ?_
      obtain ⟨c, hc, ec⟩ := (hC.ofS hs).resolve_left (co_m1 g8)
      have e2 : (M 47 s).toNatClampNeg = c := by rw [ec, nI_clamp (by omega)]
      obtain ⟨k, hk, ek⟩ := hP (co_m1 g8)
      rw [e2] at ek
      have e4 : cpn M s = k := by
        unfold cpn
        rw [e2, ek]
        cases k with
        | zero => rfl
        | succ k => rw [show pv (k + 1) + 1 = nI (k + 1) from (nI_succ k).symm, nI_clamp (by omega)]
      refine mm_iald ec d_R_stepBack_49 (by omega) (kd_pos hs) (by omega) (by decide) ?_
      rw [ek]
      refine aw_istore d_R_stepBack_50 (by decide) ?_
      exact lp g8 (by grind) k hk (by rw [e4])
    · refine aw_aload_n d_R_stepBack_20 rfl ?_
      refine mm_getr (t := 45) f_R_29 d_R_stepBack_21 (by decide) rfl rfl rfl ?_
      refine mm_getr (t := 47) f_R_154 d_R_stepBack_24 (by decide) rfl rfl rfl ?_
      refine aw_iload_n d_R_stepBack_27 rfl ?_
      refine aw_iconst (v := -1) d_R_stepBack_28 (by decide) ?_
      refine mm_iast rfl d_R_stepBack_29 (by decide) rfl (by omega) (by decide) ?_
      refine aw_vret d_R_stepBack_30 rfl ?_
      refine q_mem hq ?_
      unfold sbk
      rw [if_neg g8, if_pos (by grind)]
  · refine aw_vret d_R_stepBack_11 rfl ?_
    exact q_mem hq (by simp [sbk, g8])
end TOwn3
