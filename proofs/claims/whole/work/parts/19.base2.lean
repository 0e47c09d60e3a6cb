/-! Base, the rest; Stand -/
theorem kd_ownK {s : Nat} (h : s < 5) : ow_kd (34 + s) = (1, 24) := by
  rcases (show s = 0 ∨ s = 1 ∨ s = 2 ∨ s = 3 ∨ s = 4 by omega) with rfl | rfl | rfl | rfl | rfl <;> rfl
theorem kd_posK {s : Nat} (h : s < 5) : ow_kd (40 + s) = (1, 24) := by
  rcases (show s = 0 ∨ s = 1 ∨ s = 2 ∨ s = 3 ∨ s = 4 by omega) with rfl | rfl | rfl | rfl | rfl <;> rfl
theorem kd_fldK {f : Nat} (h : f < 3) : ow_kd (30 + f) = (1, 24) := by
  rcases (show f = 0 ∨ f = 1 ∨ f = 2 by omega) with rfl | rfl | rfl <;> rfl
theorem rF_ownK {s : Nat} (h : s < 5) : ow_rF 33 s = some (34 + s) := by simp [ow_rF, h]
theorem rF_posK {s : Nat} (h : s < 5) : ow_rF 39 s = some (40 + s) := by simp [ow_rF, h]
theorem rF_fldK {f : Nat} (h : f < 3) : ow_rF 29 f = some (30 + f) := by simp [ow_rF, h]
theorem mm_copy {l : Launch} {Y : ow_Y} {sc : Option (Nat × (Nat → Int32))} {d : Nat × Nat} {Q : ow_R → ow_M → Prop} {pc : Nat} {L : List (Option Value)} {S : List Value} {M : Nat → Nat → Int32} {K : Int64} {b : Nat} {index a a0 n n0 N : Nat} {x : Int32} (hx : x = nI N) (h1 : Cond.methodLink Y.1.cls index arraycopyName ∈ ow_ws) (hdg : decode Y.2.1 pc = .ok (.invokestatic index, 3))
    (ha : a < 70) (ha0 : a0 < 70) (hk : ow_kd a = (1, n)) (hk0 : ow_kd a0 = (1, n0)) (hN : N ≤ n) (hN0 : N ≤ n0) (hd : 1 ≤ d.1 ∧ (S.map fun v => v.category).sum + 18 ≤ d.2) (kk : AW l Y sc d Q (pc + 3) L S (mm (ow_cp M a0 a N) K b)) : AW l Y sc d Q pc L (.int x :: .int 0 :: .ref a :: .int 0 :: .ref a0 :: S) (mm M K b) := by
  subst hx
  have hlt : N < 2 ^ 31 := by
    have : n ≤ 1000 := by
      have key : ∀ c, c < 70 → (ow_kd c).2 ≤ 1000 := by decide
      have := key a ha
      rw [hk] at this
      exact this
    omega
  exact aw_copy h1 ac_n ac_s ac_i hdg ha ha0 hk hk0 hN hN0 hlt hd kk
/-- the bit n of a mask -/
def hb (bits n : Int32) : Prop := 0 ≤ n ∧ ¬ (bits >>> (n &&& 31)) &&& 1 = 0
def mob (M : Nat → Nat → Int32) (s : Nat) (bits : Int32) : Nat → Int32
  | 0 => 0
  | i + 1 => if 0 ≤ M (15 + s) i ∧ ¬ (bits >>> (M (15 + s) i &&& 31)) &&& 1 = 0 then mob M s bits i ||| ((1 : Int32) <<< (nI i &&& 31)) else mob M s bits i
/-- the place of the lowest key among those that fit, of the places below i, or -1 -/
def lwk (M : Nat → Nat → Int32) (t : Int32) (f : Nat) (v : Int32) : Nat → Int32
  | 0 => -1
  | i + 1 => if (¬ M 8 i = 0 ∧ M 9 i = t ∧ M (11 + f) i = v) ∧ (lwk M t f v i = -1 ∨ M 8 i < M 8 (lwk M t f v i).toNatClampNeg) then nI i else lwk M t f v i
theorem lwk_in (M : Nat → Nat → Int32) (t : Int32) (f : Nat) (v : Int32) (i : Nat) : lwk M t f v i = -1 ∨ ∃ k, k < i ∧ lwk M t f v i = nI k := by
  induction i with
  | zero => exact Or.inl rfl
  | succ i ih =>
    simp only [lwk]
    split
    · exact Or.inr ⟨i, by omega, rfl⟩
    · rcases ih with h | ⟨k, hk, h⟩
      · exact Or.inl h
      · exact Or.inr ⟨k, by omega, h⟩
def putM (M : Nat → Nat → Int32) (s p : Nat) (ow k : Int32) : Nat → Nat → Int32 := ow_u (ow_u (shf M s ow k 1 24) (15 + s) p ow) (21 + s) p k
def takM (M : Nat → Nat → Int32) (s p : Nat) : Nat → Nat → Int32 := if M (15 + s) p = -1 then M else shf (ow_u (ow_u M (15 + s) p (-1)) (21 + s) p (-1)) s (M (15 + s) p) (M (21 + s) p) (-1) 24
section TBase2
variable {l : Launch} {Q : ow_R → ow_M → Prop} {M : Nat → Nat → Int32} {K : Int64} {b : Nat}
/-- R_hasBit -/
theorem t_R_hasBit {bits n : Int32} (hq : Q (.inl (some (if 0 ≤ n ∧ ¬ (bits >>> (n &&& 31)) &&& 1 = 0 then 1 else 0))) (mm M K b)) : MT l Y_R_hasBit (0, 0) [.int bits, .int n] (mm M K b) Q := by
  refine mt_of (k := 0) (by decide) cd_R_hasBit.1 (by simp [Value.category]) rfl ?_
  refine aw_iload_n d_R_hasBit_0 rfl ?_
  refine aw_if_lt (tgt := 16) d_R_hasBit_1 rfl (fun g1 => ?_) (fun g1 => ?_)
  · refine aw_iconst (v := 0) d_R_hasBit_16 (by decide) ?_
    refine aw_iret d_R_hasBit_17 rfl rfl ?_
    first | (rw [if_pos (by grind)] at hq; exact hq) | (rw [if_neg (by grind)] at hq; exact hq)
  · refine aw_iload_n d_R_hasBit_4 rfl ?_
    refine aw_iload_n d_R_hasBit_5 rfl ?_
    refine aw_ishr d_R_hasBit_6 ?_
    refine aw_iconst (v := 1) d_R_hasBit_7 (by decide) ?_
    refine aw_iand d_R_hasBit_8 ?_
    refine aw_if_eq (tgt := 16) d_R_hasBit_9 rfl (fun g9 => ?_) (fun g9 => ?_)
    · refine aw_iconst (v := 0) d_R_hasBit_16 (by decide) ?_
      refine aw_iret d_R_hasBit_17 rfl rfl ?_
      first | (rw [if_pos (by grind)] at hq; exact hq) | (rw [if_neg (by grind)] at hq; exact hq)
    · refine aw_iconst (v := 1) d_R_hasBit_12 (by decide) ?_
      refine aw_goto (tgt := 17) d_R_hasBit_13 rfl ?_
      refine aw_iret d_R_hasBit_17 rfl rfl ?_
      first | (rw [if_pos (by grind)] at hq; exact hq) | (rw [if_neg (by grind)] at hq; exact hq)
/-- B_membersOwnedBy -/
theorem t_B_membersOwnedBy {s : Nat} {bits : Int32} (hs : s < 5) (hq : Q (.inl (some (mob M s bits 24))) (mm M K b)) : MT l Y_B_membersOwnedBy (1, 13) [.ref 7, .int (nI s), .int bits] (mm M K b) Q := by
  refine mt_of (k := 2) (by decide) cd_B_membersOwnedBy.1 (by simp [Value.category]) rfl ?_
  have lp : ∀ i, i ≤ 24 → AW l Y_B_membersOwnedBy none (1, 13) Q 5 [some (.ref 7), some (.int (nI s)), some (.int bits), some (.int (mob M s bits i)), some (.int (nI i))] [] (mm M K b) := by
    refine loop_dn 24 (fun i hi ih => ?_)
    refine aw_iload d_B_membersOwnedBy_5 rfl ?_
    refine aw_bipush (v := 24) d_B_membersOwnedBy_7 (by decide) ?_
    refine aw_icmp_ge (tgt := 41) d_B_membersOwnedBy_9 rfl (fun g9 => ?_) (fun g9 => ?_)
    · have hi2 := ge_n (n := 24) rfl hi (by omega) g9
      subst hi2
      refine aw_iload_n d_B_membersOwnedBy_41 rfl ?_
      refine aw_iret d_B_membersOwnedBy_42 rfl rfl ?_
      exact hq
    · have hi2 := lt_n (n := 24) rfl hi (by omega) g9
      refine aw_iload_n d_B_membersOwnedBy_12 rfl ?_
      refine aw_aload_n d_B_membersOwnedBy_13 rfl ?_
      refine mm_getr (t := 14) f_B_30 d_B_membersOwnedBy_14 (by decide) rfl rfl rfl ?_
      refine aw_iload_n d_B_membersOwnedBy_17 rfl ?_
      refine mm_aald rfl d_B_membersOwnedBy_18 (by decide) rfl hs (by decide) (rF_own hs) ?_
      refine aw_iload d_B_membersOwnedBy_19 rfl ?_
      refine mm_iald rfl d_B_membersOwnedBy_21 (by omega) (kd_own hs) (by omega) (by decide) ?_
      refine aw_cN2 (d' := (0, 0)) d_B_membersOwnedBy_22 rfl lkN_B_50 cd_R_hasBit ⟨Nat.le_of_ble_eq_true rfl, Nat.le_of_ble_eq_true rfl⟩ (fun _ h => nomatch h) ?_
      refine t_R_hasBit ?_
      refine ow_next_i ?_
      refine aw_if_eq (tgt := 35) d_B_membersOwnedBy_25 rfl (fun g25 => ?_) (fun g25 => ?_)
      · refine aw_iinc (v := nI (i + 1)) d_B_membersOwnedBy_35 rfl (nI_succ i).symm (by decide) ?_
        refine aw_goto (tgt := 5) d_B_membersOwnedBy_38 rfl ?_
        first
          | (rw [show mob M s bits (i + 1) = mob M s bits i from by simp only [mob]; rw [if_neg (by grind)]] at ih; exact ih hi2)
          | (rw [show mob M s bits (i + 1) = mob M s bits i ||| ((1 : Int32) <<< (nI i &&& 31)) from by simp only [mob]; rw [if_pos (by grind)]] at ih; exact ih hi2)
      · refine aw_iload_n d_B_membersOwnedBy_28 rfl ?_
        refine aw_iconst (v := 1) d_B_membersOwnedBy_29 (by decide) ?_
        refine aw_iload d_B_membersOwnedBy_30 rfl ?_
        refine aw_ishl d_B_membersOwnedBy_32 ?_
        refine aw_ior d_B_membersOwnedBy_33 ?_
        refine aw_istore_n d_B_membersOwnedBy_34 (by decide) ?_
        refine aw_iinc (v := nI (i + 1)) d_B_membersOwnedBy_35 rfl (nI_succ i).symm (by decide) ?_
        refine aw_goto (tgt := 5) d_B_membersOwnedBy_38 rfl ?_
        first
          | (rw [show mob M s bits (i + 1) = mob M s bits i from by simp only [mob]; rw [if_neg (by grind)]] at ih; exact ih hi2)
          | (rw [show mob M s bits (i + 1) = mob M s bits i ||| ((1 : Int32) <<< (nI i &&& 31)) from by simp only [mob]; rw [if_pos (by grind)]] at ih; exact ih hi2)
  refine aw_iconst (v := 0) d_B_membersOwnedBy_0 (by decide) ?_
  refine aw_istore_n d_B_membersOwnedBy_1 (by decide) ?_
  refine aw_iconst (v := 0) d_B_membersOwnedBy_2 (by decide) ?_
  refine aw_istore d_B_membersOwnedBy_3 (by decide) ?_
  exact lp 0 (by omega)
/-- B_putIn -/
theorem t_B_putIn {s p : Nat} {ow k : Int32} (hs : s < 5) (hp : p < 24) (hq : Q (.inl none) (mm (putM M s p ow k) K b)) : MT l Y_B_putIn (1, 17) [.ref 7, .int (nI s), .int (nI p), .int ow, .int k] (mm M K b) Q := by
  refine mt_of (k := 0) (by decide) cd_B_putIn.1 (by simp [Value.category]) rfl ?_
  refine aw_aload_n d_B_putIn_0 rfl ?_
  refine aw_iload_n d_B_putIn_1 rfl ?_
  refine aw_iload_n d_B_putIn_2 rfl ?_
  refine aw_iload d_B_putIn_3 rfl ?_
  refine aw_iconst (v := 1) d_B_putIn_5 (by decide) ?_
  refine aw_cV4 (d' := (0, 0)) d_B_putIn_6 lk_B_54 cd_B_shiftRing (Nat.le_of_ble_eq_true rfl) rfl rfl ⟨Nat.le_of_ble_eq_true rfl, Nat.le_of_ble_eq_true rfl⟩ (fun _ h => nomatch h) ?_
  refine t_B_shiftRing hs ?_
  refine ow_next_v ?_
  refine aw_aload_n d_B_putIn_9 rfl ?_
  refine mm_getr (t := 14) f_B_30 d_B_putIn_10 (by decide) rfl rfl rfl ?_
  refine aw_iload_n d_B_putIn_13 rfl ?_
  refine mm_aald rfl d_B_putIn_14 (by decide) rfl hs (by decide) (rF_own hs) ?_
  refine aw_iload_n d_B_putIn_15 rfl ?_
  refine aw_iload_n d_B_putIn_16 rfl ?_
  refine mm_iast rfl d_B_putIn_17 (by omega) (kd_own hs) (by omega) (by decide) ?_
  refine aw_aload_n d_B_putIn_18 rfl ?_
  refine mm_getr (t := 20) f_B_33 d_B_putIn_19 (by decide) rfl rfl rfl ?_
  refine aw_iload_n d_B_putIn_22 rfl ?_
  refine mm_aald rfl d_B_putIn_23 (by decide) rfl hs (by decide) (rF_pos hs) ?_
  refine aw_iload_n d_B_putIn_24 rfl ?_
  refine aw_iload d_B_putIn_25 rfl ?_
  refine mm_iast rfl d_B_putIn_27 (by omega) (kd_pos hs) (by omega) (by decide) ?_
  refine aw_vret d_B_putIn_28 rfl ?_
  exact hq
/-- B_takeOut -/
theorem t_B_takeOut {s p : Nat} (hs : s < 5) (hp : p < 24) (hq : Q (.inl none) (mm (takM M s p) K b)) : MT l Y_B_takeOut (1, 17) [.ref 7, .int (nI s), .int (nI p)] (mm M K b) Q := by
  refine mt_of (k := 2) (by decide) cd_B_takeOut.1 (by simp [Value.category]) rfl ?_
  refine aw_aload_n d_B_takeOut_0 rfl ?_
  refine mm_getr (t := 14) f_B_30 d_B_takeOut_1 (by decide) rfl rfl rfl ?_
  refine aw_iload_n d_B_takeOut_4 rfl ?_
  refine mm_aald rfl d_B_takeOut_5 (by decide) rfl hs (by decide) (rF_own hs) ?_
  refine aw_iload_n d_B_takeOut_6 rfl ?_
  refine mm_iald rfl d_B_takeOut_7 (by omega) (kd_own hs) (by omega) (by decide) ?_
  refine aw_istore_n d_B_takeOut_8 (by decide) ?_
  refine aw_iload_n d_B_takeOut_9 rfl ?_
  refine aw_iconst (v := -1) d_B_takeOut_10 (by decide) ?_
  refine aw_icmp_ne (tgt := 15) d_B_takeOut_11 rfl (fun g11 => ?_) (fun g11 => ?_)
  · refine aw_aload_n d_B_takeOut_15 rfl ?_
    refine mm_getr (t := 20) f_B_33 d_B_takeOut_16 (by decide) rfl rfl rfl ?_
    refine aw_iload_n d_B_takeOut_19 rfl ?_
    refine mm_aald rfl d_B_takeOut_20 (by decide) rfl hs (by decide) (rF_pos hs) ?_
    refine aw_iload_n d_B_takeOut_21 rfl ?_
    refine mm_iald rfl d_B_takeOut_22 (by omega) (kd_pos hs) (by omega) (by decide) ?_
    refine aw_istore d_B_takeOut_23 (by decide) ?_
    refine aw_aload_n d_B_takeOut_25 rfl ?_
    refine mm_getr (t := 14) f_B_30 d_B_takeOut_26 (by decide) rfl rfl rfl ?_
    refine aw_iload_n d_B_takeOut_29 rfl ?_
    refine mm_aald rfl d_B_takeOut_30 (by decide) rfl hs (by decide) (rF_own hs) ?_
    refine aw_iload_n d_B_takeOut_31 rfl ?_
    refine aw_iconst (v := -1) d_B_takeOut_32 (by decide) ?_
    refine mm_iast rfl d_B_takeOut_33 (by omega) (kd_own hs) (by omega) (by decide) ?_
    refine aw_aload_n d_B_takeOut_34 rfl ?_
    refine mm_getr (t := 20) f_B_33 d_B_takeOut_35 (by decide) rfl rfl rfl ?_
    refine aw_iload_n d_B_takeOut_38 rfl ?_
    refine mm_aald rfl d_B_takeOut_39 (by decide) rfl hs (by decide) (rF_pos hs) ?_
    refine aw_iload_n d_B_takeOut_40 rfl ?_
    refine aw_iconst (v := -1) d_B_takeOut_41 (by decide) ?_
    refine mm_iast rfl d_B_takeOut_42 (by omega) (kd_pos hs) (by omega) (by decide) ?_
    refine aw_aload_n d_B_takeOut_43 rfl ?_
    refine aw_iload_n d_B_takeOut_44 rfl ?_
    refine aw_iload_n d_B_takeOut_45 rfl ?_
    refine aw_iload d_B_takeOut_46 rfl ?_
    refine aw_iconst (v := -1) d_B_takeOut_48 (by decide) ?_
    refine aw_cV4 (d' := (0, 0)) d_B_takeOut_49 lk_B_54 cd_B_shiftRing (Nat.le_of_ble_eq_true rfl) rfl rfl ⟨Nat.le_of_ble_eq_true rfl, Nat.le_of_ble_eq_true rfl⟩ (fun _ h => nomatch h) ?_
    refine t_B_shiftRing hs ?_
    refine ow_next_v ?_
    refine aw_vret d_B_takeOut_52 rfl ?_
    exact q_mem hq (by simp [takM, g11])
  · refine aw_vret d_B_takeOut_14 rfl ?_
    exact q_mem hq (by simp [takM, g11])
/-- B_lowestKeyed -/
theorem t_B_lowestKeyed {t x : Int32} {f : Nat} (hf : f < 3) (hq : Q (.inl (some (lwk M t f x 24))) (mm M K b)) : MT l Y_B_lowestKeyed (0, 0) [.ref 7, .int t, .int (nI f), .int x] (mm M K b) Q := by
  refine mt_of (k := 3) (by decide) cd_B_lowestKeyed.1 (by simp [Value.category]) rfl ?_
  have lp : ∀ i, i ≤ 24 → ∀ w : Option Value, AW l Y_B_lowestKeyed none (0, 0) Q 6 [some (.ref 7), some (.int t), some (.int (nI f)), some (.int x), some (.int (lwk M t f x i)), some (.int (nI i)), w] [] (mm M K b) := by
    refine loop_dn 24 (fun i hi ih => ?_)
    intro w
    refine aw_iload d_B_lowestKeyed_6 rfl ?_
    refine aw_bipush (v := 24) d_B_lowestKeyed_8 (by decide) ?_
    refine aw_icmp_ge (tgt := 92) d_B_lowestKeyed_10 rfl (fun g10 => ?_) (fun g10 => ?_)
    · have hi2 := ge_n (n := 24) rfl hi (by omega) g10
      subst hi2
      refine aw_iload d_B_lowestKeyed_92 rfl ?_
      refine aw_iret d_B_lowestKeyed_94 rfl rfl ?_
      exact hq
    · have hi2 := lt_n (n := 24) rfl hi (by omega) g10
      refine aw_aload_n d_B_lowestKeyed_13 rfl ?_
      refine mm_getr (t := 8) f_B_18 d_B_lowestKeyed_14 (by decide) rfl rfl rfl ?_
      refine aw_iload d_B_lowestKeyed_17 rfl ?_
      refine mm_iald rfl d_B_lowestKeyed_19 (by decide) rfl (by omega) (by decide) ?_
      refine aw_if_eq (tgt := 51) d_B_lowestKeyed_20 rfl (fun g20 => ?_) (fun g20 => ?_)
      · refine aw_iconst (v := 0) d_B_lowestKeyed_51 (by decide) ?_
        refine aw_istore d_B_lowestKeyed_52 (by decide) ?_
        refine aw_iload d_B_lowestKeyed_54 rfl ?_
        refine aw_if_eq (tgt := 86) d_B_lowestKeyed_56 rfl (fun g56 => ?_) (fun g56 => ?_)
        · refine aw_iinc (v := nI (i + 1)) d_B_lowestKeyed_86 rfl (nI_succ i).symm (by decide) ?_
          refine aw_goto (tgt := 6) d_B_lowestKeyed_89 rfl ?_
          first
            | (rw [show lwk M t f x (i + 1) = lwk M t f x i from by simp only [lwk]; rw [if_neg (by grind)]] at ih; exact ih hi2 _)
            | (rw [show lwk M t f x (i + 1) = nI i from by simp only [lwk]; rw [if_pos (by grind)]] at ih; exact ih hi2 _)
        · exact absurd g56 (by decide)
      · refine aw_aload_n d_B_lowestKeyed_23 rfl ?_
        refine mm_getr (t := 9) f_B_22 d_B_lowestKeyed_24 (by decide) rfl rfl rfl ?_
        refine aw_iload d_B_lowestKeyed_27 rfl ?_
        refine mm_iald rfl d_B_lowestKeyed_29 (by decide) rfl (by omega) (by decide) ?_
        refine aw_iload_n d_B_lowestKeyed_30 rfl ?_
        refine aw_icmp_ne (tgt := 51) d_B_lowestKeyed_31 rfl (fun g31 => ?_) (fun g31 => ?_)
        · refine aw_iconst (v := 0) d_B_lowestKeyed_51 (by decide) ?_
          refine aw_istore d_B_lowestKeyed_52 (by decide) ?_
          refine aw_iload d_B_lowestKeyed_54 rfl ?_
          refine aw_if_eq (tgt := 86) d_B_lowestKeyed_56 rfl (fun g56 => ?_) (fun g56 => ?_)
          · refine aw_iinc (v := nI (i + 1)) d_B_lowestKeyed_86 rfl (nI_succ i).symm (by decide) ?_
            refine aw_goto (tgt := 6) d_B_lowestKeyed_89 rfl ?_
            first
              | (rw [show lwk M t f x (i + 1) = lwk M t f x i from by simp only [lwk]; rw [if_neg (by grind)]] at ih; exact ih hi2 _)
              | (rw [show lwk M t f x (i + 1) = nI i from by simp only [lwk]; rw [if_pos (by grind)]] at ih; exact ih hi2 _)
          · exact absurd g56 (by decide)
        · refine aw_aload_n d_B_lowestKeyed_34 rfl ?_
          refine mm_getr (t := 10) f_B_27 d_B_lowestKeyed_35 (by decide) rfl rfl rfl ?_
          refine aw_iload_n d_B_lowestKeyed_38 rfl ?_
          refine mm_aald rfl d_B_lowestKeyed_39 (by decide) rfl hf (by decide) (rF_fld hf) ?_
          refine aw_iload d_B_lowestKeyed_40 rfl ?_
          refine mm_iald rfl d_B_lowestKeyed_42 (by omega) (kd_fld hf) (by omega) (by decide) ?_
          refine aw_iload_n d_B_lowestKeyed_43 rfl ?_
          refine aw_icmp_ne (tgt := 51) d_B_lowestKeyed_44 rfl (fun g44 => ?_) (fun g44 => ?_)
          · refine aw_iconst (v := 0) d_B_lowestKeyed_51 (by decide) ?_
            refine aw_istore d_B_lowestKeyed_52 (by decide) ?_
            refine aw_iload d_B_lowestKeyed_54 rfl ?_
            refine aw_if_eq (tgt := 86) d_B_lowestKeyed_56 rfl (fun g56 => ?_) (fun g56 => ?_)
            · refine aw_iinc (v := nI (i + 1)) d_B_lowestKeyed_86 rfl (nI_succ i).symm (by decide) ?_
              refine aw_goto (tgt := 6) d_B_lowestKeyed_89 rfl ?_
              first
                | (rw [show lwk M t f x (i + 1) = lwk M t f x i from by simp only [lwk]; rw [if_neg (by grind)]] at ih; exact ih hi2 _)
                | (rw [show lwk M t f x (i + 1) = nI i from by simp only [lwk]; rw [if_pos (by grind)]] at ih; exact ih hi2 _)
            · exact absurd g56 (by decide)
          · refine aw_iconst (v := 1) d_B_lowestKeyed_47 (by decide) ?_
            refine aw_goto (tgt := 52) d_B_lowestKeyed_48 rfl ?_
            refine aw_istore d_B_lowestKeyed_52 (by decide) ?_
            refine aw_iload d_B_lowestKeyed_54 rfl ?_
            refine aw_if_eq (tgt := 86) d_B_lowestKeyed_56 rfl (fun g56 => ?_) (fun g56 => ?_)
            · exact absurd g56 (by decide)
            · refine aw_iload d_B_lowestKeyed_59 rfl ?_
              refine aw_iconst (v := -1) d_B_lowestKeyed_61 (by decide) ?_
              refine aw_icmp_eq (tgt := 82) d_B_lowestKeyed_62 rfl (fun g62 => ?_) (fun g62 => ?_)
              · refine aw_iload d_B_lowestKeyed_82 rfl ?_
                refine aw_istore d_B_lowestKeyed_84 (by decide) ?_
                refine aw_iinc (v := nI (i + 1)) d_B_lowestKeyed_86 rfl (nI_succ i).symm (by decide) ?_
                refine aw_goto (tgt := 6) d_B_lowestKeyed_89 rfl ?_
                first
                  | (rw [show lwk M t f x (i + 1) = lwk M t f x i from by simp only [lwk]; rw [if_neg (by grind)]] at ih; exact ih hi2 _)
                  | (rw [show lwk M t f x (i + 1) = nI i from by simp only [lwk]; rw [if_pos (by grind)]] at ih; exact ih hi2 _)
              · obtain ⟨k, hk, ek⟩ := (lwk_in M t f x i).resolve_left g62
                have ek2 : M 8 (lwk M t f x i).toNatClampNeg = M 8 k := by rw [ek, nI_clamp (by omega)]
                refine aw_aload_n d_B_lowestKeyed_65 rfl ?_
                refine mm_getr (t := 8) f_B_18 d_B_lowestKeyed_66 (by decide) rfl rfl rfl ?_
                refine aw_iload d_B_lowestKeyed_69 rfl ?_
                refine mm_iald rfl d_B_lowestKeyed_71 (by decide) rfl (by omega) (by decide) ?_
                refine aw_aload_n d_B_lowestKeyed_72 rfl ?_
                refine mm_getr (t := 8) f_B_18 d_B_lowestKeyed_73 (by decide) rfl rfl rfl ?_
                refine aw_iload d_B_lowestKeyed_76 rfl ?_
                refine mm_iald ek d_B_lowestKeyed_78 (by decide) rfl (by omega) (by decide) ?_
                refine aw_icmp_ge (tgt := 86) d_B_lowestKeyed_79 rfl (fun g79 => ?_) (fun g79 => ?_)
                · refine aw_iinc (v := nI (i + 1)) d_B_lowestKeyed_86 rfl (nI_succ i).symm (by decide) ?_
                  refine aw_goto (tgt := 6) d_B_lowestKeyed_89 rfl ?_
                  first
                    | (rw [show lwk M t f x (i + 1) = lwk M t f x i from by simp only [lwk]; rw [if_neg (by grind)]] at ih; exact ih hi2 _)
                    | (rw [show lwk M t f x (i + 1) = nI i from by simp only [lwk]; rw [if_pos (by grind)]] at ih; exact ih hi2 _)
                · refine aw_iload d_B_lowestKeyed_82 rfl ?_
                  refine aw_istore d_B_lowestKeyed_84 (by decide) ?_
                  refine aw_iinc (v := nI (i + 1)) d_B_lowestKeyed_86 rfl (nI_succ i).symm (by decide) ?_
                  refine aw_goto (tgt := 6) d_B_lowestKeyed_89 rfl ?_
                  first
                    | (rw [show lwk M t f x (i + 1) = lwk M t f x i from by simp only [lwk]; rw [if_neg (by grind)]] at ih; exact ih hi2 _)
                    | (rw [show lwk M t f x (i + 1) = nI i from by simp only [lwk]; rw [if_pos (by grind)]] at ih; exact ih hi2 _)
  refine aw_iconst (v := -1) d_B_lowestKeyed_0 (by decide) ?_
  refine aw_istore d_B_lowestKeyed_1 (by decide) ?_
  refine aw_iconst (v := 0) d_B_lowestKeyed_3 (by decide) ?_
  refine aw_istore d_B_lowestKeyed_4 (by decide) ?_
  exact lp 0 (by omega) _
/-- S_clear -/
theorem t_S_clear  (hq : Q (.inl none) (mm (ow_u (ow_u (ow_u (ow_u (ow_u (ow_u (ow_u (ow_u (ow_u (ow_u M 45 0 (-1)) 46 0 (-1)) 46 1 (-1)) 46 2 (-1)) 46 3 (-1)) 47 0 (-1)) 47 1 (-1)) 47 2 (-1)) 47 3 (-1)) 47 4 (-1)) K b)) : MT l Y_S_clear (0, 0) [.ref 45] (mm M K b) Q := by
  refine mt_of (k := 1) (by decide) cd_S_clear.1 (by simp [Value.category]) rfl ?_
  refine aw_aload_n d_S_clear_0 rfl ?_
  refine aw_iconst (v := -1) d_S_clear_1 (by decide) ?_
  refine mm_puti fw_S_9 d_S_clear_2 (by decide) rfl rfl rfl rfl ?_
  refine aw_iconst (v := 0) d_S_clear_5 (by decide) ?_
  refine aw_istore_n d_S_clear_6 (by decide) ?_
  refine aw_iload_n d_S_clear_7 rfl ?_
  refine aw_iconst (v := 4) d_S_clear_8 (by decide) ?_
  refine aw_icmp_ge (tgt := 25) d_S_clear_9 rfl (fun g9 => ?_) (fun g9 => ?_)
  · exact absurd g9 (by decide)
  · refine aw_aload_n d_S_clear_12 rfl ?_
    refine mm_getr (t := 46) f_S_15 d_S_clear_13 (by decide) rfl rfl rfl ?_
    refine aw_iload_n d_S_clear_16 rfl ?_
    refine aw_iconst (v := -1) d_S_clear_17 (by decide) ?_
    refine mm_iast (show (0 : Int32) = nI 0 from rfl) d_S_clear_18 (by decide) rfl (by decide) (by decide) ?_
    refine aw_iinc (v := 1) d_S_clear_19 rfl (by decide) (by decide) ?_
    refine aw_goto (tgt := 7) d_S_clear_22 rfl ?_
    refine aw_iload_n d_S_clear_7 rfl ?_
    refine aw_iconst (v := 4) d_S_clear_8 (by decide) ?_
    refine aw_icmp_ge (tgt := 25) d_S_clear_9 rfl (fun g9 => ?_) (fun g9 => ?_)
    · exact absurd g9 (by decide)
    · refine aw_aload_n d_S_clear_12 rfl ?_
      refine mm_getr (t := 46) f_S_15 d_S_clear_13 (by decide) rfl rfl rfl ?_
      refine aw_iload_n d_S_clear_16 rfl ?_
      refine aw_iconst (v := -1) d_S_clear_17 (by decide) ?_
      refine mm_iast (show (1 : Int32) = nI 1 from rfl) d_S_clear_18 (by decide) rfl (by decide) (by decide) ?_
      refine aw_iinc (v := 2) d_S_clear_19 rfl (by decide) (by decide) ?_
      refine aw_goto (tgt := 7) d_S_clear_22 rfl ?_
      refine aw_iload_n d_S_clear_7 rfl ?_
      refine aw_iconst (v := 4) d_S_clear_8 (by decide) ?_
      refine aw_icmp_ge (tgt := 25) d_S_clear_9 rfl (fun g9 => ?_) (fun g9 => ?_)
      · exact absurd g9 (by decide)
      · refine aw_aload_n d_S_clear_12 rfl ?_
        refine mm_getr (t := 46) f_S_15 d_S_clear_13 (by decide) rfl rfl rfl ?_
        refine aw_iload_n d_S_clear_16 rfl ?_
        refine aw_iconst (v := -1) d_S_clear_17 (by decide) ?_
        refine mm_iast (show (2 : Int32) = nI 2 from rfl) d_S_clear_18 (by decide) rfl (by decide) (by decide) ?_
        refine aw_iinc (v := 3) d_S_clear_19 rfl (by decide) (by decide) ?_
        refine aw_goto (tgt := 7) d_S_clear_22 rfl ?_
        refine aw_iload_n d_S_clear_7 rfl ?_
        refine aw_iconst (v := 4) d_S_clear_8 (by decide) ?_
        refine aw_icmp_ge (tgt := 25) d_S_clear_9 rfl (fun g9 => ?_) (fun g9 => ?_)
        · exact absurd g9 (by decide)
        · refine aw_aload_n d_S_clear_12 rfl ?_
          refine mm_getr (t := 46) f_S_15 d_S_clear_13 (by decide) rfl rfl rfl ?_
          refine aw_iload_n d_S_clear_16 rfl ?_
          refine aw_iconst (v := -1) d_S_clear_17 (by decide) ?_
          refine mm_iast (show (3 : Int32) = nI 3 from rfl) d_S_clear_18 (by decide) rfl (by decide) (by decide) ?_
          refine aw_iinc (v := 4) d_S_clear_19 rfl (by decide) (by decide) ?_
          refine aw_goto (tgt := 7) d_S_clear_22 rfl ?_
          refine aw_iload_n d_S_clear_7 rfl ?_
          refine aw_iconst (v := 4) d_S_clear_8 (by decide) ?_
          refine aw_icmp_ge (tgt := 25) d_S_clear_9 rfl (fun g9 => ?_) (fun g9 => ?_)
          · refine aw_iconst (v := 0) d_S_clear_25 (by decide) ?_
            refine aw_istore_n d_S_clear_26 (by decide) ?_
            refine aw_iload_n d_S_clear_27 rfl ?_
            refine aw_iconst (v := 5) d_S_clear_28 (by decide) ?_
            refine aw_icmp_ge (tgt := 45) d_S_clear_29 rfl (fun g29 => ?_) (fun g29 => ?_)
            · exact absurd g29 (by decide)
            · refine aw_aload_n d_S_clear_32 rfl ?_
              refine mm_getr (t := 47) f_S_19 d_S_clear_33 (by decide) rfl rfl rfl ?_
              refine aw_iload_n d_S_clear_36 rfl ?_
              refine aw_iconst (v := -1) d_S_clear_37 (by decide) ?_
              refine mm_iast (show (0 : Int32) = nI 0 from rfl) d_S_clear_38 (by decide) rfl (by decide) (by decide) ?_
              refine aw_iinc (v := 1) d_S_clear_39 rfl (by decide) (by decide) ?_
              refine aw_goto (tgt := 27) d_S_clear_42 rfl ?_
              refine aw_iload_n d_S_clear_27 rfl ?_
              refine aw_iconst (v := 5) d_S_clear_28 (by decide) ?_
              refine aw_icmp_ge (tgt := 45) d_S_clear_29 rfl (fun g29 => ?_) (fun g29 => ?_)
              · exact absurd g29 (by decide)
              · refine aw_aload_n d_S_clear_32 rfl ?_
                refine mm_getr (t := 47) f_S_19 d_S_clear_33 (by decide) rfl rfl rfl ?_
                refine aw_iload_n d_S_clear_36 rfl ?_
                refine aw_iconst (v := -1) d_S_clear_37 (by decide) ?_
                refine mm_iast (show (1 : Int32) = nI 1 from rfl) d_S_clear_38 (by decide) rfl (by decide) (by decide) ?_
                refine aw_iinc (v := 2) d_S_clear_39 rfl (by decide) (by decide) ?_
                refine aw_goto (tgt := 27) d_S_clear_42 rfl ?_
                refine aw_iload_n d_S_clear_27 rfl ?_
                refine aw_iconst (v := 5) d_S_clear_28 (by decide) ?_
                refine aw_icmp_ge (tgt := 45) d_S_clear_29 rfl (fun g29 => ?_) (fun g29 => ?_)
                · exact absurd g29 (by decide)
                · refine aw_aload_n d_S_clear_32 rfl ?_
                  refine mm_getr (t := 47) f_S_19 d_S_clear_33 (by decide) rfl rfl rfl ?_
                  refine aw_iload_n d_S_clear_36 rfl ?_
                  refine aw_iconst (v := -1) d_S_clear_37 (by decide) ?_
                  refine mm_iast (show (2 : Int32) = nI 2 from rfl) d_S_clear_38 (by decide) rfl (by decide) (by decide) ?_
                  refine aw_iinc (v := 3) d_S_clear_39 rfl (by decide) (by decide) ?_
                  refine aw_goto (tgt := 27) d_S_clear_42 rfl ?_
                  refine aw_iload_n d_S_clear_27 rfl ?_
                  refine aw_iconst (v := 5) d_S_clear_28 (by decide) ?_
                  refine aw_icmp_ge (tgt := 45) d_S_clear_29 rfl (fun g29 => ?_) (fun g29 => ?_)
                  · exact absurd g29 (by decide)
                  · refine aw_aload_n d_S_clear_32 rfl ?_
                    refine mm_getr (t := 47) f_S_19 d_S_clear_33 (by decide) rfl rfl rfl ?_
                    refine aw_iload_n d_S_clear_36 rfl ?_
                    refine aw_iconst (v := -1) d_S_clear_37 (by decide) ?_
                    refine mm_iast (show (3 : Int32) = nI 3 from rfl) d_S_clear_38 (by decide) rfl (by decide) (by decide) ?_
                    refine aw_iinc (v := 4) d_S_clear_39 rfl (by decide) (by decide) ?_
                    refine aw_goto (tgt := 27) d_S_clear_42 rfl ?_
                    refine aw_iload_n d_S_clear_27 rfl ?_
                    refine aw_iconst (v := 5) d_S_clear_28 (by decide) ?_
                    refine aw_icmp_ge (tgt := 45) d_S_clear_29 rfl (fun g29 => ?_) (fun g29 => ?_)
                    · exact absurd g29 (by decide)
                    · refine aw_aload_n d_S_clear_32 rfl ?_
                      refine mm_getr (t := 47) f_S_19 d_S_clear_33 (by decide) rfl rfl rfl ?_
                      refine aw_iload_n d_S_clear_36 rfl ?_
                      refine aw_iconst (v := -1) d_S_clear_37 (by decide) ?_
                      refine mm_iast (show (4 : Int32) = nI 4 from rfl) d_S_clear_38 (by decide) rfl (by decide) (by decide) ?_
                      refine aw_iinc (v := 5) d_S_clear_39 rfl (by decide) (by decide) ?_
                      refine aw_goto (tgt := 27) d_S_clear_42 rfl ?_
                      refine aw_iload_n d_S_clear_27 rfl ?_
                      refine aw_iconst (v := 5) d_S_clear_28 (by decide) ?_
                      refine aw_icmp_ge (tgt := 45) d_S_clear_29 rfl (fun g29 => ?_) (fun g29 => ?_)
                      · refine aw_vret d_S_clear_45 rfl ?_
                        exact hq
                      · exact absurd g29 (by decide)
          · exact absurd g9 (by decide)
def cp_keep (M : Nat → Nat → Int32) : Nat → Nat → Int32 := (ow_cp (ow_cp (ow_cp (ow_cp (ow_cp (ow_cp (ow_cp (ow_cp (ow_cp (ow_cp (ow_cp (ow_cp (ow_cp (ow_cp (ow_cp (ow_u (ow_u M 26 0 (M 7 0)) 26 1 (M 7 1)) 8 27 24) 9 28 24) 11 30 24) 12 31 24) 13 32 24) 15 34 24) 21 40 24) 16 35 24) 22 41 24) 17 36 24) 23 42 24) 18 37 24) 24 43 24) 19 38 24) 25 44 24)
theorem t_B_copyFrom_keep (hq : Q (.inl none) (mm (cp_keep M) K b)) : MT l Y_B_copyFrom (1, 18) [.ref 26, .ref 7] (mm M K b) Q := by
  refine mt_of (k := 1) (by decide) cd_B_copyFrom.1 (by simp [Value.category]) rfl ?_
  refine aw_aload_n d_B_copyFrom_0 rfl ?_
  refine aw_aload_n d_B_copyFrom_1 rfl ?_
  refine mm_geti f_B_9 d_B_copyFrom_2 (by decide) rfl rfl ?_
  refine mm_puti fw_B_9 d_B_copyFrom_5 (by decide) rfl rfl rfl rfl ?_
  refine aw_aload_n d_B_copyFrom_8 rfl ?_
  refine aw_aload_n d_B_copyFrom_9 rfl ?_
  refine mm_geti f_B_15 d_B_copyFrom_10 (by decide) rfl rfl ?_
  refine mm_puti fw_B_15 d_B_copyFrom_13 (by decide) rfl rfl rfl rfl ?_
  refine aw_aload_n d_B_copyFrom_16 rfl ?_
  refine mm_getr (t := 8) f_B_18 d_B_copyFrom_17 (by decide) rfl rfl rfl ?_
  refine aw_iconst (v := 0) d_B_copyFrom_20 (by decide) ?_
  refine aw_aload_n d_B_copyFrom_21 rfl ?_
  refine mm_getr (t := 27) f_B_18 d_B_copyFrom_22 (by decide) rfl rfl rfl ?_
  refine aw_iconst (v := 0) d_B_copyFrom_25 (by decide) ?_
  refine aw_bipush (v := 24) d_B_copyFrom_26 (by decide) ?_
  refine mm_copy (N := 24) rfl ac_B_36 d_B_copyFrom_28 (by decide) (by decide) rfl rfl (by decide) (by decide) ⟨Nat.le_of_ble_eq_true rfl, Nat.le_of_ble_eq_true rfl⟩ ?_
  refine aw_aload_n d_B_copyFrom_31 rfl ?_
  refine mm_getr (t := 9) f_B_22 d_B_copyFrom_32 (by decide) rfl rfl rfl ?_
  refine aw_iconst (v := 0) d_B_copyFrom_35 (by decide) ?_
  refine aw_aload_n d_B_copyFrom_36 rfl ?_
  refine mm_getr (t := 28) f_B_22 d_B_copyFrom_37 (by decide) rfl rfl rfl ?_
  refine aw_iconst (v := 0) d_B_copyFrom_40 (by decide) ?_
  refine aw_bipush (v := 24) d_B_copyFrom_41 (by decide) ?_
  refine mm_copy (N := 24) rfl ac_B_36 d_B_copyFrom_43 (by decide) (by decide) rfl rfl (by decide) (by decide) ⟨Nat.le_of_ble_eq_true rfl, Nat.le_of_ble_eq_true rfl⟩ ?_
  refine aw_iconst (v := 0) d_B_copyFrom_46 (by decide) ?_
  refine aw_istore_n d_B_copyFrom_47 (by decide) ?_
  refine aw_iload_n d_B_copyFrom_48 rfl ?_
  refine aw_iconst (v := 3) d_B_copyFrom_49 (by decide) ?_
  refine aw_icmp_ge (tgt := 78) d_B_copyFrom_50 rfl (fun g50 => ?_) (fun g50 => ?_)
  · exact absurd g50 (by decide)
  · refine aw_aload_n d_B_copyFrom_53 rfl ?_
    refine mm_getr (t := 10) f_B_27 d_B_copyFrom_54 (by decide) rfl rfl rfl ?_
    refine aw_iload_n d_B_copyFrom_57 rfl ?_
    refine mm_aald (show (0 : Int32) = nI 0 from rfl) d_B_copyFrom_58 (by decide) rfl (show 0 < 3 by decide) (by decide) (rF_fld (show 0 < 3 by decide)) ?_
    refine aw_iconst (v := 0) d_B_copyFrom_59 (by decide) ?_
    refine aw_aload_n d_B_copyFrom_60 rfl ?_
    refine mm_getr (t := 29) f_B_27 d_B_copyFrom_61 (by decide) rfl rfl rfl ?_
    refine aw_iload_n d_B_copyFrom_64 rfl ?_
    refine mm_aald (show (0 : Int32) = nI 0 from rfl) d_B_copyFrom_65 (by decide) rfl (show 0 < 3 by decide) (by decide) (rF_fldK (show 0 < 3 by decide)) ?_
    refine aw_iconst (v := 0) d_B_copyFrom_66 (by decide) ?_
    refine aw_bipush (v := 24) d_B_copyFrom_67 (by decide) ?_
    refine mm_copy (N := 24) rfl ac_B_36 d_B_copyFrom_69 (by decide) (by decide) (kd_fldK (show 0 < 3 by decide)) (kd_fld (show 0 < 3 by decide)) (by decide) (by decide) ⟨Nat.le_of_ble_eq_true rfl, Nat.le_of_ble_eq_true rfl⟩ ?_
    refine aw_iinc (v := 1) d_B_copyFrom_72 rfl (by decide) (by decide) ?_
    refine aw_goto (tgt := 48) d_B_copyFrom_75 rfl ?_
    refine aw_iload_n d_B_copyFrom_48 rfl ?_
    refine aw_iconst (v := 3) d_B_copyFrom_49 (by decide) ?_
    refine aw_icmp_ge (tgt := 78) d_B_copyFrom_50 rfl (fun g50 => ?_) (fun g50 => ?_)
    · exact absurd g50 (by decide)
    · refine aw_aload_n d_B_copyFrom_53 rfl ?_
      refine mm_getr (t := 10) f_B_27 d_B_copyFrom_54 (by decide) rfl rfl rfl ?_
      refine aw_iload_n d_B_copyFrom_57 rfl ?_
      refine mm_aald (show (1 : Int32) = nI 1 from rfl) d_B_copyFrom_58 (by decide) rfl (show 1 < 3 by decide) (by decide) (rF_fld (show 1 < 3 by decide)) ?_
      refine aw_iconst (v := 0) d_B_copyFrom_59 (by decide) ?_
      refine aw_aload_n d_B_copyFrom_60 rfl ?_
      refine mm_getr (t := 29) f_B_27 d_B_copyFrom_61 (by decide) rfl rfl rfl ?_
      refine aw_iload_n d_B_copyFrom_64 rfl ?_
      refine mm_aald (show (1 : Int32) = nI 1 from rfl) d_B_copyFrom_65 (by decide) rfl (show 1 < 3 by decide) (by decide) (rF_fldK (show 1 < 3 by decide)) ?_
      refine aw_iconst (v := 0) d_B_copyFrom_66 (by decide) ?_
      refine aw_bipush (v := 24) d_B_copyFrom_67 (by decide) ?_
      refine mm_copy (N := 24) rfl ac_B_36 d_B_copyFrom_69 (by decide) (by decide) (kd_fldK (show 1 < 3 by decide)) (kd_fld (show 1 < 3 by decide)) (by decide) (by decide) ⟨Nat.le_of_ble_eq_true rfl, Nat.le_of_ble_eq_true rfl⟩ ?_
      refine aw_iinc (v := 2) d_B_copyFrom_72 rfl (by decide) (by decide) ?_
      refine aw_goto (tgt := 48) d_B_copyFrom_75 rfl ?_
      refine aw_iload_n d_B_copyFrom_48 rfl ?_
      refine aw_iconst (v := 3) d_B_copyFrom_49 (by decide) ?_
      refine aw_icmp_ge (tgt := 78) d_B_copyFrom_50 rfl (fun g50 => ?_) (fun g50 => ?_)
      · exact absurd g50 (by decide)
      · refine aw_aload_n d_B_copyFrom_53 rfl ?_
        refine mm_getr (t := 10) f_B_27 d_B_copyFrom_54 (by decide) rfl rfl rfl ?_
        refine aw_iload_n d_B_copyFrom_57 rfl ?_
        refine mm_aald (show (2 : Int32) = nI 2 from rfl) d_B_copyFrom_58 (by decide) rfl (show 2 < 3 by decide) (by decide) (rF_fld (show 2 < 3 by decide)) ?_
        refine aw_iconst (v := 0) d_B_copyFrom_59 (by decide) ?_
        refine aw_aload_n d_B_copyFrom_60 rfl ?_
        refine mm_getr (t := 29) f_B_27 d_B_copyFrom_61 (by decide) rfl rfl rfl ?_
        refine aw_iload_n d_B_copyFrom_64 rfl ?_
        refine mm_aald (show (2 : Int32) = nI 2 from rfl) d_B_copyFrom_65 (by decide) rfl (show 2 < 3 by decide) (by decide) (rF_fldK (show 2 < 3 by decide)) ?_
        refine aw_iconst (v := 0) d_B_copyFrom_66 (by decide) ?_
        refine aw_bipush (v := 24) d_B_copyFrom_67 (by decide) ?_
        refine mm_copy (N := 24) rfl ac_B_36 d_B_copyFrom_69 (by decide) (by decide) (kd_fldK (show 2 < 3 by decide)) (kd_fld (show 2 < 3 by decide)) (by decide) (by decide) ⟨Nat.le_of_ble_eq_true rfl, Nat.le_of_ble_eq_true rfl⟩ ?_
        refine aw_iinc (v := 3) d_B_copyFrom_72 rfl (by decide) (by decide) ?_
        refine aw_goto (tgt := 48) d_B_copyFrom_75 rfl ?_
        refine aw_iload_n d_B_copyFrom_48 rfl ?_
        refine aw_iconst (v := 3) d_B_copyFrom_49 (by decide) ?_
        refine aw_icmp_ge (tgt := 78) d_B_copyFrom_50 rfl (fun g50 => ?_) (fun g50 => ?_)
        · refine aw_iconst (v := 0) d_B_copyFrom_78 (by decide) ?_
          refine aw_istore_n d_B_copyFrom_79 (by decide) ?_
          refine aw_iload_n d_B_copyFrom_80 rfl ?_
          refine aw_iconst (v := 5) d_B_copyFrom_81 (by decide) ?_
          refine aw_icmp_ge (tgt := 129) d_B_copyFrom_82 rfl (fun g82 => ?_) (fun g82 => ?_)
          · exact absurd g82 (by decide)
          · refine aw_aload_n d_B_copyFrom_85 rfl ?_
            refine mm_getr (t := 14) f_B_30 d_B_copyFrom_86 (by decide) rfl rfl rfl ?_
            refine aw_iload_n d_B_copyFrom_89 rfl ?_
            refine mm_aald (show (0 : Int32) = nI 0 from rfl) d_B_copyFrom_90 (by decide) rfl (show 0 < 5 by decide) (by decide) (rF_own (show 0 < 5 by decide)) ?_
            refine aw_iconst (v := 0) d_B_copyFrom_91 (by decide) ?_
            refine aw_aload_n d_B_copyFrom_92 rfl ?_
            refine mm_getr (t := 33) f_B_30 d_B_copyFrom_93 (by decide) rfl rfl rfl ?_
            refine aw_iload_n d_B_copyFrom_96 rfl ?_
            refine mm_aald (show (0 : Int32) = nI 0 from rfl) d_B_copyFrom_97 (by decide) rfl (show 0 < 5 by decide) (by decide) (rF_ownK (show 0 < 5 by decide)) ?_
            refine aw_iconst (v := 0) d_B_copyFrom_98 (by decide) ?_
            refine aw_bipush (v := 24) d_B_copyFrom_99 (by decide) ?_
            refine mm_copy (N := 24) rfl ac_B_36 d_B_copyFrom_101 (by decide) (by decide) (kd_ownK (show 0 < 5 by decide)) (kd_own (show 0 < 5 by decide)) (by decide) (by decide) ⟨Nat.le_of_ble_eq_true rfl, Nat.le_of_ble_eq_true rfl⟩ ?_
            refine aw_aload_n d_B_copyFrom_104 rfl ?_
            refine mm_getr (t := 20) f_B_33 d_B_copyFrom_105 (by decide) rfl rfl rfl ?_
            refine aw_iload_n d_B_copyFrom_108 rfl ?_
            refine mm_aald (show (0 : Int32) = nI 0 from rfl) d_B_copyFrom_109 (by decide) rfl (show 0 < 5 by decide) (by decide) (rF_pos (show 0 < 5 by decide)) ?_
            refine aw_iconst (v := 0) d_B_copyFrom_110 (by decide) ?_
            refine aw_aload_n d_B_copyFrom_111 rfl ?_
            refine mm_getr (t := 39) f_B_33 d_B_copyFrom_112 (by decide) rfl rfl rfl ?_
            refine aw_iload_n d_B_copyFrom_115 rfl ?_
            refine mm_aald (show (0 : Int32) = nI 0 from rfl) d_B_copyFrom_116 (by decide) rfl (show 0 < 5 by decide) (by decide) (rF_posK (show 0 < 5 by decide)) ?_
            refine aw_iconst (v := 0) d_B_copyFrom_117 (by decide) ?_
            refine aw_bipush (v := 24) d_B_copyFrom_118 (by decide) ?_
            refine mm_copy (N := 24) rfl ac_B_36 d_B_copyFrom_120 (by decide) (by decide) (kd_posK (show 0 < 5 by decide)) (kd_pos (show 0 < 5 by decide)) (by decide) (by decide) ⟨Nat.le_of_ble_eq_true rfl, Nat.le_of_ble_eq_true rfl⟩ ?_
            refine aw_iinc (v := 1) d_B_copyFrom_123 rfl (by decide) (by decide) ?_
            refine aw_goto (tgt := 80) d_B_copyFrom_126 rfl ?_
            refine aw_iload_n d_B_copyFrom_80 rfl ?_
            refine aw_iconst (v := 5) d_B_copyFrom_81 (by decide) ?_
            refine aw_icmp_ge (tgt := 129) d_B_copyFrom_82 rfl (fun g82 => ?_) (fun g82 => ?_)
            · exact absurd g82 (by decide)
            · refine aw_aload_n d_B_copyFrom_85 rfl ?_
              refine mm_getr (t := 14) f_B_30 d_B_copyFrom_86 (by decide) rfl rfl rfl ?_
              refine aw_iload_n d_B_copyFrom_89 rfl ?_
              refine mm_aald (show (1 : Int32) = nI 1 from rfl) d_B_copyFrom_90 (by decide) rfl (show 1 < 5 by decide) (by decide) (rF_own (show 1 < 5 by decide)) ?_
              refine aw_iconst (v := 0) d_B_copyFrom_91 (by decide) ?_
              refine aw_aload_n d_B_copyFrom_92 rfl ?_
              refine mm_getr (t := 33) f_B_30 d_B_copyFrom_93 (by decide) rfl rfl rfl ?_
              refine aw_iload_n d_B_copyFrom_96 rfl ?_
              refine mm_aald (show (1 : Int32) = nI 1 from rfl) d_B_copyFrom_97 (by decide) rfl (show 1 < 5 by decide) (by decide) (rF_ownK (show 1 < 5 by decide)) ?_
              refine aw_iconst (v := 0) d_B_copyFrom_98 (by decide) ?_
              refine aw_bipush (v := 24) d_B_copyFrom_99 (by decide) ?_
              refine mm_copy (N := 24) rfl ac_B_36 d_B_copyFrom_101 (by decide) (by decide) (kd_ownK (show 1 < 5 by decide)) (kd_own (show 1 < 5 by decide)) (by decide) (by decide) ⟨Nat.le_of_ble_eq_true rfl, Nat.le_of_ble_eq_true rfl⟩ ?_
              refine aw_aload_n d_B_copyFrom_104 rfl ?_
              refine mm_getr (t := 20) f_B_33 d_B_copyFrom_105 (by decide) rfl rfl rfl ?_
              refine aw_iload_n d_B_copyFrom_108 rfl ?_
              refine mm_aald (show (1 : Int32) = nI 1 from rfl) d_B_copyFrom_109 (by decide) rfl (show 1 < 5 by decide) (by decide) (rF_pos (show 1 < 5 by decide)) ?_
              refine aw_iconst (v := 0) d_B_copyFrom_110 (by decide) ?_
              refine aw_aload_n d_B_copyFrom_111 rfl ?_
              refine mm_getr (t := 39) f_B_33 d_B_copyFrom_112 (by decide) rfl rfl rfl ?_
              refine aw_iload_n d_B_copyFrom_115 rfl ?_
              refine mm_aald (show (1 : Int32) = nI 1 from rfl) d_B_copyFrom_116 (by decide) rfl (show 1 < 5 by decide) (by decide) (rF_posK (show 1 < 5 by decide)) ?_
              refine aw_iconst (v := 0) d_B_copyFrom_117 (by decide) ?_
              refine aw_bipush (v := 24) d_B_copyFrom_118 (by decide) ?_
              refine mm_copy (N := 24) rfl ac_B_36 d_B_copyFrom_120 (by decide) (by decide) (kd_posK (show 1 < 5 by decide)) (kd_pos (show 1 < 5 by decide)) (by decide) (by decide) ⟨Nat.le_of_ble_eq_true rfl, Nat.le_of_ble_eq_true rfl⟩ ?_
              refine aw_iinc (v := 2) d_B_copyFrom_123 rfl (by decide) (by decide) ?_
              refine aw_goto (tgt := 80) d_B_copyFrom_126 rfl ?_
              refine aw_iload_n d_B_copyFrom_80 rfl ?_
              refine aw_iconst (v := 5) d_B_copyFrom_81 (by decide) ?_
              refine aw_icmp_ge (tgt := 129) d_B_copyFrom_82 rfl (fun g82 => ?_) (fun g82 => ?_)
              · exact absurd g82 (by decide)
              · refine aw_aload_n d_B_copyFrom_85 rfl ?_
                refine mm_getr (t := 14) f_B_30 d_B_copyFrom_86 (by decide) rfl rfl rfl ?_
                refine aw_iload_n d_B_copyFrom_89 rfl ?_
                refine mm_aald (show (2 : Int32) = nI 2 from rfl) d_B_copyFrom_90 (by decide) rfl (show 2 < 5 by decide) (by decide) (rF_own (show 2 < 5 by decide)) ?_
                refine aw_iconst (v := 0) d_B_copyFrom_91 (by decide) ?_
                refine aw_aload_n d_B_copyFrom_92 rfl ?_
                refine mm_getr (t := 33) f_B_30 d_B_copyFrom_93 (by decide) rfl rfl rfl ?_
                refine aw_iload_n d_B_copyFrom_96 rfl ?_
                refine mm_aald (show (2 : Int32) = nI 2 from rfl) d_B_copyFrom_97 (by decide) rfl (show 2 < 5 by decide) (by decide) (rF_ownK (show 2 < 5 by decide)) ?_
                refine aw_iconst (v := 0) d_B_copyFrom_98 (by decide) ?_
                refine aw_bipush (v := 24) d_B_copyFrom_99 (by decide) ?_
                refine mm_copy (N := 24) rfl ac_B_36 d_B_copyFrom_101 (by decide) (by decide) (kd_ownK (show 2 < 5 by decide)) (kd_own (show 2 < 5 by decide)) (by decide) (by decide) ⟨Nat.le_of_ble_eq_true rfl, Nat.le_of_ble_eq_true rfl⟩ ?_
                refine aw_aload_n d_B_copyFrom_104 rfl ?_
                refine mm_getr (t := 20) f_B_33 d_B_copyFrom_105 (by decide) rfl rfl rfl ?_
                refine aw_iload_n d_B_copyFrom_108 rfl ?_
                refine mm_aald (show (2 : Int32) = nI 2 from rfl) d_B_copyFrom_109 (by decide) rfl (show 2 < 5 by decide) (by decide) (rF_pos (show 2 < 5 by decide)) ?_
                refine aw_iconst (v := 0) d_B_copyFrom_110 (by decide) ?_
                refine aw_aload_n d_B_copyFrom_111 rfl ?_
                refine mm_getr (t := 39) f_B_33 d_B_copyFrom_112 (by decide) rfl rfl rfl ?_
                refine aw_iload_n d_B_copyFrom_115 rfl ?_
                refine mm_aald (show (2 : Int32) = nI 2 from rfl) d_B_copyFrom_116 (by decide) rfl (show 2 < 5 by decide) (by decide) (rF_posK (show 2 < 5 by decide)) ?_
                refine aw_iconst (v := 0) d_B_copyFrom_117 (by decide) ?_
                refine aw_bipush (v := 24) d_B_copyFrom_118 (by decide) ?_
                refine mm_copy (N := 24) rfl ac_B_36 d_B_copyFrom_120 (by decide) (by decide) (kd_posK (show 2 < 5 by decide)) (kd_pos (show 2 < 5 by decide)) (by decide) (by decide) ⟨Nat.le_of_ble_eq_true rfl, Nat.le_of_ble_eq_true rfl⟩ ?_
                refine aw_iinc (v := 3) d_B_copyFrom_123 rfl (by decide) (by decide) ?_
                refine aw_goto (tgt := 80) d_B_copyFrom_126 rfl ?_
                refine aw_iload_n d_B_copyFrom_80 rfl ?_
                refine aw_iconst (v := 5) d_B_copyFrom_81 (by decide) ?_
                refine aw_icmp_ge (tgt := 129) d_B_copyFrom_82 rfl (fun g82 => ?_) (fun g82 => ?_)
                · exact absurd g82 (by decide)
                · refine aw_aload_n d_B_copyFrom_85 rfl ?_
                  refine mm_getr (t := 14) f_B_30 d_B_copyFrom_86 (by decide) rfl rfl rfl ?_
                  refine aw_iload_n d_B_copyFrom_89 rfl ?_
                  refine mm_aald (show (3 : Int32) = nI 3 from rfl) d_B_copyFrom_90 (by decide) rfl (show 3 < 5 by decide) (by decide) (rF_own (show 3 < 5 by decide)) ?_
                  refine aw_iconst (v := 0) d_B_copyFrom_91 (by decide) ?_
                  refine aw_aload_n d_B_copyFrom_92 rfl ?_
                  refine mm_getr (t := 33) f_B_30 d_B_copyFrom_93 (by decide) rfl rfl rfl ?_
                  refine aw_iload_n d_B_copyFrom_96 rfl ?_
                  refine mm_aald (show (3 : Int32) = nI 3 from rfl) d_B_copyFrom_97 (by decide) rfl (show 3 < 5 by decide) (by decide) (rF_ownK (show 3 < 5 by decide)) ?_
                  refine aw_iconst (v := 0) d_B_copyFrom_98 (by decide) ?_
                  refine aw_bipush (v := 24) d_B_copyFrom_99 (by decide) ?_
                  refine mm_copy (N := 24) rfl ac_B_36 d_B_copyFrom_101 (by decide) (by decide) (kd_ownK (show 3 < 5 by decide)) (kd_own (show 3 < 5 by decide)) (by decide) (by decide) ⟨Nat.le_of_ble_eq_true rfl, Nat.le_of_ble_eq_true rfl⟩ ?_
                  refine aw_aload_n d_B_copyFrom_104 rfl ?_
                  refine mm_getr (t := 20) f_B_33 d_B_copyFrom_105 (by decide) rfl rfl rfl ?_
                  refine aw_iload_n d_B_copyFrom_108 rfl ?_
                  refine mm_aald (show (3 : Int32) = nI 3 from rfl) d_B_copyFrom_109 (by decide) rfl (show 3 < 5 by decide) (by decide) (rF_pos (show 3 < 5 by decide)) ?_
                  refine aw_iconst (v := 0) d_B_copyFrom_110 (by decide) ?_
                  refine aw_aload_n d_B_copyFrom_111 rfl ?_
                  refine mm_getr (t := 39) f_B_33 d_B_copyFrom_112 (by decide) rfl rfl rfl ?_
                  refine aw_iload_n d_B_copyFrom_115 rfl ?_
                  refine mm_aald (show (3 : Int32) = nI 3 from rfl) d_B_copyFrom_116 (by decide) rfl (show 3 < 5 by decide) (by decide) (rF_posK (show 3 < 5 by decide)) ?_
                  refine aw_iconst (v := 0) d_B_copyFrom_117 (by decide) ?_
                  refine aw_bipush (v := 24) d_B_copyFrom_118 (by decide) ?_
                  refine mm_copy (N := 24) rfl ac_B_36 d_B_copyFrom_120 (by decide) (by decide) (kd_posK (show 3 < 5 by decide)) (kd_pos (show 3 < 5 by decide)) (by decide) (by decide) ⟨Nat.le_of_ble_eq_true rfl, Nat.le_of_ble_eq_true rfl⟩ ?_
                  refine aw_iinc (v := 4) d_B_copyFrom_123 rfl (by decide) (by decide) ?_
                  refine aw_goto (tgt := 80) d_B_copyFrom_126 rfl ?_
                  refine aw_iload_n d_B_copyFrom_80 rfl ?_
                  refine aw_iconst (v := 5) d_B_copyFrom_81 (by decide) ?_
                  refine aw_icmp_ge (tgt := 129) d_B_copyFrom_82 rfl (fun g82 => ?_) (fun g82 => ?_)
                  · exact absurd g82 (by decide)
                  · refine aw_aload_n d_B_copyFrom_85 rfl ?_
                    refine mm_getr (t := 14) f_B_30 d_B_copyFrom_86 (by decide) rfl rfl rfl ?_
                    refine aw_iload_n d_B_copyFrom_89 rfl ?_
                    refine mm_aald (show (4 : Int32) = nI 4 from rfl) d_B_copyFrom_90 (by decide) rfl (show 4 < 5 by decide) (by decide) (rF_own (show 4 < 5 by decide)) ?_
                    refine aw_iconst (v := 0) d_B_copyFrom_91 (by decide) ?_
                    refine aw_aload_n d_B_copyFrom_92 rfl ?_
                    refine mm_getr (t := 33) f_B_30 d_B_copyFrom_93 (by decide) rfl rfl rfl ?_
                    refine aw_iload_n d_B_copyFrom_96 rfl ?_
                    refine mm_aald (show (4 : Int32) = nI 4 from rfl) d_B_copyFrom_97 (by decide) rfl (show 4 < 5 by decide) (by decide) (rF_ownK (show 4 < 5 by decide)) ?_
                    refine aw_iconst (v := 0) d_B_copyFrom_98 (by decide) ?_
                    refine aw_bipush (v := 24) d_B_copyFrom_99 (by decide) ?_
                    refine mm_copy (N := 24) rfl ac_B_36 d_B_copyFrom_101 (by decide) (by decide) (kd_ownK (show 4 < 5 by decide)) (kd_own (show 4 < 5 by decide)) (by decide) (by decide) ⟨Nat.le_of_ble_eq_true rfl, Nat.le_of_ble_eq_true rfl⟩ ?_
                    refine aw_aload_n d_B_copyFrom_104 rfl ?_
                    refine mm_getr (t := 20) f_B_33 d_B_copyFrom_105 (by decide) rfl rfl rfl ?_
                    refine aw_iload_n d_B_copyFrom_108 rfl ?_
                    refine mm_aald (show (4 : Int32) = nI 4 from rfl) d_B_copyFrom_109 (by decide) rfl (show 4 < 5 by decide) (by decide) (rF_pos (show 4 < 5 by decide)) ?_
                    refine aw_iconst (v := 0) d_B_copyFrom_110 (by decide) ?_
                    refine aw_aload_n d_B_copyFrom_111 rfl ?_
                    refine mm_getr (t := 39) f_B_33 d_B_copyFrom_112 (by decide) rfl rfl rfl ?_
                    refine aw_iload_n d_B_copyFrom_115 rfl ?_
                    refine mm_aald (show (4 : Int32) = nI 4 from rfl) d_B_copyFrom_116 (by decide) rfl (show 4 < 5 by decide) (by decide) (rF_posK (show 4 < 5 by decide)) ?_
                    refine aw_iconst (v := 0) d_B_copyFrom_117 (by decide) ?_
                    refine aw_bipush (v := 24) d_B_copyFrom_118 (by decide) ?_
                    refine mm_copy (N := 24) rfl ac_B_36 d_B_copyFrom_120 (by decide) (by decide) (kd_posK (show 4 < 5 by decide)) (kd_pos (show 4 < 5 by decide)) (by decide) (by decide) ⟨Nat.le_of_ble_eq_true rfl, Nat.le_of_ble_eq_true rfl⟩ ?_
                    refine aw_iinc (v := 5) d_B_copyFrom_123 rfl (by decide) (by decide) ?_
                    refine aw_goto (tgt := 80) d_B_copyFrom_126 rfl ?_
                    refine aw_iload_n d_B_copyFrom_80 rfl ?_
                    refine aw_iconst (v := 5) d_B_copyFrom_81 (by decide) ?_
                    refine aw_icmp_ge (tgt := 129) d_B_copyFrom_82 rfl (fun g82 => ?_) (fun g82 => ?_)
                    · refine aw_vret d_B_copyFrom_129 rfl ?_
                      exact q_mem hq (by simp [cp_keep, ow_u])
                    · exact absurd g82 (by decide)
        · exact absurd g50 (by decide)
def cp_back (M : Nat → Nat → Int32) : Nat → Nat → Int32 := (ow_cp (ow_cp (ow_cp (ow_cp (ow_cp (ow_cp (ow_cp (ow_cp (ow_cp (ow_cp (ow_cp (ow_cp (ow_cp (ow_cp (ow_cp (ow_u (ow_u M 7 0 (M 26 0)) 7 1 (M 26 1)) 27 8 24) 28 9 24) 30 11 24) 31 12 24) 32 13 24) 34 15 24) 40 21 24) 35 16 24) 41 22 24) 36 17 24) 42 23 24) 37 18 24) 43 24 24) 38 19 24) 44 25 24)
theorem t_B_copyFrom_back (hq : Q (.inl none) (mm (cp_back M) K b)) : MT l Y_B_copyFrom (1, 18) [.ref 7, .ref 26] (mm M K b) Q := by
  refine mt_of (k := 1) (by decide) cd_B_copyFrom.1 (by simp [Value.category]) rfl ?_
  refine aw_aload_n d_B_copyFrom_0 rfl ?_
  refine aw_aload_n d_B_copyFrom_1 rfl ?_
  refine mm_geti f_B_9 d_B_copyFrom_2 (by decide) rfl rfl ?_
  refine mm_puti fw_B_9 d_B_copyFrom_5 (by decide) rfl rfl rfl rfl ?_
  refine aw_aload_n d_B_copyFrom_8 rfl ?_
  refine aw_aload_n d_B_copyFrom_9 rfl ?_
  refine mm_geti f_B_15 d_B_copyFrom_10 (by decide) rfl rfl ?_
  refine mm_puti fw_B_15 d_B_copyFrom_13 (by decide) rfl rfl rfl rfl ?_
  refine aw_aload_n d_B_copyFrom_16 rfl ?_
  refine mm_getr (t := 27) f_B_18 d_B_copyFrom_17 (by decide) rfl rfl rfl ?_
  refine aw_iconst (v := 0) d_B_copyFrom_20 (by decide) ?_
  refine aw_aload_n d_B_copyFrom_21 rfl ?_
  refine mm_getr (t := 8) f_B_18 d_B_copyFrom_22 (by decide) rfl rfl rfl ?_
  refine aw_iconst (v := 0) d_B_copyFrom_25 (by decide) ?_
  refine aw_bipush (v := 24) d_B_copyFrom_26 (by decide) ?_
  refine mm_copy (N := 24) rfl ac_B_36 d_B_copyFrom_28 (by decide) (by decide) rfl rfl (by decide) (by decide) ⟨Nat.le_of_ble_eq_true rfl, Nat.le_of_ble_eq_true rfl⟩ ?_
  refine aw_aload_n d_B_copyFrom_31 rfl ?_
  refine mm_getr (t := 28) f_B_22 d_B_copyFrom_32 (by decide) rfl rfl rfl ?_
  refine aw_iconst (v := 0) d_B_copyFrom_35 (by decide) ?_
  refine aw_aload_n d_B_copyFrom_36 rfl ?_
  refine mm_getr (t := 9) f_B_22 d_B_copyFrom_37 (by decide) rfl rfl rfl ?_
  refine aw_iconst (v := 0) d_B_copyFrom_40 (by decide) ?_
  refine aw_bipush (v := 24) d_B_copyFrom_41 (by decide) ?_
  refine mm_copy (N := 24) rfl ac_B_36 d_B_copyFrom_43 (by decide) (by decide) rfl rfl (by decide) (by decide) ⟨Nat.le_of_ble_eq_true rfl, Nat.le_of_ble_eq_true rfl⟩ ?_
  refine aw_iconst (v := 0) d_B_copyFrom_46 (by decide) ?_
  refine aw_istore_n d_B_copyFrom_47 (by decide) ?_
  refine aw_iload_n d_B_copyFrom_48 rfl ?_
  refine aw_iconst (v := 3) d_B_copyFrom_49 (by decide) ?_
  refine aw_icmp_ge (tgt := 78) d_B_copyFrom_50 rfl (fun g50 => ?_) (fun g50 => ?_)
  · exact absurd g50 (by decide)
  · refine aw_aload_n d_B_copyFrom_53 rfl ?_
    refine mm_getr (t := 29) f_B_27 d_B_copyFrom_54 (by decide) rfl rfl rfl ?_
    refine aw_iload_n d_B_copyFrom_57 rfl ?_
    refine mm_aald (show (0 : Int32) = nI 0 from rfl) d_B_copyFrom_58 (by decide) rfl (show 0 < 3 by decide) (by decide) (rF_fldK (show 0 < 3 by decide)) ?_
    refine aw_iconst (v := 0) d_B_copyFrom_59 (by decide) ?_
    refine aw_aload_n d_B_copyFrom_60 rfl ?_
    refine mm_getr (t := 10) f_B_27 d_B_copyFrom_61 (by decide) rfl rfl rfl ?_
    refine aw_iload_n d_B_copyFrom_64 rfl ?_
    refine mm_aald (show (0 : Int32) = nI 0 from rfl) d_B_copyFrom_65 (by decide) rfl (show 0 < 3 by decide) (by decide) (rF_fld (show 0 < 3 by decide)) ?_
    refine aw_iconst (v := 0) d_B_copyFrom_66 (by decide) ?_
    refine aw_bipush (v := 24) d_B_copyFrom_67 (by decide) ?_
    refine mm_copy (N := 24) rfl ac_B_36 d_B_copyFrom_69 (by decide) (by decide) (kd_fld (show 0 < 3 by decide)) (kd_fldK (show 0 < 3 by decide)) (by decide) (by decide) ⟨Nat.le_of_ble_eq_true rfl, Nat.le_of_ble_eq_true rfl⟩ ?_
    refine aw_iinc (v := 1) d_B_copyFrom_72 rfl (by decide) (by decide) ?_
    refine aw_goto (tgt := 48) d_B_copyFrom_75 rfl ?_
    refine aw_iload_n d_B_copyFrom_48 rfl ?_
    refine aw_iconst (v := 3) d_B_copyFrom_49 (by decide) ?_
    refine aw_icmp_ge (tgt := 78) d_B_copyFrom_50 rfl (fun g50 => ?_) (fun g50 => ?_)
    · exact absurd g50 (by decide)
    · refine aw_aload_n d_B_copyFrom_53 rfl ?_
      refine mm_getr (t := 29) f_B_27 d_B_copyFrom_54 (by decide) rfl rfl rfl ?_
      refine aw_iload_n d_B_copyFrom_57 rfl ?_
      refine mm_aald (show (1 : Int32) = nI 1 from rfl) d_B_copyFrom_58 (by decide) rfl (show 1 < 3 by decide) (by decide) (rF_fldK (show 1 < 3 by decide)) ?_
      refine aw_iconst (v := 0) d_B_copyFrom_59 (by decide) ?_
      refine aw_aload_n d_B_copyFrom_60 rfl ?_
      refine mm_getr (t := 10) f_B_27 d_B_copyFrom_61 (by decide) rfl rfl rfl ?_
      refine aw_iload_n d_B_copyFrom_64 rfl ?_
      refine mm_aald (show (1 : Int32) = nI 1 from rfl) d_B_copyFrom_65 (by decide) rfl (show 1 < 3 by decide) (by decide) (rF_fld (show 1 < 3 by decide)) ?_
      refine aw_iconst (v := 0) d_B_copyFrom_66 (by decide) ?_
      refine aw_bipush (v := 24) d_B_copyFrom_67 (by decide) ?_
      refine mm_copy (N := 24) rfl ac_B_36 d_B_copyFrom_69 (by decide) (by decide) (kd_fld (show 1 < 3 by decide)) (kd_fldK (show 1 < 3 by decide)) (by decide) (by decide) ⟨Nat.le_of_ble_eq_true rfl, Nat.le_of_ble_eq_true rfl⟩ ?_
      refine aw_iinc (v := 2) d_B_copyFrom_72 rfl (by decide) (by decide) ?_
      refine aw_goto (tgt := 48) d_B_copyFrom_75 rfl ?_
      refine aw_iload_n d_B_copyFrom_48 rfl ?_
      refine aw_iconst (v := 3) d_B_copyFrom_49 (by decide) ?_
      refine aw_icmp_ge (tgt := 78) d_B_copyFrom_50 rfl (fun g50 => ?_) (fun g50 => ?_)
      · exact absurd g50 (by decide)
      · refine aw_aload_n d_B_copyFrom_53 rfl ?_
        refine mm_getr (t := 29) f_B_27 d_B_copyFrom_54 (by decide) rfl rfl rfl ?_
        refine aw_iload_n d_B_copyFrom_57 rfl ?_
        refine mm_aald (show (2 : Int32) = nI 2 from rfl) d_B_copyFrom_58 (by decide) rfl (show 2 < 3 by decide) (by decide) (rF_fldK (show 2 < 3 by decide)) ?_
        refine aw_iconst (v := 0) d_B_copyFrom_59 (by decide) ?_
        refine aw_aload_n d_B_copyFrom_60 rfl ?_
        refine mm_getr (t := 10) f_B_27 d_B_copyFrom_61 (by decide) rfl rfl rfl ?_
        refine aw_iload_n d_B_copyFrom_64 rfl ?_
        refine mm_aald (show (2 : Int32) = nI 2 from rfl) d_B_copyFrom_65 (by decide) rfl (show 2 < 3 by decide) (by decide) (rF_fld (show 2 < 3 by decide)) ?_
        refine aw_iconst (v := 0) d_B_copyFrom_66 (by decide) ?_
        refine aw_bipush (v := 24) d_B_copyFrom_67 (by decide) ?_
        refine mm_copy (N := 24) rfl ac_B_36 d_B_copyFrom_69 (by decide) (by decide) (kd_fld (show 2 < 3 by decide)) (kd_fldK (show 2 < 3 by decide)) (by decide) (by decide) ⟨Nat.le_of_ble_eq_true rfl, Nat.le_of_ble_eq_true rfl⟩ ?_
        refine aw_iinc (v := 3) d_B_copyFrom_72 rfl (by decide) (by decide) ?_
        refine aw_goto (tgt := 48) d_B_copyFrom_75 rfl ?_
        refine aw_iload_n d_B_copyFrom_48 rfl ?_
        refine aw_iconst (v := 3) d_B_copyFrom_49 (by decide) ?_
        refine aw_icmp_ge (tgt := 78) d_B_copyFrom_50 rfl (fun g50 => ?_) (fun g50 => ?_)
        · refine aw_iconst (v := 0) d_B_copyFrom_78 (by decide) ?_
          refine aw_istore_n d_B_copyFrom_79 (by decide) ?_
          refine aw_iload_n d_B_copyFrom_80 rfl ?_
          refine aw_iconst (v := 5) d_B_copyFrom_81 (by decide) ?_
          refine aw_icmp_ge (tgt := 129) d_B_copyFrom_82 rfl (fun g82 => ?_) (fun g82 => ?_)
          · exact absurd g82 (by decide)
          · refine aw_aload_n d_B_copyFrom_85 rfl ?_
            refine mm_getr (t := 33) f_B_30 d_B_copyFrom_86 (by decide) rfl rfl rfl ?_
            refine aw_iload_n d_B_copyFrom_89 rfl ?_
            refine mm_aald (show (0 : Int32) = nI 0 from rfl) d_B_copyFrom_90 (by decide) rfl (show 0 < 5 by decide) (by decide) (rF_ownK (show 0 < 5 by decide)) ?_
            refine aw_iconst (v := 0) d_B_copyFrom_91 (by decide) ?_
            refine aw_aload_n d_B_copyFrom_92 rfl ?_
            refine mm_getr (t := 14) f_B_30 d_B_copyFrom_93 (by decide) rfl rfl rfl ?_
            refine aw_iload_n d_B_copyFrom_96 rfl ?_
            refine mm_aald (show (0 : Int32) = nI 0 from rfl) d_B_copyFrom_97 (by decide) rfl (show 0 < 5 by decide) (by decide) (rF_own (show 0 < 5 by decide)) ?_
            refine aw_iconst (v := 0) d_B_copyFrom_98 (by decide) ?_
            refine aw_bipush (v := 24) d_B_copyFrom_99 (by decide) ?_
            refine mm_copy (N := 24) rfl ac_B_36 d_B_copyFrom_101 (by decide) (by decide) (kd_own (show 0 < 5 by decide)) (kd_ownK (show 0 < 5 by decide)) (by decide) (by decide) ⟨Nat.le_of_ble_eq_true rfl, Nat.le_of_ble_eq_true rfl⟩ ?_
            refine aw_aload_n d_B_copyFrom_104 rfl ?_
            refine mm_getr (t := 39) f_B_33 d_B_copyFrom_105 (by decide) rfl rfl rfl ?_
            refine aw_iload_n d_B_copyFrom_108 rfl ?_
            refine mm_aald (show (0 : Int32) = nI 0 from rfl) d_B_copyFrom_109 (by decide) rfl (show 0 < 5 by decide) (by decide) (rF_posK (show 0 < 5 by decide)) ?_
            refine aw_iconst (v := 0) d_B_copyFrom_110 (by decide) ?_
            refine aw_aload_n d_B_copyFrom_111 rfl ?_
            refine mm_getr (t := 20) f_B_33 d_B_copyFrom_112 (by decide) rfl rfl rfl ?_
            refine aw_iload_n d_B_copyFrom_115 rfl ?_
            refine mm_aald (show (0 : Int32) = nI 0 from rfl) d_B_copyFrom_116 (by decide) rfl (show 0 < 5 by decide) (by decide) (rF_pos (show 0 < 5 by decide)) ?_
            refine aw_iconst (v := 0) d_B_copyFrom_117 (by decide) ?_
            refine aw_bipush (v := 24) d_B_copyFrom_118 (by decide) ?_
            refine mm_copy (N := 24) rfl ac_B_36 d_B_copyFrom_120 (by decide) (by decide) (kd_pos (show 0 < 5 by decide)) (kd_posK (show 0 < 5 by decide)) (by decide) (by decide) ⟨Nat.le_of_ble_eq_true rfl, Nat.le_of_ble_eq_true rfl⟩ ?_
            refine aw_iinc (v := 1) d_B_copyFrom_123 rfl (by decide) (by decide) ?_
            refine aw_goto (tgt := 80) d_B_copyFrom_126 rfl ?_
            refine aw_iload_n d_B_copyFrom_80 rfl ?_
            refine aw_iconst (v := 5) d_B_copyFrom_81 (by decide) ?_
            refine aw_icmp_ge (tgt := 129) d_B_copyFrom_82 rfl (fun g82 => ?_) (fun g82 => ?_)
            · exact absurd g82 (by decide)
            · refine aw_aload_n d_B_copyFrom_85 rfl ?_
              refine mm_getr (t := 33) f_B_30 d_B_copyFrom_86 (by decide) rfl rfl rfl ?_
              refine aw_iload_n d_B_copyFrom_89 rfl ?_
              refine mm_aald (show (1 : Int32) = nI 1 from rfl) d_B_copyFrom_90 (by decide) rfl (show 1 < 5 by decide) (by decide) (rF_ownK (show 1 < 5 by decide)) ?_
              refine aw_iconst (v := 0) d_B_copyFrom_91 (by decide) ?_
              refine aw_aload_n d_B_copyFrom_92 rfl ?_
              refine mm_getr (t := 14) f_B_30 d_B_copyFrom_93 (by decide) rfl rfl rfl ?_
              refine aw_iload_n d_B_copyFrom_96 rfl ?_
              refine mm_aald (show (1 : Int32) = nI 1 from rfl) d_B_copyFrom_97 (by decide) rfl (show 1 < 5 by decide) (by decide) (rF_own (show 1 < 5 by decide)) ?_
              refine aw_iconst (v := 0) d_B_copyFrom_98 (by decide) ?_
              refine aw_bipush (v := 24) d_B_copyFrom_99 (by decide) ?_
              refine mm_copy (N := 24) rfl ac_B_36 d_B_copyFrom_101 (by decide) (by decide) (kd_own (show 1 < 5 by decide)) (kd_ownK (show 1 < 5 by decide)) (by decide) (by decide) ⟨Nat.le_of_ble_eq_true rfl, Nat.le_of_ble_eq_true rfl⟩ ?_
              refine aw_aload_n d_B_copyFrom_104 rfl ?_
              refine mm_getr (t := 39) f_B_33 d_B_copyFrom_105 (by decide) rfl rfl rfl ?_
              refine aw_iload_n d_B_copyFrom_108 rfl ?_
              refine mm_aald (show (1 : Int32) = nI 1 from rfl) d_B_copyFrom_109 (by decide) rfl (show 1 < 5 by decide) (by decide) (rF_posK (show 1 < 5 by decide)) ?_
              refine aw_iconst (v := 0) d_B_copyFrom_110 (by decide) ?_
              refine aw_aload_n d_B_copyFrom_111 rfl ?_
              refine mm_getr (t := 20) f_B_33 d_B_copyFrom_112 (by decide) rfl rfl rfl ?_
              refine aw_iload_n d_B_copyFrom_115 rfl ?_
              refine mm_aald (show (1 : Int32) = nI 1 from rfl) d_B_copyFrom_116 (by decide) rfl (show 1 < 5 by decide) (by decide) (rF_pos (show 1 < 5 by decide)) ?_
              refine aw_iconst (v := 0) d_B_copyFrom_117 (by decide) ?_
              refine aw_bipush (v := 24) d_B_copyFrom_118 (by decide) ?_
              refine mm_copy (N := 24) rfl ac_B_36 d_B_copyFrom_120 (by decide) (by decide) (kd_pos (show 1 < 5 by decide)) (kd_posK (show 1 < 5 by decide)) (by decide) (by decide) ⟨Nat.le_of_ble_eq_true rfl, Nat.le_of_ble_eq_true rfl⟩ ?_
              refine aw_iinc (v := 2) d_B_copyFrom_123 rfl (by decide) (by decide) ?_
              refine aw_goto (tgt := 80) d_B_copyFrom_126 rfl ?_
              refine aw_iload_n d_B_copyFrom_80 rfl ?_
              refine aw_iconst (v := 5) d_B_copyFrom_81 (by decide) ?_
              refine aw_icmp_ge (tgt := 129) d_B_copyFrom_82 rfl (fun g82 => ?_) (fun g82 => ?_)
              · exact absurd g82 (by decide)
              · refine aw_aload_n d_B_copyFrom_85 rfl ?_
                refine mm_getr (t := 33) f_B_30 d_B_copyFrom_86 (by decide) rfl rfl rfl ?_
                refine aw_iload_n d_B_copyFrom_89 rfl ?_
                refine mm_aald (show (2 : Int32) = nI 2 from rfl) d_B_copyFrom_90 (by decide) rfl (show 2 < 5 by decide) (by decide) (rF_ownK (show 2 < 5 by decide)) ?_
                refine aw_iconst (v := 0) d_B_copyFrom_91 (by decide) ?_
                refine aw_aload_n d_B_copyFrom_92 rfl ?_
                refine mm_getr (t := 14) f_B_30 d_B_copyFrom_93 (by decide) rfl rfl rfl ?_
                refine aw_iload_n d_B_copyFrom_96 rfl ?_
                refine mm_aald (show (2 : Int32) = nI 2 from rfl) d_B_copyFrom_97 (by decide) rfl (show 2 < 5 by decide) (by decide) (rF_own (show 2 < 5 by decide)) ?_
                refine aw_iconst (v := 0) d_B_copyFrom_98 (by decide) ?_
                refine aw_bipush (v := 24) d_B_copyFrom_99 (by decide) ?_
                refine mm_copy (N := 24) rfl ac_B_36 d_B_copyFrom_101 (by decide) (by decide) (kd_own (show 2 < 5 by decide)) (kd_ownK (show 2 < 5 by decide)) (by decide) (by decide) ⟨Nat.le_of_ble_eq_true rfl, Nat.le_of_ble_eq_true rfl⟩ ?_
                refine aw_aload_n d_B_copyFrom_104 rfl ?_
                refine mm_getr (t := 39) f_B_33 d_B_copyFrom_105 (by decide) rfl rfl rfl ?_
                refine aw_iload_n d_B_copyFrom_108 rfl ?_
                refine mm_aald (show (2 : Int32) = nI 2 from rfl) d_B_copyFrom_109 (by decide) rfl (show 2 < 5 by decide) (by decide) (rF_posK (show 2 < 5 by decide)) ?_
                refine aw_iconst (v := 0) d_B_copyFrom_110 (by decide) ?_
                refine aw_aload_n d_B_copyFrom_111 rfl ?_
                refine mm_getr (t := 20) f_B_33 d_B_copyFrom_112 (by decide) rfl rfl rfl ?_
                refine aw_iload_n d_B_copyFrom_115 rfl ?_
                refine mm_aald (show (2 : Int32) = nI 2 from rfl) d_B_copyFrom_116 (by decide) rfl (show 2 < 5 by decide) (by decide) (rF_pos (show 2 < 5 by decide)) ?_
                refine aw_iconst (v := 0) d_B_copyFrom_117 (by decide) ?_
                refine aw_bipush (v := 24) d_B_copyFrom_118 (by decide) ?_
                refine mm_copy (N := 24) rfl ac_B_36 d_B_copyFrom_120 (by decide) (by decide) (kd_pos (show 2 < 5 by decide)) (kd_posK (show 2 < 5 by decide)) (by decide) (by decide) ⟨Nat.le_of_ble_eq_true rfl, Nat.le_of_ble_eq_true rfl⟩ ?_
                refine aw_iinc (v := 3) d_B_copyFrom_123 rfl (by decide) (by decide) ?_
                refine aw_goto (tgt := 80) d_B_copyFrom_126 rfl ?_
                refine aw_iload_n d_B_copyFrom_80 rfl ?_
                refine aw_iconst (v := 5) d_B_copyFrom_81 (by decide) ?_
                refine aw_icmp_ge (tgt := 129) d_B_copyFrom_82 rfl (fun g82 => ?_) (fun g82 => ?_)
                · exact absurd g82 (by decide)
                · refine aw_aload_n d_B_copyFrom_85 rfl ?_
                  refine mm_getr (t := 33) f_B_30 d_B_copyFrom_86 (by decide) rfl rfl rfl ?_
                  refine aw_iload_n d_B_copyFrom_89 rfl ?_
                  refine mm_aald (show (3 : Int32) = nI 3 from rfl) d_B_copyFrom_90 (by decide) rfl (show 3 < 5 by decide) (by decide) (rF_ownK (show 3 < 5 by decide)) ?_
                  refine aw_iconst (v := 0) d_B_copyFrom_91 (by decide) ?_
                  refine aw_aload_n d_B_copyFrom_92 rfl ?_
                  refine mm_getr (t := 14) f_B_30 d_B_copyFrom_93 (by decide) rfl rfl rfl ?_
                  refine aw_iload_n d_B_copyFrom_96 rfl ?_
                  refine mm_aald (show (3 : Int32) = nI 3 from rfl) d_B_copyFrom_97 (by decide) rfl (show 3 < 5 by decide) (by decide) (rF_own (show 3 < 5 by decide)) ?_
                  refine aw_iconst (v := 0) d_B_copyFrom_98 (by decide) ?_
                  refine aw_bipush (v := 24) d_B_copyFrom_99 (by decide) ?_
                  refine mm_copy (N := 24) rfl ac_B_36 d_B_copyFrom_101 (by decide) (by decide) (kd_own (show 3 < 5 by decide)) (kd_ownK (show 3 < 5 by decide)) (by decide) (by decide) ⟨Nat.le_of_ble_eq_true rfl, Nat.le_of_ble_eq_true rfl⟩ ?_
                  refine aw_aload_n d_B_copyFrom_104 rfl ?_
                  refine mm_getr (t := 39) f_B_33 d_B_copyFrom_105 (by decide) rfl rfl rfl ?_
                  refine aw_iload_n d_B_copyFrom_108 rfl ?_
                  refine mm_aald (show (3 : Int32) = nI 3 from rfl) d_B_copyFrom_109 (by decide) rfl (show 3 < 5 by decide) (by decide) (rF_posK (show 3 < 5 by decide)) ?_
                  refine aw_iconst (v := 0) d_B_copyFrom_110 (by decide) ?_
                  refine aw_aload_n d_B_copyFrom_111 rfl ?_
                  refine mm_getr (t := 20) f_B_33 d_B_copyFrom_112 (by decide) rfl rfl rfl ?_
                  refine aw_iload_n d_B_copyFrom_115 rfl ?_
                  refine mm_aald (show (3 : Int32) = nI 3 from rfl) d_B_copyFrom_116 (by decide) rfl (show 3 < 5 by decide) (by decide) (rF_pos (show 3 < 5 by decide)) ?_
                  refine aw_iconst (v := 0) d_B_copyFrom_117 (by decide) ?_
                  refine aw_bipush (v := 24) d_B_copyFrom_118 (by decide) ?_
                  refine mm_copy (N := 24) rfl ac_B_36 d_B_copyFrom_120 (by decide) (by decide) (kd_pos (show 3 < 5 by decide)) (kd_posK (show 3 < 5 by decide)) (by decide) (by decide) ⟨Nat.le_of_ble_eq_true rfl, Nat.le_of_ble_eq_true rfl⟩ ?_
                  refine aw_iinc (v := 4) d_B_copyFrom_123 rfl (by decide) (by decide) ?_
                  refine aw_goto (tgt := 80) d_B_copyFrom_126 rfl ?_
                  refine aw_iload_n d_B_copyFrom_80 rfl ?_
                  refine aw_iconst (v := 5) d_B_copyFrom_81 (by decide) ?_
                  refine aw_icmp_ge (tgt := 129) d_B_copyFrom_82 rfl (fun g82 => ?_) (fun g82 => ?_)
                  · exact absurd g82 (by decide)
                  · refine aw_aload_n d_B_copyFrom_85 rfl ?_
                    refine mm_getr (t := 33) f_B_30 d_B_copyFrom_86 (by decide) rfl rfl rfl ?_
                    refine aw_iload_n d_B_copyFrom_89 rfl ?_
                    refine mm_aald (show (4 : Int32) = nI 4 from rfl) d_B_copyFrom_90 (by decide) rfl (show 4 < 5 by decide) (by decide) (rF_ownK (show 4 < 5 by decide)) ?_
                    refine aw_iconst (v := 0) d_B_copyFrom_91 (by decide) ?_
                    refine aw_aload_n d_B_copyFrom_92 rfl ?_
                    refine mm_getr (t := 14) f_B_30 d_B_copyFrom_93 (by decide) rfl rfl rfl ?_
                    refine aw_iload_n d_B_copyFrom_96 rfl ?_
                    refine mm_aald (show (4 : Int32) = nI 4 from rfl) d_B_copyFrom_97 (by decide) rfl (show 4 < 5 by decide) (by decide) (rF_own (show 4 < 5 by decide)) ?_
                    refine aw_iconst (v := 0) d_B_copyFrom_98 (by decide) ?_
                    refine aw_bipush (v := 24) d_B_copyFrom_99 (by decide) ?_
                    refine mm_copy (N := 24) rfl ac_B_36 d_B_copyFrom_101 (by decide) (by decide) (kd_own (show 4 < 5 by decide)) (kd_ownK (show 4 < 5 by decide)) (by decide) (by decide) ⟨Nat.le_of_ble_eq_true rfl, Nat.le_of_ble_eq_true rfl⟩ ?_
                    refine aw_aload_n d_B_copyFrom_104 rfl ?_
                    refine mm_getr (t := 39) f_B_33 d_B_copyFrom_105 (by decide) rfl rfl rfl ?_
                    refine aw_iload_n d_B_copyFrom_108 rfl ?_
                    refine mm_aald (show (4 : Int32) = nI 4 from rfl) d_B_copyFrom_109 (by decide) rfl (show 4 < 5 by decide) (by decide) (rF_posK (show 4 < 5 by decide)) ?_
                    refine aw_iconst (v := 0) d_B_copyFrom_110 (by decide) ?_
                    refine aw_aload_n d_B_copyFrom_111 rfl ?_
                    refine mm_getr (t := 20) f_B_33 d_B_copyFrom_112 (by decide) rfl rfl rfl ?_
                    refine aw_iload_n d_B_copyFrom_115 rfl ?_
                    refine mm_aald (show (4 : Int32) = nI 4 from rfl) d_B_copyFrom_116 (by decide) rfl (show 4 < 5 by decide) (by decide) (rF_pos (show 4 < 5 by decide)) ?_
                    refine aw_iconst (v := 0) d_B_copyFrom_117 (by decide) ?_
                    refine aw_bipush (v := 24) d_B_copyFrom_118 (by decide) ?_
                    refine mm_copy (N := 24) rfl ac_B_36 d_B_copyFrom_120 (by decide) (by decide) (kd_pos (show 4 < 5 by decide)) (kd_posK (show 4 < 5 by decide)) (by decide) (by decide) ⟨Nat.le_of_ble_eq_true rfl, Nat.le_of_ble_eq_true rfl⟩ ?_
                    refine aw_iinc (v := 5) d_B_copyFrom_123 rfl (by decide) (by decide) ?_
                    refine aw_goto (tgt := 80) d_B_copyFrom_126 rfl ?_
                    refine aw_iload_n d_B_copyFrom_80 rfl ?_
                    refine aw_iconst (v := 5) d_B_copyFrom_81 (by decide) ?_
                    refine aw_icmp_ge (tgt := 129) d_B_copyFrom_82 rfl (fun g82 => ?_) (fun g82 => ?_)
                    · refine aw_vret d_B_copyFrom_129 rfl ?_
                      exact q_mem hq (by simp [cp_back, ow_u])
                    · exact absurd g82 (by decide)
        · exact absurd g50 (by decide)
end TBase2
