/-! OwnerRings: what its own methods do, fourth part -/
theorem POK.congr {M M' : Nat → Nat → Int32} {s : Nat} (h : POK M s) (e1 : M' 47 s = M 47 s) (e2 : M' (21 + s) = M (21 + s)) : POK M' s := by
  unfold POK; rw [e1, e2]; exact h
def stR (M : Nat → Nat → Int32) (g : Int32) : Nat → Nat → Int32 := if 0 ≤ M 45 0 ∧ ¬ (g >>> (M 45 0 &&& 31)) &&& 1 = 0 then ow_u M 45 0 (-1) else M
def stT (M : Nat → Nat → Int32) (g : Int32) : Nat → Nat → Nat → Int32
  | 0 => M
  | t + 1 => if 0 ≤ stT M g t 46 t ∧ ¬ (g >>> (stT M g t 46 t &&& 31)) &&& 1 = 0 then ow_u (stT M g t) 46 t (-1) else stT M g t
def stS (M : Nat → Nat → Int32) (g : Int32) : Nat → Nat → Nat → Int32
  | 0 => M
  | i + 1 => sbk (stS M g i) i g
def stW (M : Nat → Nat → Int32) (g : Int32) (tc sc : Nat) : Nat → Nat → Int32 := stS (stT (stR M g) g tc) g sc
theorem stR_ne {M : Nat → Nat → Int32} {g : Int32} {c : Nat} (h : c ≠ 45) : stR M g c = M c := by
  unfold stR; split
  · exact ow_u_ne h
  · rfl
theorem stT_ne {M : Nat → Nat → Int32} {g : Int32} {t c : Nat} (h : c ≠ 46) : stT M g t c = M c := by
  induction t with
  | zero => rfl
  | succ t ih => simp only [stT]; split
                 · rw [ow_u_ne h]; exact ih
                 · exact ih
theorem sbk_ne {M : Nat → Nat → Int32} {s c : Nat} {g : Int32} (h : c ≠ 47) : sbk M s g c = M c := by
  unfold sbk; split
  · rfl
  · split <;> exact ow_u_ne h
theorem ow_u_at {M : Nat → Nat → Int32} {c j j' : Nat} {x : Int32} (h : j' ≠ j) : ow_u M c j x c j' = M c j' := by
  rw [ow_u_eq]; simp [upd, h]
theorem sbk_47 {M : Nat → Nat → Int32} {s s' : Nat} {g : Int32} (h : s' ≠ s) : sbk M s g 47 s' = M 47 s' := by
  unfold sbk; split
  · rfl
  · split <;> exact ow_u_at h
theorem stS_ne {M : Nat → Nat → Int32} {g : Int32} {i c : Nat} (h : c ≠ 47) : stS M g i c = M c := by
  induction i with
  | zero => rfl
  | succ i ih => simp only [stS]; rw [sbk_ne h]; exact ih
theorem stS_47 {M : Nat → Nat → Int32} {g : Int32} {i s : Nat} (h : i ≤ s) : stS M g i 47 s = M 47 s := by
  induction i with
  | zero => rfl
  | succ i ih => simp only [stS]; rw [sbk_47 (by omega)]; exact ih (by omega)
theorem CI.kR {M : Nat → Nat → Int32} {tc sc : Nat} {g : Int32} (h : CI M tc sc) : CI (stR M g) tc sc :=
  h.congr (stR_ne (by decide)) (stR_ne (by decide)) (fun p hp => by rw [stR_ne (by decide)]; exact h.ty hp) (by
    unfold stR; split
    · rw [ow_u_eq]; simp [upd]; exact Or.inl rfl
    · exact h.run) (fun t ht => by rw [stR_ne (by decide)]; exact h.ofT ht) (fun s hs => by rw [stR_ne (by decide)]; exact h.ofS hs) (fun s hs p hp => by rw [stR_ne (by omega)]; exact h.own hs hp)
theorem CI.kT {M : Nat → Nat → Int32} {tc sc : Nat} {g : Int32} (h : CI M tc sc) (i : Nat) : CI (stT M g i) tc sc := by
  refine h.congr (stT_ne (by decide)) (stT_ne (by decide)) (fun p hp => by rw [stT_ne (by decide)]; exact h.ty hp) (by rw [stT_ne (by decide)]; exact h.run) ?_ (fun s hs => by rw [stT_ne (by decide)]; exact h.ofS hs) (fun s hs p hp => by rw [stT_ne (by omega)]; exact h.own hs hp)
  induction i with
  | zero => exact fun t ht => h.ofT ht
  | succ i ih =>
    intro t ht
    simp only [stT]
    split
    · rw [ow_u_eq]
      by_cases e : t = i
      · subst e; simp [upd]; exact Or.inl rfl
      · simp [upd, e]; exact ih t ht
    · exact ih t ht
theorem CI.kS {M : Nat → Nat → Int32} {tc sc : Nat} {g : Int32} (h : CI M tc sc) {i : Nat} (hi : i ≤ 5) : CI (stS M g i) tc sc := by
  induction i with
  | zero => exact h
  | succ i ih => exact (ih (by omega)).sb (by omega)
theorem CI.kW {M : Nat → Nat → Int32} {tc sc : Nat} {g : Int32} (h : CI M tc sc) : CI (stW M g tc sc) tc sc := (h.kR.kT tc).kS h.s5
/-- those that leave a set -/
def rmP (M : Nat → Nat → Int32) (s : Nat) (lv : Int32) : Nat → Nat → Nat → Int32
  | 0 => M
  | p + 1 => if 0 ≤ nI p ∧ ¬ (lv >>> (nI p &&& 31)) &&& 1 = 0 then takM (rmP M s lv p) s p else rmP M s lv p
def rmS (M : Nat → Nat → Int32) (g : Int32) : Nat → Nat → Nat → Int32
  | 0 => M
  | i + 1 => rmP (rmS M g i) i (g ||| mob (rmS M g i) i g 24) 24
def drP (M : Nat → Nat → Int32) (g : Int32) : Nat → Nat → Nat → Int32
  | 0 => M
  | p + 1 => if 0 ≤ nI p ∧ ¬ (g >>> (nI p &&& 31)) &&& 1 = 0 then ow_u (ow_u (drP M g p) 8 p 0) 7 0 (drP M g p 7 0 - 1) else drP M g p
def rmA (M : Nat → Nat → Int32) (g : Int32) (sc : Nat) : Nat → Nat → Int32 := drP (rmS M g sc) g 24
theorem CI.kP {M : Nat → Nat → Int32} {tc sc s : Nat} {lv : Int32} (h : CI M tc sc) (hs : s < 5) (p : Nat) : CI (rmP M s lv p) tc sc := by
  induction p with
  | zero => exact h
  | succ p ih => simp only [rmP]; split
                 · exact ih.tak hs
                 · exact ih
theorem CI.kM {M : Nat → Nat → Int32} {tc sc : Nat} {g : Int32} (h : CI M tc sc) {i : Nat} (hi : i ≤ 5) : CI (rmS M g i) tc sc := by
  induction i with
  | zero => exact h
  | succ i ih => exact (ih (by omega)).kP (by omega) 24
theorem CI.drp1 {M : Nat → Nat → Int32} {tc sc p : Nat} {x y : Int32} (h : CI M tc sc) : CI (ow_u (ow_u M 8 p x) 7 0 y) tc sc := by
  have e : ∀ c, c ≠ 7 → c ≠ 8 → ow_u (ow_u M 8 p x) 7 0 y c = M c := fun c h1 h2 => by rw [ow_u_ne h1, ow_u_ne h2]
  exact h.congr (e 1 (by decide) (by decide)) (e 5 (by decide) (by decide)) (fun q hq => by rw [e 9 (by decide) (by decide)]; exact h.ty hq) (by rw [e 45 (by decide) (by decide)]; exact h.run) (fun t ht => by rw [e 46 (by decide) (by decide)]; exact h.ofT ht) (fun s hs => by rw [e 47 (by decide) (by decide)]; exact h.ofS hs) (fun s hs q hq => by rw [e (15 + s) (by omega) (by omega)]; exact h.own hs hq)
def ow_ush (x n : Int32) : Int32 := (x.toUInt32 >>> (n.toUInt32 &&& Int32.toUInt32 31)).toInt32
/-- Integer.bitCount as it counts -/
def bc1 (x : Int32) : Int32 := x - (ow_ush x 1 &&& 1431655765)
def bc2 (x : Int32) : Int32 := (x &&& 858993459) + (ow_ush x 2 &&& 858993459)
def bc3 (x : Int32) : Int32 := (x + ow_ush x 4) &&& 252645135
def bc4 (x : Int32) : Int32 := x + ow_ush x 8
def bc5 (x : Int32) : Int32 := x + ow_ush x 16
def bcv (x : Int32) : Int32 := bc5 (bc4 (bc3 (bc2 (bc1 x)))) &&& 63
section TOwn4
variable {l : Launch} {Q : ow_R → ow_M → Prop} {M : Nat → Nat → Int32} {K : Int64} {b : Nat} {tc sc : Nat}
/-- I_bitCount -/
theorem t_I_bitCount {x : Int32} (hq : Q (.inl (some (bcv x))) (mm M K b)) : MT l Y_I_bitCount (0, 0) [.int x] (mm M K b) Q := by
  refine mt_of (k := 0) (by decide) cd_I_bitCount.1 (by simp [Value.category]) rfl ?_
  refine aw_iload_n d_I_bitCount_0 rfl ?_
  refine aw_iload_n d_I_bitCount_1 rfl ?_
  refine aw_iconst (v := 1) d_I_bitCount_2 (by decide) ?_
  refine aw_iushr d_I_bitCount_3 ?_
  refine aw_ldcw k_I_265 d_I_bitCount_4 ?_
  refine aw_iand d_I_bitCount_7 ?_
  refine aw_isub d_I_bitCount_8 ?_
  refine aw_istore_n d_I_bitCount_9 (by decide) ?_
  refine aw_iload_n d_I_bitCount_10 rfl ?_
  refine aw_ldcw k_I_266 d_I_bitCount_11 ?_
  refine aw_iand d_I_bitCount_14 ?_
  refine aw_iload_n d_I_bitCount_15 rfl ?_
  refine aw_iconst (v := 2) d_I_bitCount_16 (by decide) ?_
  refine aw_iushr d_I_bitCount_17 ?_
  refine aw_ldcw k_I_266 d_I_bitCount_18 ?_
  refine aw_iand d_I_bitCount_21 ?_
  refine aw_iadd d_I_bitCount_22 ?_
  refine aw_istore_n d_I_bitCount_23 (by decide) ?_
  refine aw_iload_n d_I_bitCount_24 rfl ?_
  refine aw_iload_n d_I_bitCount_25 rfl ?_
  refine aw_iconst (v := 4) d_I_bitCount_26 (by decide) ?_
  refine aw_iushr d_I_bitCount_27 ?_
  refine aw_iadd d_I_bitCount_28 ?_
  refine aw_ldcw k_I_267 d_I_bitCount_29 ?_
  refine aw_iand d_I_bitCount_32 ?_
  refine aw_istore_n d_I_bitCount_33 (by decide) ?_
  refine aw_iload_n d_I_bitCount_34 rfl ?_
  refine aw_iload_n d_I_bitCount_35 rfl ?_
  refine aw_bipush (v := 8) d_I_bitCount_36 (by decide) ?_
  refine aw_iushr d_I_bitCount_38 ?_
  refine aw_iadd d_I_bitCount_39 ?_
  refine aw_istore_n d_I_bitCount_40 (by decide) ?_
  refine aw_iload_n d_I_bitCount_41 rfl ?_
  refine aw_iload_n d_I_bitCount_42 rfl ?_
  refine aw_bipush (v := 16) d_I_bitCount_43 (by decide) ?_
  refine aw_iushr d_I_bitCount_45 ?_
  refine aw_iadd d_I_bitCount_46 ?_
  refine aw_istore_n d_I_bitCount_47 (by decide) ?_
  refine aw_iload_n d_I_bitCount_48 rfl ?_
  refine aw_bipush (v := 63) d_I_bitCount_49 (by decide) ?_
  refine aw_iand d_I_bitCount_51 ?_
  refine aw_iret d_I_bitCount_52 rfl rfl ?_
  exact hq
theorem t_R_standWithout {g : Int32} (hC : CI M tc sc) (hP : ∀ s, s < 5 → POK M s) (hq : Q (.inl none) (mm (stW M g tc sc) K b)) : MT l Y_R_standWithout (2, 34) [.ref 0, .int g] (mm M K b) Q := by
  refine mt_of (k := 1) (by decide) cd_R_standWithout.1 (by simp [Value.category]) rfl ?_
  have lp2 : ∀ i, i ≤ sc → AW l Y_R_standWithout none (2, 34) Q 69 [some (.ref 0), some (.int g), some (.int (nI i))] [] (mm (stS (stT (stR M g) g tc) g i) K b) := by
    refine loop_dn sc (fun i hi ih => ?_)
    have hi6 : i ≤ 5 := by have := hC.s5; omega
    have hCi := ((hC.kR (g := g)).kT (g := g) tc).kS (g := g) hi6
    refine aw_iload_n d_R_standWithout_69 rfl ?_
    refine aw_aload_n d_R_standWithout_70 rfl ?_
    refine mm_getr (t := 1) f_R_10 d_R_standWithout_71 (by decide) rfl rfl rfl ?_
    refine mm_geti f_R_69 d_R_standWithout_74 (by decide) rfl rfl ?_
    refine aw_icmp_ge (tgt := 92) d_R_standWithout_77 rfl (fun g77 => ?_) (fun g77 => ?_)
    · have hi2 := ge_n (n := sc) hCi.sc hi (by have := hC.s5; omega) g77
      subst hi2
      refine aw_vret d_R_standWithout_92 rfl ?_
      exact hq
    · have hi2 := lt_n (n := sc) hCi.sc hi (by have := hC.s5; omega) g77
      have hi5 : i < 5 := by have := hC.s5; omega
      have hPi : POK (stS (stT (stR M g) g tc) g i) i := (hP i hi5).congr (by rw [stS_47 (Nat.le_refl _), stT_ne (by decide), stR_ne (by decide)]) (by rw [stS_ne (by omega), stT_ne (by omega), stR_ne (by omega)])
      refine aw_aload_n d_R_standWithout_80 rfl ?_
      refine aw_iload_n d_R_standWithout_81 rfl ?_
      refine aw_iload_n d_R_standWithout_82 rfl ?_
      refine aw_cV2 (d' := (1, 18)) d_R_standWithout_83 lk_R_206 cd_R_stepBack (Nat.le_of_ble_eq_true rfl) rfl rfl ⟨Nat.le_of_ble_eq_true rfl, Nat.le_of_ble_eq_true rfl⟩ (fun _ h => nomatch h) ?_
      refine t_R_stepBack hCi hi5 hPi ?_
      refine ow_next_v ?_
      refine aw_iinc (v := nI (i + 1)) d_R_standWithout_86 rfl (nI_succ i).symm (by decide) ?_
      refine aw_goto (tgt := 69) d_R_standWithout_89 rfl ?_
      exact ih hi2
  have lp1 : ∀ i, i ≤ tc → AW l Y_R_standWithout none (2, 34) Q 24 [some (.ref 0), some (.int g), some (.int (nI i))] [] (mm (stT (stR M g) g i) K b) := by
    refine loop_dn tc (fun i hi ih => ?_)
    have hi6 : i ≤ 4 := by have := hC.t4; omega
    have hCi := (hC.kR (g := g)).kT (g := g) i
    refine aw_iload_n d_R_standWithout_24 rfl ?_
    refine aw_aload_n d_R_standWithout_25 rfl ?_
    refine mm_getr (t := 1) f_R_10 d_R_standWithout_26 (by decide) rfl rfl rfl ?_
    refine mm_geti f_R_44 d_R_standWithout_29 (by decide) rfl rfl ?_
    refine aw_icmp_ge (tgt := 67) d_R_standWithout_32 rfl (fun g32 => ?_) (fun g32 => ?_)
    · have hi2 := ge_n (n := tc) hCi.tc hi (by have := hC.t4; omega) g32
      subst hi2
      refine aw_iconst (v := 0) d_R_standWithout_67 (by decide) ?_
      refine aw_istore_n d_R_standWithout_68 (by decide) ?_
      exact lp2 0 (by omega)
    · have hi2 := lt_n (n := tc) hCi.tc hi (by have := hC.t4; omega) g32
      have hi5 : i < 4 := by have := hC.t4; omega
      refine aw_iload_n d_R_standWithout_35 rfl ?_
      refine aw_aload_n d_R_standWithout_36 rfl ?_
      refine mm_getr (t := 45) f_R_29 d_R_standWithout_37 (by decide) rfl rfl rfl ?_
      refine mm_getr (t := 46) f_R_167 d_R_standWithout_40 (by decide) rfl rfl rfl ?_
      refine aw_iload_n d_R_standWithout_43 rfl ?_
      refine mm_iald rfl d_R_standWithout_44 (by decide) rfl (by omega) (by decide) ?_
      refine aw_cS2 (d' := (0, 0)) d_R_standWithout_45 lk_R_296 cd_R_hasBit ⟨Nat.le_of_ble_eq_true rfl, Nat.le_of_ble_eq_true rfl⟩ (fun _ h => nomatch h) ?_
      refine t_R_hasBit ?_
      refine ow_next_i ?_
      refine aw_if_eq (tgt := 61) d_R_standWithout_48 rfl (fun g48 => ?_) (fun g48 => ?_)
      · refine aw_iinc (v := nI (i + 1)) d_R_standWithout_61 rfl (nI_succ i).symm (by decide) ?_
        refine aw_goto (tgt := 24) d_R_standWithout_64 rfl ?_
        first
          | (rw [show stT (stR M g) g (i + 1) = stT (stR M g) g i from by simp only [stT]; rw [if_neg (by grind)]] at ih; exact ih hi2)
          | (rw [show stT (stR M g) g (i + 1) = ow_u (stT (stR M g) g i) 46 i (-1) from by simp only [stT]; rw [if_pos (by grind)]] at ih; exact ih hi2)
      · refine aw_aload_n d_R_standWithout_51 rfl ?_
        refine mm_getr (t := 45) f_R_29 d_R_standWithout_52 (by decide) rfl rfl rfl ?_
        refine mm_getr (t := 46) f_R_167 d_R_standWithout_55 (by decide) rfl rfl rfl ?_
        refine aw_iload_n d_R_standWithout_58 rfl ?_
        refine aw_iconst (v := -1) d_R_standWithout_59 (by decide) ?_
        refine mm_iast rfl d_R_standWithout_60 (by decide) rfl (by omega) (by decide) ?_
        refine aw_iinc (v := nI (i + 1)) d_R_standWithout_61 rfl (nI_succ i).symm (by decide) ?_
        refine aw_goto (tgt := 24) d_R_standWithout_64 rfl ?_
        first
          | (rw [show stT (stR M g) g (i + 1) = stT (stR M g) g i from by simp only [stT]; rw [if_neg (by grind)]] at ih; exact ih hi2)
          | (rw [show stT (stR M g) g (i + 1) = ow_u (stT (stR M g) g i) 46 i (-1) from by simp only [stT]; rw [if_pos (by grind)]] at ih; exact ih hi2)
  refine aw_iload_n d_R_standWithout_0 rfl ?_
  refine aw_aload_n d_R_standWithout_1 rfl ?_
  refine mm_getr (t := 45) f_R_29 d_R_standWithout_2 (by decide) rfl rfl rfl ?_
  refine mm_geti f_R_161 d_R_standWithout_5 (by decide) rfl rfl ?_
  refine aw_cS2 (d' := (0, 0)) d_R_standWithout_8 lk_R_296 cd_R_hasBit ⟨Nat.le_of_ble_eq_true rfl, Nat.le_of_ble_eq_true rfl⟩ (fun _ h => nomatch h) ?_
  refine t_R_hasBit ?_
  refine ow_next_i ?_
  refine aw_if_eq (tgt := 22) d_R_standWithout_11 rfl (fun g11 => ?_) (fun g11 => ?_)
  · refine aw_iconst (v := 0) d_R_standWithout_22 (by decide) ?_
    refine aw_istore_n d_R_standWithout_23 (by decide) ?_
    first
      | (rw [show stR M g = M from by unfold stR; rw [if_neg (by grind)]] at lp1; exact lp1 0 (by omega))
      | (rw [show stR M g = ow_u M 45 0 (-1) from by unfold stR; rw [if_pos (by grind)]] at lp1; exact lp1 0 (by omega))
  · refine aw_aload_n d_R_standWithout_14 rfl ?_
    refine mm_getr (t := 45) f_R_29 d_R_standWithout_15 (by decide) rfl rfl rfl ?_
    refine aw_iconst (v := -1) d_R_standWithout_18 (by decide) ?_
    refine mm_puti fw_R_161 d_R_standWithout_19 (by decide) rfl rfl rfl rfl ?_
    refine aw_iconst (v := 0) d_R_standWithout_22 (by decide) ?_
    refine aw_istore_n d_R_standWithout_23 (by decide) ?_
    first
      | (rw [show stR M g = M from by unfold stR; rw [if_neg (by grind)]] at lp1; exact lp1 0 (by omega))
      | (rw [show stR M g = ow_u M 45 0 (-1) from by unfold stR; rw [if_pos (by grind)]] at lp1; exact lp1 0 (by omega))
theorem t_R_removeAll {g : Int32} (hC : CI M tc sc) (hq : Q (.inl none) (mm (rmA M g sc) K b)) : MT l Y_R_removeAll (2, 33) [.ref 0, .int g] (mm M K b) Q := by
  refine mt_of (k := 3) (by decide) cd_R_removeAll.1 (by simp [Value.category]) rfl ?_
  have lp3 : ∀ i, i ≤ 24 → ∀ w3 w4 : Option Value, AW l Y_R_removeAll none (2, 33) Q 68 [some (.ref 0), some (.int g), some (.int (nI i)), w3, w4] [] (mm (drP (rmS M g sc) g i) K b) := by
    refine loop_dn 24 (fun i hi ih => ?_)
    intro w3 w4
    refine aw_iload_n d_R_removeAll_68 rfl ?_
    refine aw_bipush (v := 24) d_R_removeAll_69 (by decide) ?_
    refine aw_icmp_ge (tgt := 96) d_R_removeAll_71 rfl (fun g71 => ?_) (fun g71 => ?_)
    · have hi2 := ge_n (n := 24) rfl hi (by omega) g71
      subst hi2
      refine aw_vret d_R_removeAll_96 rfl ?_
      exact hq
    · have hi2 := lt_n (n := 24) rfl hi (by omega) g71
      refine aw_iload_n d_R_removeAll_74 rfl ?_
      refine aw_iload_n d_R_removeAll_75 rfl ?_
      refine aw_cS2 (d' := (0, 0)) d_R_removeAll_76 lk_R_296 cd_R_hasBit ⟨Nat.le_of_ble_eq_true rfl, Nat.le_of_ble_eq_true rfl⟩ (fun _ h => nomatch h) ?_
      refine t_R_hasBit ?_
      refine ow_next_i ?_
      refine aw_if_eq (tgt := 90) d_R_removeAll_79 rfl (fun g79 => ?_) (fun g79 => ?_)
      · refine aw_iinc (v := nI (i + 1)) d_R_removeAll_90 rfl (nI_succ i).symm (by decide) ?_
        refine aw_goto (tgt := 68) d_R_removeAll_93 rfl ?_
        first
          | (rw [show drP (rmS M g sc) g (i + 1) = drP (rmS M g sc) g i from by simp only [drP]; rw [if_neg (by grind)]] at ih; exact ih hi2 _ _)
          | (rw [show drP (rmS M g sc) g (i + 1) = ow_u (ow_u (drP (rmS M g sc) g i) 8 i 0) 7 0 (drP (rmS M g sc) g i 7 0 - 1) from by simp only [drP]; rw [if_pos (by grind)]] at ih; exact ih hi2 _ _)
      · refine aw_aload_n d_R_removeAll_82 rfl ?_
        refine mm_getr (t := 7) f_R_19 d_R_removeAll_83 (by decide) rfl rfl rfl ?_
        refine aw_iload_n d_R_removeAll_86 rfl ?_
        refine aw_cV1 (d' := (0, 0)) d_R_removeAll_87 lk_R_317 cd_B_dropRecord (Nat.le_of_ble_eq_true rfl) rfl rfl ⟨Nat.le_of_ble_eq_true rfl, Nat.le_of_ble_eq_true rfl⟩ (fun _ h => nomatch h) ?_
        refine t_B_dropRecord hi2 ?_
        refine ow_next_v ?_
        refine aw_iinc (v := nI (i + 1)) d_R_removeAll_90 rfl (nI_succ i).symm (by decide) ?_
        refine aw_goto (tgt := 68) d_R_removeAll_93 rfl ?_
        first
          | (rw [show drP (rmS M g sc) g (i + 1) = drP (rmS M g sc) g i from by simp only [drP]; rw [if_neg (by grind)]] at ih; exact ih hi2 _ _)
          | (rw [show drP (rmS M g sc) g (i + 1) = ow_u (ow_u (drP (rmS M g sc) g i) 8 i 0) 7 0 (drP (rmS M g sc) g i 7 0 - 1) from by simp only [drP]; rw [if_pos (by grind)]] at ih; exact ih hi2 _ _)
  have lp1 : ∀ i, i ≤ sc → ∀ w3 w4 : Option Value, AW l Y_R_removeAll none (2, 33) Q 2 [some (.ref 0), some (.int g), some (.int (nI i)), w3, w4] [] (mm (rmS M g i) K b) := by
    refine loop_dn sc (fun i hi ih => ?_)
    intro w3 w4
    have hi6 : i ≤ 5 := by have := hC.s5; omega
    have hCi := hC.kM (g := g) hi6
    have lp2 : i < sc → i < 5 → ∀ q, q ≤ 24 → AW l Y_R_removeAll none (2, 33) Q 28 [some (.ref 0), some (.int g), some (.int (nI i)), some (.int (g ||| mob (rmS M g i) i g 24)), some (.int (nI q))] [] (mm (rmP (rmS M g i) i (g ||| mob (rmS M g i) i g 24) q) K b) := by
      intro hi2 hi5
      refine loop_dn 24 (fun q hq2 ih2 => ?_)
      refine aw_iload d_R_removeAll_28 rfl ?_
      refine aw_bipush (v := 24) d_R_removeAll_30 (by decide) ?_
      refine aw_icmp_ge (tgt := 60) d_R_removeAll_32 rfl (fun g32 => ?_) (fun g32 => ?_)
      · have hq3 := ge_n (n := 24) rfl hq2 (by omega) g32
        subst hq3
        refine aw_iinc (v := nI (i + 1)) d_R_removeAll_60 rfl (nI_succ i).symm (by decide) ?_
        refine aw_goto (tgt := 2) d_R_removeAll_63 rfl ?_
        exact ih hi2 _ _
      · have hq3 := lt_n (n := 24) rfl hq2 (by omega) g32
        refine aw_iload_n d_R_removeAll_35 rfl ?_
        refine aw_iload d_R_removeAll_36 rfl ?_
        refine aw_cS2 (d' := (0, 0)) d_R_removeAll_38 lk_R_296 cd_R_hasBit ⟨Nat.le_of_ble_eq_true rfl, Nat.le_of_ble_eq_true rfl⟩ (fun _ h => nomatch h) ?_
        refine t_R_hasBit ?_
        refine ow_next_i ?_
        refine aw_if_eq (tgt := 54) d_R_removeAll_41 rfl (fun g41 => ?_) (fun g41 => ?_)
        · refine aw_iinc (v := nI (q + 1)) d_R_removeAll_54 rfl (nI_succ q).symm (by decide) ?_
          refine aw_goto (tgt := 28) d_R_removeAll_57 rfl ?_
          first
            | (rw [show rmP (rmS M g i) i (g ||| mob (rmS M g i) i g 24) (q + 1) = rmP (rmS M g i) i (g ||| mob (rmS M g i) i g 24) q from by simp only [rmP]; rw [if_neg (by grind)]] at ih2; exact ih2 hq3)
            | (rw [show rmP (rmS M g i) i (g ||| mob (rmS M g i) i g 24) (q + 1) = takM (rmP (rmS M g i) i (g ||| mob (rmS M g i) i g 24) q) i q from by simp only [rmP]; rw [if_pos (by grind)]] at ih2; exact ih2 hq3)
        · refine aw_aload_n d_R_removeAll_44 rfl ?_
          refine mm_getr (t := 7) f_R_19 d_R_removeAll_45 (by decide) rfl rfl rfl ?_
          refine aw_iload_n d_R_removeAll_48 rfl ?_
          refine aw_iload d_R_removeAll_49 rfl ?_
          refine aw_cV2 (d' := (1, 17)) d_R_removeAll_51 lk_R_209 cd_B_takeOut (Nat.le_of_ble_eq_true rfl) rfl rfl ⟨Nat.le_of_ble_eq_true rfl, Nat.le_of_ble_eq_true rfl⟩ (fun _ h => nomatch h) ?_
          refine t_B_takeOut hi5 hq3 ?_
          refine ow_next_v ?_
          refine aw_iinc (v := nI (q + 1)) d_R_removeAll_54 rfl (nI_succ q).symm (by decide) ?_
          refine aw_goto (tgt := 28) d_R_removeAll_57 rfl ?_
          first
            | (rw [show rmP (rmS M g i) i (g ||| mob (rmS M g i) i g 24) (q + 1) = rmP (rmS M g i) i (g ||| mob (rmS M g i) i g 24) q from by simp only [rmP]; rw [if_neg (by grind)]] at ih2; exact ih2 hq3)
            | (rw [show rmP (rmS M g i) i (g ||| mob (rmS M g i) i g 24) (q + 1) = takM (rmP (rmS M g i) i (g ||| mob (rmS M g i) i g 24) q) i q from by simp only [rmP]; rw [if_pos (by grind)]] at ih2; exact ih2 hq3)
    refine aw_iload_n d_R_removeAll_2 rfl ?_
    refine aw_aload_n d_R_removeAll_3 rfl ?_
    refine mm_getr (t := 1) f_R_10 d_R_removeAll_4 (by decide) rfl rfl rfl ?_
    refine mm_geti f_R_69 d_R_removeAll_7 (by decide) rfl rfl ?_
    refine aw_icmp_ge (tgt := 66) d_R_removeAll_10 rfl (fun g10 => ?_) (fun g10 => ?_)
    · have hi2 := ge_n (n := sc) hCi.sc hi (by have := hC.s5; omega) g10
      subst hi2
      refine aw_iconst (v := 0) d_R_removeAll_66 (by decide) ?_
      refine aw_istore_n d_R_removeAll_67 (by decide) ?_
      exact lp3 0 (by omega) _ _
    · have hi2 := lt_n (n := sc) hCi.sc hi (by have := hC.s5; omega) g10
      have hi5 : i < 5 := by have := hC.s5; omega
      refine aw_iload_n d_R_removeAll_13 rfl ?_
      refine aw_aload_n d_R_removeAll_14 rfl ?_
      refine mm_getr (t := 7) f_R_19 d_R_removeAll_15 (by decide) rfl rfl rfl ?_
      refine aw_iload_n d_R_removeAll_18 rfl ?_
      refine aw_iload_n d_R_removeAll_19 rfl ?_
      refine aw_cV2 (d' := (1, 13)) d_R_removeAll_20 lk_R_314 cd_B_membersOwnedBy (Nat.le_of_ble_eq_true rfl) rfl rfl ⟨Nat.le_of_ble_eq_true rfl, Nat.le_of_ble_eq_true rfl⟩ (fun _ h => nomatch h) ?_
      refine t_B_membersOwnedBy hi5 ?_
      refine ow_next_i ?_
      refine aw_ior d_R_removeAll_23 ?_
      refine aw_istore_n d_R_removeAll_24 (by decide) ?_
      refine aw_iconst (v := 0) d_R_removeAll_25 (by decide) ?_
      refine aw_istore d_R_removeAll_26 (by decide) ?_
      exact lp2 hi2 hi5 0 (by omega)
  refine aw_iconst (v := 0) d_R_removeAll_0 (by decide) ?_
  refine aw_istore_n d_R_removeAll_1 (by decide) ?_
  exact lp1 0 (by omega) _ _
end TOwn4
