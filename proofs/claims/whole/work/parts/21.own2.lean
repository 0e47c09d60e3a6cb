/-! OwnerRings: what its own methods do, second part -/
theorem q_val {Q : ow_R → ow_M → Prop} {u : ow_M} {v v' : Int32} (h : Q (.inl (some v)) u) (e : v' = v) : Q (.inl (some v')) u := e ▸ h
/-- the place of the member of a ring at a position, among the places below i, or -1 -/
def mat (M : Nat → Nat → Int32) (s : Nat) (ow x : Int32) : Nat → Int32
  | 0 => -1
  | i + 1 => if mat M s ow x i = -1 then (if M (15 + s) i = ow ∧ M (21 + s) i = x then nI i else -1) else mat M s ow x i
theorem mat_no {M : Nat → Nat → Int32} {s : Nat} {ow x : Int32} {i : Nat} (h : ∀ k, k < i → ¬ (M (15 + s) k = ow ∧ M (21 + s) k = x)) : mat M s ow x i = -1 := by
  induction i with
  | zero => rfl
  | succ i ih =>
    simp only [mat]
    rw [if_pos (ih (fun k hk => h k (by omega))), if_neg (h i (by omega))]
theorem mat_is {M : Nat → Nat → Int32} {s : Nat} {ow x : Int32} {k : Nat} (hk : k < 24) (h1 : M (15 + s) k = ow) (h2 : M (21 + s) k = x) (h : ∀ j, j < k → ¬ (M (15 + s) j = ow ∧ M (21 + s) j = x)) : ∀ i, k < i → i ≤ 24 → mat M s ow x i = nI k := by
  intro i
  induction i with
  | zero => intro h; omega
  | succ i ih =>
    intro hi h24
    simp only [mat]
    by_cases hik : i = k
    · subst hik
      rw [if_pos (mat_no h), if_pos ⟨h1, h2⟩]
    · rw [ih (by omega) (by omega), if_neg (nI_m1 (by omega))]
theorem mat_plc (M : Nat → Nat → Int32) (s : Nat) (ow x : Int32) : plc (mat M s ow x 24) := by
  have key : ∀ i, i ≤ 24 → plc (mat M s ow x i) := by
    intro i
    induction i with
    | zero => intro _; exact Or.inl rfl
    | succ i ih =>
      intro hi
      simp only [mat]
      split
      · split
        · exact Or.inr ⟨i, by omega, rfl⟩
        · exact Or.inl rfl
      · exact ih (by omega)
  exact key 24 (Nat.le_refl _)
theorem t_B_memberAtF {l : Launch} {Q : ow_R → ow_M → Prop} {M : Nat → Nat → Int32} {K : Int64} {b s : Nat} {ow x : Int32} (hs : s < 5) (hq : Q (.inl (some (mat M s ow x 24))) (mm M K b)) : MT l Y_B_memberAt (0, 0) [.ref 7, .int (nI s), .int ow, .int x] (mm M K b) Q :=
  t_B_memberAt hs (fun h => q_val hq (mat_no h).symm) (fun _ hk h1 h2 h => q_val hq (mat_is hk h1 h2 h 24 (by omega) (Nat.le_refl _)).symm)
def bes (M : Nat → Nat → Int32) (s : Nat) (ow : Int32) : Prop := ¬ M 47 s = -1 ∧ M (15 + s) (M 47 s).toNatClampNeg = ow
def szr (M : Nat → Nat → Int32) (s : Nat) (ow : Int32) : Int32 := nI (cn (fun p => M (15 + s) p == ow) 24)
def bfr (M : Nat → Nat → Int32) (s p : Nat) (ow : Int32) (q : Nat) : Bool := (decide (M (11 + sfv M s) q < M (11 + sfv M s) p) || (decide (20 ≤ M 5 s) && (M (11 + sfv M s) q == M (11 + sfv M s) p))) && (M (15 + s) q == ow)
def pbo (M : Nat → Nat → Int32) (s p : Nat) (ow : Int32) : Int32 :=
  if M 5 s = 0 then 0 else if M 5 s = 1 then szr M s ow
  else if M 5 s = 2 then (if ¬ M 47 s = -1 ∧ M (15 + s) (M 47 s).toNatClampNeg = ow then M (21 + s) (M 47 s).toNatClampNeg + 1 else 0)
  else if M 5 s = 3 then (if ¬ M 47 s = -1 ∧ M (15 + s) (M 47 s).toNatClampNeg = ow then M (21 + s) (M 47 s).toNatClampNeg else szr M s ow)
  else nI (cn (bfr M s p ow) 24)
def jonM (M : Nat → Nat → Int32) (s p : Nat) (ow : Int32) : Nat → Nat → Int32 := putM M s p ow (pbo M s p ow)
theorem ord5 {x : Int32} (h : (0 ≤ x ∧ x ≤ 3) ∨ (10 ≤ x ∧ ∃ f, f < 3 ∧ x - x / 10 * 10 = nI f)) : x = 0 ∨ x = 1 ∨ x = 2 ∨ x = 3 ∨ 10 ≤ x := by
  rcases h with ⟨h1, h2⟩ | ⟨h1, -⟩
  · obtain ⟨j, hj, rfl⟩ := nI_ix (x := x) (n := 4) h1 (by have : nI 4 = 4 := rfl; rw [this]; grind) (by decide)
    rcases (show j = 0 ∨ j = 1 ∨ j = 2 ∨ j = 3 by omega) with rfl | rfl | rfl | rfl
    · exact Or.inl rfl
    · exact Or.inr (Or.inl rfl)
    · exact Or.inr (Or.inr (Or.inl rfl))
    · exact Or.inr (Or.inr (Or.inr (Or.inl rfl)))
  · exact Or.inr (Or.inr (Or.inr (Or.inr h1)))
theorem i10 {x : Int32} (h : 10 ≤ x) : 3 < x.toInt := by
  have h1 := Int32.le_iff_toInt_le.mp h
  have e : (10 : Int32).toInt = 10 := by decide
  omega
/-- what came: the sets below i -/
def comS (M : Nat → Nat → Int32) (p : Nat) (stay t : Int32) : Nat → Nat → Nat → Int32
  | 0 => M
  | i + 1 => if (M 3 i = t ∨ ¬ M (15 + i) p = -1) ∧ ¬ (0 ≤ nI i ∧ ¬ (stay >>> (nI i &&& 31)) &&& 1 = 0) then ow_u (comS M p stay t i) 47 i (nI p) else comS M p stay t i
theorem comS_ne {M : Nat → Nat → Int32} {p : Nat} {stay t : Int32} {i c : Nat} (h : c ≠ 47) : comS M p stay t i c = M c := by
  induction i with
  | zero => rfl
  | succ i ih =>
    simp only [comS]
    split
    · rw [ow_u_ne h]; exact ih
    · exact ih
def comM (M : Nat → Nat → Int32) (p : Nat) (stay : Int32) (sc : Nat) : Nat → Nat → Int32 := comS (ow_u (ow_u M 45 0 (nI p)) 46 (M 9 p).toNatClampNeg (nI p)) p stay (M 9 p) sc
theorem CI.congr {M M' : Nat → Nat → Int32} {tc sc : Nat} (h : CI M tc sc) (e1 : M' 1 = M 1) (e5 : M' 5 = M 5) (e9 : ∀ p, p < 24 → ∃ t, t < 4 ∧ M' 9 p = nI t) (e45 : plc (M' 45 0)) (e46 : ∀ t, t < 4 → plc (M' 46 t)) (e47 : ∀ s, s < 5 → plc (M' 47 s)) (e15 : ∀ s, s < 5 → ∀ p, p < 24 → plc (M' (15 + s) p)) : CI M' tc sc := by
  obtain ⟨h1, h2, h3, h4, -, -, -, -, -, h10⟩ := h
  exact ⟨h1, h2, by rw [e1]; exact h3, by rw [e1]; exact h4, e45, e46, e47, e15, e9, by rw [e5]; exact h10⟩
theorem CI.rows {M M' : Nat → Nat → Int32} {tc sc : Nat} (h : CI M tc sc) (e : ∀ c, c < 15 ∨ 25 < c → M' c = M c) (e15 : ∀ s, s < 5 → ∀ p, p < 24 → plc (M' (15 + s) p)) : CI M' tc sc :=
  h.congr (e 1 (by omega)) (e 5 (by omega)) (fun p hp => by rw [e 9 (by omega)]; exact h.ty hp) (by rw [e 45 (by omega)]; exact h.run) (fun t ht => by rw [e 46 (by omega)]; exact h.ofT ht) (fun s hs => by rw [e 47 (by omega)]; exact h.ofS hs) e15
theorem CI.shf {M : Nat → Nat → Int32} {tc sc s i : Nat} {ow fr by_ : Int32} (h : CI M tc sc) (hs : s < 5) : CI (shf M s ow fr by_ i) tc sc :=
  h.rows (fun c hc => shf_own (by omega)) (fun s' hs' p hp => by rw [shf_own (by omega)]; exact h.own hs' hp)
theorem CI.u15 {M : Nat → Nat → Int32} {tc sc s p : Nat} {x : Int32} (h : CI M tc sc) (hs : s < 5) (hx : plc x) : CI (ow_u M (15 + s) p x) tc sc :=
  h.rows (fun c hc => ow_u_ne (by omega)) (fun s' hs' q hq => by
    by_cases e : s' = s
    · subst e
      rw [ow_u_eq]
      by_cases e2 : q = p
      · subst e2; simp [upd]; exact hx
      · simp [upd, e2]; exact h.own hs' hq
    · rw [ow_u_ne (by omega)]; exact h.own hs' hq)
theorem CI.u21 {M : Nat → Nat → Int32} {tc sc s p : Nat} {x : Int32} (h : CI M tc sc) (hs : s < 5) : CI (ow_u M (21 + s) p x) tc sc :=
  h.rows (fun c hc => ow_u_ne (by omega)) (fun s' hs' q hq => by rw [ow_u_ne (by omega)]; exact h.own hs' hq)
theorem CI.put {M : Nat → Nat → Int32} {tc sc s p : Nat} {ow k : Int32} (h : CI M tc sc) (hs : s < 5) (hx : plc ow) : CI (putM M s p ow k) tc sc := ((h.shf hs).u15 hs hx).u21 hs
theorem CI.tak {M : Nat → Nat → Int32} {tc sc s p : Nat} (h : CI M tc sc) (hs : s < 5) : CI (takM M s p) tc sc := by
  unfold takM
  split
  · exact h
  · exact ((h.u15 hs (Or.inl rfl)).u21 hs).shf hs
/-- a record sorted again, in the sets below i -/
def srtS (M : Nat → Nat → Int32) (p : Nat) (f : Int32) : Nat → Nat → Nat → Int32
  | 0 => M
  | i + 1 => if (10 ≤ M 5 i ∧ M 5 i - M 5 i / 10 * 10 = f) ∧ ¬ srtS M p f i (15 + i) p = -1 then jonM (takM (srtS M p f i) i p) i p (srtS M p f i (15 + i) p) else srtS M p f i
theorem putM_ne {M : Nat → Nat → Int32} {s p c : Nat} {ow k : Int32} (h1 : c ≠ 15 + s) (h2 : c ≠ 21 + s) : putM M s p ow k c = M c := by
  unfold putM; rw [ow_u_ne h2, ow_u_ne h1, shf_own h2]
theorem takM_ne {M : Nat → Nat → Int32} {s p c : Nat} (h1 : c ≠ 15 + s) (h2 : c ≠ 21 + s) : takM M s p c = M c := by
  unfold takM
  split
  · rfl
  · rw [shf_own h2, ow_u_ne h2, ow_u_ne h1]
theorem srtS_ne {M : Nat → Nat → Int32} {p i c : Nat} {f : Int32} (hc : c < 15 ∨ 25 < c) (hi : i ≤ 5) : srtS M p f i c = M c := by
  induction i with
  | zero => rfl
  | succ i ih =>
    simp only [srtS]
    split
    · unfold jonM
      rw [putM_ne (by omega) (by omega), takM_ne (by omega) (by omega)]; exact ih (by omega)
    · exact ih (by omega)
theorem CI.srt {M : Nat → Nat → Int32} {tc sc p i : Nat} {f : Int32} (h : CI M tc sc) (hp : p < 24) (hi : i ≤ 5) : CI (srtS M p f i) tc sc := by
  induction i with
  | zero => exact h
  | succ i ih =>
    have ih := ih (by omega)
    simp only [srtS]
    split
    · exact (ih.tak (by omega)).put (by omega) (ih.own (by omega) hp)
    · exact ih
section TOwn2
variable {l : Launch} {Q : ow_R → ow_M → Prop} {M : Nat → Nat → Int32} {K : Int64} {b : Nat} {tc sc : Nat}
/-- R_requireOwnersToJoin -/
theorem t_R_requireOwnersToJoin (hl : l.stackTraces = false) {t : Int32} (hC : CI M tc sc) (h0 : (∀ k, k < sc → JW M k t → ¬ co M k = -1) → Q (.inl none) (mm M K (b + 1))) (h1 : (∃ k, k < sc ∧ JW M k t ∧ co M k = -1) → Q (.inr 2) (mm M K b)) : MT l Y_R_requireOwnersToJoin (7, 96) [.ref 0, .int t] (mm M K (b + 1)) Q := by
  refine mt_of (k := 1) (by decide) cd_R_requireOwnersToJoin.1 (by simp [Value.category]) rfl ?_
  have lp : ∀ i, i ≤ sc → (∀ k, k < i → JW M k t → ¬ co M k = -1) → AW l Y_R_requireOwnersToJoin none (7, 96) Q 2 [some (.ref 0), some (.int t), some (.int (nI i))] [] (mm M K (b + 1)) := by
    refine loop_dn sc (fun i hi ih => ?_)
    intro hn
    refine aw_iload_n d_R_requireOwnersToJoin_2 rfl ?_
    refine aw_aload_n d_R_requireOwnersToJoin_3 rfl ?_
    refine mm_getr (t := 1) f_R_10 d_R_requireOwnersToJoin_4 (by decide) rfl rfl rfl ?_
    refine mm_geti f_R_69 d_R_requireOwnersToJoin_7 (by decide) rfl rfl ?_
    refine aw_icmp_ge (tgt := 37) d_R_requireOwnersToJoin_10 rfl (fun g10 => ?_) (fun g10 => ?_)
    · have hi2 := ge_n (n := sc) hC.sc hi (by have := hC.s5; omega) g10
      subst hi2
      refine aw_vret d_R_requireOwnersToJoin_37 rfl ?_
      exact h0 hn
    · have hi2 := lt_n (n := sc) hC.sc hi (by have := hC.s5; omega) g10
      have hi5 : i < 5 := by have := hC.s5; omega
      refine aw_aload_n d_R_requireOwnersToJoin_13 rfl ?_
      refine mm_getr (t := 1) f_R_10 d_R_requireOwnersToJoin_14 (by decide) rfl rfl rfl ?_
      refine aw_iload_n d_R_requireOwnersToJoin_17 rfl ?_
      refine aw_iload_n d_R_requireOwnersToJoin_18 rfl ?_
      refine aw_cV2 (d' := (0, 0)) d_R_requireOwnersToJoin_19 lk_R_101 cd_P_joinsWhenStored (Nat.le_of_ble_eq_true rfl) rfl rfl ⟨Nat.le_of_ble_eq_true rfl, Nat.le_of_ble_eq_true rfl⟩ (fun _ h => nomatch h) ?_
      refine t_P_joinsWhenStored hi5 ?_
      refine ow_next_i ?_
      refine aw_if_eq (tgt := 31) d_R_requireOwnersToJoin_22 rfl (fun g22 => ?_) (fun g22 => ?_)
      · refine aw_iinc (v := nI (i + 1)) d_R_requireOwnersToJoin_31 rfl (nI_succ i).symm (by decide) ?_
        refine aw_goto (tgt := 2) d_R_requireOwnersToJoin_34 rfl ?_
        refine ih hi2 (fun k hk => ?_)
        rcases Nat.lt_succ_iff_lt_or_eq.mp hk with h | h
        · exact hn k h
        · subst h; grind [JW]
      · refine aw_aload_n d_R_requireOwnersToJoin_25 rfl ?_
        refine aw_iload_n d_R_requireOwnersToJoin_26 rfl ?_
        refine aw_cV1 (d' := (6, 82)) d_R_requireOwnersToJoin_27 lk_R_147 cd_R_requireCurrentOwner (Nat.le_of_ble_eq_true rfl) rfl rfl ⟨Nat.le_of_ble_eq_true rfl, Nat.le_of_ble_eq_true rfl⟩ (fun _ h => nomatch h) ?_
        refine t_R_requireCurrentOwner hl hC hi5 (fun k9 => ?_) (fun k9 => ?_)
        · refine ow_next_x ?_
          exact h1 ⟨i, hi2, by unfold JW; grind, k9⟩
        · refine ow_next_i ?_
          refine aw_pop d_R_requireOwnersToJoin_30 rfl ?_
          refine aw_iinc (v := nI (i + 1)) d_R_requireOwnersToJoin_31 rfl (nI_succ i).symm (by decide) ?_
          refine aw_goto (tgt := 2) d_R_requireOwnersToJoin_34 rfl ?_
          refine ih hi2 (fun k hk => ?_)
          rcases Nat.lt_succ_iff_lt_or_eq.mp hk with h | h
          · exact hn k h
          · subst h; grind [JW]
  refine aw_iconst (v := 0) d_R_requireOwnersToJoin_0 (by decide) ?_
  refine aw_istore_n d_R_requireOwnersToJoin_1 (by decide) ?_
  exact lp 0 (by omega) (fun k hk => by omega)
/-- R_requireNoRefusalToJoin -/
theorem t_R_requireNoRefusalToJoin (hl : l.stackTraces = false) {t : Int32} {p : Nat} (hC : CI M tc sc) (hp : p < 24) (h0 : (∀ k, k < sc → JW M k t → ¬ NE M k (nI p) (co M k) (M (11 + sfv M k) p)) → Q (.inl none) (mm M K (b + 1))) (h1 : (∃ k, k < sc ∧ JW M k t ∧ NE M k (nI p) (co M k) (M (11 + sfv M k) p)) → Q (.inr 1) (mm M K b)) : MT l Y_R_requireNoRefusalToJoin (8, 113) [.ref 0, .int t, .int (nI p)] (mm M K (b + 1)) Q := by
  refine mt_of (k := 1) (by decide) cd_R_requireNoRefusalToJoin.1 (by simp [Value.category]) rfl ?_
  have lp : ∀ i, i ≤ sc → (∀ k, k < i → JW M k t → ¬ NE M k (nI p) (co M k) (M (11 + sfv M k) p)) → AW l Y_R_requireNoRefusalToJoin none (8, 113) Q 2 [some (.ref 0), some (.int t), some (.int (nI p)), some (.int (nI i))] [] (mm M K (b + 1)) := by
    refine loop_dn sc (fun i hi ih => ?_)
    intro hn
    refine aw_iload_n d_R_requireNoRefusalToJoin_2 rfl ?_
    refine aw_aload_n d_R_requireNoRefusalToJoin_3 rfl ?_
    refine mm_getr (t := 1) f_R_10 d_R_requireNoRefusalToJoin_4 (by decide) rfl rfl rfl ?_
    refine mm_geti f_R_69 d_R_requireNoRefusalToJoin_7 (by decide) rfl rfl ?_
    refine aw_icmp_ge (tgt := 42) d_R_requireNoRefusalToJoin_10 rfl (fun g10 => ?_) (fun g10 => ?_)
    · have hi2 := ge_n (n := sc) hC.sc hi (by have := hC.s5; omega) g10
      subst hi2
      refine aw_vret d_R_requireNoRefusalToJoin_42 rfl ?_
      exact h0 hn
    · have hi2 := lt_n (n := sc) hC.sc hi (by have := hC.s5; omega) g10
      have hi5 : i < 5 := by have := hC.s5; omega
      refine aw_aload_n d_R_requireNoRefusalToJoin_13 rfl ?_
      refine mm_getr (t := 1) f_R_10 d_R_requireNoRefusalToJoin_14 (by decide) rfl rfl rfl ?_
      refine aw_iload_n d_R_requireNoRefusalToJoin_17 rfl ?_
      refine aw_iload_n d_R_requireNoRefusalToJoin_18 rfl ?_
      refine aw_cV2 (d' := (0, 0)) d_R_requireNoRefusalToJoin_19 lk_R_101 cd_P_joinsWhenStored (Nat.le_of_ble_eq_true rfl) rfl rfl ⟨Nat.le_of_ble_eq_true rfl, Nat.le_of_ble_eq_true rfl⟩ (fun _ h => nomatch h) ?_
      refine t_P_joinsWhenStored hi5 ?_
      refine ow_next_i ?_
      refine aw_if_eq (tgt := 36) d_R_requireNoRefusalToJoin_22 rfl (fun g22 => ?_) (fun g22 => ?_)
      · refine aw_iinc (v := nI (i + 1)) d_R_requireNoRefusalToJoin_36 rfl (nI_succ i).symm (by decide) ?_
        refine aw_goto (tgt := 2) d_R_requireNoRefusalToJoin_39 rfl ?_
        refine ih hi2 (fun k hk => ?_)
        rcases Nat.lt_succ_iff_lt_or_eq.mp hk with h | h
        · exact hn k h
        · subst h; grind [JW]
      · refine aw_aload_n d_R_requireNoRefusalToJoin_25 rfl ?_
        refine aw_iload_n d_R_requireNoRefusalToJoin_26 rfl ?_
        refine aw_iload_n d_R_requireNoRefusalToJoin_27 rfl ?_
        refine aw_aload_n d_R_requireNoRefusalToJoin_28 rfl ?_
        refine aw_iload_n d_R_requireNoRefusalToJoin_29 rfl ?_
        refine aw_cV1 (d' := (0, 0)) d_R_requireNoRefusalToJoin_30 lk_R_104 cd_R_currentOwner (Nat.le_of_ble_eq_true rfl) rfl rfl ⟨Nat.le_of_ble_eq_true rfl, Nat.le_of_ble_eq_true rfl⟩ (fun _ h => nomatch h) ?_
        refine t_R_currentOwner hC hi5 ?_
        refine ow_next_i ?_
        refine aw_cV3 (d' := (7, 98)) d_R_requireNoRefusalToJoin_33 lk_R_198 cd_R_requireNoRefusal (Nat.le_of_ble_eq_true rfl) rfl rfl ⟨Nat.le_of_ble_eq_true rfl, Nat.le_of_ble_eq_true rfl⟩ (fun _ h => nomatch h) ?_
        refine t_R_requireNoRefusal hl hC hi5 hp (fun k9 => ?_) (fun k9 => ?_)
        · refine ow_next_v ?_
          refine aw_iinc (v := nI (i + 1)) d_R_requireNoRefusalToJoin_36 rfl (nI_succ i).symm (by decide) ?_
          refine aw_goto (tgt := 2) d_R_requireNoRefusalToJoin_39 rfl ?_
          refine ih hi2 (fun k hk => ?_)
          rcases Nat.lt_succ_iff_lt_or_eq.mp hk with h | h
          · exact hn k h
          · subst h; grind [JW]
        · refine ow_next_x ?_
          exact h1 ⟨i, hi2, by unfold JW; grind, k9⟩
  refine aw_iconst (v := 0) d_R_requireNoRefusalToJoin_0 (by decide) ?_
  refine aw_istore_n d_R_requireNoRefusalToJoin_1 (by decide) ?_
  exact lp 0 (by omega) (fun k hk => by omega)
/-- R_requireNoRefusalToSort -/
theorem t_R_requireNoRefusalToSort (hl : l.stackTraces = false) {f x : Int32} {p : Nat} (hC : CI M tc sc) (hp : p < 24) (h0 : (∀ k, k < sc → (10 ≤ M 5 k ∧ M 5 k - M 5 k / 10 * 10 = f) → ¬ M (15 + k) p = -1 → ¬ NE M k (nI p) (M (15 + k) p) x) → Q (.inl none) (mm M K (b + 1))) (h1 : (∃ k, k < sc ∧ (10 ≤ M 5 k ∧ M 5 k - M 5 k / 10 * 10 = f) ∧ ¬ M (15 + k) p = -1 ∧ NE M k (nI p) (M (15 + k) p) x) → Q (.inr 1) (mm M K b)) : MT l Y_R_requireNoRefusalToSort (7, 98) [.ref 0, .int (nI p), .int f, .int x] (mm M K (b + 1)) Q := by
  refine mt_of (k := 1) (by decide) cd_R_requireNoRefusalToSort.1 (by simp [Value.category]) rfl ?_
  have lp : ∀ i, i ≤ sc → (∀ k, k < i → (10 ≤ M 5 k ∧ M 5 k - M 5 k / 10 * 10 = f) → ¬ M (15 + k) p = -1 → ¬ NE M k (nI p) (M (15 + k) p) x) → AW l Y_R_requireNoRefusalToSort none (7, 98) Q 3 [some (.ref 0), some (.int (nI p)), some (.int f), some (.int x), some (.int (nI i))] [] (mm M K (b + 1)) := by
    refine loop_dn sc (fun i hi ih => ?_)
    intro hn
    refine aw_iload d_R_requireNoRefusalToSort_3 rfl ?_
    refine aw_aload_n d_R_requireNoRefusalToSort_5 rfl ?_
    refine mm_getr (t := 1) f_R_10 d_R_requireNoRefusalToSort_6 (by decide) rfl rfl rfl ?_
    refine mm_geti f_R_69 d_R_requireNoRefusalToSort_9 (by decide) rfl rfl ?_
    refine aw_icmp_ge (tgt := 67) d_R_requireNoRefusalToSort_12 rfl (fun g12 => ?_) (fun g12 => ?_)
    · have hi2 := ge_n (n := sc) hC.sc hi (by have := hC.s5; omega) g12
      subst hi2
      refine aw_vret d_R_requireNoRefusalToSort_67 rfl ?_
      exact h0 hn
    · have hi2 := lt_n (n := sc) hC.sc hi (by have := hC.s5; omega) g12
      have hi5 : i < 5 := by have := hC.s5; omega
      refine aw_aload_n d_R_requireNoRefusalToSort_15 rfl ?_
      refine mm_getr (t := 1) f_R_10 d_R_requireNoRefusalToSort_16 (by decide) rfl rfl rfl ?_
      refine aw_iload d_R_requireNoRefusalToSort_19 rfl ?_
      refine aw_iload_n d_R_requireNoRefusalToSort_21 rfl ?_
      refine aw_cV2 (d' := (1, 13)) d_R_requireNoRefusalToSort_22 lk_R_279 cd_P_isSortedBy (Nat.le_of_ble_eq_true rfl) rfl rfl ⟨Nat.le_of_ble_eq_true rfl, Nat.le_of_ble_eq_true rfl⟩ (fun _ h => nomatch h) ?_
      refine t_P_isSortedBy hi5 ?_
      refine ow_next_i ?_
      refine aw_if_eq (tgt := 61) d_R_requireNoRefusalToSort_25 rfl (fun g25 => ?_) (fun g25 => ?_)
      · refine aw_iinc (v := nI (i + 1)) d_R_requireNoRefusalToSort_61 rfl (nI_succ i).symm (by decide) ?_
        refine aw_goto (tgt := 3) d_R_requireNoRefusalToSort_64 rfl ?_
        refine ih hi2 (fun k hk => ?_)
        rcases Nat.lt_succ_iff_lt_or_eq.mp hk with h | h
        · exact hn k h
        · subst h; grind
      · refine aw_aload_n d_R_requireNoRefusalToSort_28 rfl ?_
        refine mm_getr (t := 7) f_R_19 d_R_requireNoRefusalToSort_29 (by decide) rfl rfl rfl ?_
        refine aw_iload d_R_requireNoRefusalToSort_32 rfl ?_
        refine aw_iload_n d_R_requireNoRefusalToSort_34 rfl ?_
        refine aw_cV2 (d' := (0, 0)) d_R_requireNoRefusalToSort_35 lk_R_193 cd_B_isMember (Nat.le_of_ble_eq_true rfl) rfl rfl ⟨Nat.le_of_ble_eq_true rfl, Nat.le_of_ble_eq_true rfl⟩ (fun _ h => nomatch h) ?_
        refine t_B_isMember hi5 hp ?_
        refine ow_next_i ?_
        refine aw_if_eq (tgt := 61) d_R_requireNoRefusalToSort_38 rfl (fun g38 => ?_) (fun g38 => ?_)
        · refine aw_iinc (v := nI (i + 1)) d_R_requireNoRefusalToSort_61 rfl (nI_succ i).symm (by decide) ?_
          refine aw_goto (tgt := 3) d_R_requireNoRefusalToSort_64 rfl ?_
          refine ih hi2 (fun k hk => ?_)
          rcases Nat.lt_succ_iff_lt_or_eq.mp hk with h | h
          · exact hn k h
          · subst h; grind
        · refine aw_aload_n d_R_requireNoRefusalToSort_41 rfl ?_
          refine aw_iload d_R_requireNoRefusalToSort_42 rfl ?_
          refine aw_iload_n d_R_requireNoRefusalToSort_44 rfl ?_
          refine aw_aload_n d_R_requireNoRefusalToSort_45 rfl ?_
          refine mm_getr (t := 7) f_R_19 d_R_requireNoRefusalToSort_46 (by decide) rfl rfl rfl ?_
          refine mm_getr (t := 14) f_R_243 d_R_requireNoRefusalToSort_49 (by decide) rfl rfl rfl ?_
          refine aw_iload d_R_requireNoRefusalToSort_52 rfl ?_
          refine mm_aald rfl d_R_requireNoRefusalToSort_54 (by decide) rfl hi5 (by decide) (rF_own hi5) ?_
          refine aw_iload_n d_R_requireNoRefusalToSort_55 rfl ?_
          refine mm_iald rfl d_R_requireNoRefusalToSort_56 (by omega) (kd_own hi5) (by omega) (by decide) ?_
          refine aw_iload_n d_R_requireNoRefusalToSort_57 rfl ?_
          refine aw_cV4 (d' := (6, 82)) d_R_requireNoRefusalToSort_58 lk_R_276 cd_R_requireNoEqual (Nat.le_of_ble_eq_true rfl) rfl rfl ⟨Nat.le_of_ble_eq_true rfl, Nat.le_of_ble_eq_true rfl⟩ (fun _ h => nomatch h) ?_
          refine t_R_requireNoEqual hl hC hi5 (fun k9 => ?_) (fun k9 => ?_)
          · refine ow_next_v ?_
            refine aw_iinc (v := nI (i + 1)) d_R_requireNoRefusalToSort_61 rfl (nI_succ i).symm (by decide) ?_
            refine aw_goto (tgt := 3) d_R_requireNoRefusalToSort_64 rfl ?_
            refine ih hi2 (fun k hk => ?_)
            rcases Nat.lt_succ_iff_lt_or_eq.mp hk with h | h
            · exact hn k h
            · subst h; grind
          · refine ow_next_x ?_
            exact h1 ⟨i, hi2, by grind, by grind, k9⟩
  refine aw_iconst (v := 0) d_R_requireNoRefusalToSort_0 (by decide) ?_
  refine aw_istore d_R_requireNoRefusalToSort_1 (by decide) ?_
  exact lp 0 (by omega) (fun k hk => by omega)
/-- R_comeTo -/
theorem t_R_comeTo {p : Nat} {stay : Int32} (hC : CI M tc sc) (hp : p < 24) (hq : Q (.inl none) (mm (comM M p stay sc) K b)) : MT l Y_R_comeTo (1, 14) [.ref 0, .int (nI p), .int stay] (mm M K b) Q := by
  refine mt_of (k := 3) (by decide) cd_R_comeTo.1 (by simp [Value.category]) rfl ?_
  obtain ⟨tt, htt, et⟩ := hC.ty hp
  have e2 : (nI tt).toNatClampNeg = tt := nI_clamp (by omega)
  have lp : ∀ i, i ≤ sc → ∀ w : Option Value, AW l Y_R_comeTo none (1, 14) Q 31 [some (.ref 0), some (.int (nI p)), some (.int stay), some (.int (nI tt)), some (.int (nI i)), w] [] (mm (comS (ow_u (ow_u M 45 0 (nI p)) 46 tt (nI p)) p stay (nI tt) i) K b) := by
    refine loop_dn sc (fun i hi ih => ?_)
    intro w
    refine aw_iload d_R_comeTo_31 rfl ?_
    refine aw_aload_n d_R_comeTo_33 rfl ?_
    refine mm_getr (t := 1) f_R_10 d_R_comeTo_34 (by decide) rfl rfl rfl ?_
    refine mm_geti f_R_69 d_R_comeTo_37 (by decide) rfl rfl ?_
    refine aw_icmp_ge (tgt := 108) d_R_comeTo_40 rfl (fun g40 => ?_) (fun g40 => ?_)
    · have hi2 := ge_n (n := sc) (by rw [comS_ne (by decide)]; simpa [ow_u] using hC.sc) hi (by have := hC.s5; omega) g40
      subst hi2
      refine aw_vret d_R_comeTo_108 rfl ?_
      exact q_mem hq (by simp [comM, et, e2])
    · have hi2 := lt_n (n := sc) (by rw [comS_ne (by decide)]; simpa [ow_u] using hC.sc) hi (by have := hC.s5; omega) g40
      have hi5 : i < 5 := by have := hC.s5; omega
      refine aw_aload_n d_R_comeTo_43 rfl ?_
      refine mm_getr (t := 1) f_R_10 d_R_comeTo_44 (by decide) rfl rfl rfl ?_
      refine mm_getr (t := 3) f_R_291 d_R_comeTo_47 (by decide) rfl rfl rfl ?_
      refine aw_iload d_R_comeTo_50 rfl ?_
      refine mm_iald rfl d_R_comeTo_52 (by decide) rfl (by omega) (by decide) ?_
      refine aw_iload_n d_R_comeTo_53 rfl ?_
      rw [comS_ne (by decide)]
      refine aw_icmp_eq (tgt := 70) d_R_comeTo_54 rfl (fun g54 => ?_) (fun g54 => ?_)
      · refine aw_iconst (v := 1) d_R_comeTo_70 (by decide) ?_
        refine aw_goto (tgt := 75) d_R_comeTo_71 rfl ?_
        refine aw_istore d_R_comeTo_75 (by decide) ?_
        refine aw_iload d_R_comeTo_77 rfl ?_
        refine aw_if_eq (tgt := 102) d_R_comeTo_79 rfl (fun g79 => ?_) (fun g79 => ?_)
        · exact absurd g79 (by decide)
        · refine aw_iload_n d_R_comeTo_82 rfl ?_
          refine aw_iload d_R_comeTo_83 rfl ?_
          refine aw_cS2 (d' := (0, 0)) d_R_comeTo_85 lk_R_296 cd_R_hasBit ⟨Nat.le_of_ble_eq_true rfl, Nat.le_of_ble_eq_true rfl⟩ (fun _ h => nomatch h) ?_
          refine t_R_hasBit ?_
          refine ow_next_i ?_
          refine aw_if_ne (tgt := 102) d_R_comeTo_88 rfl (fun g88 => ?_) (fun g88 => ?_)
          · refine aw_iinc (v := nI (i + 1)) d_R_comeTo_102 rfl (nI_succ i).symm (by decide) ?_
            refine aw_goto (tgt := 31) d_R_comeTo_105 rfl ?_
            first
              | (rw [show comS (ow_u (ow_u M 45 0 (nI p)) 46 tt (nI p)) p stay (nI tt) (i + 1) = comS (ow_u (ow_u M 45 0 (nI p)) 46 tt (nI p)) p stay (nI tt) i from by simp only [comS]; rw [if_neg (by grind)]] at ih; exact ih hi2 _)
              | (rw [show comS (ow_u (ow_u M 45 0 (nI p)) 46 tt (nI p)) p stay (nI tt) (i + 1) = ow_u (comS (ow_u (ow_u M 45 0 (nI p)) 46 tt (nI p)) p stay (nI tt) i) 47 i (nI p) from by simp only [comS]; rw [if_pos (by grind)]] at ih; exact ih hi2 _)
          · refine aw_aload_n d_R_comeTo_91 rfl ?_
            refine mm_getr (t := 45) f_R_29 d_R_comeTo_92 (by decide) rfl rfl rfl ?_
            refine mm_getr (t := 47) f_R_154 d_R_comeTo_95 (by decide) rfl rfl rfl ?_
            refine aw_iload d_R_comeTo_98 rfl ?_
            refine aw_iload_n d_R_comeTo_100 rfl ?_
            refine mm_iast rfl d_R_comeTo_101 (by decide) rfl (by omega) (by decide) ?_
            refine aw_iinc (v := nI (i + 1)) d_R_comeTo_102 rfl (nI_succ i).symm (by decide) ?_
            refine aw_goto (tgt := 31) d_R_comeTo_105 rfl ?_
            first
              | (rw [show comS (ow_u (ow_u M 45 0 (nI p)) 46 tt (nI p)) p stay (nI tt) (i + 1) = comS (ow_u (ow_u M 45 0 (nI p)) 46 tt (nI p)) p stay (nI tt) i from by simp only [comS]; rw [if_neg (by grind)]] at ih; exact ih hi2 _)
              | (rw [show comS (ow_u (ow_u M 45 0 (nI p)) 46 tt (nI p)) p stay (nI tt) (i + 1) = ow_u (comS (ow_u (ow_u M 45 0 (nI p)) 46 tt (nI p)) p stay (nI tt) i) 47 i (nI p) from by simp only [comS]; rw [if_pos (by grind)]] at ih; exact ih hi2 _)
      · refine aw_aload_n d_R_comeTo_57 rfl ?_
        refine mm_getr (t := 7) f_R_19 d_R_comeTo_58 (by decide) rfl rfl rfl ?_
        refine aw_iload d_R_comeTo_61 rfl ?_
        refine aw_iload_n d_R_comeTo_63 rfl ?_
        refine aw_cV2 (d' := (0, 0)) d_R_comeTo_64 lk_R_193 cd_B_isMember (Nat.le_of_ble_eq_true rfl) rfl rfl ⟨Nat.le_of_ble_eq_true rfl, Nat.le_of_ble_eq_true rfl⟩ (fun _ h => nomatch h) ?_
        refine t_B_isMember hi5 hp ?_
        rw [comS_ne (by omega)]
        refine ow_next_i ?_
        refine aw_if_eq (tgt := 74) d_R_comeTo_67 rfl (fun g67 => ?_) (fun g67 => ?_)
        · refine aw_iconst (v := 0) d_R_comeTo_74 (by decide) ?_
          refine aw_istore d_R_comeTo_75 (by decide) ?_
          refine aw_iload d_R_comeTo_77 rfl ?_
          refine aw_if_eq (tgt := 102) d_R_comeTo_79 rfl (fun g79 => ?_) (fun g79 => ?_)
          · refine aw_iinc (v := nI (i + 1)) d_R_comeTo_102 rfl (nI_succ i).symm (by decide) ?_
            refine aw_goto (tgt := 31) d_R_comeTo_105 rfl ?_
            first
              | (rw [show comS (ow_u (ow_u M 45 0 (nI p)) 46 tt (nI p)) p stay (nI tt) (i + 1) = comS (ow_u (ow_u M 45 0 (nI p)) 46 tt (nI p)) p stay (nI tt) i from by simp only [comS]; rw [if_neg (by grind)]] at ih; exact ih hi2 _)
              | (rw [show comS (ow_u (ow_u M 45 0 (nI p)) 46 tt (nI p)) p stay (nI tt) (i + 1) = ow_u (comS (ow_u (ow_u M 45 0 (nI p)) 46 tt (nI p)) p stay (nI tt) i) 47 i (nI p) from by simp only [comS]; rw [if_pos (by grind)]] at ih; exact ih hi2 _)
          · exact absurd g79 (by decide)
        · refine aw_iconst (v := 1) d_R_comeTo_70 (by decide) ?_
          refine aw_goto (tgt := 75) d_R_comeTo_71 rfl ?_
          refine aw_istore d_R_comeTo_75 (by decide) ?_
          refine aw_iload d_R_comeTo_77 rfl ?_
          refine aw_if_eq (tgt := 102) d_R_comeTo_79 rfl (fun g79 => ?_) (fun g79 => ?_)
          · exact absurd g79 (by decide)
          · refine aw_iload_n d_R_comeTo_82 rfl ?_
            refine aw_iload d_R_comeTo_83 rfl ?_
            refine aw_cS2 (d' := (0, 0)) d_R_comeTo_85 lk_R_296 cd_R_hasBit ⟨Nat.le_of_ble_eq_true rfl, Nat.le_of_ble_eq_true rfl⟩ (fun _ h => nomatch h) ?_
            refine t_R_hasBit ?_
            refine ow_next_i ?_
            refine aw_if_ne (tgt := 102) d_R_comeTo_88 rfl (fun g88 => ?_) (fun g88 => ?_)
            · refine aw_iinc (v := nI (i + 1)) d_R_comeTo_102 rfl (nI_succ i).symm (by decide) ?_
              refine aw_goto (tgt := 31) d_R_comeTo_105 rfl ?_
              first
                | (rw [show comS (ow_u (ow_u M 45 0 (nI p)) 46 tt (nI p)) p stay (nI tt) (i + 1) = comS (ow_u (ow_u M 45 0 (nI p)) 46 tt (nI p)) p stay (nI tt) i from by simp only [comS]; rw [if_neg (by grind)]] at ih; exact ih hi2 _)
                | (rw [show comS (ow_u (ow_u M 45 0 (nI p)) 46 tt (nI p)) p stay (nI tt) (i + 1) = ow_u (comS (ow_u (ow_u M 45 0 (nI p)) 46 tt (nI p)) p stay (nI tt) i) 47 i (nI p) from by simp only [comS]; rw [if_pos (by grind)]] at ih; exact ih hi2 _)
            · refine aw_aload_n d_R_comeTo_91 rfl ?_
              refine mm_getr (t := 45) f_R_29 d_R_comeTo_92 (by decide) rfl rfl rfl ?_
              refine mm_getr (t := 47) f_R_154 d_R_comeTo_95 (by decide) rfl rfl rfl ?_
              refine aw_iload d_R_comeTo_98 rfl ?_
              refine aw_iload_n d_R_comeTo_100 rfl ?_
              refine mm_iast rfl d_R_comeTo_101 (by decide) rfl (by omega) (by decide) ?_
              refine aw_iinc (v := nI (i + 1)) d_R_comeTo_102 rfl (nI_succ i).symm (by decide) ?_
              refine aw_goto (tgt := 31) d_R_comeTo_105 rfl ?_
              first
                | (rw [show comS (ow_u (ow_u M 45 0 (nI p)) 46 tt (nI p)) p stay (nI tt) (i + 1) = comS (ow_u (ow_u M 45 0 (nI p)) 46 tt (nI p)) p stay (nI tt) i from by simp only [comS]; rw [if_neg (by grind)]] at ih; exact ih hi2 _)
                | (rw [show comS (ow_u (ow_u M 45 0 (nI p)) 46 tt (nI p)) p stay (nI tt) (i + 1) = ow_u (comS (ow_u (ow_u M 45 0 (nI p)) 46 tt (nI p)) p stay (nI tt) i) 47 i (nI p) from by simp only [comS]; rw [if_pos (by grind)]] at ih; exact ih hi2 _)
  refine aw_aload_n d_R_comeTo_0 rfl ?_
  refine mm_getr (t := 7) f_R_19 d_R_comeTo_1 (by decide) rfl rfl rfl ?_
  refine mm_getr (t := 9) f_R_190 d_R_comeTo_4 (by decide) rfl rfl rfl ?_
  refine aw_iload_n d_R_comeTo_7 rfl ?_
  refine mm_iald rfl d_R_comeTo_8 (by decide) rfl (by omega) (by decide) ?_
  rw [et]
  refine aw_istore_n d_R_comeTo_9 (by decide) ?_
  refine aw_aload_n d_R_comeTo_10 rfl ?_
  refine mm_getr (t := 45) f_R_29 d_R_comeTo_11 (by decide) rfl rfl rfl ?_
  refine aw_iload_n d_R_comeTo_14 rfl ?_
  refine mm_puti fw_R_161 d_R_comeTo_15 (by decide) rfl rfl rfl rfl ?_
  refine aw_aload_n d_R_comeTo_18 rfl ?_
  refine mm_getr (t := 45) f_R_29 d_R_comeTo_19 (by decide) rfl rfl rfl ?_
  refine mm_getr (t := 46) f_R_167 d_R_comeTo_22 (by decide) rfl rfl rfl ?_
  refine aw_iload_n d_R_comeTo_25 rfl ?_
  refine aw_iload_n d_R_comeTo_26 rfl ?_
  refine mm_iast rfl d_R_comeTo_27 (by decide) rfl (by omega) (by decide) ?_
  refine aw_iconst (v := 0) d_R_comeTo_28 (by decide) ?_
  refine aw_istore d_R_comeTo_29 (by decide) ?_
  exact lp 0 (by omega) _
/-- R_comeToExisting -/
theorem t_R_comeToExisting (hl : l.stackTraces = false) {x : Int32} (hC : CI M tc sc) (hx : plc x) (h0 : x = -1 → Q (.inr 2) (mm M K b)) (h1 : ∀ p, p < 24 → x = nI p → Q (.inl (some (M 8 p))) (mm (comM M p 0 sc) K (b + 1))) : MT l Y_R_comeToExisting (6, 82) [.ref 0, .int x] (mm M K (b + 1)) Q := by
  refine mt_of (k := 0) (by decide) cd_R_comeToExisting.1 (by simp [Value.category]) rfl ?_
  refine aw_iload_n d_R_comeToExisting_0 rfl ?_
  refine aw_iconst (v := -1) d_R_comeToExisting_1 (by decide) ?_
  refine aw_icmp_ne (tgt := 16) d_R_comeToExisting_2 rfl (fun g2 => ?_) (fun g2 => ?_)
  · obtain ⟨p, hp, rfl⟩ := hx.resolve_left g2
    refine aw_aload_n d_R_comeToExisting_16 rfl ?_
    refine aw_iload_n d_R_comeToExisting_17 rfl ?_
    refine aw_iconst (v := 0) d_R_comeToExisting_18 (by decide) ?_
    refine aw_cV2 (d' := (1, 14)) d_R_comeToExisting_19 lk_R_111 cd_R_comeTo (Nat.le_of_ble_eq_true rfl) rfl rfl ⟨Nat.le_of_ble_eq_true rfl, Nat.le_of_ble_eq_true rfl⟩ (fun _ h => nomatch h) ?_
    refine t_R_comeTo hC hp ?_
    refine ow_next_v ?_
    refine aw_aload_n d_R_comeToExisting_22 rfl ?_
    refine mm_getr (t := 7) f_R_19 d_R_comeToExisting_23 (by decide) rfl rfl rfl ?_
    refine mm_getr (t := 8) f_R_114 d_R_comeToExisting_26 (by decide) rfl rfl rfl ?_
    refine aw_iload_n d_R_comeToExisting_29 rfl ?_
    refine mm_iald rfl d_R_comeToExisting_30 (by decide) rfl (by omega) (by decide) ?_
    refine aw_iret d_R_comeToExisting_31 rfl rfl ?_
    have e : comM M p 0 sc 8 p = M 8 p := by unfold comM; rw [comS_ne (by decide)]; simp [ow_u]
    rw [e]
    exact h1 p hp rfl
  · refine aw_throwNW (text := "no such record") hl th_R_2 (by decide +kernel) (fun _ h => nomatch h) d_R_comeToExisting_5 d_R_comeToExisting_8 d_R_comeToExisting_9 d_R_comeToExisting_12 d_R_comeToExisting_15 ⟨by decide, Nat.le_of_ble_eq_true rfl⟩ rfl ?_
    exact h0 g2
/-- R_positionByValue -/
theorem t_R_positionByValue {s p : Nat} {ow : Int32} (hC : CI M tc sc) (hs : s < 5) (hp : p < 24) (h10 : 10 ≤ M 5 s) (hq : Q (.inl (some (nI (cn (bfr M s p ow) 24)))) (mm M K b)) : MT l Y_R_positionByValue (1, 14) [.ref 0, .int (nI s), .int (nI p), .int ow] (mm M K b) Q := by
  refine mt_of (k := 5) (by decide) cd_R_positionByValue.1 (by simp [Value.category]) rfl ?_
  have hsf := hC.sf hs h10
  have lp : ∀ i, i ≤ 24 → ∀ (be : Int32) (w : Option Value), ((be = 1 ∧ 20 ≤ M 5 s) ∨ (be = 0 ∧ ¬ 20 ≤ M 5 s)) → AW l Y_R_positionByValue none (1, 14) Q 45 [some (.ref 0), some (.int (nI s)), some (.int (nI p)), some (.int ow), some (.int be), some (.ref (11 + sfv M s)), some (.int (nI (cn (bfr M s p ow) i))), some (.int (nI i)), w] [] (mm M K b) := by
    refine loop_dn 24 (fun i hi ih => ?_)
    intro be w hbe
    refine aw_iload d_R_positionByValue_45 rfl ?_
    refine aw_bipush (v := 24) d_R_positionByValue_47 (by decide) ?_
    refine aw_icmp_ge (tgt := 118) d_R_positionByValue_49 rfl (fun g49 => ?_) (fun g49 => ?_)
    · have hi2 := ge_n (n := 24) rfl hi (by omega) g49
      subst hi2
      refine aw_iload d_R_positionByValue_118 rfl ?_
      refine aw_iret d_R_positionByValue_120 rfl rfl ?_
      exact hq
    · have hi2 := lt_n (n := 24) rfl hi (by omega) g49
      refine aw_aload d_R_positionByValue_52 rfl ?_
      refine aw_iload d_R_positionByValue_54 rfl ?_
      refine mm_iald rfl d_R_positionByValue_56 (by omega) (kd_fld hsf.1) (by omega) (by decide) ?_
      refine aw_aload d_R_positionByValue_57 rfl ?_
      refine aw_iload_n d_R_positionByValue_59 rfl ?_
      refine mm_iald rfl d_R_positionByValue_60 (by omega) (kd_fld hsf.1) (by omega) (by decide) ?_
      refine aw_icmp_lt (tgt := 81) d_R_positionByValue_61 rfl (fun g61 => ?_) (fun g61 => ?_)
      · refine aw_iconst (v := 1) d_R_positionByValue_81 (by decide) ?_
        refine aw_goto (tgt := 86) d_R_positionByValue_82 rfl ?_
        refine aw_istore d_R_positionByValue_86 (by decide) ?_
        refine aw_aload_n d_R_positionByValue_88 rfl ?_
        refine mm_getr (t := 7) f_R_19 d_R_positionByValue_89 (by decide) rfl rfl rfl ?_
        refine mm_getr (t := 14) f_R_243 d_R_positionByValue_92 (by decide) rfl rfl rfl ?_
        refine aw_iload_n d_R_positionByValue_95 rfl ?_
        refine mm_aald rfl d_R_positionByValue_96 (by decide) rfl hs (by decide) (rF_own hs) ?_
        refine aw_iload d_R_positionByValue_97 rfl ?_
        refine mm_iald rfl d_R_positionByValue_99 (by omega) (kd_own hs) (by omega) (by decide) ?_
        refine aw_iload_n d_R_positionByValue_100 rfl ?_
        refine aw_icmp_ne (tgt := 112) d_R_positionByValue_101 rfl (fun g101 => ?_) (fun g101 => ?_)
        · refine aw_iinc (v := nI (i + 1)) d_R_positionByValue_112 rfl (nI_succ i).symm (by decide) ?_
          refine aw_goto (tgt := 45) d_R_positionByValue_115 rfl ?_
          first
            | (rw [show cn (bfr M s p ow) (i + 1) = cn (bfr M s p ow) i from by simp only [cn]; rw [if_neg (by simp only [bfr]; grind)]; rfl] at ih; exact ih hi2 _ _ hbe)
            | (rw [show cn (bfr M s p ow) (i + 1) = cn (bfr M s p ow) i + 1 from by simp only [cn]; rw [if_pos (by simp only [bfr]; grind)]] at ih; exact ih hi2 _ _ hbe)
        · refine aw_iload d_R_positionByValue_104 rfl ?_
          refine aw_if_eq (tgt := 112) d_R_positionByValue_106 rfl (fun g106 => ?_) (fun g106 => ?_)
          · exact absurd g106 (by decide)
          · refine aw_iinc (v := nI (cn (bfr M s p ow) i + 1)) d_R_positionByValue_109 rfl (nI_succ _).symm (by decide) ?_
            refine aw_iinc (v := nI (i + 1)) d_R_positionByValue_112 rfl (nI_succ i).symm (by decide) ?_
            refine aw_goto (tgt := 45) d_R_positionByValue_115 rfl ?_
            first
              | (rw [show cn (bfr M s p ow) (i + 1) = cn (bfr M s p ow) i from by simp only [cn]; rw [if_neg (by simp only [bfr]; grind)]; rfl] at ih; exact ih hi2 _ _ hbe)
              | (rw [show cn (bfr M s p ow) (i + 1) = cn (bfr M s p ow) i + 1 from by simp only [cn]; rw [if_pos (by simp only [bfr]; grind)]] at ih; exact ih hi2 _ _ hbe)
      · refine aw_iload d_R_positionByValue_64 rfl ?_
        refine aw_if_eq (tgt := 85) d_R_positionByValue_66 rfl (fun g66 => ?_) (fun g66 => ?_)
        · refine aw_iconst (v := 0) d_R_positionByValue_85 (by decide) ?_
          refine aw_istore d_R_positionByValue_86 (by decide) ?_
          refine aw_aload_n d_R_positionByValue_88 rfl ?_
          refine mm_getr (t := 7) f_R_19 d_R_positionByValue_89 (by decide) rfl rfl rfl ?_
          refine mm_getr (t := 14) f_R_243 d_R_positionByValue_92 (by decide) rfl rfl rfl ?_
          refine aw_iload_n d_R_positionByValue_95 rfl ?_
          refine mm_aald rfl d_R_positionByValue_96 (by decide) rfl hs (by decide) (rF_own hs) ?_
          refine aw_iload d_R_positionByValue_97 rfl ?_
          refine mm_iald rfl d_R_positionByValue_99 (by omega) (kd_own hs) (by omega) (by decide) ?_
          refine aw_iload_n d_R_positionByValue_100 rfl ?_
          refine aw_icmp_ne (tgt := 112) d_R_positionByValue_101 rfl (fun g101 => ?_) (fun g101 => ?_)
          · refine aw_iinc (v := nI (i + 1)) d_R_positionByValue_112 rfl (nI_succ i).symm (by decide) ?_
            refine aw_goto (tgt := 45) d_R_positionByValue_115 rfl ?_
            first
              | (rw [show cn (bfr M s p ow) (i + 1) = cn (bfr M s p ow) i from by simp only [cn]; rw [if_neg (by simp only [bfr]; grind)]; rfl] at ih; exact ih hi2 _ _ hbe)
              | (rw [show cn (bfr M s p ow) (i + 1) = cn (bfr M s p ow) i + 1 from by simp only [cn]; rw [if_pos (by simp only [bfr]; grind)]] at ih; exact ih hi2 _ _ hbe)
          · refine aw_iload d_R_positionByValue_104 rfl ?_
            refine aw_if_eq (tgt := 112) d_R_positionByValue_106 rfl (fun g106 => ?_) (fun g106 => ?_)
            · refine aw_iinc (v := nI (i + 1)) d_R_positionByValue_112 rfl (nI_succ i).symm (by decide) ?_
              refine aw_goto (tgt := 45) d_R_positionByValue_115 rfl ?_
              first
                | (rw [show cn (bfr M s p ow) (i + 1) = cn (bfr M s p ow) i from by simp only [cn]; rw [if_neg (by simp only [bfr]; grind)]; rfl] at ih; exact ih hi2 _ _ hbe)
                | (rw [show cn (bfr M s p ow) (i + 1) = cn (bfr M s p ow) i + 1 from by simp only [cn]; rw [if_pos (by simp only [bfr]; grind)]] at ih; exact ih hi2 _ _ hbe)
            · exact absurd g106 (by decide)
        · refine aw_aload d_R_positionByValue_69 rfl ?_
          refine aw_iload d_R_positionByValue_71 rfl ?_
          refine mm_iald rfl d_R_positionByValue_73 (by omega) (kd_fld hsf.1) (by omega) (by decide) ?_
          refine aw_aload d_R_positionByValue_74 rfl ?_
          refine aw_iload_n d_R_positionByValue_76 rfl ?_
          refine mm_iald rfl d_R_positionByValue_77 (by omega) (kd_fld hsf.1) (by omega) (by decide) ?_
          refine aw_icmp_ne (tgt := 85) d_R_positionByValue_78 rfl (fun g78 => ?_) (fun g78 => ?_)
          · refine aw_iconst (v := 0) d_R_positionByValue_85 (by decide) ?_
            refine aw_istore d_R_positionByValue_86 (by decide) ?_
            refine aw_aload_n d_R_positionByValue_88 rfl ?_
            refine mm_getr (t := 7) f_R_19 d_R_positionByValue_89 (by decide) rfl rfl rfl ?_
            refine mm_getr (t := 14) f_R_243 d_R_positionByValue_92 (by decide) rfl rfl rfl ?_
            refine aw_iload_n d_R_positionByValue_95 rfl ?_
            refine mm_aald rfl d_R_positionByValue_96 (by decide) rfl hs (by decide) (rF_own hs) ?_
            refine aw_iload d_R_positionByValue_97 rfl ?_
            refine mm_iald rfl d_R_positionByValue_99 (by omega) (kd_own hs) (by omega) (by decide) ?_
            refine aw_iload_n d_R_positionByValue_100 rfl ?_
            refine aw_icmp_ne (tgt := 112) d_R_positionByValue_101 rfl (fun g101 => ?_) (fun g101 => ?_)
            · refine aw_iinc (v := nI (i + 1)) d_R_positionByValue_112 rfl (nI_succ i).symm (by decide) ?_
              refine aw_goto (tgt := 45) d_R_positionByValue_115 rfl ?_
              first
                | (rw [show cn (bfr M s p ow) (i + 1) = cn (bfr M s p ow) i from by simp only [cn]; rw [if_neg (by simp only [bfr]; grind)]; rfl] at ih; exact ih hi2 _ _ hbe)
                | (rw [show cn (bfr M s p ow) (i + 1) = cn (bfr M s p ow) i + 1 from by simp only [cn]; rw [if_pos (by simp only [bfr]; grind)]] at ih; exact ih hi2 _ _ hbe)
            · refine aw_iload d_R_positionByValue_104 rfl ?_
              refine aw_if_eq (tgt := 112) d_R_positionByValue_106 rfl (fun g106 => ?_) (fun g106 => ?_)
              · refine aw_iinc (v := nI (i + 1)) d_R_positionByValue_112 rfl (nI_succ i).symm (by decide) ?_
                refine aw_goto (tgt := 45) d_R_positionByValue_115 rfl ?_
                first
                  | (rw [show cn (bfr M s p ow) (i + 1) = cn (bfr M s p ow) i from by simp only [cn]; rw [if_neg (by simp only [bfr]; grind)]; rfl] at ih; exact ih hi2 _ _ hbe)
                  | (rw [show cn (bfr M s p ow) (i + 1) = cn (bfr M s p ow) i + 1 from by simp only [cn]; rw [if_pos (by simp only [bfr]; grind)]] at ih; exact ih hi2 _ _ hbe)
              · exact absurd g106 (by decide)
          · refine aw_iconst (v := 1) d_R_positionByValue_81 (by decide) ?_
            refine aw_goto (tgt := 86) d_R_positionByValue_82 rfl ?_
            refine aw_istore d_R_positionByValue_86 (by decide) ?_
            refine aw_aload_n d_R_positionByValue_88 rfl ?_
            refine mm_getr (t := 7) f_R_19 d_R_positionByValue_89 (by decide) rfl rfl rfl ?_
            refine mm_getr (t := 14) f_R_243 d_R_positionByValue_92 (by decide) rfl rfl rfl ?_
            refine aw_iload_n d_R_positionByValue_95 rfl ?_
            refine mm_aald rfl d_R_positionByValue_96 (by decide) rfl hs (by decide) (rF_own hs) ?_
            refine aw_iload d_R_positionByValue_97 rfl ?_
            refine mm_iald rfl d_R_positionByValue_99 (by omega) (kd_own hs) (by omega) (by decide) ?_
            refine aw_iload_n d_R_positionByValue_100 rfl ?_
            refine aw_icmp_ne (tgt := 112) d_R_positionByValue_101 rfl (fun g101 => ?_) (fun g101 => ?_)
            · refine aw_iinc (v := nI (i + 1)) d_R_positionByValue_112 rfl (nI_succ i).symm (by decide) ?_
              refine aw_goto (tgt := 45) d_R_positionByValue_115 rfl ?_
              first
                | (rw [show cn (bfr M s p ow) (i + 1) = cn (bfr M s p ow) i from by simp only [cn]; rw [if_neg (by simp only [bfr]; grind)]; rfl] at ih; exact ih hi2 _ _ hbe)
                | (rw [show cn (bfr M s p ow) (i + 1) = cn (bfr M s p ow) i + 1 from by simp only [cn]; rw [if_pos (by simp only [bfr]; grind)]] at ih; exact ih hi2 _ _ hbe)
            · refine aw_iload d_R_positionByValue_104 rfl ?_
              refine aw_if_eq (tgt := 112) d_R_positionByValue_106 rfl (fun g106 => ?_) (fun g106 => ?_)
              · exact absurd g106 (by decide)
              · refine aw_iinc (v := nI (cn (bfr M s p ow) i + 1)) d_R_positionByValue_109 rfl (nI_succ _).symm (by decide) ?_
                refine aw_iinc (v := nI (i + 1)) d_R_positionByValue_112 rfl (nI_succ i).symm (by decide) ?_
                refine aw_goto (tgt := 45) d_R_positionByValue_115 rfl ?_
                first
                  | (rw [show cn (bfr M s p ow) (i + 1) = cn (bfr M s p ow) i from by simp only [cn]; rw [if_neg (by simp only [bfr]; grind)]; rfl] at ih; exact ih hi2 _ _ hbe)
                  | (rw [show cn (bfr M s p ow) (i + 1) = cn (bfr M s p ow) i + 1 from by simp only [cn]; rw [if_pos (by simp only [bfr]; grind)]] at ih; exact ih hi2 _ _ hbe)
  refine aw_aload_n d_R_positionByValue_0 rfl ?_
  refine mm_getr (t := 1) f_R_10 d_R_positionByValue_1 (by decide) rfl rfl rfl ?_
  refine mm_getr (t := 5) f_R_282 d_R_positionByValue_4 (by decide) rfl rfl rfl ?_
  refine aw_iload_n d_R_positionByValue_7 rfl ?_
  refine mm_iald rfl d_R_positionByValue_8 (by decide) rfl (by omega) (by decide) ?_
  refine aw_bipush (v := 20) d_R_positionByValue_9 (by decide) ?_
  refine aw_icmp_lt (tgt := 18) d_R_positionByValue_11 rfl (fun g11 => ?_) (fun g11 => ?_)
  · refine aw_iconst (v := 0) d_R_positionByValue_18 (by decide) ?_
    refine aw_istore d_R_positionByValue_19 (by decide) ?_
    refine aw_aload_n d_R_positionByValue_21 rfl ?_
    refine mm_getr (t := 7) f_R_19 d_R_positionByValue_22 (by decide) rfl rfl rfl ?_
    refine mm_getr (t := 10) f_R_181 d_R_positionByValue_25 (by decide) rfl rfl rfl ?_
    refine aw_aload_n d_R_positionByValue_28 rfl ?_
    refine mm_getr (t := 1) f_R_10 d_R_positionByValue_29 (by decide) rfl rfl rfl ?_
    refine aw_iload_n d_R_positionByValue_32 rfl ?_
    refine aw_cV1 (d' := (0, 0)) d_R_positionByValue_33 lk_R_273 cd_P_sortField (Nat.le_of_ble_eq_true rfl) rfl rfl ⟨Nat.le_of_ble_eq_true rfl, Nat.le_of_ble_eq_true rfl⟩ (fun _ h => nomatch h) ?_
    refine t_P_sortField hs ?_
    rw [hsf.2]
    refine ow_next_i ?_
    refine mm_aald rfl d_R_positionByValue_36 (by decide) rfl hsf.1 (by decide) (rF_fld hsf.1) ?_
    refine aw_astore d_R_positionByValue_37 (by decide) ?_
    refine aw_iconst (v := 0) d_R_positionByValue_39 (by decide) ?_
    refine aw_istore d_R_positionByValue_40 (by decide) ?_
    refine aw_iconst (v := 0) d_R_positionByValue_42 (by decide) ?_
    refine aw_istore d_R_positionByValue_43 (by decide) ?_
    exact lp 0 (by omega) _ _ (by grind)
  · refine aw_iconst (v := 1) d_R_positionByValue_14 (by decide) ?_
    refine aw_goto (tgt := 19) d_R_positionByValue_15 rfl ?_
    refine aw_istore d_R_positionByValue_19 (by decide) ?_
    refine aw_aload_n d_R_positionByValue_21 rfl ?_
    refine mm_getr (t := 7) f_R_19 d_R_positionByValue_22 (by decide) rfl rfl rfl ?_
    refine mm_getr (t := 10) f_R_181 d_R_positionByValue_25 (by decide) rfl rfl rfl ?_
    refine aw_aload_n d_R_positionByValue_28 rfl ?_
    refine mm_getr (t := 1) f_R_10 d_R_positionByValue_29 (by decide) rfl rfl rfl ?_
    refine aw_iload_n d_R_positionByValue_32 rfl ?_
    refine aw_cV1 (d' := (0, 0)) d_R_positionByValue_33 lk_R_273 cd_P_sortField (Nat.le_of_ble_eq_true rfl) rfl rfl ⟨Nat.le_of_ble_eq_true rfl, Nat.le_of_ble_eq_true rfl⟩ (fun _ h => nomatch h) ?_
    refine t_P_sortField hs ?_
    rw [hsf.2]
    refine ow_next_i ?_
    refine mm_aald rfl d_R_positionByValue_36 (by decide) rfl hsf.1 (by decide) (rF_fld hsf.1) ?_
    refine aw_astore d_R_positionByValue_37 (by decide) ?_
    refine aw_iconst (v := 0) d_R_positionByValue_39 (by decide) ?_
    refine aw_istore d_R_positionByValue_40 (by decide) ?_
    refine aw_iconst (v := 0) d_R_positionByValue_42 (by decide) ?_
    refine aw_istore d_R_positionByValue_43 (by decide) ?_
    exact lp 0 (by omega) _ _ (by grind)
/-- R_positionByOrder -/
theorem t_R_positionByOrder {s p : Nat} {ow : Int32} (hC : CI M tc sc) (hs : s < 5) (hp : p < 24) (hq : Q (.inl (some (pbo M s p ow))) (mm M K b)) : MT l Y_R_positionByOrder (2, 34) [.ref 0, .int (nI s), .int (nI p), .int ow] (mm M K b) Q := by
  refine mt_of (k := 3) (by decide) cd_R_positionByOrder.1 (by simp [Value.category]) rfl ?_
  refine aw_aload_n d_R_positionByOrder_0 rfl ?_
  refine mm_getr (t := 45) f_R_29 d_R_positionByOrder_1 (by decide) rfl rfl rfl ?_
  refine mm_getr (t := 47) f_R_154 d_R_positionByOrder_4 (by decide) rfl rfl rfl ?_
  refine aw_iload_n d_R_positionByOrder_7 rfl ?_
  refine mm_iald rfl d_R_positionByOrder_8 (by decide) rfl (by omega) (by decide) ?_
  refine aw_istore d_R_positionByOrder_9 (by decide) ?_
  refine aw_iload d_R_positionByOrder_11 rfl ?_
  refine aw_iconst (v := -1) d_R_positionByOrder_13 (by decide) ?_
  refine aw_icmp_eq (tgt := 37) d_R_positionByOrder_14 rfl (fun g14 => ?_) (fun g14 => ?_)
  · refine aw_iconst (v := 0) d_R_positionByOrder_37 (by decide) ?_
    refine aw_istore d_R_positionByOrder_38 (by decide) ?_
    refine aw_aload_n d_R_positionByOrder_40 rfl ?_
    refine mm_getr (t := 7) f_R_19 d_R_positionByOrder_41 (by decide) rfl rfl rfl ?_
    refine aw_iload_n d_R_positionByOrder_44 rfl ?_
    refine aw_iload_n d_R_positionByOrder_45 rfl ?_
    refine aw_cV2 (d' := (0, 0)) d_R_positionByOrder_46 lk_R_240 cd_B_ringSize (Nat.le_of_ble_eq_true rfl) rfl rfl ⟨Nat.le_of_ble_eq_true rfl, Nat.le_of_ble_eq_true rfl⟩ (fun _ h => nomatch h) ?_
    refine t_B_ringSize hs ?_
    refine ow_next_i ?_
    refine aw_istore d_R_positionByOrder_49 (by decide) ?_
    refine aw_aload_n d_R_positionByOrder_51 rfl ?_
    refine mm_getr (t := 1) f_R_10 d_R_positionByOrder_52 (by decide) rfl rfl rfl ?_
    refine mm_getr (t := 5) f_R_282 d_R_positionByOrder_55 (by decide) rfl rfl rfl ?_
    refine aw_iload_n d_R_positionByOrder_58 rfl ?_
    refine mm_iald rfl d_R_positionByOrder_59 (by decide) rfl (by omega) (by decide) ?_
    rcases ord5 (hC.ord hs) with e | e | e | e | e
    · rw [e]
      refine aw_tsIn (tgt := 92) d_R_positionByOrder_60 (by decide) (by decide) rfl rfl ?_
      refine aw_iconst (v := 0) d_R_positionByOrder_92 (by decide) ?_
      refine aw_iret d_R_positionByOrder_93 rfl rfl ?_
      refine q_val hq ?_
      simp only [pbo, e]
      first
        | (simp [szr, g14]; done)
        | (simp [szr, g14, e2, g30]; done)
    · rw [e]
      refine aw_tsIn (tgt := 94) d_R_positionByOrder_60 (by decide) (by decide) rfl rfl ?_
      refine aw_iload d_R_positionByOrder_94 rfl ?_
      refine aw_iret d_R_positionByOrder_96 rfl rfl ?_
      refine q_val hq ?_
      simp only [pbo, e]
      first
        | (simp [szr, g14]; done)
        | (simp [szr, g14, e2, g30]; done)
    · rw [e]
      refine aw_tsIn (tgt := 97) d_R_positionByOrder_60 (by decide) (by decide) rfl rfl ?_
      refine aw_iload d_R_positionByOrder_97 rfl ?_
      refine aw_if_eq (tgt := 119) d_R_positionByOrder_99 rfl (fun g99 => ?_) (fun g99 => ?_)
      · refine aw_iconst (v := 0) d_R_positionByOrder_119 (by decide) ?_
        refine aw_iret d_R_positionByOrder_120 rfl rfl ?_
        refine q_val hq ?_
        simp only [pbo, e]
        first
          | (simp [szr, g14]; done)
          | (simp [szr, g14, e2, g30]; done)
      · exact absurd g99 (by decide)
    · rw [e]
      refine aw_tsIn (tgt := 121) d_R_positionByOrder_60 (by decide) (by decide) rfl rfl ?_
      refine aw_iload d_R_positionByOrder_121 rfl ?_
      refine aw_if_eq (tgt := 141) d_R_positionByOrder_123 rfl (fun g123 => ?_) (fun g123 => ?_)
      · refine aw_iload d_R_positionByOrder_141 rfl ?_
        refine aw_iret d_R_positionByOrder_143 rfl rfl ?_
        refine q_val hq ?_
        simp only [pbo, e]
        first
          | (simp [szr, g14]; done)
          | (simp [szr, g14, e2, g30]; done)
      · exact absurd g123 (by decide)
    · refine aw_tsOut (tgt := 144) d_R_positionByOrder_60 (Or.inr (i10 e)) rfl ?_
      refine aw_aload_n d_R_positionByOrder_144 rfl ?_
      refine aw_iload_n d_R_positionByOrder_145 rfl ?_
      refine aw_iload_n d_R_positionByOrder_146 rfl ?_
      refine aw_iload_n d_R_positionByOrder_147 rfl ?_
      refine aw_cV3 (d' := (1, 14)) d_R_positionByOrder_148 lk_R_308 cd_R_positionByValue (Nat.le_of_ble_eq_true rfl) rfl rfl ⟨Nat.le_of_ble_eq_true rfl, Nat.le_of_ble_eq_true rfl⟩ (fun _ h => nomatch h) ?_
      refine t_R_positionByValue hC hs hp e ?_
      refine ow_next_i ?_
      refine aw_iret d_R_positionByOrder_151 rfl rfl ?_
      refine q_val hq ?_
      unfold pbo
      rw [if_neg (by grind), if_neg (by grind), if_neg (by grind), if_neg (by grind)]
  · obtain ⟨c, hc, ec⟩ := (hC.ofS hs).resolve_left g14
    have e2 : (M 47 s).toNatClampNeg = c := by rw [ec, nI_clamp (by omega)]
    refine aw_aload_n d_R_positionByOrder_17 rfl ?_
    refine mm_getr (t := 7) f_R_19 d_R_positionByOrder_18 (by decide) rfl rfl rfl ?_
    refine mm_getr (t := 14) f_R_243 d_R_positionByOrder_21 (by decide) rfl rfl rfl ?_
    refine aw_iload_n d_R_positionByOrder_24 rfl ?_
    refine mm_aald rfl d_R_positionByOrder_25 (by decide) rfl hs (by decide) (rF_own hs) ?_
    refine aw_iload d_R_positionByOrder_26 rfl ?_
    refine mm_iald ec d_R_positionByOrder_28 (by omega) (kd_own hs) (by omega) (by decide) ?_
    refine aw_iload_n d_R_positionByOrder_29 rfl ?_
    refine aw_icmp_ne (tgt := 37) d_R_positionByOrder_30 rfl (fun g30 => ?_) (fun g30 => ?_)
    · refine aw_iconst (v := 0) d_R_positionByOrder_37 (by decide) ?_
      refine aw_istore d_R_positionByOrder_38 (by decide) ?_
      refine aw_aload_n d_R_positionByOrder_40 rfl ?_
      refine mm_getr (t := 7) f_R_19 d_R_positionByOrder_41 (by decide) rfl rfl rfl ?_
      refine aw_iload_n d_R_positionByOrder_44 rfl ?_
      refine aw_iload_n d_R_positionByOrder_45 rfl ?_
      refine aw_cV2 (d' := (0, 0)) d_R_positionByOrder_46 lk_R_240 cd_B_ringSize (Nat.le_of_ble_eq_true rfl) rfl rfl ⟨Nat.le_of_ble_eq_true rfl, Nat.le_of_ble_eq_true rfl⟩ (fun _ h => nomatch h) ?_
      refine t_B_ringSize hs ?_
      refine ow_next_i ?_
      refine aw_istore d_R_positionByOrder_49 (by decide) ?_
      refine aw_aload_n d_R_positionByOrder_51 rfl ?_
      refine mm_getr (t := 1) f_R_10 d_R_positionByOrder_52 (by decide) rfl rfl rfl ?_
      refine mm_getr (t := 5) f_R_282 d_R_positionByOrder_55 (by decide) rfl rfl rfl ?_
      refine aw_iload_n d_R_positionByOrder_58 rfl ?_
      refine mm_iald rfl d_R_positionByOrder_59 (by decide) rfl (by omega) (by decide) ?_
      rcases ord5 (hC.ord hs) with e | e | e | e | e
      · rw [e]
        refine aw_tsIn (tgt := 92) d_R_positionByOrder_60 (by decide) (by decide) rfl rfl ?_
        refine aw_iconst (v := 0) d_R_positionByOrder_92 (by decide) ?_
        refine aw_iret d_R_positionByOrder_93 rfl rfl ?_
        refine q_val hq ?_
        simp only [pbo, e]
        first
          | (simp [szr, g14]; done)
          | (simp [szr, g14, e2, g30]; done)
      · rw [e]
        refine aw_tsIn (tgt := 94) d_R_positionByOrder_60 (by decide) (by decide) rfl rfl ?_
        refine aw_iload d_R_positionByOrder_94 rfl ?_
        refine aw_iret d_R_positionByOrder_96 rfl rfl ?_
        refine q_val hq ?_
        simp only [pbo, e]
        first
          | (simp [szr, g14]; done)
          | (simp [szr, g14, e2, g30]; done)
      · rw [e]
        refine aw_tsIn (tgt := 97) d_R_positionByOrder_60 (by decide) (by decide) rfl rfl ?_
        refine aw_iload d_R_positionByOrder_97 rfl ?_
        refine aw_if_eq (tgt := 119) d_R_positionByOrder_99 rfl (fun g99 => ?_) (fun g99 => ?_)
        · refine aw_iconst (v := 0) d_R_positionByOrder_119 (by decide) ?_
          refine aw_iret d_R_positionByOrder_120 rfl rfl ?_
          refine q_val hq ?_
          simp only [pbo, e]
          first
            | (simp [szr, g14]; done)
            | (simp [szr, g14, e2, g30]; done)
        · exact absurd g99 (by decide)
      · rw [e]
        refine aw_tsIn (tgt := 121) d_R_positionByOrder_60 (by decide) (by decide) rfl rfl ?_
        refine aw_iload d_R_positionByOrder_121 rfl ?_
        refine aw_if_eq (tgt := 141) d_R_positionByOrder_123 rfl (fun g123 => ?_) (fun g123 => ?_)
        · refine aw_iload d_R_positionByOrder_141 rfl ?_
          refine aw_iret d_R_positionByOrder_143 rfl rfl ?_
          refine q_val hq ?_
          simp only [pbo, e]
          first
            | (simp [szr, g14]; done)
            | (simp [szr, g14, e2, g30]; done)
        · exact absurd g123 (by decide)
      · refine aw_tsOut (tgt := 144) d_R_positionByOrder_60 (Or.inr (i10 e)) rfl ?_
        refine aw_aload_n d_R_positionByOrder_144 rfl ?_
        refine aw_iload_n d_R_positionByOrder_145 rfl ?_
        refine aw_iload_n d_R_positionByOrder_146 rfl ?_
        refine aw_iload_n d_R_positionByOrder_147 rfl ?_
        refine aw_cV3 (d' := (1, 14)) d_R_positionByOrder_148 lk_R_308 cd_R_positionByValue (Nat.le_of_ble_eq_true rfl) rfl rfl ⟨Nat.le_of_ble_eq_true rfl, Nat.le_of_ble_eq_true rfl⟩ (fun _ h => nomatch h) ?_
        refine t_R_positionByValue hC hs hp e ?_
        refine ow_next_i ?_
        refine aw_iret d_R_positionByOrder_151 rfl rfl ?_
        refine q_val hq ?_
        unfold pbo
        rw [if_neg (by grind), if_neg (by grind), if_neg (by grind), if_neg (by grind)]
    · refine aw_iconst (v := 1) d_R_positionByOrder_33 (by decide) ?_
      refine aw_goto (tgt := 38) d_R_positionByOrder_34 rfl ?_
      refine aw_istore d_R_positionByOrder_38 (by decide) ?_
      refine aw_aload_n d_R_positionByOrder_40 rfl ?_
      refine mm_getr (t := 7) f_R_19 d_R_positionByOrder_41 (by decide) rfl rfl rfl ?_
      refine aw_iload_n d_R_positionByOrder_44 rfl ?_
      refine aw_iload_n d_R_positionByOrder_45 rfl ?_
      refine aw_cV2 (d' := (0, 0)) d_R_positionByOrder_46 lk_R_240 cd_B_ringSize (Nat.le_of_ble_eq_true rfl) rfl rfl ⟨Nat.le_of_ble_eq_true rfl, Nat.le_of_ble_eq_true rfl⟩ (fun _ h => nomatch h) ?_
      refine t_B_ringSize hs ?_
      refine ow_next_i ?_
      refine aw_istore d_R_positionByOrder_49 (by decide) ?_
      refine aw_aload_n d_R_positionByOrder_51 rfl ?_
      refine mm_getr (t := 1) f_R_10 d_R_positionByOrder_52 (by decide) rfl rfl rfl ?_
      refine mm_getr (t := 5) f_R_282 d_R_positionByOrder_55 (by decide) rfl rfl rfl ?_
      refine aw_iload_n d_R_positionByOrder_58 rfl ?_
      refine mm_iald rfl d_R_positionByOrder_59 (by decide) rfl (by omega) (by decide) ?_
      rcases ord5 (hC.ord hs) with e | e | e | e | e
      · rw [e]
        refine aw_tsIn (tgt := 92) d_R_positionByOrder_60 (by decide) (by decide) rfl rfl ?_
        refine aw_iconst (v := 0) d_R_positionByOrder_92 (by decide) ?_
        refine aw_iret d_R_positionByOrder_93 rfl rfl ?_
        refine q_val hq ?_
        simp only [pbo, e]
        first
          | (simp [szr, g14]; done)
          | (simp [szr, g14, e2, g30]; done)
      · rw [e]
        refine aw_tsIn (tgt := 94) d_R_positionByOrder_60 (by decide) (by decide) rfl rfl ?_
        refine aw_iload d_R_positionByOrder_94 rfl ?_
        refine aw_iret d_R_positionByOrder_96 rfl rfl ?_
        refine q_val hq ?_
        simp only [pbo, e]
        first
          | (simp [szr, g14]; done)
          | (simp [szr, g14, e2, g30]; done)
      · rw [e]
        refine aw_tsIn (tgt := 97) d_R_positionByOrder_60 (by decide) (by decide) rfl rfl ?_
        refine aw_iload d_R_positionByOrder_97 rfl ?_
        refine aw_if_eq (tgt := 119) d_R_positionByOrder_99 rfl (fun g99 => ?_) (fun g99 => ?_)
        · exact absurd g99 (by decide)
        · refine aw_aload_n d_R_positionByOrder_102 rfl ?_
          refine mm_getr (t := 7) f_R_19 d_R_positionByOrder_103 (by decide) rfl rfl rfl ?_
          refine mm_getr (t := 20) f_R_150 d_R_positionByOrder_106 (by decide) rfl rfl rfl ?_
          refine aw_iload_n d_R_positionByOrder_109 rfl ?_
          refine mm_aald rfl d_R_positionByOrder_110 (by decide) rfl hs (by decide) (rF_pos hs) ?_
          refine aw_iload d_R_positionByOrder_111 rfl ?_
          refine mm_iald ec d_R_positionByOrder_113 (by omega) (kd_pos hs) (by omega) (by decide) ?_
          refine aw_iconst (v := 1) d_R_positionByOrder_114 (by decide) ?_
          refine aw_iadd d_R_positionByOrder_115 ?_
          refine aw_goto (tgt := 120) d_R_positionByOrder_116 rfl ?_
          refine aw_iret d_R_positionByOrder_120 rfl rfl ?_
          refine q_val hq ?_
          simp only [pbo, e]
          first
            | (simp [szr, g14]; done)
            | (simp [szr, g14, e2, g30]; done)
      · rw [e]
        refine aw_tsIn (tgt := 121) d_R_positionByOrder_60 (by decide) (by decide) rfl rfl ?_
        refine aw_iload d_R_positionByOrder_121 rfl ?_
        refine aw_if_eq (tgt := 141) d_R_positionByOrder_123 rfl (fun g123 => ?_) (fun g123 => ?_)
        · exact absurd g123 (by decide)
        · refine aw_aload_n d_R_positionByOrder_126 rfl ?_
          refine mm_getr (t := 7) f_R_19 d_R_positionByOrder_127 (by decide) rfl rfl rfl ?_
          refine mm_getr (t := 20) f_R_150 d_R_positionByOrder_130 (by decide) rfl rfl rfl ?_
          refine aw_iload_n d_R_positionByOrder_133 rfl ?_
          refine mm_aald rfl d_R_positionByOrder_134 (by decide) rfl hs (by decide) (rF_pos hs) ?_
          refine aw_iload d_R_positionByOrder_135 rfl ?_
          refine mm_iald ec d_R_positionByOrder_137 (by omega) (kd_pos hs) (by omega) (by decide) ?_
          refine aw_goto (tgt := 143) d_R_positionByOrder_138 rfl ?_
          refine aw_iret d_R_positionByOrder_143 rfl rfl ?_
          refine q_val hq ?_
          simp only [pbo, e]
          first
            | (simp [szr, g14]; done)
            | (simp [szr, g14, e2, g30]; done)
      · refine aw_tsOut (tgt := 144) d_R_positionByOrder_60 (Or.inr (i10 e)) rfl ?_
        refine aw_aload_n d_R_positionByOrder_144 rfl ?_
        refine aw_iload_n d_R_positionByOrder_145 rfl ?_
        refine aw_iload_n d_R_positionByOrder_146 rfl ?_
        refine aw_iload_n d_R_positionByOrder_147 rfl ?_
        refine aw_cV3 (d' := (1, 14)) d_R_positionByOrder_148 lk_R_308 cd_R_positionByValue (Nat.le_of_ble_eq_true rfl) rfl rfl ⟨Nat.le_of_ble_eq_true rfl, Nat.le_of_ble_eq_true rfl⟩ (fun _ h => nomatch h) ?_
        refine t_R_positionByValue hC hs hp e ?_
        refine ow_next_i ?_
        refine aw_iret d_R_positionByOrder_151 rfl rfl ?_
        refine q_val hq ?_
        unfold pbo
        rw [if_neg (by grind), if_neg (by grind), if_neg (by grind), if_neg (by grind)]
/-- R_join -/
theorem t_R_join {s p : Nat} {ow : Int32} (hC : CI M tc sc) (hs : s < 5) (hp : p < 24) (hq : Q (.inl none) (mm (jonM M s p ow) K b)) : MT l Y_R_join (3, 56) [.ref 0, .int (nI s), .int (nI p), .int ow] (mm M K b) Q := by
  refine mt_of (k := 0) (by decide) cd_R_join.1 (by simp [Value.category]) rfl ?_
  refine aw_aload_n d_R_join_0 rfl ?_
  refine mm_getr (t := 7) f_R_19 d_R_join_1 (by decide) rfl rfl rfl ?_
  refine aw_iload_n d_R_join_4 rfl ?_
  refine aw_iload_n d_R_join_5 rfl ?_
  refine aw_iload_n d_R_join_6 rfl ?_
  refine aw_aload_n d_R_join_7 rfl ?_
  refine aw_iload_n d_R_join_8 rfl ?_
  refine aw_iload_n d_R_join_9 rfl ?_
  refine aw_iload_n d_R_join_10 rfl ?_
  refine aw_cV3 (d' := (2, 34)) d_R_join_11 lk_R_302 cd_R_positionByOrder (Nat.le_of_ble_eq_true rfl) rfl rfl ⟨Nat.le_of_ble_eq_true rfl, Nat.le_of_ble_eq_true rfl⟩ (fun _ h => nomatch h) ?_
  refine t_R_positionByOrder hC hs hp ?_
  refine ow_next_i ?_
  refine aw_cV4 (d' := (1, 17)) d_R_join_14 lk_R_305 cd_B_putIn (Nat.le_of_ble_eq_true rfl) rfl rfl ⟨Nat.le_of_ble_eq_true rfl, Nat.le_of_ble_eq_true rfl⟩ (fun _ h => nomatch h) ?_
  refine t_B_putIn hs hp ?_
  refine ow_next_v ?_
  refine aw_vret d_R_join_17 rfl ?_
  exact hq
/-- R_sortAgain -/
theorem t_R_sortAgain {p : Nat} {f : Int32} (hC : CI M tc sc) (hp : p < 24) (hq : Q (.inl none) (mm (srtS M p f sc) K b)) : MT l Y_R_sortAgain (4, 71) [.ref 0, .int (nI p), .int f] (mm M K b) Q := by
  refine mt_of (k := 2) (by decide) cd_R_sortAgain.1 (by simp [Value.category]) rfl ?_
  have lp : ∀ i, i ≤ sc → ∀ w : Option Value, AW l Y_R_sortAgain none (4, 71) Q 2 [some (.ref 0), some (.int (nI p)), some (.int f), some (.int (nI i)), w] [] (mm (srtS M p f i) K b) := by
    refine loop_dn sc (fun i hi ih => ?_)
    intro w
    have hi6 : i ≤ 5 := by have := hC.s5; omega
    have hCi := hC.srt (f := f) hp hi6
    refine aw_iload_n d_R_sortAgain_2 rfl ?_
    refine aw_aload_n d_R_sortAgain_3 rfl ?_
    refine mm_getr (t := 1) f_R_10 d_R_sortAgain_4 (by decide) rfl rfl rfl ?_
    refine mm_geti f_R_69 d_R_sortAgain_7 (by decide) rfl rfl ?_
    refine aw_icmp_ge (tgt := 73) d_R_sortAgain_10 rfl (fun g10 => ?_) (fun g10 => ?_)
    · have hi2 := ge_n (n := sc) hCi.sc hi (by have := hC.s5; omega) g10
      subst hi2
      refine aw_vret d_R_sortAgain_73 rfl ?_
      exact hq
    · have hi2 := lt_n (n := sc) hCi.sc hi (by have := hC.s5; omega) g10
      have hi5 : i < 5 := by have := hC.s5; omega
      refine aw_aload_n d_R_sortAgain_13 rfl ?_
      refine mm_getr (t := 1) f_R_10 d_R_sortAgain_14 (by decide) rfl rfl rfl ?_
      refine aw_iload_n d_R_sortAgain_17 rfl ?_
      refine aw_iload_n d_R_sortAgain_18 rfl ?_
      refine aw_cV2 (d' := (1, 13)) d_R_sortAgain_19 lk_R_279 cd_P_isSortedBy (Nat.le_of_ble_eq_true rfl) rfl rfl ⟨Nat.le_of_ble_eq_true rfl, Nat.le_of_ble_eq_true rfl⟩ (fun _ h => nomatch h) ?_
      refine t_P_isSortedBy hi5 ?_
      rw [srtS_ne (c := 5) (by omega) hi6]
      refine ow_next_i ?_
      refine aw_if_eq (tgt := 67) d_R_sortAgain_22 rfl (fun g22 => ?_) (fun g22 => ?_)
      · refine aw_iinc (v := nI (i + 1)) d_R_sortAgain_67 rfl (nI_succ i).symm (by decide) ?_
        refine aw_goto (tgt := 2) d_R_sortAgain_70 rfl ?_
        first
          | (rw [show srtS M p f (i + 1) = srtS M p f i from by simp only [srtS]; rw [if_neg (by grind)]] at ih; exact ih hi2 _)
          | (rw [show srtS M p f (i + 1) = jonM (takM (srtS M p f i) i p) i p (srtS M p f i (15 + i) p) from by simp only [srtS]; rw [if_pos (by grind)]] at ih; exact ih hi2 _)
      · refine aw_aload_n d_R_sortAgain_25 rfl ?_
        refine mm_getr (t := 7) f_R_19 d_R_sortAgain_26 (by decide) rfl rfl rfl ?_
        refine aw_iload_n d_R_sortAgain_29 rfl ?_
        refine aw_iload_n d_R_sortAgain_30 rfl ?_
        refine aw_cV2 (d' := (0, 0)) d_R_sortAgain_31 lk_R_193 cd_B_isMember (Nat.le_of_ble_eq_true rfl) rfl rfl ⟨Nat.le_of_ble_eq_true rfl, Nat.le_of_ble_eq_true rfl⟩ (fun _ h => nomatch h) ?_
        refine t_B_isMember hi5 hp ?_
        refine ow_next_i ?_
        refine aw_if_eq (tgt := 67) d_R_sortAgain_34 rfl (fun g34 => ?_) (fun g34 => ?_)
        · refine aw_iinc (v := nI (i + 1)) d_R_sortAgain_67 rfl (nI_succ i).symm (by decide) ?_
          refine aw_goto (tgt := 2) d_R_sortAgain_70 rfl ?_
          first
            | (rw [show srtS M p f (i + 1) = srtS M p f i from by simp only [srtS]; rw [if_neg (by grind)]] at ih; exact ih hi2 _)
            | (rw [show srtS M p f (i + 1) = jonM (takM (srtS M p f i) i p) i p (srtS M p f i (15 + i) p) from by simp only [srtS]; rw [if_pos (by grind)]] at ih; exact ih hi2 _)
        · refine aw_aload_n d_R_sortAgain_37 rfl ?_
          refine mm_getr (t := 7) f_R_19 d_R_sortAgain_38 (by decide) rfl rfl rfl ?_
          refine mm_getr (t := 14) f_R_243 d_R_sortAgain_41 (by decide) rfl rfl rfl ?_
          refine aw_iload_n d_R_sortAgain_44 rfl ?_
          refine mm_aald rfl d_R_sortAgain_45 (by decide) rfl hi5 (by decide) (rF_own hi5) ?_
          refine aw_iload_n d_R_sortAgain_46 rfl ?_
          refine mm_iald rfl d_R_sortAgain_47 (by omega) (kd_own hi5) (by omega) (by decide) ?_
          refine aw_istore d_R_sortAgain_48 (by decide) ?_
          refine aw_aload_n d_R_sortAgain_50 rfl ?_
          refine mm_getr (t := 7) f_R_19 d_R_sortAgain_51 (by decide) rfl rfl rfl ?_
          refine aw_iload_n d_R_sortAgain_54 rfl ?_
          refine aw_iload_n d_R_sortAgain_55 rfl ?_
          refine aw_cV2 (d' := (1, 17)) d_R_sortAgain_56 lk_R_209 cd_B_takeOut (Nat.le_of_ble_eq_true rfl) rfl rfl ⟨Nat.le_of_ble_eq_true rfl, Nat.le_of_ble_eq_true rfl⟩ (fun _ h => nomatch h) ?_
          refine t_B_takeOut hi5 hp ?_
          refine ow_next_v ?_
          refine aw_aload_n d_R_sortAgain_59 rfl ?_
          refine aw_iload_n d_R_sortAgain_60 rfl ?_
          refine aw_iload_n d_R_sortAgain_61 rfl ?_
          refine aw_iload d_R_sortAgain_62 rfl ?_
          refine aw_cV3 (d' := (3, 56)) d_R_sortAgain_64 lk_R_107 cd_R_join (Nat.le_of_ble_eq_true rfl) rfl rfl ⟨Nat.le_of_ble_eq_true rfl, Nat.le_of_ble_eq_true rfl⟩ (fun _ h => nomatch h) ?_
          refine t_R_join (hCi.tak hi5) hi5 hp ?_
          refine ow_next_v ?_
          refine aw_iinc (v := nI (i + 1)) d_R_sortAgain_67 rfl (nI_succ i).symm (by decide) ?_
          refine aw_goto (tgt := 2) d_R_sortAgain_70 rfl ?_
          first
            | (rw [show srtS M p f (i + 1) = srtS M p f i from by simp only [srtS]; rw [if_neg (by grind)]] at ih; exact ih hi2 _)
            | (rw [show srtS M p f (i + 1) = jonM (takM (srtS M p f i) i p) i p (srtS M p f i (15 + i) p) from by simp only [srtS]; rw [if_pos (by grind)]] at ih; exact ih hi2 _)
  refine aw_iconst (v := 0) d_R_sortAgain_0 (by decide) ?_
  refine aw_istore_n d_R_sortAgain_1 (by decide) ?_
  exact lp 0 (by omega) _
end TOwn2
