/-! the model: what its helpers do -/
theorem ow_u_self {M : Nat → Nat → Int32} {c j : Nat} {x : Int32} : ow_u M c j x c j = x := by rw [ow_u_eq]; simp [upd]
theorem nIadd (a b : Nat) : nI a + nI b = nI (a + b) := by simp [nI, Int32.ofNat_add]
theorem nImul (a b : Nat) : nI a * nI b = nI (a * b) := by simp [nI, Int32.ofNat_mul]
theorem ix24 (s p : Nat) : (24 : Int32) * nI s + nI p = nI (24 * s + p) := by
  rw [show (24 : Int32) = nI 24 from rfl, nImul, nIadd]
theorem ix24' (s p : Nat) : (24 : Int32) * nI s + nI p + 1 = nI (24 * s + p + 1) := by rw [ix24, nI_succ]
theorem ix24m (s p : Nat) : (24 : Int32) * nI s + nI (p + 1) - 1 = nI (24 * s + p) := by
  rw [ix24, show 24 * s + (p + 1) = 24 * s + p + 1 by omega, nI_succ]; exact Int32.add_sub_cancel _ _
theorem ix3 (p f : Nat) : (3 : Int32) * nI p + nI f = nI (3 * p + f) := by
  rw [show (3 : Int32) = nI 3 from rfl, nImul, nIadd]
theorem ix3z (p : Nat) : (3 : Int32) * nI p = nI (3 * p) := by rw [show (3 : Int32) = nI 3 from rfl, nImul]
theorem pv_dn' (k : Nat) : nI k + (-1) = pv k := pv_dn k
theorem pv_sub (k : Nat) : nI k - 1 = pv k := by rw [Int32.sub_eq_add_neg]; exact pv_dn k
theorem plc_ge {x : Int32} (h : plc x) (g : ¬ x < 0) : ∃ p, p < 24 ∧ x = nI p := by
  rcases h with e | h
  · subst e; exact absurd (by decide) g
  · exact h
theorem plc_ge' {x : Int32} (h : plc x) (g : 0 ≤ x) : ∃ p, p < 24 ∧ x = nI p := plc_ge h (by grind)
def mln (M : Nat → Nat → Int32) (s : Nat) : Nat := (M 59 s).toNatClampNeg
def sfm (M : Nat → Nat → Int32) (s : Nat) : Nat := (M 52 s - M 52 s / 10 * 10).toNatClampNeg
def mco (M : Nat → Nat → Int32) (s : Nat) : Int32 := if M 61 s < 0 ∨ M 55 (M 61 s).toNatClampNeg = M 50 s then M 61 s else M 57 (24 * s + (M 61 s).toNatClampNeg)
/-- the ranges of what the model holds -/
def MI (M : Nat → Nat → Int32) (tc sc : Nat) : Prop := tc ≤ 4 ∧ sc ≤ 5 ∧ M 48 1 = nI tc ∧ M 48 3 = nI sc ∧ plc (M 48 16) ∧ (∀ t, t < 4 → plc (M 60 t)) ∧ (∀ s, s < 5 → plc (M 61 s)) ∧ (∀ k, k < 120 → plc (M 57 k)) ∧ (∀ p, p < 24 → ∃ t, t < 4 ∧ M 55 p = nI t) ∧
  (∀ k, k < 120 → ∃ p, p < 24 ∧ M 58 k = nI p) ∧ (∀ s, s < 5 → ∃ n, n ≤ 24 ∧ M 59 s = nI n) ∧ ∀ s, s < 5 → (0 ≤ M 52 s ∧ M 52 s ≤ 3) ∨ (10 ≤ M 52 s ∧ ∃ f, f < 3 ∧ M 52 s - M 52 s / 10 * 10 = nI f)
theorem MI.tc {M : Nat → Nat → Int32} {tc sc : Nat} (h : MI M tc sc) : M 48 1 = nI tc := h.2.2.1
theorem MI.sc {M : Nat → Nat → Int32} {tc sc : Nat} (h : MI M tc sc) : M 48 3 = nI sc := h.2.2.2.1
section MIx
variable {M M' : Nat → Nat → Int32} {tc sc : Nat}
theorem MI.t4 (h : MI M tc sc) : tc ≤ 4 := h.1
theorem MI.s5 (h : MI M tc sc) : sc ≤ 5 := h.2.1
theorem MI.run (h : MI M tc sc) : plc (M 48 16) := h.2.2.2.2.1
theorem MI.ofT (h : MI M tc sc) {t : Nat} (ht : t < 4) : plc (M 60 t) := h.2.2.2.2.2.1 t ht
theorem MI.ofS (h : MI M tc sc) {s : Nat} (hs : s < 5) : plc (M 61 s) := h.2.2.2.2.2.2.1 s hs
theorem MI.own (h : MI M tc sc) {k : Nat} (hk : k < 120) : plc (M 57 k) := h.2.2.2.2.2.2.2.1 k hk
theorem MI.ty (h : MI M tc sc) {p : Nat} (hp : p < 24) : ∃ t, t < 4 ∧ M 55 p = nI t := h.2.2.2.2.2.2.2.2.1 p hp
theorem MI.lst (h : MI M tc sc) {k : Nat} (hk : k < 120) : ∃ p, p < 24 ∧ M 58 k = nI p := h.2.2.2.2.2.2.2.2.2.1 k hk
theorem MI.lgd (h : MI M tc sc) {s : Nat} (hs : s < 5) : ∃ n, n ≤ 24 ∧ M 59 s = nI n := h.2.2.2.2.2.2.2.2.2.2.1 s hs
theorem MI.ord (h : MI M tc sc) {s : Nat} (hs : s < 5) : (0 ≤ M 52 s ∧ M 52 s ≤ 3) ∨ (10 ≤ M 52 s ∧ ∃ f, f < 3 ∧ M 52 s - M 52 s / 10 * 10 = nI f) := h.2.2.2.2.2.2.2.2.2.2.2 s hs
theorem MI.sf (h : MI M tc sc) {s : Nat} (hs : s < 5) (h10 : 10 ≤ M 52 s) : sfm M s < 3 ∧ M 52 s - M 52 s / 10 * 10 = nI (sfm M s) := by
  rcases h.ord hs with h1 | ⟨-, f, hf, e⟩
  · exfalso; have := h1.2; grind
  · have : sfm M s = f := by unfold sfm; rw [e, nI_clamp (by omega)]
    rw [this]; exact ⟨hf, e⟩
theorem MI.ln (h : MI M tc sc) {s : Nat} (hs : s < 5) : mln M s ≤ 24 ∧ M 59 s = nI (mln M s) := by
  obtain ⟨n, hn, e⟩ := h.lgd hs
  have : mln M s = n := by unfold mln; rw [e, nI_clamp (by omega)]
  rw [this]; exact ⟨hn, e⟩
theorem MI.congr (h : MI M tc sc) (e1 : M' 48 1 = M 48 1) (e3 : M' 48 3 = M 48 3) (e16 : plc (M' 48 16)) (e60 : ∀ t, t < 4 → plc (M' 60 t)) (e61 : ∀ s, s < 5 → plc (M' 61 s)) (e57 : ∀ k, k < 120 → plc (M' 57 k)) (e55 : ∀ p, p < 24 → ∃ t, t < 4 ∧ M' 55 p = nI t) (e58 : ∀ k, k < 120 → ∃ p, p < 24 ∧ M' 58 k = nI p) (e59 : ∀ s, s < 5 → ∃ n, n ≤ 24 ∧ M' 59 s = nI n) (e52 : M' 52 = M 52) : MI M' tc sc := by
  obtain ⟨h1, h2, h3, h4, -, -, -, -, -, -, -, h12⟩ := h
  exact ⟨h1, h2, e1.trans h3, e3.trans h4, e16, e60, e61, e57, e55, e58, e59, by rw [e52]; exact h12⟩
/-- nothing of the ranges touched but cells that don't count -/
theorem MI.same (h : MI M tc sc) (e48 : M' 48 1 = M 48 1 ∧ M' 48 3 = M 48 3 ∧ M' 48 16 = M 48 16) (e : ∀ c, 48 < c → c ≠ 56 → c ≠ 54 → c < 62 → M' c = M c) : MI M' tc sc :=
  h.congr e48.1 e48.2.1 (by rw [e48.2.2]; exact h.run) (fun t ht => by rw [e 60 (by omega) (by omega) (by omega) (by omega)]; exact h.ofT ht) (fun s hs => by rw [e 61 (by omega) (by omega) (by omega) (by omega)]; exact h.ofS hs) (fun k hk => by rw [e 57 (by omega) (by omega) (by omega) (by omega)]; exact h.own hk) (fun p hp => by rw [e 55 (by omega) (by omega) (by omega) (by omega)]; exact h.ty hp) (fun k hk => by rw [e 58 (by omega) (by omega) (by omega) (by omega)]; exact h.lst hk) (fun s hs => by rw [e 59 (by omega) (by omega) (by omega) (by omega)]; exact h.lgd hs) (e 52 (by omega) (by omega) (by omega) (by omega))
theorem MI.cd (h : MI M tc sc) (x : Int32) : MI (ow_u M 48 0 x) tc sc := h.same ⟨rfl, rfl, rfl⟩ (fun c h1 _ _ _ => ow_u_ne (by omega))
theorem MI.cl (h : MI M tc sc) (j : Nat) (x : Int32) : MI (ow_u M 56 j x) tc sc := h.same ⟨rfl, rfl, rfl⟩ (fun c _ h2 _ _ => ow_u_ne h2)
theorem mco_plc (h : MI M tc sc) {s : Nat} (hs : s < 5) : plc (mco M s) := by
  unfold mco
  split
  · exact h.ofS hs
  · rename_i hn
    obtain ⟨p, hp, e⟩ := plc_ge (h.ofS hs) (fun g => hn (Or.inl g))
    rw [e, nI_clamp (by omega)]; exact h.own (by omega)
end MIx
def mrw (M : Nat → Nat → Int32) (k : Int32) : Nat → Int32
  | 0 => -1
  | i + 1 => if 0 < k ∧ M 54 i = k then nI i else mrw M k i
theorem mrw_plc (M : Nat → Nat → Int32) (k : Int32) {i : Nat} (hi : i ≤ 24) : plc (mrw M k i) := by
  induction i with
  | zero => exact Or.inl rfl
  | succ i ih =>
    simp only [mrw]; split
    · exact Or.inr ⟨i, by omega, rfl⟩
    · exact ih (by omega)
def mcS (M : Nat → Nat → Int32) (r : Nat) (stay : Int32) : Nat → Nat → Nat → Int32
  | 0 => M
  | i + 1 => ow_u (mcS M r stay i) 61 i (if (M 55 r = M 50 i ∨ 0 ≤ M 57 (24 * i + r)) ∧ (stay >>> (nI i &&& 31)) &&& 1 = 0 then nI r else mcS M r stay i 61 i)
theorem mcS_ne {M : Nat → Nat → Int32} {r : Nat} {stay : Int32} {i c : Nat} (h : c ≠ 61) : mcS M r stay i c = M c := by
  induction i with
  | zero => rfl
  | succ i ih => simp only [mcS]; rw [ow_u_ne h]; exact ih
def mcm (M : Nat → Nat → Int32) (r : Nat) (stay : Int32) (sc : Nat) : Nat → Nat → Int32 := mcS (ow_u (ow_u M 48 16 (nI r)) 60 (M 55 r).toNatClampNeg (nI r)) r stay sc
def mpo (M : Nat → Nat → Int32) (s : Nat) (r : Int32) : Nat → Int32
  | 0 => -1
  | k + 1 => if M 58 (24 * s + k) = r then nI k else mpo M s r k
theorem mpo_in (M : Nat → Nat → Int32) (s : Nat) (r : Int32) (n : Nat) : mpo M s r n = -1 ∨ ∃ k, k < n ∧ mpo M s r n = nI k := by
  induction n with
  | zero => exact Or.inl rfl
  | succ n ih =>
    simp only [mpo]; split
    · exact Or.inr ⟨n, by omega, rfl⟩
    · rcases ih with h | ⟨k, hk, h⟩
      · exact Or.inl h
      · exact Or.inr ⟨k, by omega, h⟩
/-- forwards and backwards in a ring -/
def mnf (M : Nat → Nat → Int32) (s : Nat) (ow : Int32) : Nat → Nat → Int32
  | 0, _ => -1
  | f + 1, k => if M 57 (24 * s + (M 58 (24 * s + k)).toNatClampNeg) = ow then M 58 (24 * s + k) else mnf M s ow f (k + 1)
def mnb (M : Nat → Nat → Int32) (s : Nat) (ow : Int32) : Nat → Int32
  | 0 => -1
  | k + 1 => if M 57 (24 * s + (M 58 (24 * s + k)).toNatClampNeg) = ow then M 58 (24 * s + k) else mnb M s ow k
theorem mnf_plc {M : Nat → Nat → Int32} {tc sc s : Nat} {ow : Int32} (h : MI M tc sc) (hs : s < 5) : ∀ f k, f + k ≤ 24 → plc (mnf M s ow f k) := by
  intro f
  induction f with
  | zero => intro k _; exact Or.inl rfl
  | succ f ih =>
    intro k hk
    simp only [mnf]; split
    · exact Or.inr (h.lst (by omega))
    · exact ih _ (by omega)
theorem mnb_plc {M : Nat → Nat → Int32} {tc sc s : Nat} {ow : Int32} (h : MI M tc sc) (hs : s < 5) : ∀ k, k ≤ 24 → plc (mnb M s ow k) := by
  intro k
  induction k with
  | zero => intro _; exact Or.inl rfl
  | succ k ih =>
    intro hk
    simp only [mnb]; split
    · exact Or.inr (h.lst (by omega))
    · exact ih (by omega)
def mRf (M : Nat → Nat → Int32) (s : Nat) (ow r v : Int32) : Nat → Bool
  | 0 => false
  | q + 1 => mRf M s ow r v q || decide (30 ≤ M 52 s ∧ 0 < M 54 q ∧ ¬ nI q = r ∧ M 57 (24 * s + q) = ow ∧ M 56 (3 * q + sfm M s) = v)
/-- the first of a ring that is behind the value v, from k on, or the list's end -/
def mpv (M : Nat → Nat → Int32) (s : Nat) (ow v : Int32) : Nat → Nat → Int32
  | 0, _ => M 59 s
  | f + 1, k => if M 57 (24 * s + (M 58 (24 * s + k)).toNatClampNeg) = ow ∧ (v < M 56 (3 * (M 58 (24 * s + k)).toNatClampNeg + sfm M s) ∨ (M 56 (3 * (M 58 (24 * s + k)).toNatClampNeg + sfm M s) = v ∧ M 52 s < 20)) then nI k else mpv M s ow v f (k + 1)
def mpf (M : Nat → Nat → Int32) (s : Nat) (ow : Int32) (r : Nat) : Int32 :=
  if (0 ≤ M 61 s ∧ M 57 (24 * s + (M 61 s).toNatClampNeg) = ow) ∧ (M 52 s = 2 ∨ M 52 s = 3) then mpo M s (M 61 s) (mln M s) + (if M 52 s = 2 then 1 else 0)
  else if M 52 s = 0 ∨ M 52 s = 2 then (if mnf M s ow (mln M s) 0 < 0 then M 59 s else mpo M s (mnf M s ow (mln M s) 0) (mln M s))
  else if M 52 s < 10 then M 59 s else mpv M s ow (M 56 (3 * r + sfm M s)) (mln M s) 0
/-- the list's entries from k on moved up to n, and from a on moved down below k -/
def mshR (M : Nat → Nat → Int32) (s k n : Nat) : Nat → Nat → Int32 := fun c j => if c = 58 ∧ 24 * s + k < j ∧ j ≤ 24 * s + n then M 58 (j - 1) else M c j
def mshL (M : Nat → Nat → Int32) (s a k : Nat) : Nat → Nat → Int32 := fun c j => if c = 58 ∧ 24 * s + a ≤ j ∧ j < 24 * s + k then M 58 (j + 1) else M c j
theorem mshR_n (M : Nat → Nat → Int32) (s n : Nat) : mshR M s n n = M := by
  funext c j; unfold mshR; rw [if_neg (by omega)]
theorem mshL_a (M : Nat → Nat → Int32) (s a : Nat) : mshL M s a a = M := by
  funext c j; unfold mshL; rw [if_neg (by omega)]
theorem mshR_ne {M : Nat → Nat → Int32} {s k n c : Nat} (h : c ≠ 58) : mshR M s k n c = M c := by
  funext j; unfold mshR; rw [if_neg (by omega)]
theorem mshL_ne {M : Nat → Nat → Int32} {s k n c : Nat} (h : c ≠ 58) : mshL M s k n c = M c := by
  funext j; unfold mshL; rw [if_neg (by omega)]
theorem mshR_st (M : Nat → Nat → Int32) (s i n : Nat) (h : i < n) : ow_u (mshR M s (i + 1) n) 58 (24 * s + (i + 1)) (mshR M s (i + 1) n 58 (24 * s + i)) = mshR M s i n := by
  funext c j
  by_cases hc : c = 58
  · subst hc
    rw [ow_u_eq]
    by_cases hj : j = 24 * s + (i + 1)
    · subst hj; simp only [upd, if_true]; unfold mshR; rw [if_neg (by omega), if_pos (by omega)]; congr 1
    · simp only [upd, if_neg hj]; unfold mshR
      by_cases h2 : 24 * s + (i + 1) < j ∧ j ≤ 24 * s + n
      · rw [if_pos (by omega), if_pos (by omega)]
      · rw [if_neg (by omega), if_neg (by omega)]
  · rw [ow_u_ne hc, mshR_ne hc, mshR_ne hc]
theorem mshL_st (M : Nat → Nat → Int32) (s a i : Nat) (h : a ≤ i) : ow_u (mshL M s a i) 58 (24 * s + i) (mshL M s a i 58 (24 * s + i + 1)) = mshL M s a (i + 1) := by
  funext c j
  by_cases hc : c = 58
  · subst hc
    rw [ow_u_eq]
    by_cases hj : j = 24 * s + i
    · subst hj; simp only [upd, if_true]; unfold mshL; rw [if_neg (by omega), if_pos (by omega)]
    · simp only [upd, if_neg hj]; unfold mshL
      by_cases h2 : 24 * s + a ≤ j ∧ j < 24 * s + i
      · rw [if_pos (by omega), if_pos (by omega)]
      · rw [if_neg (by omega), if_neg (by omega)]
  · rw [ow_u_ne hc, mshL_ne hc, mshL_ne hc]
def mjF (M : Nat → Nat → Int32) (s r : Nat) (ow : Int32) (a n : Nat) : Nat → Nat → Int32 := ow_u (ow_u (ow_u (mshR M s a n) 58 (24 * s + a) (nI r)) 59 s (M 59 s + 1)) 57 (24 * s + r) ow
def mlF (M : Nat → Nat → Int32) (s r a n : Nat) : Nat → Nat → Int32 := ow_u (mshL (ow_u M 59 s (M 59 s - 1)) s a (n - 1)) 57 (24 * s + r) (-1)
def mjn (M : Nat → Nat → Int32) (s r : Nat) (ow : Int32) : Nat → Nat → Int32 := mjF M s r ow (mpf M s ow r).toNatClampNeg (mln M s)
def mlv (M : Nat → Nat → Int32) (s r : Nat) : Nat → Nat → Int32 := mlF M s r (mpo M s (nI r) (mln M s)).toNatClampNeg (mln M s)
def mvl (M : Nat → Nat → Int32) (s r : Nat) : Int32 := if M 52 s < 10 then 0 else M 56 (3 * r + sfm M s)
section TMod1
variable {l : Launch} {Q : ow_R → ow_M → Prop} {M : Nat → Nat → Int32} {K : Int64} {b : Nat} {tc sc : Nat}
/-- M_thrown -/
theorem t_M_thrown (hq : Q (.inl (some (M 48 0))) (mm M K b)) : MT l Y_M_thrown (0, 0) [.ref 48] (mm M K b) Q := by
  refine mt_of (k := 0) (by decide) cd_M_thrown.1 (by simp [Value.category]) rfl ?_
  refine aw_aload_n d_M_thrown_0 rfl ?_
  refine mm_geti f_M_84 d_M_thrown_1 (by decide) rfl rfl ?_
  refine aw_iret d_M_thrown_4 rfl rfl ?_
  exact hq
/-- M_isType -/
theorem t_M_isType {t : Int32} (hq : Q (.inl (some (if 0 ≤ t ∧ t < M 48 1 then 1 else 0))) (mm M K b)) : MT l Y_M_isType (0, 0) [.ref 48, .int t] (mm M K b) Q := by
  refine mt_of (k := 0) (by decide) cd_M_isType.1 (by simp [Value.category]) rfl ?_
  refine aw_iload_n d_M_isType_0 rfl ?_
  refine aw_if_lt (tgt := 16) d_M_isType_1 rfl (fun g1 => ?_) (fun g1 => ?_)
  · refine aw_iconst (v := 0) d_M_isType_16 (by decide) ?_
    refine aw_iret d_M_isType_17 rfl rfl ?_
    first | (rw [if_pos (by grind)] at hq; exact hq) | (rw [if_neg (by grind)] at hq; exact hq)
  · refine aw_iload_n d_M_isType_4 rfl ?_
    refine aw_aload_n d_M_isType_5 rfl ?_
    refine mm_geti f_M_87 d_M_isType_6 (by decide) rfl rfl ?_
    refine aw_icmp_ge (tgt := 16) d_M_isType_9 rfl (fun g9 => ?_) (fun g9 => ?_)
    · refine aw_iconst (v := 0) d_M_isType_16 (by decide) ?_
      refine aw_iret d_M_isType_17 rfl rfl ?_
      first | (rw [if_pos (by grind)] at hq; exact hq) | (rw [if_neg (by grind)] at hq; exact hq)
    · refine aw_iconst (v := 1) d_M_isType_12 (by decide) ?_
      refine aw_goto (tgt := 17) d_M_isType_13 rfl ?_
      refine aw_iret d_M_isType_17 rfl rfl ?_
      first | (rw [if_pos (by grind)] at hq; exact hq) | (rw [if_neg (by grind)] at hq; exact hq)
/-- M_isSet -/
theorem t_M_isSet {t : Int32} (hq : Q (.inl (some (if 0 ≤ t ∧ t < M 48 3 then 1 else 0))) (mm M K b)) : MT l Y_M_isSet (0, 0) [.ref 48, .int t] (mm M K b) Q := by
  refine mt_of (k := 0) (by decide) cd_M_isSet.1 (by simp [Value.category]) rfl ?_
  refine aw_iload_n d_M_isSet_0 rfl ?_
  refine aw_if_lt (tgt := 16) d_M_isSet_1 rfl (fun g1 => ?_) (fun g1 => ?_)
  · refine aw_iconst (v := 0) d_M_isSet_16 (by decide) ?_
    refine aw_iret d_M_isSet_17 rfl rfl ?_
    first | (rw [if_pos (by grind)] at hq; exact hq) | (rw [if_neg (by grind)] at hq; exact hq)
  · refine aw_iload_n d_M_isSet_4 rfl ?_
    refine aw_aload_n d_M_isSet_5 rfl ?_
    refine mm_geti f_M_90 d_M_isSet_6 (by decide) rfl rfl ?_
    refine aw_icmp_ge (tgt := 16) d_M_isSet_9 rfl (fun g9 => ?_) (fun g9 => ?_)
    · refine aw_iconst (v := 0) d_M_isSet_16 (by decide) ?_
      refine aw_iret d_M_isSet_17 rfl rfl ?_
      first | (rw [if_pos (by grind)] at hq; exact hq) | (rw [if_neg (by grind)] at hq; exact hq)
    · refine aw_iconst (v := 1) d_M_isSet_12 (by decide) ?_
      refine aw_goto (tgt := 17) d_M_isSet_13 rfl ?_
      refine aw_iret d_M_isSet_17 rfl rfl ?_
      first | (rw [if_pos (by grind)] at hq; exact hq) | (rw [if_neg (by grind)] at hq; exact hq)
/-- M_isOrder -/
theorem t_M_isOrder {x h : Int32} (hq : Q (.inl (some (if (0 ≤ x ∧ x ≤ 3) ∨ (10 ≤ x ∧ x ≤ 32 ∧ x - x / 10 * 10 < 3 ∧ x - x / 10 * 10 < h) then 1 else 0))) (mm M K b)) : MT l Y_M_isOrder (0, 0) [.int x, .int h] (mm M K b) Q := by
  refine mt_of (k := 1) (by decide) cd_M_isOrder.1 (by simp [Value.category]) rfl ?_
  refine aw_iload_n d_M_isOrder_0 rfl ?_
  refine aw_bipush (v := 10) d_M_isOrder_1 (by decide) ?_
  refine aw_icmp_lt (tgt := 32) d_M_isOrder_3 rfl (fun g3 => ?_) (fun g3 => ?_)
  · refine aw_iconst (v := 0) d_M_isOrder_32 (by decide) ?_
    refine aw_istore_n d_M_isOrder_33 (by decide) ?_
    refine aw_iload_n d_M_isOrder_34 rfl ?_
    refine aw_if_lt (tgt := 43) d_M_isOrder_35 rfl (fun g35 => ?_) (fun g35 => ?_)
    · refine aw_iload_n d_M_isOrder_43 rfl ?_
      refine aw_if_eq (tgt := 51) d_M_isOrder_44 rfl (fun g44 => ?_) (fun g44 => ?_)
      · refine aw_iconst (v := 0) d_M_isOrder_51 (by decide) ?_
        refine aw_iret d_M_isOrder_52 rfl rfl ?_
        first | (rw [if_pos (by grind)] at hq; exact hq) | (rw [if_neg (by grind)] at hq; exact hq)
      · exact absurd g44 (by decide)
    · refine aw_iload_n d_M_isOrder_38 rfl ?_
      refine aw_iconst (v := 3) d_M_isOrder_39 (by decide) ?_
      refine aw_icmp_le (tgt := 47) d_M_isOrder_40 rfl (fun g40 => ?_) (fun g40 => ?_)
      · refine aw_iconst (v := 1) d_M_isOrder_47 (by decide) ?_
        refine aw_goto (tgt := 52) d_M_isOrder_48 rfl ?_
        refine aw_iret d_M_isOrder_52 rfl rfl ?_
        first | (rw [if_pos (by grind)] at hq; exact hq) | (rw [if_neg (by grind)] at hq; exact hq)
      · refine aw_iload_n d_M_isOrder_43 rfl ?_
        refine aw_if_eq (tgt := 51) d_M_isOrder_44 rfl (fun g44 => ?_) (fun g44 => ?_)
        · refine aw_iconst (v := 0) d_M_isOrder_51 (by decide) ?_
          refine aw_iret d_M_isOrder_52 rfl rfl ?_
          first | (rw [if_pos (by grind)] at hq; exact hq) | (rw [if_neg (by grind)] at hq; exact hq)
        · exact absurd g44 (by decide)
  · refine aw_iload_n d_M_isOrder_6 rfl ?_
    refine aw_bipush (v := 32) d_M_isOrder_7 (by decide) ?_
    refine aw_icmp_gt (tgt := 32) d_M_isOrder_9 rfl (fun g9 => ?_) (fun g9 => ?_)
    · refine aw_iconst (v := 0) d_M_isOrder_32 (by decide) ?_
      refine aw_istore_n d_M_isOrder_33 (by decide) ?_
      refine aw_iload_n d_M_isOrder_34 rfl ?_
      refine aw_if_lt (tgt := 43) d_M_isOrder_35 rfl (fun g35 => ?_) (fun g35 => ?_)
      · refine aw_iload_n d_M_isOrder_43 rfl ?_
        refine aw_if_eq (tgt := 51) d_M_isOrder_44 rfl (fun g44 => ?_) (fun g44 => ?_)
        · refine aw_iconst (v := 0) d_M_isOrder_51 (by decide) ?_
          refine aw_iret d_M_isOrder_52 rfl rfl ?_
          first | (rw [if_pos (by grind)] at hq; exact hq) | (rw [if_neg (by grind)] at hq; exact hq)
        · exact absurd g44 (by decide)
      · refine aw_iload_n d_M_isOrder_38 rfl ?_
        refine aw_iconst (v := 3) d_M_isOrder_39 (by decide) ?_
        refine aw_icmp_le (tgt := 47) d_M_isOrder_40 rfl (fun g40 => ?_) (fun g40 => ?_)
        · refine aw_iconst (v := 1) d_M_isOrder_47 (by decide) ?_
          refine aw_goto (tgt := 52) d_M_isOrder_48 rfl ?_
          refine aw_iret d_M_isOrder_52 rfl rfl ?_
          first | (rw [if_pos (by grind)] at hq; exact hq) | (rw [if_neg (by grind)] at hq; exact hq)
        · refine aw_iload_n d_M_isOrder_43 rfl ?_
          refine aw_if_eq (tgt := 51) d_M_isOrder_44 rfl (fun g44 => ?_) (fun g44 => ?_)
          · refine aw_iconst (v := 0) d_M_isOrder_51 (by decide) ?_
            refine aw_iret d_M_isOrder_52 rfl rfl ?_
            first | (rw [if_pos (by grind)] at hq; exact hq) | (rw [if_neg (by grind)] at hq; exact hq)
          · exact absurd g44 (by decide)
    · refine aw_iload_n d_M_isOrder_12 rfl ?_
      refine aw_bipush (v := 10) d_M_isOrder_13 (by decide) ?_
      refine aw_irem d_M_isOrder_15 (by decide) ?_
      refine aw_iconst (v := 3) d_M_isOrder_16 (by decide) ?_
      refine aw_icmp_ge (tgt := 32) d_M_isOrder_17 rfl (fun g17 => ?_) (fun g17 => ?_)
      · refine aw_iconst (v := 0) d_M_isOrder_32 (by decide) ?_
        refine aw_istore_n d_M_isOrder_33 (by decide) ?_
        refine aw_iload_n d_M_isOrder_34 rfl ?_
        refine aw_if_lt (tgt := 43) d_M_isOrder_35 rfl (fun g35 => ?_) (fun g35 => ?_)
        · refine aw_iload_n d_M_isOrder_43 rfl ?_
          refine aw_if_eq (tgt := 51) d_M_isOrder_44 rfl (fun g44 => ?_) (fun g44 => ?_)
          · refine aw_iconst (v := 0) d_M_isOrder_51 (by decide) ?_
            refine aw_iret d_M_isOrder_52 rfl rfl ?_
            first | (rw [if_pos (by grind)] at hq; exact hq) | (rw [if_neg (by grind)] at hq; exact hq)
          · exact absurd g44 (by decide)
        · refine aw_iload_n d_M_isOrder_38 rfl ?_
          refine aw_iconst (v := 3) d_M_isOrder_39 (by decide) ?_
          refine aw_icmp_le (tgt := 47) d_M_isOrder_40 rfl (fun g40 => ?_) (fun g40 => ?_)
          · refine aw_iconst (v := 1) d_M_isOrder_47 (by decide) ?_
            refine aw_goto (tgt := 52) d_M_isOrder_48 rfl ?_
            refine aw_iret d_M_isOrder_52 rfl rfl ?_
            first | (rw [if_pos (by grind)] at hq; exact hq) | (rw [if_neg (by grind)] at hq; exact hq)
          · refine aw_iload_n d_M_isOrder_43 rfl ?_
            refine aw_if_eq (tgt := 51) d_M_isOrder_44 rfl (fun g44 => ?_) (fun g44 => ?_)
            · refine aw_iconst (v := 0) d_M_isOrder_51 (by decide) ?_
              refine aw_iret d_M_isOrder_52 rfl rfl ?_
              first | (rw [if_pos (by grind)] at hq; exact hq) | (rw [if_neg (by grind)] at hq; exact hq)
            · exact absurd g44 (by decide)
      · refine aw_iload_n d_M_isOrder_20 rfl ?_
        refine aw_bipush (v := 10) d_M_isOrder_21 (by decide) ?_
        refine aw_irem d_M_isOrder_23 (by decide) ?_
        refine aw_iload_n d_M_isOrder_24 rfl ?_
        refine aw_icmp_ge (tgt := 32) d_M_isOrder_25 rfl (fun g25 => ?_) (fun g25 => ?_)
        · refine aw_iconst (v := 0) d_M_isOrder_32 (by decide) ?_
          refine aw_istore_n d_M_isOrder_33 (by decide) ?_
          refine aw_iload_n d_M_isOrder_34 rfl ?_
          refine aw_if_lt (tgt := 43) d_M_isOrder_35 rfl (fun g35 => ?_) (fun g35 => ?_)
          · refine aw_iload_n d_M_isOrder_43 rfl ?_
            refine aw_if_eq (tgt := 51) d_M_isOrder_44 rfl (fun g44 => ?_) (fun g44 => ?_)
            · refine aw_iconst (v := 0) d_M_isOrder_51 (by decide) ?_
              refine aw_iret d_M_isOrder_52 rfl rfl ?_
              first | (rw [if_pos (by grind)] at hq; exact hq) | (rw [if_neg (by grind)] at hq; exact hq)
            · exact absurd g44 (by decide)
          · refine aw_iload_n d_M_isOrder_38 rfl ?_
            refine aw_iconst (v := 3) d_M_isOrder_39 (by decide) ?_
            refine aw_icmp_le (tgt := 47) d_M_isOrder_40 rfl (fun g40 => ?_) (fun g40 => ?_)
            · refine aw_iconst (v := 1) d_M_isOrder_47 (by decide) ?_
              refine aw_goto (tgt := 52) d_M_isOrder_48 rfl ?_
              refine aw_iret d_M_isOrder_52 rfl rfl ?_
              first | (rw [if_pos (by grind)] at hq; exact hq) | (rw [if_neg (by grind)] at hq; exact hq)
            · refine aw_iload_n d_M_isOrder_43 rfl ?_
              refine aw_if_eq (tgt := 51) d_M_isOrder_44 rfl (fun g44 => ?_) (fun g44 => ?_)
              · refine aw_iconst (v := 0) d_M_isOrder_51 (by decide) ?_
                refine aw_iret d_M_isOrder_52 rfl rfl ?_
                first | (rw [if_pos (by grind)] at hq; exact hq) | (rw [if_neg (by grind)] at hq; exact hq)
              · exact absurd g44 (by decide)
        · refine aw_iconst (v := 1) d_M_isOrder_28 (by decide) ?_
          refine aw_goto (tgt := 33) d_M_isOrder_29 rfl ?_
          refine aw_istore_n d_M_isOrder_33 (by decide) ?_
          refine aw_iload_n d_M_isOrder_34 rfl ?_
          refine aw_if_lt (tgt := 43) d_M_isOrder_35 rfl (fun g35 => ?_) (fun g35 => ?_)
          · refine aw_iload_n d_M_isOrder_43 rfl ?_
            refine aw_if_eq (tgt := 51) d_M_isOrder_44 rfl (fun g44 => ?_) (fun g44 => ?_)
            · exact absurd g44 (by decide)
            · refine aw_iconst (v := 1) d_M_isOrder_47 (by decide) ?_
              refine aw_goto (tgt := 52) d_M_isOrder_48 rfl ?_
              refine aw_iret d_M_isOrder_52 rfl rfl ?_
              first | (rw [if_pos (by grind)] at hq; exact hq) | (rw [if_neg (by grind)] at hq; exact hq)
          · refine aw_iload_n d_M_isOrder_38 rfl ?_
            refine aw_iconst (v := 3) d_M_isOrder_39 (by decide) ?_
            refine aw_icmp_le (tgt := 47) d_M_isOrder_40 rfl (fun g40 => ?_) (fun g40 => ?_)
            · refine aw_iconst (v := 1) d_M_isOrder_47 (by decide) ?_
              refine aw_goto (tgt := 52) d_M_isOrder_48 rfl ?_
              refine aw_iret d_M_isOrder_52 rfl rfl ?_
              first | (rw [if_pos (by grind)] at hq; exact hq) | (rw [if_neg (by grind)] at hq; exact hq)
            · refine aw_iload_n d_M_isOrder_43 rfl ?_
              refine aw_if_eq (tgt := 51) d_M_isOrder_44 rfl (fun g44 => ?_) (fun g44 => ?_)
              · exact absurd g44 (by decide)
              · refine aw_iconst (v := 1) d_M_isOrder_47 (by decide) ?_
                refine aw_goto (tgt := 52) d_M_isOrder_48 rfl ?_
                refine aw_iret d_M_isOrder_52 rfl rfl ?_
                first | (rw [if_pos (by grind)] at hq; exact hq) | (rw [if_neg (by grind)] at hq; exact hq)
/-- M_currentOwner -/
theorem t_M_currentOwner {s : Nat} (hC : MI M tc sc) (hs : s < 5) (hq : Q (.inl (some (mco M s))) (mm M K b)) : MT l Y_M_currentOwner (0, 0) [.ref 48, .int (nI s)] (mm M K b) Q := by
  refine mt_of (k := 1) (by decide) cd_M_currentOwner.1 (by simp [Value.category]) rfl ?_
  refine aw_aload_n d_M_currentOwner_0 rfl ?_
  refine mm_getr (t := 61) f_M_53 d_M_currentOwner_1 (by decide) rfl rfl rfl ?_
  refine aw_iload_n d_M_currentOwner_4 rfl ?_
  refine mm_iald rfl d_M_currentOwner_5 (by decide) rfl (by omega) (by decide) ?_
  refine aw_istore_n d_M_currentOwner_6 (by decide) ?_
  refine aw_iload_n d_M_currentOwner_7 rfl ?_
  refine aw_if_lt (tgt := 26) d_M_currentOwner_8 rfl (fun g8 => ?_) (fun g8 => ?_)
  · refine aw_iload_n d_M_currentOwner_26 rfl ?_
    refine aw_goto (tgt := 41) d_M_currentOwner_27 rfl ?_
    refine aw_iret d_M_currentOwner_41 rfl rfl ?_
    first
      | exact q_val hq (by unfold mco; rw [if_pos (Or.inl g8)])
      | exact q_val hq (by unfold mco; rw [e2, if_pos (Or.inr g23)])
      | exact q_val hq (by unfold mco; rw [e2, if_neg (by intro h; rcases h with h | h; exact g8 h; exact g23 h)])
  · obtain ⟨p, hp, ep⟩ := plc_ge (hC.ofS hs) g8
    have e2 : (M 61 s).toNatClampNeg = p := by rw [ep, nI_clamp (by omega)]
    refine aw_aload_n d_M_currentOwner_11 rfl ?_
    refine mm_getr (t := 55) f_M_32 d_M_currentOwner_12 (by decide) rfl rfl rfl ?_
    refine aw_iload_n d_M_currentOwner_15 rfl ?_
    refine mm_iald ep d_M_currentOwner_16 (by decide) rfl (by omega) (by decide) ?_
    refine aw_aload_n d_M_currentOwner_17 rfl ?_
    refine mm_getr (t := 50) f_M_13 d_M_currentOwner_18 (by decide) rfl rfl rfl ?_
    refine aw_iload_n d_M_currentOwner_21 rfl ?_
    refine mm_iald rfl d_M_currentOwner_22 (by decide) rfl (by omega) (by decide) ?_
    refine aw_icmp_ne (tgt := 30) d_M_currentOwner_23 rfl (fun g23 => ?_) (fun g23 => ?_)
    · refine aw_aload_n d_M_currentOwner_30 rfl ?_
      refine mm_getr (t := 57) f_M_38 d_M_currentOwner_31 (by decide) rfl rfl rfl ?_
      refine aw_bipush (v := 24) d_M_currentOwner_34 (by decide) ?_
      refine aw_iload_n d_M_currentOwner_36 rfl ?_
      refine aw_imul d_M_currentOwner_37 ?_
      refine aw_iload_n d_M_currentOwner_38 rfl ?_
      refine aw_iadd d_M_currentOwner_39 ?_
      refine mm_iald (by rw [ep]; exact ix24 s p) d_M_currentOwner_40 (by decide) rfl (by omega) (by decide) ?_
      refine aw_iret d_M_currentOwner_41 rfl rfl ?_
      first
        | exact q_val hq (by unfold mco; rw [if_pos (Or.inl g8)])
        | exact q_val hq (by unfold mco; rw [e2, if_pos (Or.inr g23)])
        | exact q_val hq (by unfold mco; rw [e2, if_neg (by intro h; rcases h with h | h; exact g8 h; exact g23 h)])
    · refine aw_iload_n d_M_currentOwner_26 rfl ?_
      refine aw_goto (tgt := 41) d_M_currentOwner_27 rfl ?_
      refine aw_iret d_M_currentOwner_41 rfl rfl ?_
      first
        | exact q_val hq (by unfold mco; rw [if_pos (Or.inl g8)])
        | exact q_val hq (by unfold mco; rw [e2, if_pos (Or.inr g23)])
        | exact q_val hq (by unfold mco; rw [e2, if_neg (by intro h; rcases h with h | h; exact g8 h; exact g23 h)])
/-- M_recordWith -/
theorem t_M_recordWith {k : Int32} (hq : Q (.inl (some (mrw M k 24))) (mm M K b)) : MT l Y_M_recordWith (0, 0) [.ref 48, .int k] (mm M K b) Q := by
  refine mt_of (k := 2) (by decide) cd_M_recordWith.1 (by simp [Value.category]) rfl ?_
  have lp : ∀ i, i ≤ 24 → AW l Y_M_recordWith none (0, 0) Q 4 [some (.ref 48), some (.int k), some (.int (mrw M k i)), some (.int (nI i))] [] (mm M K b) := by
    refine loop_dn 24 (fun i hi ih => ?_)
    refine aw_iload_n d_M_recordWith_4 rfl ?_
    refine aw_bipush (v := 24) d_M_recordWith_5 (by decide) ?_
    refine aw_icmp_ge (tgt := 36) d_M_recordWith_7 rfl (fun g7 => ?_) (fun g7 => ?_)
    · have hi2 := ge_n (n := 24) rfl hi (by omega) g7
      subst hi2
      refine aw_iload_n d_M_recordWith_36 rfl ?_
      refine aw_iret d_M_recordWith_37 rfl rfl ?_
      exact hq
    · have hi2 := lt_n (n := 24) rfl hi (by omega) g7
      refine aw_iload_n d_M_recordWith_10 rfl ?_
      refine aw_if_le (tgt := 28) d_M_recordWith_11 rfl (fun g11 => ?_) (fun g11 => ?_)
      · refine aw_iload_n d_M_recordWith_28 rfl ?_
        refine aw_istore_n d_M_recordWith_29 (by decide) ?_
        refine aw_iinc (v := nI (i + 1)) d_M_recordWith_30 rfl (nI_succ i).symm (by decide) ?_
        refine aw_goto (tgt := 4) d_M_recordWith_33 rfl ?_
        first
          | (rw [show mrw M k (i + 1) = mrw M k i from by simp only [mrw]; rw [if_neg (by grind)]] at ih; exact ih hi2)
          | (rw [show mrw M k (i + 1) = nI i from by simp only [mrw]; rw [if_pos (by grind)]] at ih; exact ih hi2)
      · refine aw_aload_n d_M_recordWith_14 rfl ?_
        refine mm_getr (t := 54) f_M_29 d_M_recordWith_15 (by decide) rfl rfl rfl ?_
        refine aw_iload_n d_M_recordWith_18 rfl ?_
        refine mm_iald rfl d_M_recordWith_19 (by decide) rfl (by omega) (by decide) ?_
        refine aw_iload_n d_M_recordWith_20 rfl ?_
        refine aw_icmp_ne (tgt := 28) d_M_recordWith_21 rfl (fun g21 => ?_) (fun g21 => ?_)
        · refine aw_iload_n d_M_recordWith_28 rfl ?_
          refine aw_istore_n d_M_recordWith_29 (by decide) ?_
          refine aw_iinc (v := nI (i + 1)) d_M_recordWith_30 rfl (nI_succ i).symm (by decide) ?_
          refine aw_goto (tgt := 4) d_M_recordWith_33 rfl ?_
          first
            | (rw [show mrw M k (i + 1) = mrw M k i from by simp only [mrw]; rw [if_neg (by grind)]] at ih; exact ih hi2)
            | (rw [show mrw M k (i + 1) = nI i from by simp only [mrw]; rw [if_pos (by grind)]] at ih; exact ih hi2)
        · refine aw_iload_n d_M_recordWith_24 rfl ?_
          refine aw_goto (tgt := 29) d_M_recordWith_25 rfl ?_
          refine aw_istore_n d_M_recordWith_29 (by decide) ?_
          refine aw_iinc (v := nI (i + 1)) d_M_recordWith_30 rfl (nI_succ i).symm (by decide) ?_
          refine aw_goto (tgt := 4) d_M_recordWith_33 rfl ?_
          first
            | (rw [show mrw M k (i + 1) = mrw M k i from by simp only [mrw]; rw [if_neg (by grind)]] at ih; exact ih hi2)
            | (rw [show mrw M k (i + 1) = nI i from by simp only [mrw]; rw [if_pos (by grind)]] at ih; exact ih hi2)
  refine aw_iconst (v := -1) d_M_recordWith_0 (by decide) ?_
  refine aw_istore_n d_M_recordWith_1 (by decide) ?_
  refine aw_iconst (v := 0) d_M_recordWith_2 (by decide) ?_
  refine aw_istore_n d_M_recordWith_3 (by decide) ?_
  exact lp 0 (by omega)
/-- M_records -/
theorem t_M_records  (hq : Q (.inl (some (nI (cn (fun r => decide (0 < M 54 r)) 24)))) (mm M K b)) : MT l Y_M_records (0, 0) [.ref 48] (mm M K b) Q := by
  refine mt_of (k := 2) (by decide) cd_M_records.1 (by simp [Value.category]) rfl ?_
  have lp : ∀ i, i ≤ 24 → AW l Y_M_records none (0, 0) Q 4 [some (.ref 48), some (.int (nI (cn (fun r => decide (0 < M 54 r)) i))), some (.int (nI i))] [] (mm M K b) := by
    refine loop_dn 24 (fun i hi ih => ?_)
    refine aw_iload_n d_M_records_4 rfl ?_
    refine aw_bipush (v := 24) d_M_records_5 (by decide) ?_
    refine aw_icmp_ge (tgt := 33) d_M_records_7 rfl (fun g7 => ?_) (fun g7 => ?_)
    · have hi2 := ge_n (n := 24) rfl hi (by omega) g7
      subst hi2
      refine aw_iload_n d_M_records_33 rfl ?_
      refine aw_iret d_M_records_34 rfl rfl ?_
      exact hq
    · have hi2 := lt_n (n := 24) rfl hi (by omega) g7
      refine aw_iload_n d_M_records_10 rfl ?_
      refine aw_aload_n d_M_records_11 rfl ?_
      refine mm_getr (t := 54) f_M_29 d_M_records_12 (by decide) rfl rfl rfl ?_
      refine aw_iload_n d_M_records_15 rfl ?_
      refine mm_iald rfl d_M_records_16 (by decide) rfl (by omega) (by decide) ?_
      refine aw_if_le (tgt := 24) d_M_records_17 rfl (fun g17 => ?_) (fun g17 => ?_)
      · refine aw_iconst (v := 0) d_M_records_24 (by decide) ?_
        refine aw_iadd d_M_records_25 ?_
        first | rw [← nI_succ] | rw [Int32.add_zero]
        refine aw_istore_n d_M_records_26 (by decide) ?_
        refine aw_iinc (v := nI (i + 1)) d_M_records_27 rfl (nI_succ i).symm (by decide) ?_
        refine aw_goto (tgt := 4) d_M_records_30 rfl ?_
        first
          | (rw [show cn (fun r => decide (0 < M 54 r)) (i + 1) = cn (fun r => decide (0 < M 54 r)) i + 1 from by simp only [cn]; rw [if_pos (by grind)]] at ih; exact ih hi2)
          | (rw [show cn (fun r => decide (0 < M 54 r)) (i + 1) = cn (fun r => decide (0 < M 54 r)) i from by simp only [cn]; rw [if_neg (by grind)]; rfl] at ih; exact ih hi2)
      · have hz := nI_succ (cn (fun r => decide (0 < M 54 r)) i)
        refine aw_iconst (v := 1) d_M_records_20 (by decide) ?_
        refine aw_goto (tgt := 25) d_M_records_21 rfl ?_
        refine aw_iadd d_M_records_25 ?_
        first | rw [← nI_succ] | rw [Int32.add_zero]
        refine aw_istore_n d_M_records_26 (by decide) ?_
        refine aw_iinc (v := nI (i + 1)) d_M_records_27 rfl (nI_succ i).symm (by decide) ?_
        refine aw_goto (tgt := 4) d_M_records_30 rfl ?_
        first
          | (rw [show cn (fun r => decide (0 < M 54 r)) (i + 1) = cn (fun r => decide (0 < M 54 r)) i + 1 from by simp only [cn]; rw [if_pos (by grind)]] at ih; exact ih hi2)
          | (rw [show cn (fun r => decide (0 < M 54 r)) (i + 1) = cn (fun r => decide (0 < M 54 r)) i from by simp only [cn]; rw [if_neg (by grind)]; rfl] at ih; exact ih hi2)
  refine aw_iconst (v := 0) d_M_records_0 (by decide) ?_
  refine aw_istore_n d_M_records_1 (by decide) ?_
  refine aw_iconst (v := 0) d_M_records_2 (by decide) ?_
  refine aw_istore_n d_M_records_3 (by decide) ?_
  exact lp 0 (by omega)
/-- M_come -/
theorem t_M_come {r : Nat} {stay : Int32} (hC : MI M tc sc) (hr : r < 24) (hq : Q (.inl none) (mm (mcm M r stay sc) K b)) : MT l Y_M_come (0, 0) [.ref 48, .int (nI r), .int stay] (mm M K b) Q := by
  refine mt_of (k := 2) (by decide) cd_M_come.1 (by simp [Value.category]) rfl ?_
  obtain ⟨tt, htt, et⟩ := hC.ty hr
  have e2 : (nI tt).toNatClampNeg = tt := nI_clamp (by omega)
  have lp : ∀ i, i ≤ sc → ∀ w : Option Value, AW l Y_M_come none (0, 0) Q 19 [some (.ref 48), some (.int (nI r)), some (.int stay), some (.int (nI i)), w] [] (mm (mcS (ow_u (ow_u M 48 16 (nI r)) 60 tt (nI r)) r stay i) K b) := by
    refine loop_dn sc (fun i hi ih => ?_)
    intro w
    refine aw_iload_n d_M_come_19 rfl ?_
    refine aw_aload_n d_M_come_20 rfl ?_
    refine mm_geti f_M_90 d_M_come_21 (by decide) rfl rfl ?_
    refine aw_icmp_ge (tgt := 98) d_M_come_24 rfl (fun g24 => ?_) (fun g24 => ?_)
    · have hi2 := ge_n (n := sc) (by rw [mcS_ne (by decide)]; exact hC.sc) hi (by have := hC.s5; omega) g24
      subst hi2
      refine aw_vret d_M_come_98 rfl ?_
      exact q_mem hq (by simp [mcm, et, e2])
    · have hi2 := lt_n (n := sc) (by rw [mcS_ne (by decide)]; exact hC.sc) hi (by have := hC.s5; omega) g24
      have hi5 : i < 5 := by have := hC.s5; omega
      refine aw_aload_n d_M_come_27 rfl ?_
      refine mm_getr (t := 55) f_M_32 d_M_come_28 (by decide) rfl rfl rfl ?_
      refine aw_iload_n d_M_come_31 rfl ?_
      refine mm_iald rfl d_M_come_32 (by decide) rfl (by omega) (by decide) ?_
      refine aw_aload_n d_M_come_33 rfl ?_
      refine mm_getr (t := 50) f_M_13 d_M_come_34 (by decide) rfl rfl rfl ?_
      refine aw_iload_n d_M_come_37 rfl ?_
      refine mm_iald rfl d_M_come_38 (by decide) rfl (by omega) (by decide) ?_
      rw [mcS_ne (c := 55) (by decide), mcS_ne (c := 50) (by decide)]
      refine aw_icmp_eq (tgt := 56) d_M_come_39 rfl (fun g39 => ?_) (fun g39 => ?_)
      · refine aw_iconst (v := 1) d_M_come_56 (by decide) ?_
        refine aw_goto (tgt := 61) d_M_come_57 rfl ?_
        refine aw_istore d_M_come_61 (by decide) ?_
        refine aw_aload_n d_M_come_63 rfl ?_
        refine mm_getr (t := 61) f_M_53 d_M_come_64 (by decide) rfl rfl rfl ?_
        refine aw_iload_n d_M_come_67 rfl ?_
        refine aw_iload d_M_come_68 rfl ?_
        refine aw_if_eq (tgt := 85) d_M_come_70 rfl (fun g70 => ?_) (fun g70 => ?_)
        · exact absurd g70 (by decide)
        · refine aw_iload_n d_M_come_73 rfl ?_
          refine aw_iload_n d_M_come_74 rfl ?_
          refine aw_ishr d_M_come_75 ?_
          refine aw_iconst (v := 1) d_M_come_76 (by decide) ?_
          refine aw_iand d_M_come_77 ?_
          refine aw_if_ne (tgt := 85) d_M_come_78 rfl (fun g78 => ?_) (fun g78 => ?_)
          · refine aw_aload_n d_M_come_85 rfl ?_
            refine mm_getr (t := 61) f_M_53 d_M_come_86 (by decide) rfl rfl rfl ?_
            refine aw_iload_n d_M_come_89 rfl ?_
            refine mm_iald rfl d_M_come_90 (by decide) rfl (by omega) (by decide) ?_
            refine mm_iast rfl d_M_come_91 (by decide) rfl (by omega) (by decide) ?_
            refine aw_iinc (v := nI (i + 1)) d_M_come_92 rfl (nI_succ i).symm (by decide) ?_
            refine aw_goto (tgt := 19) d_M_come_95 rfl ?_
            first
              | (rw [show mcS (ow_u (ow_u M 48 16 (nI r)) 60 tt (nI r)) r stay (i + 1) = ow_u (mcS (ow_u (ow_u M 48 16 (nI r)) 60 tt (nI r)) r stay i) 61 i (nI r) from by simp only [mcS]; rw [if_pos (by grind)]] at ih; exact ih hi2 _)
              | (rw [show mcS (ow_u (ow_u M 48 16 (nI r)) 60 tt (nI r)) r stay (i + 1) = ow_u (mcS (ow_u (ow_u M 48 16 (nI r)) 60 tt (nI r)) r stay i) 61 i (mcS (ow_u (ow_u M 48 16 (nI r)) 60 tt (nI r)) r stay i 61 i) from by simp only [mcS]; rw [if_neg (by grind)]] at ih; exact ih hi2 _)
          · refine aw_iload_n d_M_come_81 rfl ?_
            refine aw_goto (tgt := 91) d_M_come_82 rfl ?_
            refine mm_iast rfl d_M_come_91 (by decide) rfl (by omega) (by decide) ?_
            refine aw_iinc (v := nI (i + 1)) d_M_come_92 rfl (nI_succ i).symm (by decide) ?_
            refine aw_goto (tgt := 19) d_M_come_95 rfl ?_
            first
              | (rw [show mcS (ow_u (ow_u M 48 16 (nI r)) 60 tt (nI r)) r stay (i + 1) = ow_u (mcS (ow_u (ow_u M 48 16 (nI r)) 60 tt (nI r)) r stay i) 61 i (nI r) from by simp only [mcS]; rw [if_pos (by grind)]] at ih; exact ih hi2 _)
              | (rw [show mcS (ow_u (ow_u M 48 16 (nI r)) 60 tt (nI r)) r stay (i + 1) = ow_u (mcS (ow_u (ow_u M 48 16 (nI r)) 60 tt (nI r)) r stay i) 61 i (mcS (ow_u (ow_u M 48 16 (nI r)) 60 tt (nI r)) r stay i 61 i) from by simp only [mcS]; rw [if_neg (by grind)]] at ih; exact ih hi2 _)
      · refine aw_aload_n d_M_come_42 rfl ?_
        refine mm_getr (t := 57) f_M_38 d_M_come_43 (by decide) rfl rfl rfl ?_
        refine aw_bipush (v := 24) d_M_come_46 (by decide) ?_
        refine aw_iload_n d_M_come_48 rfl ?_
        refine aw_imul d_M_come_49 ?_
        refine aw_iload_n d_M_come_50 rfl ?_
        refine aw_iadd d_M_come_51 ?_
        refine mm_iald (ix24 i r) d_M_come_52 (by decide) rfl (by omega) (by decide) ?_
        rw [mcS_ne (c := 57) (by decide)]
        refine aw_if_lt (tgt := 60) d_M_come_53 rfl (fun g53 => ?_) (fun g53 => ?_)
        · refine aw_iconst (v := 0) d_M_come_60 (by decide) ?_
          refine aw_istore d_M_come_61 (by decide) ?_
          refine aw_aload_n d_M_come_63 rfl ?_
          refine mm_getr (t := 61) f_M_53 d_M_come_64 (by decide) rfl rfl rfl ?_
          refine aw_iload_n d_M_come_67 rfl ?_
          refine aw_iload d_M_come_68 rfl ?_
          refine aw_if_eq (tgt := 85) d_M_come_70 rfl (fun g70 => ?_) (fun g70 => ?_)
          · refine aw_aload_n d_M_come_85 rfl ?_
            refine mm_getr (t := 61) f_M_53 d_M_come_86 (by decide) rfl rfl rfl ?_
            refine aw_iload_n d_M_come_89 rfl ?_
            refine mm_iald rfl d_M_come_90 (by decide) rfl (by omega) (by decide) ?_
            refine mm_iast rfl d_M_come_91 (by decide) rfl (by omega) (by decide) ?_
            refine aw_iinc (v := nI (i + 1)) d_M_come_92 rfl (nI_succ i).symm (by decide) ?_
            refine aw_goto (tgt := 19) d_M_come_95 rfl ?_
            first
              | (rw [show mcS (ow_u (ow_u M 48 16 (nI r)) 60 tt (nI r)) r stay (i + 1) = ow_u (mcS (ow_u (ow_u M 48 16 (nI r)) 60 tt (nI r)) r stay i) 61 i (nI r) from by simp only [mcS]; rw [if_pos (by grind)]] at ih; exact ih hi2 _)
              | (rw [show mcS (ow_u (ow_u M 48 16 (nI r)) 60 tt (nI r)) r stay (i + 1) = ow_u (mcS (ow_u (ow_u M 48 16 (nI r)) 60 tt (nI r)) r stay i) 61 i (mcS (ow_u (ow_u M 48 16 (nI r)) 60 tt (nI r)) r stay i 61 i) from by simp only [mcS]; rw [if_neg (by grind)]] at ih; exact ih hi2 _)
          · exact absurd g70 (by decide)
        · refine aw_iconst (v := 1) d_M_come_56 (by decide) ?_
          refine aw_goto (tgt := 61) d_M_come_57 rfl ?_
          refine aw_istore d_M_come_61 (by decide) ?_
          refine aw_aload_n d_M_come_63 rfl ?_
          refine mm_getr (t := 61) f_M_53 d_M_come_64 (by decide) rfl rfl rfl ?_
          refine aw_iload_n d_M_come_67 rfl ?_
          refine aw_iload d_M_come_68 rfl ?_
          refine aw_if_eq (tgt := 85) d_M_come_70 rfl (fun g70 => ?_) (fun g70 => ?_)
          · exact absurd g70 (by decide)
          · refine aw_iload_n d_M_come_73 rfl ?_
            refine aw_iload_n d_M_come_74 rfl ?_
            refine aw_ishr d_M_come_75 ?_
            refine aw_iconst (v := 1) d_M_come_76 (by decide) ?_
            refine aw_iand d_M_come_77 ?_
            refine aw_if_ne (tgt := 85) d_M_come_78 rfl (fun g78 => ?_) (fun g78 => ?_)
            · refine aw_aload_n d_M_come_85 rfl ?_
              refine mm_getr (t := 61) f_M_53 d_M_come_86 (by decide) rfl rfl rfl ?_
              refine aw_iload_n d_M_come_89 rfl ?_
              refine mm_iald rfl d_M_come_90 (by decide) rfl (by omega) (by decide) ?_
              refine mm_iast rfl d_M_come_91 (by decide) rfl (by omega) (by decide) ?_
              refine aw_iinc (v := nI (i + 1)) d_M_come_92 rfl (nI_succ i).symm (by decide) ?_
              refine aw_goto (tgt := 19) d_M_come_95 rfl ?_
              first
                | (rw [show mcS (ow_u (ow_u M 48 16 (nI r)) 60 tt (nI r)) r stay (i + 1) = ow_u (mcS (ow_u (ow_u M 48 16 (nI r)) 60 tt (nI r)) r stay i) 61 i (nI r) from by simp only [mcS]; rw [if_pos (by grind)]] at ih; exact ih hi2 _)
                | (rw [show mcS (ow_u (ow_u M 48 16 (nI r)) 60 tt (nI r)) r stay (i + 1) = ow_u (mcS (ow_u (ow_u M 48 16 (nI r)) 60 tt (nI r)) r stay i) 61 i (mcS (ow_u (ow_u M 48 16 (nI r)) 60 tt (nI r)) r stay i 61 i) from by simp only [mcS]; rw [if_neg (by grind)]] at ih; exact ih hi2 _)
            · refine aw_iload_n d_M_come_81 rfl ?_
              refine aw_goto (tgt := 91) d_M_come_82 rfl ?_
              refine mm_iast rfl d_M_come_91 (by decide) rfl (by omega) (by decide) ?_
              refine aw_iinc (v := nI (i + 1)) d_M_come_92 rfl (nI_succ i).symm (by decide) ?_
              refine aw_goto (tgt := 19) d_M_come_95 rfl ?_
              first
                | (rw [show mcS (ow_u (ow_u M 48 16 (nI r)) 60 tt (nI r)) r stay (i + 1) = ow_u (mcS (ow_u (ow_u M 48 16 (nI r)) 60 tt (nI r)) r stay i) 61 i (nI r) from by simp only [mcS]; rw [if_pos (by grind)]] at ih; exact ih hi2 _)
                | (rw [show mcS (ow_u (ow_u M 48 16 (nI r)) 60 tt (nI r)) r stay (i + 1) = ow_u (mcS (ow_u (ow_u M 48 16 (nI r)) 60 tt (nI r)) r stay i) 61 i (mcS (ow_u (ow_u M 48 16 (nI r)) 60 tt (nI r)) r stay i 61 i) from by simp only [mcS]; rw [if_neg (by grind)]] at ih; exact ih hi2 _)
  refine aw_aload_n d_M_come_0 rfl ?_
  refine aw_iload_n d_M_come_1 rfl ?_
  refine mm_puti fw_M_47 d_M_come_2 (by decide) rfl rfl rfl rfl ?_
  refine aw_aload_n d_M_come_5 rfl ?_
  refine mm_getr (t := 60) f_M_50 d_M_come_6 (by decide) rfl rfl rfl ?_
  refine aw_aload_n d_M_come_9 rfl ?_
  refine mm_getr (t := 55) f_M_32 d_M_come_10 (by decide) rfl rfl rfl ?_
  refine aw_iload_n d_M_come_13 rfl ?_
  refine mm_iald rfl d_M_come_14 (by decide) rfl (by omega) (by decide) ?_
  refine aw_iload_n d_M_come_15 rfl ?_
  refine mm_iast et d_M_come_16 (by decide) rfl (by omega) (by decide) ?_
  refine aw_iconst (v := 0) d_M_come_17 (by decide) ?_
  refine aw_istore_n d_M_come_18 (by decide) ?_
  exact lp 0 (by omega) _
/-- M_placeOf -/
theorem t_M_placeOf {s n : Nat} (hs : s < 5) (hn : M 59 s = nI n) (h24 : n ≤ 24) {r : Int32} (hq : Q (.inl (some (mpo M s r n))) (mm M K b)) : MT l Y_M_placeOf (0, 0) [.ref 48, .int (nI s), .int r] (mm M K b) Q := by
  refine mt_of (k := 2) (by decide) cd_M_placeOf.1 (by simp [Value.category]) rfl ?_
  have lp : ∀ i, i ≤ n → AW l Y_M_placeOf none (0, 0) Q 5 [some (.ref 48), some (.int (nI s)), some (.int r), some (.int (mpo M s r i)), some (.int (nI i))] [] (mm M K b) := by
    refine loop_dn n (fun i hi ih => ?_)
    refine aw_iload d_M_placeOf_5 rfl ?_
    refine aw_aload_n d_M_placeOf_7 rfl ?_
    refine mm_getr (t := 59) f_M_44 d_M_placeOf_8 (by decide) rfl rfl rfl ?_
    refine aw_iload_n d_M_placeOf_11 rfl ?_
    refine mm_iald rfl d_M_placeOf_12 (by decide) rfl (by omega) (by decide) ?_
    refine aw_icmp_ge (tgt := 45) d_M_placeOf_13 rfl (fun g13 => ?_) (fun g13 => ?_)
    · have hi2 := ge_n (n := n) hn hi (by omega) g13
      subst hi2
      refine aw_iload_n d_M_placeOf_45 rfl ?_
      refine aw_iret d_M_placeOf_46 rfl rfl ?_
      exact hq
    · have hi2 := lt_n (n := n) hn hi (by omega) g13
      refine aw_aload_n d_M_placeOf_16 rfl ?_
      refine mm_getr (t := 58) f_M_41 d_M_placeOf_17 (by decide) rfl rfl rfl ?_
      refine aw_bipush (v := 24) d_M_placeOf_20 (by decide) ?_
      refine aw_iload_n d_M_placeOf_22 rfl ?_
      refine aw_imul d_M_placeOf_23 ?_
      refine aw_iload d_M_placeOf_24 rfl ?_
      refine aw_iadd d_M_placeOf_26 ?_
      refine mm_iald (ix24 s i) d_M_placeOf_27 (by decide) rfl (by omega) (by decide) ?_
      refine aw_iload_n d_M_placeOf_28 rfl ?_
      refine aw_icmp_ne (tgt := 37) d_M_placeOf_29 rfl (fun g29 => ?_) (fun g29 => ?_)
      · refine aw_iload_n d_M_placeOf_37 rfl ?_
        refine aw_istore_n d_M_placeOf_38 (by decide) ?_
        refine aw_iinc (v := nI (i + 1)) d_M_placeOf_39 rfl (nI_succ i).symm (by decide) ?_
        refine aw_goto (tgt := 5) d_M_placeOf_42 rfl ?_
        first
          | (rw [show mpo M s r (i + 1) = mpo M s r i from by simp only [mpo]; rw [if_neg (by grind)]] at ih; exact ih hi2)
          | (rw [show mpo M s r (i + 1) = nI i from by simp only [mpo]; rw [if_pos (by grind)]] at ih; exact ih hi2)
      · refine aw_iload d_M_placeOf_32 rfl ?_
        refine aw_goto (tgt := 38) d_M_placeOf_34 rfl ?_
        refine aw_istore_n d_M_placeOf_38 (by decide) ?_
        refine aw_iinc (v := nI (i + 1)) d_M_placeOf_39 rfl (nI_succ i).symm (by decide) ?_
        refine aw_goto (tgt := 5) d_M_placeOf_42 rfl ?_
        first
          | (rw [show mpo M s r (i + 1) = mpo M s r i from by simp only [mpo]; rw [if_neg (by grind)]] at ih; exact ih hi2)
          | (rw [show mpo M s r (i + 1) = nI i from by simp only [mpo]; rw [if_pos (by grind)]] at ih; exact ih hi2)
  refine aw_iconst (v := -1) d_M_placeOf_0 (by decide) ?_
  refine aw_istore_n d_M_placeOf_1 (by decide) ?_
  refine aw_iconst (v := 0) d_M_placeOf_2 (by decide) ?_
  refine aw_istore d_M_placeOf_3 (by decide) ?_
  exact lp 0 (by omega)
theorem t_M_nextInF (hC : MI M tc sc) {s n : Nat} (hs : s < 5) (hn : M 59 s = nI n) (h24 : n ≤ 24) {ow : Int32} {a : Nat} (ha : a ≤ n) (hq : Q (.inl (some (mnf M s ow (n - a) a))) (mm M K b)) : MT l Y_M_nextIn (0, 0) [.ref 48, .int (nI s), .int ow, .int (nI a), .int 1] (mm M K b) Q := by
  refine mt_of (k := 1) (by decide) cd_M_nextIn.1 (by simp [Value.category]) rfl ?_
  have lp : ∀ i, i ≤ n → mnf M s ow (n - i) i = mnf M s ow (n - a) a → AW l Y_M_nextIn none (0, 0) Q 3 [some (.ref 48), some (.int (nI s)), some (.int ow), some (.int (nI a)), some (.int 1), some (.int (nI i))] [] (mm M K b) := by
    refine loop_dn n (fun i hi ih => ?_)
    intro hR
    refine aw_iload d_M_nextIn_3 rfl ?_
    refine aw_if_lt (tgt := 68) d_M_nextIn_5 rfl (fun g5 => ?_) (fun g5 => ?_)
    · exact absurd g5 (nI_pos (by omega))
    · refine aw_iload d_M_nextIn_8 rfl ?_
      refine aw_aload_n d_M_nextIn_10 rfl ?_
      refine mm_getr (t := 59) f_M_44 d_M_nextIn_11 (by decide) rfl rfl rfl ?_
      refine aw_iload_n d_M_nextIn_14 rfl ?_
      refine mm_iald rfl d_M_nextIn_15 (by decide) rfl (by omega) (by decide) ?_
      refine aw_icmp_ge (tgt := 68) d_M_nextIn_16 rfl (fun g16 => ?_) (fun g16 => ?_)
      · have hi2 := ge_n (n := n) hn hi (by omega) g16
        refine aw_iconst (v := -1) d_M_nextIn_68 (by decide) ?_
        refine aw_iret d_M_nextIn_69 rfl rfl ?_
        rw [hi2, Nat.sub_self] at hR
        exact q_val hq hR
      · have hi2 := lt_n (n := n) hn hi (by omega) g16
        have hu : n - i = (n - (i + 1)) + 1 := by omega
        rw [hu] at hR
        simp only [mnf] at hR
        refine aw_aload_n d_M_nextIn_19 rfl ?_
        refine mm_getr (t := 57) f_M_38 d_M_nextIn_20 (by decide) rfl rfl rfl ?_
        refine aw_bipush (v := 24) d_M_nextIn_23 (by decide) ?_
        refine aw_iload_n d_M_nextIn_25 rfl ?_
        refine aw_imul d_M_nextIn_26 ?_
        refine aw_aload_n d_M_nextIn_27 rfl ?_
        refine mm_getr (t := 58) f_M_41 d_M_nextIn_28 (by decide) rfl rfl rfl ?_
        refine aw_bipush (v := 24) d_M_nextIn_31 (by decide) ?_
        refine aw_iload_n d_M_nextIn_33 rfl ?_
        refine aw_imul d_M_nextIn_34 ?_
        refine aw_iload d_M_nextIn_35 rfl ?_
        refine aw_iadd d_M_nextIn_37 ?_
        refine mm_iald (ix24 s i) d_M_nextIn_38 (by decide) rfl (by omega) (by decide) ?_
        obtain ⟨p, hp, ep⟩ := hC.lst (k := 24 * s + i) (by omega)
        have e2 : (M 58 (24 * s + i)).toNatClampNeg = p := by rw [ep, nI_clamp (by omega)]
        refine aw_iadd d_M_nextIn_39 ?_
        refine mm_iald (by rw [ep]; exact ix24 s p) d_M_nextIn_40 (by decide) rfl (by omega) (by decide) ?_
        refine aw_iload_n d_M_nextIn_41 rfl ?_
        refine aw_icmp_ne (tgt := 58) d_M_nextIn_42 rfl (fun g42 => ?_) (fun g42 => ?_)
        · refine aw_iload d_M_nextIn_58 rfl ?_
          refine aw_iload d_M_nextIn_60 rfl ?_
          refine aw_iadd d_M_nextIn_62 ?_
          rw [← nI_succ]
          refine aw_istore d_M_nextIn_63 (by decide) ?_
          refine aw_goto (tgt := 3) d_M_nextIn_65 rfl ?_
          rw [if_neg (by grind)] at hR
          exact ih hi2 hR
        · refine aw_aload_n d_M_nextIn_45 rfl ?_
          refine mm_getr (t := 58) f_M_41 d_M_nextIn_46 (by decide) rfl rfl rfl ?_
          refine aw_bipush (v := 24) d_M_nextIn_49 (by decide) ?_
          refine aw_iload_n d_M_nextIn_51 rfl ?_
          refine aw_imul d_M_nextIn_52 ?_
          refine aw_iload d_M_nextIn_53 rfl ?_
          refine aw_iadd d_M_nextIn_55 ?_
          refine mm_iald (ix24 s i) d_M_nextIn_56 (by decide) rfl (by omega) (by decide) ?_
          refine aw_iret d_M_nextIn_57 rfl rfl ?_
          rw [if_pos (by grind)] at hR
          exact q_val hq hR
  refine aw_iload_n d_M_nextIn_0 rfl ?_
  refine aw_istore d_M_nextIn_1 (by decide) ?_
  exact lp a ha rfl
theorem t_M_nextInB (hC : MI M tc sc) {s n : Nat} (hs : s < 5) (hn : M 59 s = nI n) (h24 : n ≤ 24) {ow : Int32} {x : Int32} {a : Nat} (ha : a ≤ n) (hx : x = pv a ∨ (x < 0 ∧ a = 0)) (hq : Q (.inl (some (mnb M s ow a))) (mm M K b)) : MT l Y_M_nextIn (0, 0) [.ref 48, .int (nI s), .int ow, .int x, .int (-1)] (mm M K b) Q := by
  refine mt_of (k := 1) (by decide) cd_M_nextIn.1 (by simp [Value.category]) rfl ?_
  have lp : ∀ i, i ≤ n → ∀ y : Int32, (y = pv i ∨ (y < 0 ∧ i = 0)) → mnb M s ow i = mnb M s ow a → AW l Y_M_nextIn none (0, 0) Q 3 [some (.ref 48), some (.int (nI s)), some (.int ow), some (.int x), some (.int (-1)), some (.int y)] [] (mm M K b) := by
    intro i
    induction i with
    | zero =>
      intro hi y hy hR
      have hy0 : y < 0 := by
        rcases hy with h | h
        · rw [h]; decide
        · exact h.1
      refine aw_iload d_M_nextIn_3 rfl ?_
      refine aw_if_lt (tgt := 68) d_M_nextIn_5 rfl (fun g5 => ?_) (fun g5 => ?_)
      · refine aw_iconst (v := -1) d_M_nextIn_68 (by decide) ?_
        refine aw_iret d_M_nextIn_69 rfl rfl ?_
        exact q_val hq hR
      · exact absurd hy0 g5
    | succ i ih =>
      intro hi y hy hR
      have hy0 : y = nI i := by
        rcases hy with h | h
        · exact h
        · omega
      subst hy0
      simp only [mnb] at hR
      refine aw_iload d_M_nextIn_3 rfl ?_
      refine aw_if_lt (tgt := 68) d_M_nextIn_5 rfl (fun g5 => ?_) (fun g5 => ?_)
      · exact absurd g5 (nI_pos (by omega))
      · refine aw_iload d_M_nextIn_8 rfl ?_
        refine aw_aload_n d_M_nextIn_10 rfl ?_
        refine mm_getr (t := 59) f_M_44 d_M_nextIn_11 (by decide) rfl rfl rfl ?_
        refine aw_iload_n d_M_nextIn_14 rfl ?_
        refine mm_iald rfl d_M_nextIn_15 (by decide) rfl (by omega) (by decide) ?_
        refine aw_icmp_ge (tgt := 68) d_M_nextIn_16 rfl (fun g16 => ?_) (fun g16 => ?_)
        · exact absurd (ge_n (n := n) hn (by omega) (by omega) g16) (by omega)
        · refine aw_aload_n d_M_nextIn_19 rfl ?_
          refine mm_getr (t := 57) f_M_38 d_M_nextIn_20 (by decide) rfl rfl rfl ?_
          refine aw_bipush (v := 24) d_M_nextIn_23 (by decide) ?_
          refine aw_iload_n d_M_nextIn_25 rfl ?_
          refine aw_imul d_M_nextIn_26 ?_
          refine aw_aload_n d_M_nextIn_27 rfl ?_
          refine mm_getr (t := 58) f_M_41 d_M_nextIn_28 (by decide) rfl rfl rfl ?_
          refine aw_bipush (v := 24) d_M_nextIn_31 (by decide) ?_
          refine aw_iload_n d_M_nextIn_33 rfl ?_
          refine aw_imul d_M_nextIn_34 ?_
          refine aw_iload d_M_nextIn_35 rfl ?_
          refine aw_iadd d_M_nextIn_37 ?_
          refine mm_iald (ix24 s i) d_M_nextIn_38 (by decide) rfl (by omega) (by decide) ?_
          obtain ⟨p, hp, ep⟩ := hC.lst (k := 24 * s + i) (by omega)
          have e2 : (M 58 (24 * s + i)).toNatClampNeg = p := by rw [ep, nI_clamp (by omega)]
          refine aw_iadd d_M_nextIn_39 ?_
          refine mm_iald (by rw [ep]; exact ix24 s p) d_M_nextIn_40 (by decide) rfl (by omega) (by decide) ?_
          refine aw_iload_n d_M_nextIn_41 rfl ?_
          refine aw_icmp_ne (tgt := 58) d_M_nextIn_42 rfl (fun g42 => ?_) (fun g42 => ?_)
          · refine aw_iload d_M_nextIn_58 rfl ?_
            refine aw_iload d_M_nextIn_60 rfl ?_
            refine aw_iadd d_M_nextIn_62 ?_
            rw [pv_dn']
            refine aw_istore d_M_nextIn_63 (by decide) ?_
            refine aw_goto (tgt := 3) d_M_nextIn_65 rfl ?_
            rw [if_neg (by grind)] at hR
            exact ih (by omega) _ (Or.inl rfl) hR
          · refine aw_aload_n d_M_nextIn_45 rfl ?_
            refine mm_getr (t := 58) f_M_41 d_M_nextIn_46 (by decide) rfl rfl rfl ?_
            refine aw_bipush (v := 24) d_M_nextIn_49 (by decide) ?_
            refine aw_iload_n d_M_nextIn_51 rfl ?_
            refine aw_imul d_M_nextIn_52 ?_
            refine aw_iload d_M_nextIn_53 rfl ?_
            refine aw_iadd d_M_nextIn_55 ?_
            refine mm_iald (ix24 s i) d_M_nextIn_56 (by decide) rfl (by omega) (by decide) ?_
            refine aw_iret d_M_nextIn_57 rfl rfl ?_
            rw [if_pos (by grind)] at hR
            exact q_val hq hR
  refine aw_iload_n d_M_nextIn_0 rfl ?_
  refine aw_istore d_M_nextIn_1 (by decide) ?_
  exact lp a ha x hx rfl
/-- M_firstOf -/
theorem t_M_firstOf (hC : MI M tc sc) {s n : Nat} (hs : s < 5) (hn : M 59 s = nI n) (h24 : n ≤ 24) {ow : Int32} (hq : Q (.inl (some (mnf M s ow n 0))) (mm M K b)) : MT l Y_M_firstOf (1, 17) [.ref 48, .int (nI s), .int ow] (mm M K b) Q := by
  refine mt_of (k := 0) (by decide) cd_M_firstOf.1 (by simp [Value.category]) rfl ?_
  refine aw_aload_n d_M_firstOf_0 rfl ?_
  refine aw_iload_n d_M_firstOf_1 rfl ?_
  refine aw_iload_n d_M_firstOf_2 rfl ?_
  refine aw_iconst (v := 0) d_M_firstOf_3 (by decide) ?_
  refine aw_iconst (v := 1) d_M_firstOf_4 (by decide) ?_
  refine aw_cV4 (d' := (0, 0)) d_M_firstOf_5 lk_M_105 cd_M_nextIn (Nat.le_of_ble_eq_true rfl) rfl rfl ⟨Nat.le_of_ble_eq_true rfl, Nat.le_of_ble_eq_true rfl⟩ (fun _ h => nomatch h) ?_
  refine t_M_nextInF hC hs hn h24 (a := 0) (by omega) ?_
  refine ow_next_i ?_
  refine aw_iret d_M_firstOf_8 rfl rfl ?_
  exact hq
/-- M_lastOf -/
theorem t_M_lastOf (hC : MI M tc sc) {s n : Nat} (hs : s < 5) (hn : M 59 s = nI n) (h24 : n ≤ 24) {ow : Int32} (hq : Q (.inl (some (mnb M s ow n))) (mm M K b)) : MT l Y_M_lastOf (1, 17) [.ref 48, .int (nI s), .int ow] (mm M K b) Q := by
  refine mt_of (k := 0) (by decide) cd_M_lastOf.1 (by simp [Value.category]) rfl ?_
  refine aw_aload_n d_M_lastOf_0 rfl ?_
  refine aw_iload_n d_M_lastOf_1 rfl ?_
  refine aw_iload_n d_M_lastOf_2 rfl ?_
  refine aw_aload_n d_M_lastOf_3 rfl ?_
  refine mm_getr (t := 59) f_M_44 d_M_lastOf_4 (by decide) rfl rfl rfl ?_
  refine aw_iload_n d_M_lastOf_7 rfl ?_
  refine mm_iald rfl d_M_lastOf_8 (by decide) rfl (by omega) (by decide) ?_
  refine aw_iconst (v := 1) d_M_lastOf_9 (by decide) ?_
  refine aw_isub d_M_lastOf_10 ?_
  refine aw_iconst (v := -1) d_M_lastOf_11 (by decide) ?_
  refine aw_cV4 (d' := (0, 0)) d_M_lastOf_12 lk_M_105 cd_M_nextIn (Nat.le_of_ble_eq_true rfl) rfl rfl ⟨Nat.le_of_ble_eq_true rfl, Nat.le_of_ble_eq_true rfl⟩ (fun _ h => nomatch h) ?_
  refine t_M_nextInB hC hs hn h24 (a := n) (by omega) (Or.inl (by rw [hn, pv_sub])) ?_
  refine ow_next_i ?_
  refine aw_iret d_M_lastOf_15 rfl rfl ?_
  exact hq
/-- M_isRefused -/
theorem t_M_isRefused {s : Nat} (hC : MI M tc sc) (hs : s < 5) {ow r v : Int32} (hq : Q (.inl (some (if mRf M s ow r v 24 = true then 1 else 0))) (mm M K b)) : MT l Y_M_isRefused (0, 0) [.ref 48, .int (nI s), .int ow, .int r, .int v] (mm M K b) Q := by
  refine mt_of (k := 2) (by decide) cd_M_isRefused.1 (by simp [Value.category]) rfl ?_
  have lp : ∀ i, i ≤ 24 → AW l Y_M_isRefused none (0, 0) Q 6 [some (.ref 48), some (.int (nI s)), some (.int ow), some (.int r), some (.int v), some (.int (if mRf M s ow r v i = true then 1 else 0)), some (.int (nI i))] [] (mm M K b) := by
    refine loop_dn 24 (fun i hi ih => ?_)
    refine aw_iload d_M_isRefused_6 rfl ?_
    refine aw_bipush (v := 24) d_M_isRefused_8 (by decide) ?_
    refine aw_icmp_ge (tgt := 98) d_M_isRefused_10 rfl (fun g10 => ?_) (fun g10 => ?_)
    · have hi2 := ge_n (n := 24) rfl hi (by omega) g10
      subst hi2
      refine aw_iload d_M_isRefused_98 rfl ?_
      refine aw_iret d_M_isRefused_100 rfl (by split <;> rfl) ?_
      exact hq
    · have hi2 := lt_n (n := 24) rfl hi (by omega) g10
      refine aw_iload d_M_isRefused_13 rfl ?_
      refine aw_if_ne (tgt := 85) d_M_isRefused_15 rfl (fun g15 => ?_) (fun g15 => ?_)
      · refine aw_iconst (v := 1) d_M_isRefused_85 (by decide) ?_
        refine aw_goto (tgt := 90) d_M_isRefused_86 rfl ?_
        refine aw_istore d_M_isRefused_90 (by decide) ?_
        refine aw_iinc (v := nI (i + 1)) d_M_isRefused_92 rfl (nI_succ i).symm (by decide) ?_
        refine aw_goto (tgt := 6) d_M_isRefused_95 rfl ?_
        first
          | (rw [show mRf M s ow r v (i + 1) = true from by simp only [mRf]; grind] at ih; exact ih hi2)
          | (rw [show mRf M s ow r v (i + 1) = false from by simp only [mRf]; grind] at ih; exact ih hi2)
      · refine aw_aload_n d_M_isRefused_18 rfl ?_
        refine mm_getr (t := 52) f_M_19 d_M_isRefused_19 (by decide) rfl rfl rfl ?_
        refine aw_iload_n d_M_isRefused_22 rfl ?_
        refine mm_iald rfl d_M_isRefused_23 (by decide) rfl (by omega) (by decide) ?_
        refine aw_bipush (v := 30) d_M_isRefused_24 (by decide) ?_
        refine aw_icmp_lt (tgt := 89) d_M_isRefused_26 rfl (fun g26 => ?_) (fun g26 => ?_)
        · refine aw_iconst (v := 0) d_M_isRefused_89 (by decide) ?_
          refine aw_istore d_M_isRefused_90 (by decide) ?_
          refine aw_iinc (v := nI (i + 1)) d_M_isRefused_92 rfl (nI_succ i).symm (by decide) ?_
          refine aw_goto (tgt := 6) d_M_isRefused_95 rfl ?_
          first
            | (rw [show mRf M s ow r v (i + 1) = true from by simp only [mRf]; grind] at ih; exact ih hi2)
            | (rw [show mRf M s ow r v (i + 1) = false from by simp only [mRf]; grind] at ih; exact ih hi2)
        · have hsf := hC.sf hs (by grind)
          refine aw_aload_n d_M_isRefused_29 rfl ?_
          refine mm_getr (t := 54) f_M_29 d_M_isRefused_30 (by decide) rfl rfl rfl ?_
          refine aw_iload d_M_isRefused_33 rfl ?_
          refine mm_iald rfl d_M_isRefused_35 (by decide) rfl (by omega) (by decide) ?_
          refine aw_if_le (tgt := 89) d_M_isRefused_36 rfl (fun g36 => ?_) (fun g36 => ?_)
          · refine aw_iconst (v := 0) d_M_isRefused_89 (by decide) ?_
            refine aw_istore d_M_isRefused_90 (by decide) ?_
            refine aw_iinc (v := nI (i + 1)) d_M_isRefused_92 rfl (nI_succ i).symm (by decide) ?_
            refine aw_goto (tgt := 6) d_M_isRefused_95 rfl ?_
            first
              | (rw [show mRf M s ow r v (i + 1) = true from by simp only [mRf]; grind] at ih; exact ih hi2)
              | (rw [show mRf M s ow r v (i + 1) = false from by simp only [mRf]; grind] at ih; exact ih hi2)
          · refine aw_iload d_M_isRefused_39 rfl ?_
            refine aw_iload_n d_M_isRefused_41 rfl ?_
            refine aw_icmp_eq (tgt := 89) d_M_isRefused_42 rfl (fun g42 => ?_) (fun g42 => ?_)
            · refine aw_iconst (v := 0) d_M_isRefused_89 (by decide) ?_
              refine aw_istore d_M_isRefused_90 (by decide) ?_
              refine aw_iinc (v := nI (i + 1)) d_M_isRefused_92 rfl (nI_succ i).symm (by decide) ?_
              refine aw_goto (tgt := 6) d_M_isRefused_95 rfl ?_
              first
                | (rw [show mRf M s ow r v (i + 1) = true from by simp only [mRf]; grind] at ih; exact ih hi2)
                | (rw [show mRf M s ow r v (i + 1) = false from by simp only [mRf]; grind] at ih; exact ih hi2)
            · refine aw_aload_n d_M_isRefused_45 rfl ?_
              refine mm_getr (t := 57) f_M_38 d_M_isRefused_46 (by decide) rfl rfl rfl ?_
              refine aw_bipush (v := 24) d_M_isRefused_49 (by decide) ?_
              refine aw_iload_n d_M_isRefused_51 rfl ?_
              refine aw_imul d_M_isRefused_52 ?_
              refine aw_iload d_M_isRefused_53 rfl ?_
              refine aw_iadd d_M_isRefused_55 ?_
              refine mm_iald (ix24 s i) d_M_isRefused_56 (by decide) rfl (by omega) (by decide) ?_
              refine aw_iload_n d_M_isRefused_57 rfl ?_
              refine aw_icmp_ne (tgt := 89) d_M_isRefused_58 rfl (fun g58 => ?_) (fun g58 => ?_)
              · refine aw_iconst (v := 0) d_M_isRefused_89 (by decide) ?_
                refine aw_istore d_M_isRefused_90 (by decide) ?_
                refine aw_iinc (v := nI (i + 1)) d_M_isRefused_92 rfl (nI_succ i).symm (by decide) ?_
                refine aw_goto (tgt := 6) d_M_isRefused_95 rfl ?_
                first
                  | (rw [show mRf M s ow r v (i + 1) = true from by simp only [mRf]; grind] at ih; exact ih hi2)
                  | (rw [show mRf M s ow r v (i + 1) = false from by simp only [mRf]; grind] at ih; exact ih hi2)
              · refine aw_aload_n d_M_isRefused_61 rfl ?_
                refine mm_getr (t := 56) f_M_35 d_M_isRefused_62 (by decide) rfl rfl rfl ?_
                refine aw_iconst (v := 3) d_M_isRefused_65 (by decide) ?_
                refine aw_iload d_M_isRefused_66 rfl ?_
                refine aw_imul d_M_isRefused_68 ?_
                refine aw_aload_n d_M_isRefused_69 rfl ?_
                refine mm_getr (t := 52) f_M_19 d_M_isRefused_70 (by decide) rfl rfl rfl ?_
                refine aw_iload_n d_M_isRefused_73 rfl ?_
                refine mm_iald rfl d_M_isRefused_74 (by decide) rfl (by omega) (by decide) ?_
                refine aw_bipush (v := 10) d_M_isRefused_75 (by decide) ?_
                refine aw_irem d_M_isRefused_77 (by decide) ?_
                refine aw_iadd d_M_isRefused_78 ?_
                refine mm_iald (by rw [hsf.2]; exact ix3 i (sfm M s)) d_M_isRefused_79 (by decide) rfl (by have := hsf.1; omega) (by decide) ?_
                refine aw_iload d_M_isRefused_80 rfl ?_
                refine aw_icmp_ne (tgt := 89) d_M_isRefused_82 rfl (fun g82 => ?_) (fun g82 => ?_)
                · refine aw_iconst (v := 0) d_M_isRefused_89 (by decide) ?_
                  refine aw_istore d_M_isRefused_90 (by decide) ?_
                  refine aw_iinc (v := nI (i + 1)) d_M_isRefused_92 rfl (nI_succ i).symm (by decide) ?_
                  refine aw_goto (tgt := 6) d_M_isRefused_95 rfl ?_
                  first
                    | (rw [show mRf M s ow r v (i + 1) = true from by simp only [mRf]; grind] at ih; exact ih hi2)
                    | (rw [show mRf M s ow r v (i + 1) = false from by simp only [mRf]; grind] at ih; exact ih hi2)
                · refine aw_iconst (v := 1) d_M_isRefused_85 (by decide) ?_
                  refine aw_goto (tgt := 90) d_M_isRefused_86 rfl ?_
                  refine aw_istore d_M_isRefused_90 (by decide) ?_
                  refine aw_iinc (v := nI (i + 1)) d_M_isRefused_92 rfl (nI_succ i).symm (by decide) ?_
                  refine aw_goto (tgt := 6) d_M_isRefused_95 rfl ?_
                  first
                    | (rw [show mRf M s ow r v (i + 1) = true from by simp only [mRf]; grind] at ih; exact ih hi2)
                    | (rw [show mRf M s ow r v (i + 1) = false from by simp only [mRf]; grind] at ih; exact ih hi2)
  refine aw_iconst (v := 0) d_M_isRefused_0 (by decide) ?_
  refine aw_istore d_M_isRefused_1 (by decide) ?_
  refine aw_iconst (v := 0) d_M_isRefused_3 (by decide) ?_
  refine aw_istore d_M_isRefused_4 (by decide) ?_
  exact lp 0 (by omega)
end TMod1
