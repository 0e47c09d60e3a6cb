/-! moving in rings -/
section Nav
variable {A B : ow_A} {k tc sc s n a : Nat} {o x : Int32}
theorem rk_const {own : Nat → Int32} {ls : Nat → Nat} {j : Nat} (haj : a ≤ j) (h : ∀ i, a ≤ i → i < j → ¬ own (ls i) = o) : rk own ls o j = rk own ls o a := by
  obtain ⟨d, rfl⟩ : ∃ d, j = a + d := ⟨j - a, by omega⟩
  clear haj
  induction d with
  | zero => rfl
  | succ d ih =>
    rw [show a + (d + 1) = (a + d) + 1 by omega, rk_s0 (h (a + d) (by omega) (by omega))]
    exact ih (fun i h1 h2 => h i h1 (by omega))
theorem BR.lk (h : BR A B tc sc k) (hs : s < 5) {j : Nat} (hj : j < 24) : B 58 (24 * s + j) = nI (lsB B s j) ∧ lsB B s j < 24 := by
  obtain ⟨p, hp, e⟩ := h.ll (24 * s + j) (by omega)
  have : lsB B s j = p := by unfold lsB; rw [e, nI_clamp (by omega)]
  rw [this]; exact ⟨e, hp⟩
theorem BR.lo (h : BR A B tc sc k) (hs : s < 5) {j : Nat} (hj : j < 24) : B 57 (24 * s + (B 58 (24 * s + j)).toNatClampNeg) = A (15 + s) (lsB B s j) := by
  have := h.lk hs hj
  rw [this.1, nI_clamp (by omega)]; exact (h.ow s hs _ this.2).symm
theorem BR.lij (h : BR A B tc sc k) (hs : s < 5) : LIJ B s := by
  intro i j hi hj e
  have hn := (h.rg s hs).1
  rw [(h.lk hs (show i < 24 by omega)).1, (h.lk hs (show j < 24 by omega)).1] at e
  exact (h.rg s hs).2.2.1 i j hi hj (nI_inj (h.lk hs (by omega)).2 (h.lk hs (by omega)).2 e)
theorem BR.mpoo (h : BR A B tc sc k) (hs : s < 5) {i : Nat} (hi : i < mln B s) : mpo B s (nI (lsB B s i)) (mln B s) = nI i := by
  have hn := (h.rg s hs).1
  rw [← (h.lk hs (show i < 24 by omega)).1]
  exact mpo_at _ (h.lij hs) hi
theorem mat_rk (h : RK (A (15 + s)) (A (21 + s)) (lsB B s) n) (ho : ¬ o = -1) {j : Nat} (hj : j < n) (he : A (15 + s) (lsB B s j) = o) : mat A s o (nI (rk (A (15 + s)) (lsB B s) o j)) 24 = nI (lsB B s j) := by
  refine mat_is (h.2.1 j hj).1 he (h.at hj he) ?_ 24 (h.2.1 j hj).1 (Nat.le_refl _)
  intro q hq ⟨q1, q2⟩
  have := h.uniq ho (Nat.lt_trans hq (h.2.1 j hj).1) q1 hj he q2
  omega
theorem mat_out (h : RK (A (15 + s)) (A (21 + s)) (lsB B s) n) (ho : ¬ o = -1) (hx : ∀ j, j < n → A (15 + s) (lsB B s j) = o → ¬ nI (rk (A (15 + s)) (lsB B s) o j) = x) : mat A s o x 24 = -1 := by
  refine mat_no (fun p hp ⟨q1, q2⟩ => ?_)
  obtain ⟨j, hj, ej⟩ := h.2.2.2.1 p hp (by rw [q1]; exact ho)
  subst ej
  rw [h.at hj q1] at q2
  exact hx j hj q1 q2
theorem rk_sm {own : Nat → Int32} {ls : Nat → Nat} (h : a ≤ 24) : rk own ls o a < 2 ^ 31 := by
  have := rk_24 (own := own) (ls := ls) (o := o) h; omega
theorem nav_f (h : BR A B tc sc k) (hs : s < 5) (ho : ¬ o = -1) (ha : a ≤ mln B s) : mnf B s o (mln B s - a) a = mat A s o (nI (rk (A (15 + s)) (lsB B s) o a)) 24 := by
  have hr := h.rg s hs
  have hn := hr.1
  rcases mnf_sp B s o (mln B s - a) a with ⟨q1, q2⟩ | ⟨j, q1, q2, q3, q4, q5⟩
  · rw [q1]
    refine (mat_out hr ho (fun j hj he e => ?_)).symm
    have e2 := (nI_eq (rk_sm (by omega)) (rk_sm (by omega))).mp e
    rcases Nat.lt_or_ge j a with g | g
    · have := cn_lt' (p := fun i => A (15 + s) (lsB B s i) == o) (by simpa using he) g
      unfold rk at e2; omega
    · exact q2 j g (by omega) (by rw [h.lo hs (by omega)]; exact he)
  · have hj : j < mln B s := by omega
    rw [h.lo hs (by omega)] at q4
    rw [q3, (h.lk hs (by omega)).1, ← rk_const q1 (fun i h1 h2 => by rw [← h.lo hs (by omega)]; exact q5 i h1 h2)]
    exact (mat_rk hr ho hj q4).symm
theorem nav_b (h : BR A B tc sc k) (hs : s < 5) (ho : ¬ o = -1) (ha : a ≤ mln B s) : mnb B s o a = mat A s o (pv (rk (A (15 + s)) (lsB B s) o a)) 24 := by
  have hr := h.rg s hs
  have hn := hr.1
  rcases mnb_sp B s o a with ⟨q1, q2⟩ | ⟨j, q1, q2, q3, q4⟩
  · have e0 : rk (A (15 + s)) (lsB B s) o a = 0 := rk_const (a := 0) (by omega) (fun i _ h2 => by rw [← h.lo hs (by omega)]; exact q2 i h2)
    rw [q1, e0]
    exact (mat_out hr ho (fun j hj he e => absurd e (nI_m1 (rk_sm (by omega))))).symm
  · have hj : j < mln B s := by omega
    rw [h.lo hs (by omega)] at q3
    have e1 : rk (A (15 + s)) (lsB B s) o a = rk (A (15 + s)) (lsB B s) o j + 1 := by
      rw [← rk_s1 q3]
      exact rk_const (by omega) (fun i h1 h2 => by rw [← h.lo hs (by omega)]; exact q4 i (by omega) h2)
    rw [q2, (h.lk hs (by omega)).1, e1]
    exact (mat_rk hr ho hj q3).symm
theorem BR.size (h : BR A B tc sc k) (hs : s < 5) (ho : ¬ o = -1) : szr A s o = nI (rk (A (15 + s)) (lsB B s) o (mln B s)) := by
  unfold szr; rw [(h.rg s hs).size ho]
theorem BR.mem (h : BR A B tc sc k) (hs : s < 5) {p : Nat} (hp : p < 24) (hm : ¬ A (15 + s) p = -1) : s < sc ∧ ¬ A 8 p = 0 ∧ A 9 p = A 4 s ∧ ∃ o, o < 24 ∧ A (15 + s) p = nI o ∧ ¬ A 8 o = 0 ∧ A 9 o = A 3 s := (h.wv s hs p hp).resolve_left hm
theorem J2.ne34 (h : J2 A B tc sc k) (hs : s < sc) : ¬ A 3 s = A 4 s := by
  obtain ⟨t, u, h1, h2, h3, h4, h5⟩ := h.p.ov s hs
  have := h.p.t4
  intro e; rw [h4, h5] at e
  exact h3 ((nI_eq (by omega) (by omega)).mp e)
/-- the current one of a set: an owner, or a member of a ring -/
theorem J2.cur (h : J2 A B tc sc k) (hs : s < 5) (hc : ¬ A 47 s = -1) : s < sc ∧ ∃ c, c < 24 ∧ A 47 s = nI c ∧ (A 47 s).toNatClampNeg = c ∧ ¬ A 8 c = 0 ∧
    ((A 9 c = A 3 s ∧ co A s = nI c ∧ A (15 + s) c = -1 ∧ A (21 + s) c = -1) ∨
     (¬ A 9 c = A 3 s ∧ ¬ A (15 + s) c = -1 ∧ co A s = A (15 + s) c ∧ ¬ co A s = nI c ∧ ∃ i, i < mln B s ∧ lsB B s i = c ∧ A (21 + s) c = nI (rk (A (15 + s)) (lsB B s) (A (15 + s) c) i) ∧ mpo B s (nI c) (mln B s) = nI i)) := by
  rcases h.s.sl s hs with e | ⟨hsc, c, hc24, ec, hal, hor⟩
  · exact absurd e hc
  · have ecl : (A 47 s).toNatClampNeg = c := by rw [ec, nI_clamp (by omega)]
    refine ⟨hsc, c, hc24, ec, ecl, hal, ?_⟩
    by_cases g : A 9 c = A 3 s
    · left
      have hown : A (15 + s) c = -1 := by
        rcases h.b.wv s hs c hc24 with q | ⟨_, _, q, _⟩
        · exact q
        · exact absurd (g.symm.trans q) (h.ne34 hsc)
      refine ⟨g, ?_, hown, (h.b.rg s hs).2.2.2.2.2 c hc24 hown⟩
      unfold co; rw [ecl, if_pos (Or.inr g)]; exact ec
    · right
      have hown := hor.resolve_left g
      have hco : co A s = A (15 + s) c := by unfold co; rw [ecl, if_neg (fun q => q.elim hc g)]
      obtain ⟨i, hi, ei⟩ := (h.b.rg s hs).2.2.2.1 c hc24 hown
      refine ⟨g, hown, hco, ?_, i, hi, ei, ?_, ?_⟩
      · rw [hco]
        obtain ⟨_, _, q1, o, q2, q3, _, q4⟩ := h.b.mem hs hc24 hown
        intro e; rw [q3] at e
        have := nI_inj q2 hc24 e; subst this
        exact g q4
      · have := (h.b.rg s hs).2.2.2.2.1 i hi; rw [ei] at this; exact this
      · rw [← ei]; exact h.b.mpoo hs hi
theorem J2.co1 (h : J2 A B tc sc k) (hs : s < 5) : co A s = -1 ↔ A 47 s = -1 := by
  constructor
  · intro e
    refine Decidable.byContradiction (fun g => ?_)
    obtain ⟨_, c, hc, _, _, _, h1 | h1⟩ := h.cur hs g
    · rw [h1.2.1] at e; exact absurd e (nI_m1 (by omega))
    · rw [h1.2.2.1] at e; exact h1.2.1 e
  · intro e; unfold co; rw [if_pos (Or.inl e)]; exact e
theorem J2.bF (h : J2 A B tc sc k) (hs : s < 5) (hc : ¬ A 47 s = -1) : mbF B s ≤ mln B s ∧ A (21 + s) (A 47 s).toNatClampNeg + 1 = nI (rk (A (15 + s)) (lsB B s) (co A s) (mbF B s)) := by
  obtain ⟨hsc, c, hc24, ec, ecl, hal, h1 | h1⟩ := h.cur hs hc
  · have e0 : mbF B s = 0 := by
      unfold mbF; rw [h.coo hs, ← h.s.su s hs, h1.2.1, if_pos ec]
    rw [e0, ecl, h1.2.2.2]; exact ⟨Nat.zero_le _, show (-1 : Int32) + 1 = nI 0 by decide⟩
  · obtain ⟨g1, g2, g3, g4, i, hi, ei, hpos, hmp⟩ := h1
    have e0 : mbF B s = i + 1 := by
      have hn := (h.b.rg s hs).1
      unfold mbF; rw [h.coo hs, ← h.s.su s hs, if_neg (fun q => g4 (q.symm.trans ec)), ec, hmp, ← nI_succ, nI_clamp (by omega)]
    rw [e0, ecl, hpos, g3, ← nI_succ, rk_s1 (by rw [ei])]
    exact ⟨hi, rfl⟩
theorem J2.bB (h : J2 A B tc sc k) (hs : s < 5) (hc : ¬ A 47 s = -1) : mbB B s ≤ mln B s ∧ (if A 47 s = co A s then szr A s (co A s) - 1 else A (21 + s) (A 47 s).toNatClampNeg - 1) = pv (rk (A (15 + s)) (lsB B s) (co A s) (mbB B s)) := by
  have hc1 : ¬ co A s = -1 := fun e => hc ((h.co1 hs).mp e)
  obtain ⟨hsc, c, hc24, ec, ecl, hal, h1 | h1⟩ := h.cur hs hc
  · have e0 : mbB B s = mln B s := by
      unfold mbB; rw [h.coo hs, ← h.s.su s hs, h1.2.1, if_pos ec]
    rw [e0, if_pos (by rw [h1.2.1]; exact ec), h.b.size hs hc1, pv_sub]; exact ⟨Nat.le_refl _, rfl⟩
  · obtain ⟨g1, g2, g3, g4, i, hi, ei, hpos, hmp⟩ := h1
    have hn := (h.b.rg s hs).1
    have e0 : mbB B s = i := by
      unfold mbB; rw [h.coo hs, ← h.s.su s hs, if_neg (fun q => g4 (q.symm.trans ec)), ec, hmp, nI_clamp (by omega)]
    rw [e0, if_neg (fun q => g4 (q.symm.trans ec)), ecl, hpos, g3, pv_sub]; exact ⟨by omega, rfl⟩
theorem J2.lt0 (h : J2 A B tc sc k) (hs : s < 5) (hc : ¬ A 47 s = -1) : ¬ B 61 s < 0 := by
  rw [← h.s.su s hs]
  obtain ⟨_, c, hc24, ec, _⟩ := h.cur hs hc
  rw [ec]; exact Int32.not_lt.mpr (nI_ge0 hc24)
theorem J2.move (h : J2 A B tc sc k) (hs : s < 5) {how : Int32} (h0 : 0 ≤ how) (h4 : how ≤ 4) : mmv B s how = pmt A s how := by
  have hpl := co_plc h.ci hs
  by_cases hc : A 47 s = -1
  · unfold mmv pmt
    rw [h.coo hs, if_pos (by rw [plc_m1 hpl]; exact (h.co1 hs).mpr hc), if_pos (Or.inl hc)]
  · have hc1 : ¬ co A s = -1 := fun e => hc ((h.co1 hs).mp e)
    have hF := h.bF hs hc
    have hB := h.bB hs hc
    have hl := h.lt0 hs hc
    have n1 : ¬ co A s < 0 := by rw [plc_m1 hpl]; exact hc1
    have n2 : ¬ (A 47 s = -1 ∨ co A s = -1) := fun q => q.elim hc hc1
    rcases how5 h0 h4 with e | e | e | e | e
    · subst e
      have q := nav_f h.b hs hc1 (Nat.zero_le (mln B s))
      have m1 : mmv B s 0 = mnf B s (co A s) (mln B s) 0 := by unfold mmv; rw [h.coo hs, if_neg n1, if_pos rfl]
      have m2 : pmt A s 0 = mat A s (co A s) 0 24 := by unfold pmt; rw [if_neg n2, if_pos rfl]
      rw [m1, m2]; exact q
    · subst e
      have m1 : mmv B s 1 = mnb B s (co A s) (mln B s) := by unfold mmv; rw [h.coo hs, if_neg n1, if_neg (by decide), if_pos rfl]
      have m2 : pmt A s 1 = mat A s (co A s) (szr A s (co A s) - 1) 24 := by unfold pmt; rw [if_neg n2, if_neg (by decide), if_pos rfl]
      rw [m1, m2, h.b.size hs hc1, pv_sub]
      exact nav_b h.b hs hc1 (Nat.le_refl _)
    · subst e
      have m1 : mmv B s 2 = mbs B s := by unfold mmv; rw [h.coo hs, if_neg n1, if_neg (by decide), if_neg (by decide), if_neg (by decide), if_pos rfl]
      have m2 : pmt A s 2 = mat A s (co A s) (A (21 + s) (A 47 s).toNatClampNeg + 1) 24 := by unfold pmt; rw [if_neg n2, if_neg (by decide), if_neg (by decide), if_pos rfl]
      rw [m1, m2, hF.2]
      unfold mbs; rw [if_neg hl, h.coo hs]
      exact nav_f h.b hs hc1 hF.1
    · subst e
      have m1 : mmv B s 3 = mbp B s := by unfold mmv; rw [h.coo hs, if_neg n1, if_neg (by decide), if_neg (by decide), if_neg (by decide), if_neg (by decide)]
      have m2 : pmt A s 3 = mat A s (co A s) (if A 47 s = co A s then szr A s (co A s) - 1 else A (21 + s) (A 47 s).toNatClampNeg - 1) 24 := by unfold pmt; rw [if_neg n2, if_neg (by decide), if_neg (by decide), if_neg (by decide), if_pos rfl]
      rw [m1, m2, hB.2]
      unfold mbp; rw [if_neg hl, h.coo hs]
      exact nav_b h.b hs hc1 hB.1
    · subst e
      have m1 : mmv B s 4 = co A s := by unfold mmv; rw [h.coo hs, if_neg n1, if_neg (by decide), if_neg (by decide), if_pos rfl]
      have m2 : pmt A s 4 = co A s := by unfold pmt; rw [if_neg n2, if_neg (by decide), if_neg (by decide), if_neg (by decide), if_neg (by decide)]
      rw [m1, m2]
theorem mat_own {p : Nat} : ∀ i, mat A s o x i = nI p → p < 24 → i ≤ 24 → A (15 + s) p = o := by
  intro i
  induction i with
  | zero => intro e hp _; exact absurd e.symm (nI_m1 (by omega))
  | succ i ih =>
    intro e hp hi
    simp only [mat] at e
    split at e
    · split at e
      · rename_i g; have := nI_inj (by omega) hp e; subst this; exact g.1
      · exact absurd e.symm (nI_m1 (by omega))
    · exact ih e hp (by omega)
theorem J2.co_al (h : J2 A B tc sc k) (hs : s < 5) {p : Nat} (hp : p < 24) (e : co A s = nI p) : ¬ A 8 p = 0 := by
  have hc : ¬ A 47 s = -1 := fun q => by rw [(h.co1 hs).mpr q] at e; exact absurd e.symm (nI_m1 (by omega))
  obtain ⟨hsc, c, hc24, ec, ecl, hal, h1 | h1⟩ := h.cur hs hc
  · rw [h1.2.1] at e; have := nI_inj hc24 hp e; subst this; exact hal
  · obtain ⟨_, _, _, o, q2, q3, q4, _⟩ := h.b.mem hs hc24 h1.2.1
    rw [h1.2.2.1, q3] at e; have := nI_inj q2 hp e; subst this; exact q4
theorem J2.pmt_al (h : J2 A B tc sc k) (hs : s < 5) {how : Int32} {p : Nat} (hp : p < 24) (e : pmt A s how = nI p) : ¬ A 8 p = 0 := by
  have hm : ∀ y, mat A s (co A s) y 24 = nI p → ¬ co A s = -1 → ¬ A 8 p = 0 := fun y e2 hc => by
    have := mat_own 24 e2 hp (Nat.le_refl _)
    exact (h.b.mem hs hp (by rw [this]; exact hc)).2.1
  unfold pmt at e
  split at e
  · exact absurd e.symm (nI_m1 (by omega))
  · rename_i g
    have hc : ¬ co A s = -1 := fun q => g (Or.inr q)
    split at e
    · exact hm _ e hc
    · split at e
      · exact hm _ e hc
      · split at e
        · exact hm _ e hc
        · split at e
          · exact hm _ e hc
          · exact h.co_al hs hp e
/-- scanning -/
theorem scan_eq (h : BR A B tc sc k) (hs : s < 5) (ho : ¬ o = -1) {f : Nat} {v : Int32} (hv : ∀ p, p < 24 → A (15 + s) p = o → A (11 + f) p = B 56 (3 * p + f)) : ∀ d a, a + d = mln B s → msn B s o f v d a = mwv A s o f v (rk (A (15 + s)) (lsB B s) o (mln B s) - rk (A (15 + s)) (lsB B s) o a) (rk (A (15 + s)) (lsB B s) o a) := by
  have hr := h.rg s hs
  have hn := hr.1
  intro d
  induction d with
  | zero => intro a ha; have e : a = mln B s := by omega
            rw [e, Nat.sub_self]; rfl
  | succ d ih =>
    intro a ha
    have ih := ih (a + 1) (by omega)
    have hlk := h.lk hs (show a < 24 by omega)
    simp only [msn]
    rw [h.lo hs (by omega), hlk.1, nI_clamp (by omega)]
    by_cases e : A (15 + s) (lsB B s a) = o
    · have e1 := rk_s1 (own := A (15 + s)) (ls := lsB B s) e
      have hle : rk (A (15 + s)) (lsB B s) o (a + 1) ≤ rk (A (15 + s)) (lsB B s) o (mln B s) := rk_le (by omega)
      have hm := mat_rk hr ho (show a < mln B s by omega) e
      rw [show rk (A (15 + s)) (lsB B s) o (mln B s) - rk (A (15 + s)) (lsB B s) o a = (rk (A (15 + s)) (lsB B s) o (mln B s) - rk (A (15 + s)) (lsB B s) o (a + 1)) + 1 by omega]
      simp only [mwv]
      rw [hm, nI_clamp (by omega), hv _ hlk.2 e, ← e1, ← ih]
      have hne : ¬ nI (lsB B s a) = -1 := nI_m1 (by omega)
      by_cases g : B 56 (3 * lsB B s a + f) = v
      · rw [if_pos ⟨e, g⟩, if_pos ⟨hne, g⟩]
      · rw [if_neg (fun q => g q.2), if_neg (fun q => g q.2)]
    · have e1 := rk_s0 (own := A (15 + s)) (ls := lsB B s) e
      rw [if_neg (fun q => e q.1), ih, e1]
theorem mwv_own {f p : Nat} {v : Int32} (ho : ¬ o = -1) (hp : p < 24) : ∀ d i, mwv A s o f v d i = nI p → A (15 + s) p = o := by
  intro d
  induction d with
  | zero => intro i e; exact absurd e.symm (nI_m1 (by omega))
  | succ d ih =>
    intro i e
    simp only [mwv] at e
    split at e
    · exact mat_own 24 e hp (Nat.le_refl _)
    · exact ih _ e
theorem J2.po2 (h : J2 A B tc sc k) : ∀ s, s < 5 → PO2 A s := by
  intro s hs hc1
  have hc : ¬ A 47 s = -1 := fun e => hc1 ((h.co1 hs).mpr e)
  have hF := h.bF hs hc
  have hn := (h.b.rg s hs).1
  refine ⟨rk (A (15 + s)) (lsB B s) (co A s) (mbF B s), ?_, ?_⟩
  · rw [(h.b.rg s hs).size hc1]; exact rk_le hF.1
  · have e := hF.2
    have e2 : A (21 + s) (A 47 s).toNatClampNeg = nI (rk (A (15 + s)) (lsB B s) (co A s) (mbF B s)) - 1 := by
      rw [← e]; exact (Int32.add_sub_cancel _ _).symm
    rw [e2, pv_sub]
theorem J2.pok (h : J2 A B tc sc k) : ∀ s, s < 5 → POK A s := by
  intro s hs hc
  obtain ⟨y, hy, e⟩ := h.po2 s hs (fun e => hc ((h.co1 hs).mp e))
  exact ⟨y, Nat.le_trans hy (cn_le _ 24), e⟩
theorem J2.cpnn (h : J2 A B tc sc k) (hs : s < 5) (hc : ¬ A 47 s = -1) : cpn A s = rk (A (15 + s)) (lsB B s) (co A s) (mbF B s) := by
  have hF := h.bF hs hc
  have hn := (h.b.rg s hs).1
  unfold cpn; rw [hF.2, nI_clamp (rk_sm (by omega))]
end Nav
theorem HX_move_ok : HX_move JJ := by
  intro k M x y hk ⟨tc, sc, h⟩
  have h5 := h.p.s5
  have bad : JJ (k + 1) (ow_u M 48 0 1) := JJ.of (h.cd).up (fun c hc => cd_lo hc)
  refine ⟨tc, sc, h.ci, ?_, ?_, ?_⟩
  · intro hS
    refine ⟨h.mi, fun _ => ⟨ow_u_self, bad⟩, fun s hs es => ?_⟩
    exact absurd (by rw [es]; exact hs_of h hs) hS
  · intro hS hn
    exact ⟨h.mi, fun _ => ⟨ow_u_self, bad⟩, fun s hs es q1 q2 => absurd ⟨q1, q2⟩ hn⟩
  · intro s hs es q1 q2
    have huniq : ∀ s', s' < sc → x = nI s' → s' = s := fun s' hs' es' => (nI_inj (by omega) (by omega) (es.symm.trans es')).symm
    refine ⟨?_, ?_⟩
    · intro e
      refine ⟨h.mi, fun g => absurd ⟨(h.hs x).mpr (by rw [es]; exact hs_of h hs), q1, q2⟩ g, fun s' hs' es' _ _ => ?_⟩
      have := huniq s' hs' es'; subst this
      exact cto_none (h.cd) (fun c hc => cd_lo hc) (by rw [(h.cd (x := 0)).move (by omega) q1 q2]; exact e)
    · intro p hp e
      have h' : J2 M (comM M p 0 sc) tc sc k := h.congrB (fun c hc => comM_hi hc)
      refine ⟨h'.mi, fun g => absurd ⟨(h'.hs x).mpr (by rw [es]; exact hs_of h hs), q1, q2⟩ g, fun s' hs' es' _ _ => ?_⟩
      have := huniq s' hs' es'; subst this
      exact cto_some (h'.cd) hp (h.pmt_al (by omega) hp e) (fun c hc => cd_lo hc) (by rw [(h'.cd (x := 0)).move (by omega) q1 q2]; exact e)
theorem HX_scan_ok : HX_scan JJ := by
  intro k M x y z hk ⟨tc, sc, h⟩
  have h5 := h.p.s5
  have h4 := h.p.t4
  have bad : JJ (k + 1) (ow_u M 48 0 1) := JJ.of (h.cd).up (fun c hc => cd_lo hc)
  have mt4 : ∀ B, J2 M B tc sc k → ∀ s, s < sc → ∃ t, t < 4 ∧ B 51 s = nI t := by
    intro B hB s hs
    obtain ⟨t, u, g1, g2, g3, g4, g5⟩ := h.p.ov s hs
    exact ⟨u, by omega, by rw [← hB.p.mt s (by omega)]; exact g5⟩
  have hfm : ∀ B, J2 M B tc sc k → ∀ s, s < sc → ((0 ≤ y ∧ y < B 49 (B 51 s).toNatClampNeg) ↔ HF M (M 4 s) y) := by
    intro B hB s hs
    obtain ⟨t, u, g1, g2, g3, g4, g5⟩ := h.p.ov s hs
    have ec : (M 4 s).toNatClampNeg = u := by rw [g5, nI_clamp (by omega)]
    have hu := ht_of h g2
    unfold HF
    rw [← hB.p.mt s (by omega), ec, ← hB.p.fc u (by omega), g5]
    exact ⟨fun q => ⟨hu.1, hu.2, q.1, q.2⟩, fun q => ⟨q.2.2.1, q.2.2.2⟩⟩
  have hl : ∀ B, J2 M B tc sc k → ∀ s, s < sc → LIJ B s := fun B hB s hs => hB.b.lij (by omega)
  have hval : ∀ B, J2 M B tc sc k → ∀ s, s < sc → ∀ n, n < 3 → y = nI n → HF M (M 4 s) y → ¬ M 47 s = -1 → mscn B s n z = scv M s n z := by
    intro B hB s hs n hn en hf hc
    have hc1 : ¬ co M s = -1 := fun e => hc ((h.co1 (by omega)).mp e)
    have hF := hB.bF (by omega : s < 5) hc
    unfold mscn scv
    rw [if_neg (hB.lt0 (by omega) hc), hB.coo (by omega), hB.cpnn (by omega) hc, (hB.b.rg s (by omega)).size hc1]
    refine scan_eq hB.b (by omega) hc1 (fun p hp ho => ?_) _ _ (by have := hF.1; omega)
    obtain ⟨_, q1, q2, _⟩ := hB.b.mem (by omega : s < 5) hp (by rw [ho]; exact hc1)
    exact hB.b.fd p hp q1 n hn (by rw [q2, ← en]; exact hf.2.2.2)
  refine ⟨tc, sc, h.ci, h.fc, h.po2, ?_, ?_⟩
  · intro hS
    refine ⟨h.mi, h.fcm, mt4 M h, hl M h, fun _ => ⟨ow_u_self, bad⟩, fun s hs es => ?_⟩
    exact absurd (by rw [es]; exact hs_of h hs) hS
  · intro s hs es
    have hS : HS M x := by rw [es]; exact hs_of h hs
    have huniq : ∀ s', s' < sc → x = nI s' → s' = s := fun s' hs' es' => (nI_inj (by omega) (by omega) (es.symm.trans es')).symm
    refine ⟨?_, ?_⟩
    · intro hn
      refine ⟨h.mi, h.fcm, mt4 M h, hl M h, fun _ => ⟨ow_u_self, bad⟩, fun s' hs' es' q => ?_⟩
      have := huniq s' hs' es'; subst this
      exact ⟨fun _ => ⟨ow_u_self, bad⟩, fun q2 => absurd ((hfm M h s' hs).mp ⟨q, q2⟩) hn⟩
    · intro n hn en hf
      have hfB := fun B hB => (hfm B hB s hs).mpr hf
      have gen : ∀ B, J2 M B tc sc k → (G : Int32 → ow_A → Prop) → D_comeTo (ow_u B 48 0 0) sc (mscn (ow_u B 48 0 0) s n z) G → D_scan B sc x y z G := by
        intro B hB G hD
        refine ⟨fun g => absurd ⟨(hB.hs x).mpr hS, (hfB B hB).1⟩ g, fun s' hs' es' q => ?_⟩
        have := huniq s' hs' es'; subst this
        refine ⟨fun g => absurd (hfB B hB).2 g, fun _ n' hn' en' => ?_⟩
        have := nI_inj (by omega) (by omega) (en.symm.trans en'); subst this
        exact hD
      refine ⟨?_, ?_⟩
      · intro hc
        refine ⟨h.mi, h.fcm, mt4 M h, hl M h, gen M h _ ?_⟩
        refine cto_none (h.cd) (fun c hc => cd_lo hc) ?_
        unfold mscn; rw [if_pos]
        rw [← (h.cd (x := 0)).s.su s (by omega), (h.co1 (by omega)).mp hc]; decide
      · intro hc1
        have hc : ¬ M 47 s = -1 := fun e => hc1 ((h.co1 (by omega)).mpr e)
        refine ⟨?_, ?_⟩
        · intro e
          refine ⟨h.mi, h.fcm, mt4 M h, hl M h, gen M h _ ?_⟩
          exact cto_none (h.cd) (fun c hc => cd_lo hc) (by rw [hval _ (h.cd) s hs n hn en hf hc]; exact e)
        · intro p hp e
          have h' : J2 M (comM M p 0 sc) tc sc k := h.congrB (fun c hc => comM_hi hc)
          refine ⟨h'.mi, h'.fcm, mt4 _ h', hl _ h', gen _ h' _ ?_⟩
          have hown := mwv_own hc1 hp _ _ e
          exact cto_some (h'.cd) hp (h.b.mem (by omega : s < 5) hp (by rw [hown]; exact hc1)).2.1 (fun c hc => cd_lo hc) (by rw [hval _ (h'.cd) s hs n hn en hf hc]; exact e)
