/-! those that go with a record, on both sides -/
section Gone
variable {A B : ow_A} {k tc sc s p : Nat} {m g : Int32}
theorem kd_j : ∀ j, j < 6 → (0 : Int32) ≤ nI j - nI j / 3 * 3 ∧ nI j - nI j / 3 * 3 < 3 := by decide +kernel
theorem kd_x {x : Int32} (h0 : 0 ≤ x) (h5 : x ≤ 5) : 0 ≤ x - x / 3 * 3 ∧ x - x / 3 * 3 < 3 := by
  obtain ⟨j, hj, e⟩ := nI_ix (x := x) (n := 6) h0 (Int32.lt_of_le_of_lt h5 (by decide)) (by decide)
  rw [e]; exact kd_j j hj
theorem PR.tk (h : PR A B tc sc) (hs : s < 5) : TKm B s m ↔ (m = 3 ∨ A 6 s - A 6 s / 3 * 3 < m) := by unfold TKm; rw [← h.kd s hs]
theorem PR.tk' (h : PR A B tc sc) (hs : s < 5) : TKm B s m ↔ A 6 s - A 6 s / 3 * 3 < m := by
  rw [h.tk hs]
  constructor
  · rintro (e | e)
    · rw [e]; exact (kd_x (h.kv s hs).1 (h.kv s hs).2).2
    · exact e
  · exact Or.inr
theorem lo_one (hp : p < 24) : LO ((1 : Int32) <<< (nI p &&& 31)) := fun q hq => by
  rw [bt_one hp]; simp; omega
/-- what gng is: the least set closed under going with one's owner -/
theorem J2.gngs (h : J2 A B tc sc k) (hp : p < 24) : LO (gng A sc p m) ∧ bt (gng A sc p m) p = true ∧ CLA A sc m (fun q => bt (gng A sc p m) q = true) ∧ ∀ P : Nat → Prop, CLA A sc m P → P p → ∀ q, q < 24 → bt (gng A sc p m) q = true → P q := by
  obtain ⟨r1, r2, r3, r4⟩ := atg_sp (A := A) (m := m) (fun s hs q hq => h.ci.own hs hq) h.p.s5 24 _ (lo_one hp) (by omega)
  refine ⟨r1, r2 p (by rw [bt_one hp]; simp), r3, fun P hP hpp => r4 P hP (fun q _ hb => ?_)⟩
  rw [bt_one hp] at hb
  have : q = p := by simpa using hb
  rw [this]; exact hpp
theorem J2.gone_al (h : J2 A B tc sc k) (hp : p < 24) (hal : ¬ A 8 p = 0) : ∀ q, q < 24 → bt (gng A sc p m) q = true → ¬ A 8 q = 0 := by
  have h5 := h.p.s5
  refine (h.gngs hp).2.2.2 (fun q => ¬ A 8 q = 0) ?_ hal
  intro s hs _ q hq o ho e _
  exact (h.b.mem (s := s) (by omega) hq (by rw [e]; exact nI_m1 (by omega))).2.1
/-- the model's row of those that go is the class's mask -/
theorem J2.gsp (h : J2 A B tc sc k) (hp : p < 24) {G : Nat → Int32} (hG : GSP (gI (ow_u B 48 0 0) p 24) sc m G) : ∀ q, q < 24 → (G q = 0 ↔ bt (gng A sc p m) q = false) := by
  have h5 := h.p.s5
  obtain ⟨⟨g1, g2, g3⟩, g4⟩ := hG
  obtain ⟨r1, r2, r3, r4⟩ := h.gngs (m := m) hp
  have e57 : gI (ow_u B 48 0 0) p 24 57 = B 57 := by rw [gI_ne (by decide), ow_u_ne (by decide)]
  have e53 : gI (ow_u B 48 0 0) p 24 53 = B 53 := by rw [gI_ne (by decide), ow_u_ne (by decide)]
  have etk : ∀ s, TKm (gI (ow_u B 48 0 0) p 24) s m ↔ TKm B s m := fun s => by unfold TKm; rw [e53]
  have ecl : ∀ (P : Nat → Prop) s r, s < sc → r < 24 → (CLm (gI (ow_u B 48 0 0) p 24) m P s r ↔ (∀ o, o < 24 → A (15 + s) r = nI o → P o → A 6 s - A 6 s / 3 * 3 < m → P r)) := by
    intro P s r hs hr
    unfold CLm
    rw [e57, etk, h.p.tk' (by omega), ← h.b.ow s (by omega) r hr]
    constructor
    · intro z o ho e hP hk; exact z (by rw [e]; exact nI_ge0 ho) (by rw [e, nI_clamp (by omega)]; exact hP) hk
    · intro z z0 hP hk
      rcases h.ci.own (show s < 5 by omega) hr with e | ⟨o, ho, e⟩
      · rw [e] at z0; exact absurd z0 (by decide)
      · rw [e, nI_clamp (by omega)] at hP; exact z o ho e hP hk
  have gp : G p = 1 := g2 p hp (by rw [gI_at hp, if_pos rfl])
  have d1 : ∀ q, q < 24 → bt (gng A sc p m) q = true → G q = 1 := by
    refine r4 (fun q => G q = 1) ?_ gp
    intro s hs hk q hq o ho e hP
    exact (ecl (fun q => G q = 1) s q hs hq).mp (g4 s hs q hq) o ho e hP hk
  have d2 : ∀ q, q < 24 → G q = 1 → bt (gng A sc p m) q = true := by
    refine g3 (fun q => bt (gng A sc p m) q = true) ?_ ?_
    · intro q hq e
      rw [gI_at hq] at e
      by_cases z : q = p
      · rw [z]; exact r2
      · rw [if_neg z] at e; exact absurd e (by decide)
    · intro s hs r hr
      exact (ecl _ s r hs hr).mpr (fun o ho e hP hk => r3 s hs hk r hr o ho e hP)
  intro q hq
  constructor
  · intro e; refine Bool.eq_false_iff.mpr (fun hb => ?_)
    rw [d1 q hq hb] at e; exact absurd e (by decide)
  · intro e
    rcases g1 q hq with z | z
    · exact z
    · rw [d2 q hq z] at e; exact absurd e (by decide)
/-- mode 0: an owner of members -/
theorem J2.owns (h : J2 A B tc sc k) (hp : p < 24) : (0 < cn (fun j => B 57 j == nI p) (24 * sc)) ↔ ∃ s, s < sc ∧ ¬ szr A s (nI p) ≤ 0 := by
  have h5 := h.p.s5
  have key : ∀ s, s < sc → (¬ szr A s (nI p) ≤ 0 ↔ ∃ q, q < 24 ∧ A (15 + s) q = nI p) := by
    intro s hs
    unfold szr
    have hle := cn_le (fun q => A (15 + s) q == nI p) 24
    constructor
    · intro z
      obtain ⟨q, h1, h2⟩ := cn_pos.mp (cnpos z)
      exact ⟨q, h1, by simpa using h2⟩
    · intro ⟨q, h1, h2⟩ z
      exact cnneg (by omega) z (cn_pos.mpr ⟨q, h1, by simpa using h2⟩)
  rw [cn_pos]
  constructor
  · rintro ⟨j, h1, h2⟩
    refine ⟨j / 24, by omega, (key _ (by omega)).mpr ⟨j % 24, by omega, ?_⟩⟩
    rw [h.b.ow (j / 24) (by omega) (j % 24) (by omega), show 24 * (j / 24) + j % 24 = j by omega]; simpa using h2
  · rintro ⟨s, hs, z⟩
    obtain ⟨q, h1, h2⟩ := (key s hs).mp z
    exact ⟨24 * s + q, by omega, by rw [← h.b.ow s (by omega) q h1]; simpa using h2⟩
/-- mode 1: a bound one would stay -/
theorem J2.bws (h : J2 A B tc sc k) (hz : ∀ q, q < 24 → (B 62 q = 0 ↔ bt g q = false)) (hs : s < sc) : BWS A s g ↔ ∃ r, r < 24 ∧ STR B s r := by
  have h5 := h.p.s5
  have ho : ∀ q, q < 24 → plc (A (15 + s) q) := fun q hq => h.ci.own (by omega) hq
  unfold BWS STR
  rw [← h.p.kd s (by omega), bt_andn]
  have zt : ∀ q, q < 24 → (¬ B 62 q = 0 ↔ bt g q = true) := fun q hq => by rw [hz q hq]; simp
  constructor
  · rintro ⟨h1, h2⟩
    have : ∃ q, q < 32 ∧ bt (mob A s g 24) q = true ∧ ¬ bt g q = true := by
      refine Classical.byContradiction (fun z => h2 (fun q hq hb => Classical.byContradiction (fun z2 => z ⟨q, hq, hb, z2⟩)))
    obtain ⟨q, _, q2, q3⟩ := this
    obtain ⟨q4, o, q5, q6, q7⟩ := (mob_bt ho 24 (Nat.le_refl _) q).mp q2
    refine ⟨q, q4, ?_⟩
    rw [← h.b.ow s (by omega) q q4, q6, nI_clamp (by omega)]
    exact ⟨nI_ge0 q5, (zt o q5).mpr q7, (hz q q4).mpr (by simpa using q3), h1⟩
  · rintro ⟨r, hr, h1, h2, h3, h4⟩
    rw [← h.b.ow s (by omega) r hr] at h1 h2
    refine ⟨h4, fun z => ?_⟩
    rcases ho r hr with e | ⟨o, ho', e⟩
    · rw [e] at h1; exact absurd h1 (by decide)
    · rw [e, nI_clamp (by omega)] at h2
      have := z r (by omega) ((mob_bt ho 24 (Nat.le_refl _) r).mpr ⟨hr, o, ho', e, (zt o ho').mp h2⟩)
      rw [(hz r hr).mp h3] at this; exact absurd this (by decide)
end Gone
