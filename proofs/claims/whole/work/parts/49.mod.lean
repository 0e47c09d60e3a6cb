/-! modify -/
section Modify
variable {A A' B B' : ow_A} {k tc sc s p n : Nat} {x f : Int32}
theorem fld_at {f' q : Nat} (h : q ≠ p) : ow_u A (11 + n) p x (11 + f') q = A (11 + f') q := by
  by_cases e : f' = n
  · subst e; exact ow_u_at h
  · rw [ow_u_ne (by omega)]
theorem PR.sby (h : PR A B tc sc) (hs : s < 5) (hn : n < 3) (h10 : 10 ≤ A 5 s) : A 5 s - A 5 s / 10 * 10 = nI n ↔ sfv A s = n := by
  rcases h.oo s hs with h1 | ⟨h1, _, _, f, h3, h4, h5⟩
  · exact absurd (Int32.le_trans h10 h1.2) (by decide)
  · have : sfv A s = f := by unfold sfv; rw [h4, nI_clamp (by omega)]
    rw [this, h4]
    exact ⟨fun e => nI_inj (by omega) (by omega) e, fun e => by rw [e]⟩
/-- a field written on both sides -/
theorem J2.field (h : J2 A B tc sc k) (hn : n < 3) (hp : p < 24) : JN (ow_u A (11 + n) p x) (ow_u B 56 (3 * p + n) x) tc sc k ∧ ∀ i, i < sc → SOx (ow_u A (11 + n) p x) (ow_u B 56 (3 * p + n) x) i p ∧ (¬ (SBY A i (nI n) ∧ ¬ A (15 + i) p = -1) → SO1 (ow_u A (11 + n) p x) (ow_u B 56 (3 * p + n) x) i) := by
  have h5 := h.p.s5
  have ea : ∀ c, c ≠ 11 + n → ow_u A (11 + n) p x c = A c := fun c hc => ow_u_ne hc
  have eb : ∀ c, c ≠ 56 → ow_u B 56 (3 * p + n) x c = B c := fun c hc => ow_u_ne hc
  have e48 := eb 48 (by decide); have e54 := eb 54 (by decide); have e55 := eb 55 (by decide); have e57 := eb 57 (by decide); have e58 := eb 58 (by decide); have e59 := eb 59 (by decide)
  have e8 := ea 8 (by omega); have e9 := ea 9 (by omega)
  refine ⟨⟨(h.p.congrA (fun c hc => ea c (by omega))).congrB ⟨by rw [e48], by rw [e48], by rw [e48]⟩ (fun c h1 h2 => eb c (by omega)), ?_, (h.kb.keptA (fun c hc => ea c (by omega))).keptB (by rw [e48]) (fun c h1 h2 => eb c (by omega)), (h.s.congrA (fun c hc => ea c (by omega))).congrB (by rw [e48]) (eb 60 (by decide)) (eb 61 (by decide))⟩, fun i hi => ?_⟩
  · obtain ⟨q1, q2, q3, q4, q5, q6, q7, q8, q9, q10, q11, q12⟩ := h.b.bn
    refine ⟨by rw [e8, e54]; exact q1, by rw [e9, e55]; exact q2, by rw [e8, e9]; exact q3, ?_, fun s hs => by rw [ea (15 + s) (by omega), e57]; exact q5 s hs, fun s hs => by rw [ea (15 + s) (by omega), e8, e9, ea 4 (by omega), ea 3 (by omega)]; exact q6 s hs, by rw [e58]; exact q7, by rw [e59]; exact q8, fun s hs => by rw [ea (15 + s) (by omega), ea (21 + s) (by omega), lsB_c e58, mln_c e59]; exact q9 s hs, by rw [ea 7 (by omega), e8, e48]; exact q10, by rw [e8]; exact q11, by rw [ea 7 (by omega), e54]; exact q12⟩
    rw [e8, e9, ea 2 (by omega)]
    intro q hq hk f hf hl
    by_cases e : q = p
    · subst e
      by_cases e2 : f = n
      · subst e2; rw [ow_u_self, ow_u_self]
      · rw [ow_u_ne (by omega), ow_u_at (by omega)]; exact q4 q hq hk f hf hl
    · rw [fld_at e, ow_u_at (by omega)]; exact q4 q hq hk f hf hl
  · have es : sfv (ow_u A (11 + n) p x) i = sfv A i := by unfold sfv; rw [ea 5 (by omega)]
    have hx : SOx (ow_u A (11 + n) p x) (ow_u B 56 (3 * p + n) x) i p := by
      intro h10 a b hab hb n1 n2 he
      rw [ea 5 (by omega)] at h10
      rw [mln_c e59] at hb
      rw [lsB_c e58] at n1 n2 he ⊢
      rw [ea (15 + i) (by omega)] at he
      rw [es, fld_at n1, fld_at n2]
      exact h.so1 hi h10 a b hab hb he
    refine ⟨hx, fun hg => ?_⟩
    intro h10 a b hab hb he
    have h10' := h10
    rw [ea 5 (by omega)] at h10'
    by_cases g : A (15 + i) p = -1
    · have hr := h.b.rg i (by omega)
      have hb' := hb
      rw [mln_c e59] at hb'
      refine hx h10 a b hab hb (fun e => ?_) (fun e => ?_) he
      · rw [lsB_c e58] at e; exact (hr.2.1 a (by omega)).2 (by rw [e]; exact g)
      · rw [lsB_c e58] at e; exact (hr.2.1 b hb').2 (by rw [e]; exact g)
    · have hne : ¬ sfv A i = n := fun e => hg ⟨⟨h10', (h.p.sby (by omega) hn h10').mpr e⟩, g⟩
      rw [mln_c e59] at hb
      rw [lsB_c e58] at he ⊢
      rw [ea (15 + i) (by omega)] at he
      rw [es, ea (11 + sfv A i) (by omega)]
      exact h.so1 hi h10' a b hab hb he
/-- the loop -/
theorem resort (hJ : JN A B tc sc k) (hp : p < 24) (hx : ∀ i, i < sc → SOx A B i p ∧ (¬ (SBY A i f ∧ ¬ A (15 + i) p = -1) → SO1 A B i)) : ∀ i, i ≤ sc → JN (srtS A p f i) (mrS B p f i) tc sc k ∧ (∀ j, j < i → SO1 (srtS A p f i) (mrS B p f i) j) ∧
    (∀ j, i ≤ j → j < sc → srtS A p f i (15 + j) = A (15 + j) ∧ SOx (srtS A p f i) (mrS B p f i) j p ∧ (¬ (SBY A j f ∧ ¬ A (15 + j) p = -1) → SO1 (srtS A p f i) (mrS B p f i) j)) ∧
    (∀ j, j < i → 0 ≤ mrS B p f j 57 (24 * j + p) → 10 ≤ B 52 j → B 52 j - B 52 j / 10 * 10 = f → LvOK (mrS B p f j) j p ∧ JnOK (mlv (mrS B p f j) j p) j p (mrS B p f j 57 (24 * j + p))) := by
  have h5 := hJ.p.s5
  intro i
  induction i with
  | zero => intro _; exact ⟨hJ, fun j hj => by omega, fun j h1 h2 => ⟨rfl, hx j h2⟩, fun j hj => by omega⟩
  | succ i ih =>
    intro hi
    obtain ⟨i1, i2, i3, i4⟩ := ih (by omega)
    obtain ⟨o1, o2, o3⟩ := i3 i (Nat.le_refl _) (by omega)
    have s5 : ∀ c, c < 15 → srtS A p f i c = A c := fun c hc => srtS_ne (by omega) (by omega)
    have e57 : mrS B p f i 57 (24 * i + p) = A (15 + i) p := by rw [← i1.n.ow i (by omega) p hp, o1]
    have e52 : B 52 i = A 5 i := (hJ.p.od i (by omega)).symm
    have pl : plc (A (15 + i) p) := by
      rcases hJ.n.wv i (by omega) p hp with e | ⟨_, _, _, o, q1, q2, _⟩
      · exact Or.inl e
      · exact Or.inr ⟨o, q1, q2⟩
    simp only [srtS, mrS]
    rw [e57, e52, o1]
    by_cases g : (10 ≤ A 5 i ∧ A 5 i - A 5 i / 10 * 10 = f) ∧ ¬ A (15 + i) p = -1
    · rw [if_pos g, if_pos ⟨(plc_0 pl).mpr g.2, g.1.1, g.1.2⟩]
      obtain ⟨_, hal, hty, w, hw, ew, hwa, hwt⟩ := (i1.n.wv i (by omega) p hp).resolve_left (by rw [o1]; exact g.2)
      rw [o1] at ew
      obtain ⟨j0, j1, j2, j3, j4⟩ := i1.rejoin (by omega) (by omega) o2 hp (by rw [o1]; exact g.2) hw hwa hwt
      rw [ew]
      have hta : ∀ c, c ≠ 15 + i → c ≠ 21 + i → jonM (takM (srtS A p f i) i p) i p (nI w) c = srtS A p f i c := fun c h1 h2 => (putM_ne h1 h2).trans (takM_ne h1 h2)
      have hn : ∀ j, j < 5 → mln (mrS B p f i) j ≤ 24 := fun j hj => (i1.n.rg j hj).1
      have hv : ∀ j, j < 5 → 10 ≤ srtS A p f i 5 j → jonM (takM (srtS A p f i) i p) i p (nI w) (11 + sfv (srtS A p f i) j) = srtS A p f i (11 + sfv (srtS A p f i) j) := fun j hj h10 => by
        have := (i1.p.sf hj h10).2.1
        exact hta _ (by omega) (by omega)
      refine ⟨j2, fun j hj => ?_, fun j h1 h2 => ?_, fun j hj => ?_⟩
      · by_cases e : j = i
        · subst e; exact j3
        · exact (i2 j (by omega)).congr (hn j (by omega)) (hta 5 (by omega) (by omega)) (hta _ (by omega) (by omega)) (hv j (by omega)) (j4 j (by omega) e).1 (j4 j (by omega) e).2
      · obtain ⟨k1, k2, k3⟩ := i3 j (by omega) h2
        exact ⟨(hta _ (by omega) (by omega)).trans k1, k2.congr (hn j (by omega)) (hta 5 (by omega) (by omega)) (hta _ (by omega) (by omega)) (hv j (by omega)) (j4 j (by omega) (by omega)).1 (j4 j (by omega) (by omega)).2,
          fun gg => (k3 gg).congr (hn j (by omega)) (hta 5 (by omega) (by omega)) (hta _ (by omega) (by omega)) (hv j (by omega)) (j4 j (by omega) (by omega)).1 (j4 j (by omega) (by omega)).2⟩
      · by_cases e : j = i
        · subst e; intro _ _ _; rw [e57, ew]; exact ⟨j0, j1⟩
        · exact i4 j (by omega)
    · rw [if_neg g, if_neg (fun z => g ⟨⟨z.2.1, z.2.2⟩, (plc_0 pl).mp z.1⟩)]
      refine ⟨i1, fun j hj => ?_, fun j h1 h2 => i3 j (by omega) h2, fun j hj => ?_⟩
      · by_cases e : j = i
        · subst e; exact o3 g
        · exact i2 j (by omega)
      · by_cases e : j = i
        · subst e; intro z1 z2 z3
          rw [e57] at z1; rw [e52] at z2 z3
          exact absurd ⟨⟨z2, z3⟩, (plc_0 pl).mp z1⟩ g
        · exact i4 j (by omega)
theorem mdC_iff {v : Int32} : ∀ n, mdC B p f v n = 3 ↔ ∃ i, i < n ∧ (0 ≤ B 57 (24 * i + p) ∧ 10 ≤ B 52 i ∧ B 52 i - B 52 i / 10 * 10 = f) ∧ mRf B i (B 57 (24 * i + p)) (nI p) v 24 = true := by
  intro n
  induction n with
  | zero => simp [mdC]
  | succ n ih =>
    simp only [mdC]
    split
    · rename_i g; exact ⟨fun _ => ⟨n, by omega, g⟩, fun _ => rfl⟩
    · rename_i g
      rw [ih]
      constructor
      · intro ⟨i, h1, h2⟩; exact ⟨i, by omega, h2⟩
      · intro ⟨i, h1, h2⟩
        by_cases e : i = n
        · subst e; exact absurd h2 g
        · exact ⟨i, by omega, h2⟩
theorem J2.mdc (h : J2 A B tc sc k) (hk : k < 1000) (hp : p < 24) {v : Int32} : mdC B p f v sc = 3 ↔ ∃ i, i < sc ∧ SBY A i f ∧ ¬ A (15 + i) p = -1 ∧ NE A i (nI p) (A (15 + i) p) v := by
  have h5 := h.p.s5
  rw [mdC_iff]
  have key : ∀ i, i < sc → (((0 ≤ B 57 (24 * i + p) ∧ 10 ≤ B 52 i ∧ B 52 i - B 52 i / 10 * 10 = f) ∧ mRf B i (B 57 (24 * i + p)) (nI p) v 24 = true) ↔ (SBY A i f ∧ ¬ A (15 + i) p = -1 ∧ NE A i (nI p) (A (15 + i) p) v)) := by
    intro i hi
    rw [← h.b.ow i (by omega) p hp, ← h.p.od i (by omega), plc_0 (h.ci.own (by omega) hp)]
    constructor
    · rintro ⟨⟨q1, q2⟩, q3⟩; exact ⟨q2, q1, (rf_ne h.b.bn h.p hk (by omega) q1).mp q3⟩
    · rintro ⟨q2, q1, q3⟩; exact ⟨⟨q1, q2⟩, (rf_ne h.b.bn h.p hk (by omega) q1).mpr q3⟩
  exact ⟨fun ⟨i, h1, h2⟩ => ⟨i, h1, (key i h1).mp h2⟩, fun ⟨i, h1, h2⟩ => ⟨i, h1, (key i h1).mpr h2⟩⟩
theorem mod_fin {M : ow_A} (h' : J2 M B tc sc k) (hn : n < 3) (eB : ∀ c, c < 48 → B c = comM (srtS (ow_u M (11 + n) p x) p (nI n) sc) p 0 sc c) (hp : p < 24) (hal : ¬ M 8 p = 0) :
    mrOK (ow_u (ow_u B 48 0 0) 56 (3 * p + n) x) p (nI n) sc ∧ mcm (mrS (ow_u (ow_u B 48 0 0) 56 (3 * p + n) x) p (nI n) sc) p 0 sc 48 0 = 0 ∧ JJ (k + 1) (mcm (mrS (ow_u (ow_u B 48 0 0) 56 (3 * p + n) x) p (nI n) sc) p 0 sc) := by
  have h5 := h'.p.s5
  have h0 := h'.cd (x := 0)
  obtain ⟨f1, f2⟩ := h0.field (x := x) hn hp
  obtain ⟨r1, r2, _, r4⟩ := resort (f := nI n) f1 hp (fun i hi => ⟨(f2 i hi).1, fun g => (f2 i hi).2 (fun z => g ⟨by
    have := z.1
    unfold SBY at this ⊢; rw [ow_u_ne (by omega)]; exact this, by rw [ow_u_ne (by omega)]; exact z.2⟩)⟩) sc (Nat.le_refl _)
  have j2 := r1.j2 r2
  refine ⟨fun i hi => r4 i hi, ?_, JJ.of (j2.come hp (by rw [srtS_ne (by omega) (by omega), ow_u_ne (by omega)]; exact hal) 0).up (fun c hc => ?_)⟩
  · rw [mcm_48 (by decide), mrS_ne (by decide) (by decide) (by decide), ow_u_ne (by decide), ow_u_self]
  · rw [mcm_lo hc, mrS_ne (by omega) (by omega) (by omega), ow_u_ne (by omega), cd_lo hc, eB c hc]
end Modify
theorem HX_modify_ok : HX_modify JJ := by
  intro k M f x hk ⟨tc, sc, h⟩
  have h5 := h.p.s5
  have fin : ∀ {B : ow_A} {y : Int32}, J2 M B tc sc k → (∀ c, c < 48 → B c = M c) → JJ (k + 1) (ow_u B 48 0 y) := fun hB e => JJ.of (hB.cd).up (fun c hc => (cd_lo hc).trans (e c hc))
  refine ⟨tc, sc, h.ci, h.fc, ?_, ?_⟩
  · intro e45
    refine ⟨h.mi, h.fcm, fun _ => ⟨ow_u_self, fin h (fun _ _ => rfl)⟩, fun p hp ep => ?_⟩
    rw [← h.s.ru, e45] at ep; exact absurd ep.symm (nI_m1 (by omega))
  intro p hp ep
  have hal := h.run hp ep
  have np : ∀ B, J2 M B tc sc k → B 48 16 = -1 → False := fun B hB g => by rw [← hB.s.ru, ep] at g; exact nI_m1 (by omega) g
  have pp : ∀ B, J2 M B tc sc k → ∀ p', p' < 24 → B 48 16 = nI p' → p' = p := fun B hB p' hp' e => nI_inj hp' hp (by rw [← e, ← hB.s.ru, ep])
  refine ⟨?_, ?_⟩
  · intro hn
    refine ⟨h.mi, h.fcm, fun g => (np M h g).elim, fun p' hp' ep' => ?_⟩
    rw [pp M h p' hp' ep']
    exact ⟨fun _ => ⟨ow_u_self, fin h (fun _ _ => rfl)⟩, fun n _ _ g => absurd ((h.hf hp hal f).mp g) hn⟩
  intro n hn en hf
  have nn : ∀ n', n' < 3 → f = nI n' → n' = n := fun n' hn' e => nI_inj (by omega) (by omega) (e.symm.trans en)
  have fv : ∀ B, J2 M B tc sc k → M (11 + n) p = B 56 (3 * p + n) := fun B hB => hB.b.fd p hp hal n hn (by rw [← en]; exact hf.2.2.2)
  refine ⟨?_, ?_, ?_⟩
  · intro hx
    have h' : J2 M (comM M p 0 sc) tc sc k := h.congrB (fun c hc => comM_hi hc)
    refine ⟨h'.mi, h'.fcm, fun g => (np _ h' g).elim, fun p' hp' ep' => ?_⟩
    rw [pp _ h' p' hp' ep']
    refine ⟨fun g => absurd ((h'.hf hp hal f).mpr hf) g, fun n' hn' en' _ => ?_⟩
    rw [nn n' hn' en']
    refine ⟨fun g => ?_, fun g => absurd (by rw [← fv _ h']; exact hx) g⟩
    rw [ow_u_id (c := 56) (j := 3 * p + n) (x := x) (by rw [ow_u_ne (by decide)]; exact g)]
    refine ⟨?_, JJ.of ((h'.cd (x := 0)).come hp hal 0).up (fun c hc => ?_)⟩
    · rw [mcm_48 (by decide), ow_u_self]
    · rw [mcm_lo hc, cd_lo hc]
  · intro hx hne
    refine ⟨h.mi, h.fcm, fun g => (np M h g).elim, fun p' hp' ep' => ?_⟩
    rw [pp M h p' hp' ep']
    refine ⟨fun g => absurd ((h.hf hp hal f).mpr hf) g, fun n' hn' en' _ => ?_⟩
    rw [nn n' hn' en']
    refine ⟨fun g => absurd (by rw [fv _ h]; exact g) hx, fun _ => ⟨fun _ => ⟨ow_u_self, fin h (fun _ _ => rfl)⟩, fun g => ?_⟩⟩
    have := (h.mdc (by omega) hp).mpr hne
    rw [this] at g; exact absurd g (by decide)
  · intro hx hne
    have h' : J2 M (comM (srtS (ow_u M (11 + n) p x) p f sc) p 0 sc) tc sc k := h.congrB (fun c hc => by rw [comM_hi hc, srtS_ne (by omega) (by omega), ow_u_ne (by omega)])
    refine ⟨h'.mi, h'.fcm, fun g => (np _ h' g).elim, fun p' hp' ep' => ?_⟩
    rw [pp _ h' p' hp' ep']
    refine ⟨fun g => absurd ((h'.hf hp hal f).mpr hf) g, fun n' hn' en' _ => ?_⟩
    rw [nn n' hn' en']
    refine ⟨fun g => absurd (by rw [fv _ h']; exact g) hx, fun _ => ⟨fun g => ?_, fun _ => ?_⟩⟩
    · obtain ⟨i, g1, g2, g3, g4⟩ := (h'.mdc (by omega) hp).mp g
      exact absurd g4 (hne i g1 g2 g3)
    · subst en; exact mod_fin h' hn (fun _ _ => rfl) hp hal
