/-! store -/
section Store2
variable {B M : ow_A} {k tc sc p j : Nat} {x y z y' z' : Int32}
theorem stM_def {A : ow_A} {t : Int32} : stM A p t sc = comM (joS (ow_u (adr A p t) 0 4 1) t p sc) p 0 sc := rfl
theorem co_wrf {s : Nat} : co (wrf M p x y z) s = co M s := by
  unfold co
  by_cases h : s < 5
  · rw [wrf_ne (by omega), wrf_ne (by omega), wrf_ne (by omega), wrf_ne (by omega)]
  · rw [wrf_ne (by omega), wrf_ne (by omega), wrf_ne (by omega), wrf_ne (by omega)]
theorem JW_wrf {s : Nat} {t : Int32} : JW (wrf M p x y z) s t ↔ JW M s t := by
  unfold JW; rw [wrf_ne (by omega), wrf_ne (by omega)]
/-- the end of store -/
theorem store_fin (h' : J2 M B tc sc k) (hk : k < 1000) (eB : ∀ c, c < 48 → B c = stM (wrf M p x y z) p (nI j) sc c) (hp : p < 24) (hd : M 8 p = 0) (hj : j < tc) (hc : ∀ i, i < sc → JW M i (nI j) → ¬ co M i = -1) (hy : (1 < B 49 j ∧ y' = y) ∨ (¬ 1 < B 49 j ∧ y' = 0)) (hz : (2 < B 49 j ∧ z' = z) ∨ (¬ 2 < B 49 j ∧ z' = 0)) :
    mjOK (M2s (wcl (ow_u B 48 0 0) p x y' z') p (B 48 9) (nI j)) (nI j) p sc ∧ mcm (mjS (M2s (wcl (ow_u B 48 0 0) p x y' z') p (B 48 9) (nI j)) (nI j) p sc) p 0 sc 48 0 = 0 ∧ B 48 9 = stM (wrf M p x y z) p (nI j) sc 8 p ∧ JJ (k + 1) (mcm (mjS (M2s (wcl (ow_u B 48 0 0) p x y' z') p (B 48 9) (nI j)) (nI j) p sc) p 0 sc) := by
  have h5 := h'.p.s5
  have h4 := h'.p.t4
  have h1 : J2 (wrf M p x y z) (wcl (ow_u B 48 0 0) p x y' z') tc sc k := (h'.cd (x := 0)).written hd
  have e9 : wcl (ow_u B 48 0 0) p x y' z' 48 9 = B 48 9 := by rw [wcl_ne (by decide), ow_u_at (by decide)]
  have h2 := h1.birth hk hp (by rw [wrf_ne (by omega)]; exact hd) hj (fun f hf hl => by
    rw [wrf_p hf, wcl_p hf]
    rw [wrf_ne (by omega), h'.p.fc j (by omega)] at hl
    exact cnt12 hy hz hf hl)
  rw [e9] at h2
  have a8 : ow_u (adr (wrf M p x y z) p (nI j)) 0 4 1 8 p = M 7 1 := by
    unfold adr; rw [ow_u_ne (by decide), ow_u_ne (by decide), ow_u_ne (by decide), ow_u_ne (by decide), ow_u_self, wrf_ne (by omega)]
  have a9 : ow_u (adr (wrf M p x y z) p (nI j)) 0 4 1 9 p = nI j := by
    unfold adr; rw [ow_u_ne (by decide), ow_u_ne (by decide), ow_u_ne (by decide), ow_u_self]
  have ea : ∀ c, c ≠ 0 → c ≠ 7 → c ≠ 8 → c ≠ 9 → ow_u (adr (wrf M p x y z) p (nI j)) 0 4 1 c = wrf M p x y z c := fun c h1 h2 h3 h4 => by unfold adr; rw [ow_u_ne h1, ow_u_ne h2, ow_u_ne h2, ow_u_ne h4, ow_u_ne h3]
  obtain ⟨m, m1, m2, m3, m4, m5⟩ := h'.b.nk
  have hal : ¬ ow_u (adr (wrf M p x y z) p (nI j)) 0 4 1 8 p = 0 := by rw [a8, m3]; exact nI_ne0 (by omega) (by omega)
  have hm : ∀ s, s < 5 → ow_u (adr (wrf M p x y z) p (nI j)) 0 4 1 (15 + s) p = -1 := fun s hs => by
    rw [ea (15 + s) (by omega) (by omega) (by omega) (by omega), wrf_ne (by omega)]
    rcases h'.b.wv s hs p hp with e | ⟨_, e, _⟩
    · exact e
    · exact absurd hd e
  have hc2 : ∀ i, i < sc → JW (ow_u (adr (wrf M p x y z) p (nI j)) 0 4 1) i (nI j) → ¬ co (ow_u (adr (wrf M p x y z) p (nI j)) 0 4 1) i = -1 := fun i hi hw => by
    have hw' : JW M i (nI j) := by
      unfold JW at hw ⊢
      rw [ea 4 (by decide) (by decide) (by decide) (by decide), ea 6 (by decide) (by decide) (by decide) (by decide), wrf_ne (by omega), wrf_ne (by omega)] at hw
      exact hw
    have g := hc i hi hw'
    have g47 : ¬ M 47 i = -1 := fun e => g ((h'.co1 (by omega)).mpr e)
    intro e
    have := (h2.co1 (s := i) (by omega)).mp e
    rw [ea 47 (by decide) (by decide) (by decide) (by decide), wrf_ne (by omega)] at this
    exact g47 this
  obtain ⟨r1, _, r3⟩ := joins h2 hp hal a9 hm hc2 sc (Nat.le_refl _)
  have b48 : mjS (M2s (wcl (ow_u B 48 0 0) p x y' z') p (B 48 9) (nI j)) (nI j) p sc 48 0 = 0 := by
    rw [mjS_ne (by decide) (by decide) (by decide)]
    unfold M2s; rw [ow_u_at (by decide), ow_u_ne (by decide), ow_u_at (by decide), ow_u_ne (by decide), ow_u_self]
  refine ⟨fun i hi => r3 i hi, by rw [mcm_48 (by decide)]; exact b48, ?_, JJ.of (r1.come hp (by rw [joS_ne (by omega) (by omega)]; exact hal) 0) (fun c hc => ?_)⟩
  · rw [stM_def, comM_ne (by decide) (by decide) (by decide), joS_ne (by omega) (by omega), a8, m3, m4]
  · rw [mcm_lo hc, mjS_ne (by omega) (by omega) (by omega)]
    unfold M2s; rw [ow_u_ne (by omega), ow_u_ne (by omega), ow_u_ne (by omega), ow_u_ne (by omega), ow_u_ne (by omega), wcl_ne (by omega), ow_u_ne (by omega), eB c hc]; rfl
end Store2
theorem HX_store_ok : HX_store JJ := by
  intro k M t x y z hk ⟨tc, sc, h⟩
  have h5 := h.p.s5
  have h4 := h.p.t4
  have fin : ∀ {A B : ow_A} {v : Int32}, J2 A B tc sc k → (∀ c, c < 48 → B c = A c) → JJ (k + 1) (ow_u B 48 0 v) := fun hB e => JJ.of (hB.cd).up (fun c hc => (cd_lo hc).trans (e c hc))
  have tix : HT M t → ∃ j, j < tc ∧ t = nI j := fun g => nI_ix g.1 (by rw [← h.p.a1]; exact g.2) (by omega)
  refine ⟨tc, sc, h.ci, ?_, ?_, ?_, ?_⟩
  · intro hn
    refine ⟨h.mi, fun _ => ⟨ow_u_self, fin h (fun _ _ => rfl)⟩, fun j hj ej => absurd ?_ hn⟩
    rw [ej]; exact ht_of h hj
  · intro hT hex
    refine ⟨h.mi, fun g => absurd ((h.ht t).mpr hT) g, fun j hj ej q hq q1 q2 y' z' hy hz => ?_⟩
    -- somewhere an owner is missing, whatever place the model looks at
    have hob : obS (wcl (ow_u M 48 0 0) q x y' z') t q sc = 2 := by
      rw [obS_2]
      obtain ⟨i, i1, i2, i3⟩ := hex
      refine ⟨i, i1, ?_, ?_⟩
      · rw [wcl_ne (by decide), wcl_ne (by decide), ow_u_ne (by decide), ow_u_ne (by decide), ← h.p.mt i (by omega), ← h.p.kd i (by omega), lt23]; exact i2
      · have : mco (wcl (ow_u M 48 0 0) q x y' z') i = mco M i := by
          unfold mco
          rw [wcl_ne (by decide), wcl_ne (by decide), wcl_ne (by decide), wcl_ne (by decide), ow_u_ne (by decide), ow_u_ne (by decide), ow_u_ne (by decide), ow_u_ne (by decide)]
        rw [this, h.negco (by omega)]; exact i3
    refine ⟨fun _ => ?_, fun g => absurd hob g, fun g => absurd hob g⟩
    rw [wcl_back]; exact ⟨ow_u_self, fin h (fun _ _ => rfl)⟩
  · intro hT hnc hfull
    refine ⟨h.mi, fun g => absurd ((h.ht t).mpr hT) g, fun j hj ej q hq q1 q2 y' z' hy hz => ?_⟩
    have hob : ¬ obS (wcl (ow_u M 48 0 0) q x y' z') t q sc = 2 := by
      rw [obS_2]
      rintro ⟨i, i1, i2, i3⟩
      have : mco (wcl (ow_u M 48 0 0) q x y' z') i = mco M i := by
        unfold mco
        rw [wcl_ne (by decide), wcl_ne (by decide), wcl_ne (by decide), wcl_ne (by decide), ow_u_ne (by decide), ow_u_ne (by decide), ow_u_ne (by decide), ow_u_ne (by decide)]
      rw [this, h.negco (by omega)] at i3
      rw [wcl_ne (by decide), wcl_ne (by decide), ow_u_ne (by decide), ow_u_ne (by decide), ← h.p.mt i (by omega), ← h.p.kd i (by omega), lt23] at i2
      exact hnc i i1 i2 i3
    refine ⟨fun g => absurd g hob, fun _ _ => ?_, fun _ g => absurd ((h.b.alive (by omega) hq).mpr (hfull q hq)) g⟩
    rw [wcl_back]; exact ⟨ow_u_self, fin h (fun _ _ => rfl)⟩
  · intro hT hnc p hp hd hb
    obtain ⟨j0, hj0, ej0⟩ := tix hT
    -- what the two sides say of the record to be
    have both : ∀ B, J2 M B tc sc k → ∀ y' z', ((1 < B 49 j0 ∧ y' = y) ∨ (¬ 1 < B 49 j0 ∧ y' = 0)) → ((2 < B 49 j0 ∧ z' = z) ∨ (¬ 2 < B 49 j0 ∧ z' = 0)) →
        ¬ obS (wcl (ow_u B 48 0 0) p x y' z') t p sc = 2 ∧ (obS (wcl (ow_u B 48 0 0) p x y' z') t p sc = 3 ↔ ∃ i, i < sc ∧ JW (wrf M p x y z) i t ∧ NE (wrf M p x y z) i (nI p) (co (wrf M p x y z) i) (wrf M p x y z (11 + sfv (wrf M p x y z) i) p)) := by
      intro B hB y' z' hy hz
      have h1 : J2 (wrf M p x y z) (wcl (ow_u B 48 0 0) p x y' z') tc sc k := (hB.cd (x := 0)).written hd
      have hnc' : ∀ i, i < sc → JW (wrf M p x y z) i t → ¬ co (wrf M p x y z) i = -1 := fun i hi hw => by
        rw [co_wrf]; exact hnc i hi (JW_wrf.mp hw)
      refine ⟨fun g => ?_, h1.ob3 (by omega) hp hnc' (fun i hi hw h10 => ?_)⟩
      · obtain ⟨i, i1, i2, i3⟩ := h1.ob2.mp g
        exact hnc' i i1 i2 i3
      · have hs := h1.p.sf (by omega) h10
        rw [wrf_p hs.2.1, wcl_p hs.2.1]
        refine cnt12 hy hz hs.2.1 ?_
        have := hs.2.2
        rw [hw.1, ej0, nI_clamp (by omega), wrf_ne (by omega), hB.p.fc j0 (by omega)] at this
        exact this
    refine ⟨?_, ?_⟩
    · intro hex
      have h1 : J2 (wrf M p x y z) (wrf M p x y z) tc sc k := (h.dead (A' := wrf M p x y z) (B' := M) hd (fun _ hc => wrf_ne hc) (fun _ hf _ hq => wrf_f hf hq) (fun _ _ => rfl) (fun _ _ _ _ => rfl)).congrB (fun c hc => wrf_ne (by omega))
      have h0 : J2 M (wrf M p x y z) tc sc k := h.congrB (fun c hc => wrf_ne (by omega))
      refine ⟨h1.mi, fun g => absurd ((h0.ht t).mpr hT) g, fun j hj ej q hq q1 q2 y' z' hy hz => ?_⟩
      have ejj : j = j0 := nI_inj (by omega) (by omega) (ej.symm.trans ej0)
      subst ejj
      have eq := free_eq h0.b (by omega) hp hd hb hq q1 q2
      subst eq
      obtain ⟨b1, b2⟩ := both _ h0 y' z' hy hz
      refine ⟨fun g => absurd g b1, fun _ _ => ?_, fun _ _ g => absurd (b2.mpr hex) g⟩
      rw [wcl_back]; exact ⟨ow_u_self, fin h1 (fun _ _ => rfl)⟩
    · intro hne
      have h0 : J2 M (stM (wrf M p x y z) p t sc) tc sc k := h.congrB (fun c hc => by
        rw [stM_def]; unfold adr; rw [comM_hi hc, joS_ne (by omega) (by omega), ow_u_ne (by omega), ow_u_ne (by omega), ow_u_ne (by omega), ow_u_ne (by omega), ow_u_ne (by omega), wrf_ne (by omega)])
      refine ⟨h0.mi, fun g => absurd ((h0.ht t).mpr hT) g, fun j hj ej q hq q1 q2 y' z' hy hz => ?_⟩
      have ejj : j = j0 := nI_inj (by omega) (by omega) (ej.symm.trans ej0)
      subst ejj
      have eq := free_eq h0.b (by omega) hp hd hb hq q1 q2
      subst eq
      obtain ⟨b1, b2⟩ := both _ h0 y' z' hy hz
      refine ⟨fun g => absurd g b1, fun _ g => ?_, fun _ _ _ => ?_⟩
      · rcases g with g | g
        · exact absurd hd ((h0.b.alive (by omega) hq).mp g)
        · obtain ⟨i, i1, i2, i3⟩ := b2.mp g
          exact absurd i3 (hne i i1 i2)
      · subst ej; exact store_fin h0 (by omega) (fun _ _ => rfl) hq hd hj hnc hy hz
