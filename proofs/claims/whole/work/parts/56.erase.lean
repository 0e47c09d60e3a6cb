/-! erase -/
section Erase
variable {A B : ow_A} {k tc sc p : Nat} {m : Int32}
theorem J2.hok (h : J2 A B tc sc k) {s : Nat} (hs : s < 5) : HOK B s := by
  refine ⟨h.b.lij hs, fun h1 h2 => ?_⟩
  have hc : ¬ A 47 s = -1 := fun e => h1 (by rw [← h.s.su s hs, e]; decide)
  obtain ⟨hsc, c, hc24, ec, ecl, hal, g | g⟩ := h.cur hs hc
  · rw [← h.s.su s hs, ecl, ← h.b.ty c hc24, ← h.p.ot s hs] at h2; exact absurd g.1 h2
  · obtain ⟨g1, g2, g3, g4, i, hi, ei, _, _⟩ := g
    have hn := (h.b.rg s hs).1
    rw [← h.s.su s hs, ecl, ← h.b.ow s hs c hc24]
    exact ⟨(plc_0 (h.ci.own hs hc24)).mpr g2, i, hi, by rw [(h.b.lk hs (by omega)).1, ei, ec]⟩
/-- the memory of the model with the row of those that go -/
theorem J2.row (h : J2 A B tc sc k) (G : Nat → Int32) : J2 A (ow_u (gM (gI (ow_u B 48 0 0) p 24) G) 48 0 0) tc sc k := by
  have h1 : J2 A (gI (ow_u B 48 0 0) p 24) tc sc k := by
    have hc := h.cd (x := 0)
    have eb : ∀ c, c ≠ 62 → gI (ow_u B 48 0 0) p 24 c = ow_u B 48 0 0 c := fun c hc => gI_ne hc
    have e48 := eb 48 (by decide)
    exact ⟨hc.p.congrB ⟨by rw [e48], by rw [e48], by rw [e48]⟩ (fun c h1 h2 => eb c (by omega)), hc.b.congrB (by rw [e48]) (fun c h1 h2 => eb c (by omega)), hc.kb.keptB (by rw [e48]) (fun c h1 h2 => eb c (by omega)), hc.s.congrB (by rw [e48]) (eb 60 (by decide)) (eb 61 (by decide))⟩
  exact (h1.z62 G).cd
theorem row_62 {G : Nat → Int32} {x : Int32} : ow_u (gM (gI (ow_u B 48 0 0) p 24) G) 48 0 x 62 = G := by rw [ow_u_ne (by decide), gM_at]
theorem row_lo {G : Nat → Int32} {x : Int32} {c : Nat} (h : c < 48) : ow_u (gM (gI (ow_u B 48 0 0) p 24) G) 48 0 x c = B c := by
  rw [ow_u_ne (by omega), gM_ne (by omega), gI_ne (by omega), ow_u_ne (by omega)]
theorem STR_row {G : Nat → Int32} {x : Int32} {s r : Nat} : STR (ow_u (gM (gI (ow_u B 48 0 0) p 24) G) 48 0 x) s r ↔ STR (gM (gI (ow_u B 48 0 0) p 24) G) s r := by
  unfold STR; rw [ow_u_ne (by decide), ow_u_ne (by decide), ow_u_ne (by decide)]
/-- the end of erase -/
theorem erase_fin {M : ow_A} (h : J2 M B tc sc k) (hk : k < 1000) (hp : p < 24) (ep : M 45 0 = nI p) (eB : ∀ c, c < 48 → B c = rmA (stW M (gng M sc p m) tc sc) (gng M sc p m) sc c) {G : Nat → Int32} (hG : GSP (gI (ow_u B 48 0 0) p 24) sc m G) :
    EOK (ow_u (gM (gI (ow_u B 48 0 0) p 24) G) 48 0 0) tc sc ∧ swM (esM (ow_u (gM (gI (ow_u B 48 0 0) p 24) G) 48 0 0) tc sc) sc 48 0 = 0 ∧ ngo (swS (esM (ow_u (gM (gI (ow_u B 48 0 0) p 24) G) 48 0 0) tc sc) sc) = bcv (gng M sc p m) ∧
    JJ (k + 1) (swM (esM (ow_u (gM (gI (ow_u B 48 0 0) p 24) G) 48 0 0) tc sc) sc) := by
  have h5 := h.p.s5
  have hal := h.run hp ep
  obtain ⟨g1, g2, g3, g4⟩ := h.gngs (m := m) hp
  have gal := h.gone_al (m := m) hp hal
  have hz0 := h.gsp (m := m) hp hG
  have hR := h.row (p := p) G
  have hz : ∀ q, q < 24 → (ow_u (gM (gI (ow_u B 48 0 0) p 24) G) 48 0 0 62 q = 0 ↔ bt (gng M sc p m) q = false) := fun q hq => by rw [row_62]; exact hz0 q hq
  obtain ⟨w1, w2, w3, w4⟩ := hR.without hz hp ep g2
  have e62 : esM (ow_u (gM (gI (ow_u B 48 0 0) p 24) G) 48 0 0) tc sc 62 = G := by rw [esM_ne (by decide) (by decide) (by decide), row_62]
  have hz1 : ∀ q, q < 24 → (esM (ow_u (gM (gI (ow_u B 48 0 0) p 24) G) 48 0 0) tc sc 62 q = 0 ↔ bt (gng M sc p m) q = false) := fun q hq => by rw [e62]; exact hz0 q hq
  have so : ∀ c, c ≠ 45 → c ≠ 46 → c ≠ 47 → stW M (gng M sc p m) tc sc c = M c := fun c h1 h2 h3 => stW_ne h1 h2 h3
  -- nobody stands on one that leaves
  have hst : ∀ i, i < 5 → ∀ q, q < 24 → Lv (stW M (gng M sc p m) tc sc) (gng M sc p m) i q → ¬ stW M (gng M sc p m) tc sc (15 + i) q = -1 → ¬ stW M (gng M sc p m) tc sc 47 i = nI q := by
    intro i hi q hq L hm e
    rw [Lv.congr (so (15 + i) (by omega) (by omega) (by omega))] at L
    rw [so (15 + i) (by omega) (by omega) (by omega)] at hm
    rcases w4 i hi with z | ⟨c, z1, z2, z3, z4⟩
    · rw [z] at e; exact nI_m1 (by omega) e.symm
    · have := nI_inj z1 hq (z2.symm.trans e); subst this
      obtain ⟨y1, _, y2, _⟩ := h.b.mem hi hq hm
      have z5 := z4.resolve_left (fun e3 => h.ne34 y1 (e3.symm.trans y2))
      rcases L with L | ⟨o, L1, L2, L3⟩
      · rw [z3] at L; exact absurd L (by decide)
      · rw [z5 o L1 L2] at L3; exact absurd L3 (by decide)
  obtain ⟨s1, s2, s3, s4, s5⟩ := sweepS w1 hz1 hst sc (Nat.le_refl _)
  have lw : ∀ s q, s < 5 → (Lv (stW M (gng M sc p m) tc sc) (gng M sc p m) s q ↔ Lv M (gng M sc p m) s q) := fun s q hs => Lv.congr (so (15 + s) (by omega) (by omega) (by omega))
  have ev62 : swS (esM (ow_u (gM (gI (ow_u B 48 0 0) p 24) G) 48 0 0) tc sc) sc 62 = G := by rw [swS_ne (by decide) (by decide) (by decide), e62]
  -- nobody belongs to one that goes
  have hown : ∀ s, s < 5 → ∀ q, q < 24 → ¬ rmS (stW M (gng M sc p m) tc sc) (gng M sc p m) sc (15 + s) q = -1 → bt (gng M sc p m) q = false ∧ ∀ o, o < 24 → rmS (stW M (gng M sc p m) tc sc) (gng M sc p m) sc (15 + s) q = nI o → bt (gng M sc p m) o = false := by
    intro s hs q hq hm
    by_cases hsc : s < sc
    · obtain ⟨z1, z2⟩ := s4 s hsc q hq
      have nl : ¬ Lv (stW M (gng M sc p m) tc sc) (gng M sc p m) s q := fun L => hm (z1 L)
      refine ⟨?_, fun o ho e => ?_⟩
      · exact Bool.eq_false_iff.mpr (fun b => nl (Or.inl b))
      · rw [z2 nl] at e
        exact Bool.eq_false_iff.mpr (fun b => nl (Or.inr ⟨o, ho, e, b⟩))
    · rw [s3 s (by omega) hs, so (15 + s) (by omega) (by omega) (by omega)] at hm
      exact absurd (h.b.mem hs hq hm).1 hsc
  have t8 : rmS (stW M (gng M sc p m) tc sc) (gng M sc p m) sc 8 = M 8 := by rw [s2 8 (by omega), so 8 (by decide) (by decide) (by decide)]
  have fin := s1.drop hk (g := gng M sc p m) (fun q hq => by rw [ev62]; exact hz0 q hq) (fun q hq hb => by rw [t8]; exact gal q hq hb) hown (by rw [s2 45 (by omega)]; exact w2) (by rw [s2 46 (by omega)]; exact w3) (fun s hs => by
    rw [s2 47 (by omega)]
    exact (w4 s hs).imp id (fun ⟨c, z1, z2, z3, _⟩ => ⟨c, z1, z2, z3⟩))
  refine ⟨⟨fun s hs => hR.hok (by omega), fun i hi r hr => s5 i hi r hr⟩, ?_, ?_, ?_⟩
  · unfold swM; rw [swK_ne (by decide), swS_ne (by decide) (by decide) (by decide), esM_48 (by decide), ow_u_self]
  · rw [bcv_cn g1]
    unfold ngo
    rw [ev62]
    congr 1
    refine cn_congr 24 (fun r hr => ?_)
    have := hz0 r hr
    by_cases b : bt (gng M sc p m) r = true
    · have nz : ¬ G r = 0 := fun e => by rw [this.mp e] at b; exact absurd b (by decide)
      rw [b]; exact decide_eq_true nz
    · have b2 : bt (gng M sc p m) r = false := by simpa using b
      rw [b2]; exact decide_eq_false (fun z => z (this.mpr b2))
  · refine JJ.of fin.up (fun c hc => ?_)
    unfold swM
    rw [swK_ne (by omega), swS_ne (by omega) (by omega) (by omega), esM_ne (by omega) (by omega) (by omega), row_lo hc, eB c hc]; rfl
end Erase
theorem rmS_hi {A : ow_A} {g : Int32} {c i : Nat} (h : 48 ≤ c) (hi : i ≤ 5) : rmS A g i c = A c := by
  have rp : ∀ (A : ow_A) (s : Nat) (lv : Int32) (n : Nat), s < 5 → rmP A s lv n c = A c := by
    intro A s lv n hs
    induction n with
    | zero => rfl
    | succ n ih =>
      simp only [rmP]; split
      · rw [takM_ne (by omega) (by omega)]; exact ih
      · exact ih
  induction i with
  | zero => rfl
  | succ i ih => simp only [rmS]; rw [rp _ i _ _ (by omega)]; exact ih (by omega)
theorem HX_erase_ok : HX_erase JJ := by
  intro k M m hk ⟨tc, sc, h⟩
  have h5 := h.p.s5
  have fin : ∀ {B : ow_A} {y : Int32}, J2 M B tc sc k → (∀ c, c < 48 → B c = M c) → JJ (k + 1) (ow_u B 48 0 y) := fun hB e => JJ.of (hB.cd).up (fun c hc => (cd_lo hc).trans (e c hc))
  have kds : ∀ B, J2 M B tc sc k → ∀ s, s < 5 → 0 ≤ B 53 s - B 53 s / 3 * 3 := fun B hB s hs => by
    rw [← hB.p.kd s hs]; exact (kd_x (hB.p.kv s hs).1 (hB.p.kv s hs).2).1
  refine ⟨tc, sc, h.ci, h.pok, ?_, ?_⟩
  · intro hn
    exact ⟨h.mi, kds M h, fun _ => ⟨ow_u_self, fin h (fun _ _ => rfl)⟩, fun g1 g2 => absurd ⟨g1, g2⟩ hn⟩
  intro m0 m3
  refine ⟨?_, ?_⟩
  · intro e45
    refine ⟨h.mi, kds M h, fun g => absurd ⟨m0, m3⟩ g, fun _ _ => ⟨fun _ => ⟨ow_u_self, fin h (fun _ _ => rfl)⟩, fun p hp ep => ?_⟩⟩
    rw [← h.s.ru, e45] at ep; exact absurd ep.symm (nI_m1 (by omega))
  intro p hp ep
  have np : ∀ B, J2 M B tc sc k → B 48 16 = -1 → False := fun B hB g => by rw [← hB.s.ru, ep] at g; exact nI_m1 (by omega) g
  have pp : ∀ B, J2 M B tc sc k → ∀ p', p' < 24 → B 48 16 = nI p' → p' = p := fun B hB p' hp' e => nI_inj hp' hp (by rw [← e, ← hB.s.ru, ep])
  have m01 : m = 0 → ¬ m = 1 := fun e1 e2 => by rw [e1] at e2; exact absurd e2 (by decide)
  -- a bound one would stay, on both sides
  have bound : ∀ B, J2 M B tc sc k → ∀ G, GSP (gI (ow_u B 48 0 0) p 24) sc m G → ((∃ s r, s < sc ∧ r < 24 ∧ STR (gM (gI (ow_u B 48 0 0) p 24) G) s r) ↔ ∃ s, s < sc ∧ BWS M s (gng M sc p m)) := by
    intro B hB G hG
    have hR := hB.row (p := p) G
    have hz : ∀ q, q < 24 → (ow_u (gM (gI (ow_u B 48 0 0) p 24) G) 48 0 0 62 q = 0 ↔ bt (gng M sc p m) q = false) := fun q hq => by rw [row_62]; exact hB.gsp hp hG q hq
    constructor
    · rintro ⟨s, r, h1, h2, h3⟩; exact ⟨s, h1, (hR.bws hz h1).mpr ⟨r, h2, STR_row.mpr h3⟩⟩
    · rintro ⟨s, h1, h2⟩
      obtain ⟨r, h3, h4⟩ := (hR.bws hz h1).mp h2
      exact ⟨s, r, h1, h3, STR_row.mp h4⟩
  refine ⟨?_, ?_, ?_⟩
  · intro hm hex
    refine ⟨h.mi, kds M h, fun g => absurd ⟨m0, m3⟩ g, fun _ _ => ⟨fun g => (np M h g).elim, fun p' hp' ep' => ?_⟩⟩
    rw [pp M h p' hp' ep']
    exact ⟨fun _ _ => ⟨ow_u_self, fin h (fun _ _ => rfl)⟩, fun g => absurd ⟨hm, (h.owns hp).mpr hex⟩ g⟩
  · intro hm hex
    refine ⟨h.mi, kds M h, fun g => absurd ⟨m0, m3⟩ g, fun _ _ => ⟨fun g => (np M h g).elim, fun p' hp' ep' => ?_⟩⟩
    rw [pp M h p' hp' ep']
    refine ⟨fun e => absurd hm (m01 e), fun _ G hG => ⟨fun _ _ => ⟨ow_u_self, ?_⟩, fun g => absurd ⟨hm, (bound M h G hG).mpr hex⟩ g⟩⟩
    have hR : J2 M (ow_u (gM (gI (ow_u M 48 0 0) p 24) G) 48 0 0) tc sc k := h.row G
    have := fin (y := 3) hR (fun c hc => row_lo hc)
    rw [ow_u_u] at this; exact this
  · intro n0 n1
    have h' : J2 M (rmA (stW M (gng M sc p m) tc sc) (gng M sc p m) sc) tc sc k := h.congrB (fun c hc => by
      unfold rmA; rw [drP_ne (by omega) (by omega), rmS_hi hc h5, stW_ne (by omega) (by omega) (by omega)])
    refine ⟨h'.mi, kds _ h', fun g => absurd ⟨m0, m3⟩ g, fun _ _ => ⟨fun g => (np _ h' g).elim, fun p' hp' ep' => ?_⟩⟩
    rw [pp _ h' p' hp' ep']
    refine ⟨fun e g => ?_, fun _ G hG => ⟨fun e g => ?_, fun _ => ?_⟩⟩
    · obtain ⟨s, g1, g2⟩ := (h'.owns hp).mp g
      exact absurd (n0 e s g1) g2
    · obtain ⟨s, g1, g2⟩ := (bound _ h' G hG).mp g
      exact absurd g2 (n1 e s g1)
    · exact erase_fin h' (by omega) hp ep (fun _ _ => rfl) hG
