/-! connect and reconnect -/
section Conn
variable {A A' B B' : ow_A} {k tc sc s p w : Nat}
theorem jon_hi {o : Int32} {c : Nat} (hs : s < 5) (h : 48 ≤ c) : jonM A s p o c = A c := putM_ne (by omega) (by omega)
theorem tak_hi {c : Nat} (hs : s < 5) (h : 48 ≤ c) : takM A s p c = A c := takM_ne (by omega) (by omega)
theorem mjn_lo {o : Int32} {c : Nat} (h : c < 48) : mjn B s p o c = B c := mjn_ne (by omega) (by omega) (by omega)
theorem mlv_lo {c : Nat} (h : c < 48) : mlv B s p c = B c := mlv_ne (by omega) (by omega) (by omega)
/-- the record of the run: it lives -/
theorem J2.run (h : J2 A B tc sc k) (hp : p < 24) (e : A 45 0 = nI p) : ¬ A 8 p = 0 := by
  rcases h.s.rl with q | ⟨p', h1, h2, h3⟩
  · rw [q] at e; exact absurd e.symm (nI_m1 (by omega))
  · have := nI_inj hp h1 (e.symm.trans h2); subst this; exact h3
theorem J2.neg57 (h : J2 A B tc sc k) (hs : s < 5) (hp : p < 24) : B 57 (24 * s + p) < 0 ↔ A (15 + s) p = -1 := by
  rw [← h.b.ow s hs p hp]; exact plc_m1 (h.ci.own hs hp)
theorem J2.negco (h : J2 A B tc sc k) (hs : s < 5) : mco B s < 0 ↔ co A s = -1 := by
  rw [h.coo hs]; exact plc_m1 (co_plc h.ci hs)
/-- the refusal, for a record that lives and may be a member -/
theorem J2.ref (h : J2 A B tc sc k) (hk : k < 1000) (hs : s < 5) (hp : p < 24) (hc : ¬ co A s = -1) (hal : ¬ A 8 p = 0) (hty : A 9 p = A 4 s) : mRf B s (mco B s) (nI p) (mvl B s p) 24 = false ↔ ¬ NE A s (nI p) (co A s) (A (11 + sfv A s) p) := by
  rw [h.coo hs]
  exact bf_of (rf_p h.b.bn h.p hk hs hc (fun h10 => h.b.bn.val h.p hs h10 hp hal hty))
/-- the end of connect, and of reconnect -/
theorem conn_fin {M : ow_A} (h' : J2 M B tc sc k) (eB : ∀ c, c < 48 → B c = comM (jonM M s p (co M s)) p 0 sc c) (hs : s < sc) (hp : p < 24) (hm : M (15 + s) p = -1) (hal : ¬ M 8 p = 0) (hty : M 9 p = M 4 s) (hc : ¬ co M s = -1) :
    JnOK (ow_u B 48 0 0) s p (mco (ow_u B 48 0 0) s) ∧ mcm (mjn (ow_u B 48 0 0) s p (mco (ow_u B 48 0 0) s)) p 0 sc 48 0 = 0 ∧ JJ (k + 1) (mcm (mjn (ow_u B 48 0 0) s p (mco (ow_u B 48 0 0) s)) p 0 sc) := by
  have h5 := h'.p.s5
  have h0 := h'.cd (x := 0)
  obtain ⟨w, hw, ew, hwa, hwt⟩ := h'.owner (by omega) hc
  rw [h0.coo (by omega), ew]
  obtain ⟨j1, j2⟩ := h0.join hs hp hm hal hty hw hwa hwt
  refine ⟨j1, ?_, JJ.of (j2.come hp (by unfold jonM; rw [putM_ne (by omega) (by omega)]; exact hal) 0).up (fun c hc => ?_)⟩
  · rw [mcm_48 (by decide), mjn_ne (by decide) (by decide) (by decide), ow_u_self]
  · rw [mcm_lo hc, mjn_lo hc, cd_lo hc, eB c hc, ew]
theorem reco_fin {M : ow_A} (h' : J2 M B tc sc k) (eB : ∀ c, c < 48 → B c = comM (jonM (takM M s p) s p (co M s)) p 0 sc c) (hs : s < sc) (hp : p < 24) (hm : ¬ M (15 + s) p = -1) (hal : ¬ M 8 p = 0) (hc : ¬ co M s = -1) :
    LvOK (ow_u B 48 0 0) s p ∧ JnOK (mlv (ow_u B 48 0 0) s p) s p (mco (ow_u B 48 0 0) s) ∧ mcm (mjn (mlv (ow_u B 48 0 0) s p) s p (mco (ow_u B 48 0 0) s)) p 0 sc 48 0 = 0 ∧ JJ (k + 1) (mcm (mjn (mlv (ow_u B 48 0 0) s p) s p (mco (ow_u B 48 0 0) s)) p 0 sc) := by
  have h5 := h'.p.s5
  have h0 := h'.cd (x := 0)
  obtain ⟨w, hw, ew, hwa, hwt⟩ := h'.owner (by omega) hc
  rw [h0.coo (by omega), ew]
  obtain ⟨j0, j1, j2⟩ := h0.rejoin hs hp hm hw hwa hwt
  refine ⟨j0, j1, ?_, JJ.of (j2.come hp (by unfold jonM; rw [putM_ne (by omega) (by omega), takM_ne (by omega) (by omega)]; exact hal) 0).up (fun c hc => ?_)⟩
  · rw [mcm_48 (by decide), mjn_ne (by decide) (by decide) (by decide), mlv_ne (by decide) (by decide) (by decide), ow_u_self]
  · rw [mcm_lo hc, mjn_lo hc, mlv_lo hc, cd_lo hc, eB c hc, ew]
end Conn
theorem HX_connect_ok : HX_connect JJ := by
  intro k M x hk ⟨tc, sc, h⟩
  have h5 := h.p.s5
  have fin : ∀ {B : ow_A} {y : Int32}, J2 M B tc sc k → (∀ c, c < 48 → B c = M c) → JJ (k + 1) (ow_u B 48 0 y) := fun hB e => JJ.of (hB.cd).up (fun c hc => (cd_lo hc).trans (e c hc))
  have hS : ∀ s, s < sc → x = nI s → HS M x := fun s hs e => by rw [e]; exact hs_of h hs
  refine ⟨tc, sc, h.ci, ?_, ?_⟩
  · intro hn
    exact ⟨h.mi, fun _ => ⟨ow_u_self, fin h (fun _ _ => rfl)⟩, fun s hs e => absurd (hS s hs e) hn⟩
  intro s hs es
  have nh : ∀ B, J2 M B tc sc k → ¬ HSm B x → False := fun B hB g => g ((hB.hs x).mpr (hS s hs es))
  have ss : ∀ s', s' < sc → x = nI s' → s' = s := fun s' hs' e => nI_inj (by omega) (by omega) (e.symm.trans es)
  refine ⟨?_, ?_⟩
  · intro e45
    refine ⟨h.mi, fun g => (nh M h g).elim, fun s' hs' e => ⟨fun _ => ⟨ow_u_self, fin h (fun _ _ => rfl)⟩, fun p hp ep => ?_⟩⟩
    rw [← h.s.ru, e45] at ep; exact absurd ep.symm (nI_m1 (by omega))
  intro p hp ep
  have hal := h.run hp ep
  have np : ∀ B, J2 M B tc sc k → B 48 16 = -1 → False := fun B hB g => by rw [← hB.s.ru, ep] at g; exact nI_m1 (by omega) g
  have pp : ∀ B, J2 M B tc sc k → ∀ p', p' < 24 → B 48 16 = nI p' → p' = p := fun B hB p' hp' e => nI_inj hp' hp (by rw [← e, ← hB.s.ru, ep])
  refine ⟨?_, ?_, ?_, ?_⟩
  · intro hc
    refine ⟨h.mi, fun g => (nh M h g).elim, fun s' hs' e => ⟨fun g => (np M h g).elim, fun p' hp' ep' => ?_⟩⟩
    rw [ss s' hs' e]
    exact ⟨fun _ => ⟨ow_u_self, fin h (fun _ _ => rfl)⟩, fun g => absurd ((h.negco (by omega)).mpr hc) g, fun g => absurd ((h.negco (by omega)).mpr hc) g⟩
  · intro hc hn
    refine ⟨h.mi, fun g => (nh M h g).elim, fun s' hs' e => ⟨fun g => (np M h g).elim, fun p' hp' ep' => ?_⟩⟩
    rw [ss s' hs' e, pp M h p' hp' ep']
    refine ⟨fun g => absurd ((h.negco (by omega)).mp g) hc, fun _ _ => ⟨ow_u_self, fin h (fun _ _ => rfl)⟩, fun _ g1 g2 _ => ?_⟩
    exact absurd ⟨by rw [h.b.ty p hp, h.p.mt s (by omega)]; exact g1, (h.neg57 (by omega) hp).mp g2⟩ hn
  · intro hc hty hm hne
    have h0 := h.cd (x := 0)
    refine ⟨h.mi, fun g => (nh M h g).elim, fun s' hs' e => ⟨fun g => (np M h g).elim, fun p' hp' ep' => ?_⟩⟩
    rw [ss s' hs' e, pp M h p' hp' ep']
    exact ⟨fun g => absurd ((h.negco (by omega)).mp g) hc, fun _ _ => ⟨ow_u_self, fin h (fun _ _ => rfl)⟩, fun _ _ _ g3 => absurd hne ((h0.ref (by omega) (by omega) hp hc hal hty).mp g3)⟩
  · intro hc hty hm hne
    obtain ⟨w, hw, ew, hwa, hwt⟩ := h.owner (by omega) hc
    have h' : J2 M (comM (jonM M s p (co M s)) p 0 sc) tc sc k := h.congrB (fun c hc => (comM_hi hc).trans (jon_hi (by omega) hc))
    have h0 := h'.cd (x := 0)
    refine ⟨h'.mi, fun g => (nh _ h' g).elim, fun s' hs' e => ⟨fun g => (np _ h' g).elim, fun p' hp' ep' => ?_⟩⟩
    rw [ss s' hs' e, pp _ h' p' hp' ep']
    refine ⟨fun g => absurd ((h'.negco (by omega)).mp g) hc, fun _ g => absurd ⟨by rw [← h'.b.ty p hp, ← h'.p.mt s (by omega)]; exact hty, (h'.neg57 (by omega) hp).mpr hm, (h0.ref (by omega) (by omega) hp hc hal hty).mpr hne⟩ g, fun _ _ _ _ => ?_⟩
    exact conn_fin h' (fun _ _ => rfl) hs hp hm hal hty hc
theorem HX_reconnect_ok : HX_reconnect JJ := by
  intro k M x hk ⟨tc, sc, h⟩
  have h5 := h.p.s5
  have fin : ∀ {B : ow_A} {y : Int32}, J2 M B tc sc k → (∀ c, c < 48 → B c = M c) → JJ (k + 1) (ow_u B 48 0 y) := fun hB e => JJ.of (hB.cd).up (fun c hc => (cd_lo hc).trans (e c hc))
  have hS : ∀ s, s < sc → x = nI s → HS M x := fun s hs e => by rw [e]; exact hs_of h hs
  refine ⟨tc, sc, h.ci, ?_, ?_⟩
  · intro hn
    exact ⟨h.mi, fun _ => ⟨ow_u_self, fin h (fun _ _ => rfl)⟩, fun s hs e => absurd (hS s hs e) hn⟩
  intro s hs es
  have nh : ∀ B, J2 M B tc sc k → ¬ HSm B x → False := fun B hB g => g ((hB.hs x).mpr (hS s hs es))
  have ss : ∀ s', s' < sc → x = nI s' → s' = s := fun s' hs' e => nI_inj (by omega) (by omega) (e.symm.trans es)
  refine ⟨?_, ?_⟩
  · intro e45
    refine ⟨h.mi, fun g => (nh M h g).elim, fun s' hs' e => ⟨fun _ => ⟨ow_u_self, fin h (fun _ _ => rfl)⟩, fun p hp ep => ?_⟩⟩
    rw [← h.s.ru, e45] at ep; exact absurd ep.symm (nI_m1 (by omega))
  intro p hp ep
  have hal := h.run hp ep
  have np : ∀ B, J2 M B tc sc k → B 48 16 = -1 → False := fun B hB g => by rw [← hB.s.ru, ep] at g; exact nI_m1 (by omega) g
  have pp : ∀ B, J2 M B tc sc k → ∀ p', p' < 24 → B 48 16 = nI p' → p' = p := fun B hB p' hp' e => nI_inj hp' hp (by rw [← e, ← hB.s.ru, ep])
  refine ⟨?_, ?_, ?_, ?_⟩
  · intro hc
    refine ⟨h.mi, fun g => (nh M h g).elim, fun s' hs' e => ⟨fun g => (np M h g).elim, fun p' hp' ep' => ?_⟩⟩
    rw [ss s' hs' e]
    exact ⟨fun _ => ⟨ow_u_self, fin h (fun _ _ => rfl)⟩, fun g => absurd ((h.negco (by omega)).mpr hc) g, fun g => absurd ((h.negco (by omega)).mpr hc) g⟩
  · intro hc hn
    refine ⟨h.mi, fun g => (nh M h g).elim, fun s' hs' e => ⟨fun g => (np M h g).elim, fun p' hp' ep' => ?_⟩⟩
    rw [ss s' hs' e, pp M h p' hp' ep']
    refine ⟨fun g => absurd ((h.negco (by omega)).mp g) hc, fun _ _ => ⟨ow_u_self, fin h (fun _ _ => rfl)⟩, fun _ g1 g2 _ => ?_⟩
    exact absurd ⟨fun e => g1 ((h.neg57 (by omega) hp).mpr e), by rw [h.p.kd s (by omega)]; exact g2⟩ hn
  · intro hc hm hkd hne
    have hty := (h.b.mem (by omega) hp hm).2.2.1
    have h0 := h.cd (x := 0)
    refine ⟨h.mi, fun g => (nh M h g).elim, fun s' hs' e => ⟨fun g => (np M h g).elim, fun p' hp' ep' => ?_⟩⟩
    rw [ss s' hs' e, pp M h p' hp' ep']
    exact ⟨fun g => absurd ((h.negco (by omega)).mp g) hc, fun _ _ => ⟨ow_u_self, fin h (fun _ _ => rfl)⟩, fun _ _ _ g3 => absurd hne ((h0.ref (by omega) (by omega) hp hc hal hty).mp g3)⟩
  · intro hc hm hkd hne
    have hty := (h.b.mem (by omega) hp hm).2.2.1
    obtain ⟨w, hw, ew, hwa, hwt⟩ := h.owner (by omega) hc
    have h' : J2 M (comM (jonM (takM M s p) s p (co M s)) p 0 sc) tc sc k := h.congrB (fun c hc => ((comM_hi hc).trans (jon_hi (by omega) hc)).trans (tak_hi (by omega) hc))
    have h0 := h'.cd (x := 0)
    refine ⟨h'.mi, fun g => (nh _ h' g).elim, fun s' hs' e => ⟨fun g => (np _ h' g).elim, fun p' hp' ep' => ?_⟩⟩
    rw [ss s' hs' e, pp _ h' p' hp' ep']
    refine ⟨fun g => absurd ((h'.negco (by omega)).mp g) hc, fun _ g => absurd ⟨fun e => hm ((h'.neg57 (by omega) hp).mp e), by rw [← h'.p.kd s (by omega)]; exact hkd, (h0.ref (by omega) (by omega) hp hc hal hty).mpr hne⟩ g, fun _ _ _ _ => ?_⟩
    exact reco_fin h' (fun _ _ => rfl) hs hp hm hal hc
