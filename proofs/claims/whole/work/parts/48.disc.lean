/-! disconnect -/
theorem disc_fin {M B : ow_A} {k tc sc s p : Nat} (h' : J2 M B tc sc k) (eB : ∀ c, c < 48 → B c = takM (sbk M s ((1 : Int32) <<< (nI p &&& 31))) s p c) (hs : s < sc) (hp : p < 24) (hm : ¬ M (15 + s) p = -1) :
    LvOK (mdi (ow_u B 48 0 0) s p) s p ∧ mlv (mdi (ow_u B 48 0 0) s p) s p 48 0 = 0 ∧ JJ (k + 1) (mlv (mdi (ow_u B 48 0 0) s p) s p) := by
  have h5 := h'.p.s5
  have h0 := h'.cd (x := 0)
  obtain ⟨d1, d2⟩ := h0.disc (by omega) hp hm
  have su := h0.s.su s (by omega)
  have hj : J2 (sbk M s ((1 : Int32) <<< (nI p &&& 31))) (mdi (ow_u B 48 0 0) s p) tc sc k ∧ ¬ sbk M s ((1 : Int32) <<< (nI p &&& 31)) 47 s = nI p := by
    unfold mdi
    rw [d1, ← su]
    by_cases e : M 47 s = nI p
    · rw [if_pos e, if_pos e]
      obtain ⟨d3, d4, c, d5, d6, d7, d8⟩ := d2 e
      exact ⟨h0.put47 (by omega) (Or.inr ⟨d4, c, d5, d6, d7, d8⟩), by rw [ow_u_self]; exact d3⟩
    · rw [if_neg e, if_neg e]; exact ⟨h0, e⟩
  obtain ⟨j1, j2⟩ := hj.1.leave (by omega) hp (by rw [sbk_ne (by omega)]; exact hm) hj.2
  have em : ∀ c, c ≠ 61 → mdi (ow_u B 48 0 0) s p c = ow_u B 48 0 0 c := fun c hc => by
    unfold mdi; split
    · exact ow_u_ne hc
    · rfl
  refine ⟨j1, ?_, JJ.of j2.up (fun c hc => ?_)⟩
  · rw [mlv_ne (by decide) (by decide) (by decide), em 48 (by decide), ow_u_self]
  · rw [mlv_lo hc, em c (by omega), cd_lo hc, eB c hc]
theorem HX_disconnect_ok : HX_disconnect JJ := by
  intro k M x hk ⟨tc, sc, h⟩
  have h5 := h.p.s5
  have fin : ∀ {B : ow_A} {y : Int32}, J2 M B tc sc k → (∀ c, c < 48 → B c = M c) → JJ (k + 1) (ow_u B 48 0 y) := fun hB e => JJ.of (hB.cd).up (fun c hc => (cd_lo hc).trans (e c hc))
  have hS : ∀ s, s < sc → x = nI s → HS M x := fun s hs e => by rw [e]; exact hs_of h hs
  refine ⟨tc, sc, h.ci, h.pok, ?_, ?_⟩
  · intro hn
    exact ⟨h.mi, fun _ => ⟨ow_u_self, fin h (fun _ _ => rfl)⟩, fun s hs e => absurd (hS s hs e) hn⟩
  intro s hs es
  have nh : ∀ B, J2 M B tc sc k → ¬ HSm B x → False := fun B hB g => g ((hB.hs x).mpr (hS s hs es))
  have ss : ∀ s', s' < sc → x = nI s' → s' = s := fun s' hs' e => nI_inj (by omega) (by omega) (e.symm.trans es)
  refine ⟨?_, ?_⟩
  · intro e45
    refine ⟨h.mi, fun g => (nh M h g).elim, fun s' hs' e => ⟨fun _ => ⟨ow_u_self, fin h (fun _ _ => rfl)⟩, fun p hp ep => ?_⟩⟩
    rw [← h.s.ru, e45] at ep; exact absurd ep.symm (nI_m1 (by omega))
  intro p hp ep
  have np : ∀ B, J2 M B tc sc k → B 48 16 = -1 → False := fun B hB g => by rw [← hB.s.ru, ep] at g; exact nI_m1 (by omega) g
  have pp : ∀ B, J2 M B tc sc k → ∀ p', p' < 24 → B 48 16 = nI p' → p' = p := fun B hB p' hp' e => nI_inj hp' hp (by rw [← e, ← hB.s.ru, ep])
  refine ⟨?_, ?_⟩
  · intro hn
    refine ⟨h.mi, fun g => (nh M h g).elim, fun s' hs' e => ⟨fun g => (np M h g).elim, fun p' hp' ep' => ?_⟩⟩
    rw [ss s' hs' e, pp M h p' hp' ep']
    refine ⟨fun _ => ⟨ow_u_self, fin h (fun _ _ => rfl)⟩, fun g1 g2 => absurd ⟨fun e => g1 ((h.neg57 (by omega) hp).mpr e), by rw [h.p.kd s (by omega)]; exact g2⟩ hn⟩
  · intro hm hkd
    have h' : J2 M (takM (sbk M s ((1 : Int32) <<< (nI p &&& 31))) s p) tc sc k := h.congrB (fun c hc => (tak_hi (by omega) hc).trans (sbk_ne (by omega)))
    refine ⟨h'.mi, fun g => (nh _ h' g).elim, fun s' hs' e => ⟨fun g => (np _ h' g).elim, fun p' hp' ep' => ?_⟩⟩
    rw [ss s' hs' e, pp _ h' p' hp' ep']
    refine ⟨fun g => absurd ⟨fun e => hm ((h'.neg57 (by omega) hp).mp e), by rw [← h'.p.kd s (by omega)]; exact hkd⟩ g, fun _ _ => ?_⟩
    exact disc_fin h' (fun _ _ => rfl) hs hp hm
