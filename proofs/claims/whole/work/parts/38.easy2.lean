/-! type, set, seek, keep, rollBack -/
section Easy2
variable {A A' B B' : ow_A} {k : Nat}
theorem cto_none {tc sc : Nat} (h : J2 A B tc sc k) (e : ∀ c, c < 48 → B c = A c) {x : Int32} (hx : x = -1) : D_comeTo B sc x (fun _ M2 => M2 48 0 = 2 ∧ JJ (k + 1) M2) :=
  ⟨fun _ => ⟨ow_u_self, JJ.of (h.cd).up (fun c hc => by rw [cd_lo hc, e c hc])⟩, fun p hp e2 => by rw [hx] at e2; exact absurd e2.symm (nI_m1 (by omega))⟩
theorem cto_some {tc sc p : Nat} (h : J2 A B tc sc k) (hp : p < 24) (ha : ¬ A 8 p = 0) (e : ∀ c, c < 48 → B c = comM A p 0 sc c) {x : Int32} (hx : x = nI p) : D_comeTo B sc x (fun r2 M2 => M2 48 0 = 0 ∧ r2 = A 8 p ∧ JJ (k + 1) M2) := by
  refine ⟨fun e2 => ?_, fun q hq e2 => ?_⟩
  · rw [hx] at e2; exact absurd e2 (nI_m1 (by omega))
  · rw [hx] at e2
    have := nI_inj hp hq e2; subst this
    refine ⟨?_, (h.b.ky p hp).symm, JJ.of ((h.cd (x := 0)).come hp ha 0).up (fun c hc => ?_)⟩
    · rw [mcm_48 (by decide), ow_u_self]
    · rw [mcm_lo hc, cd_lo hc, e c hc]
theorem D_comeTo.mono {M : ow_A} {sc : Nat} {x : Int32} {G G' : Int32 → ow_A → Prop} (H : ∀ r M', G r M' → G' r M') (h : D_comeTo M sc x G) : D_comeTo M sc x G' :=
  ⟨fun e => H _ _ (h.1 e), fun p hp e => H _ _ (h.2 p hp e)⟩
theorem lw_eq {tc sc : Nat} (h : BR A B tc sc k) (hk : k < 1000) {t x : Int32} {n : Nat} (hn : n < 3) (hf : nI n < A 2 t.toNatClampNeg) : ∀ i, i ≤ 24 → mlw B t n x i = lwk A t n x i := by
  intro i
  induction i with
  | zero => intro _; rfl
  | succ i ih =>
    intro hi
    have ih := ih (by omega)
    simp only [mlw, lwk]
    rw [ih]
    have hl := lwk_in A t n x i
    have c1 : (0 < B 54 i ∧ B 55 i = t ∧ B 56 (3 * i + n) = x) ↔ (¬ A 8 i = 0 ∧ A 9 i = t ∧ A (11 + n) i = x) := by
      rw [h.alive hk (by omega), ← h.ty i (by omega)]
      constructor
      · intro ⟨q1, q2, q3⟩
        exact ⟨q1, q2, by rw [h.fd i (by omega) q1 n hn (by rw [q2]; exact hf)]; exact q3⟩
      · intro ⟨q1, q2, q3⟩
        exact ⟨q1, q2, by rw [← h.fd i (by omega) q1 n hn (by rw [q2]; exact hf)]; exact q3⟩
    have c2 : (lwk A t n x i < 0 ∨ B 54 i < B 54 (lwk A t n x i).toNatClampNeg) ↔ (lwk A t n x i = -1 ∨ A 8 i < A 8 (lwk A t n x i).toNatClampNeg) := by
      rcases hl with e | ⟨q, hq, e⟩
      · exact ⟨fun _ => Or.inl e, fun _ => Or.inl (by rw [e]; decide)⟩
      · rw [e, nI_clamp (by omega), ← h.ky i (by omega), ← h.ky q (by omega)]
        constructor
        · intro g; exact g.elim (fun g => absurd g (nI_pos (by omega))) Or.inr
        · intro g; exact g.elim (fun g => absurd g (nI_m1 (by omega))) Or.inr
    simp only [c1, c2]
theorem lwk_al {t x : Int32} {n : Nat} : ∀ i, ∀ p, lwk A t n x i = nI p → p < 24 → i ≤ 24 → ¬ A 8 p = 0 := by
  intro i
  induction i with
  | zero => intro p e hp _; exact absurd e.symm (nI_m1 (by omega))
  | succ i ih =>
    intro p e hp hi
    simp only [lwk] at e
    split at e
    · rename_i g
      have := nI_inj (by omega) hp e; subst this; exact g.1.1
    · exact ih p e hp (by omega)
end Easy2
theorem HX_seek_ok : HX_seek JJ := by
  intro k M t f x hk ⟨tc, sc, h⟩
  have h4 := h.p.t4
  have key : ∀ B, J2 M B tc sc k → ∀ j, j < tc → t = nI j → (HFm B j f ↔ HF M t f) := by
    intro B hB j hj ej
    have ec : t.toNatClampNeg = j := by rw [ej, nI_clamp (by omega)]
    have h1 := ht_of h hj
    rw [← ej] at h1
    unfold HFm HF
    rw [ec, ← hB.p.fc j (by omega)]
    exact ⟨fun g => ⟨h1.1, h1.2, g.1, g.2⟩, fun g => ⟨g.2.2.1, g.2.2.2⟩⟩
  have tix : HF M t f → ∃ j, j < tc ∧ t = nI j := fun g => nI_ix g.1 (by rw [← h.p.a1]; exact g.2.1) (by omega)
  refine ⟨tc, sc, h.ci, h.fc, ?_, ?_⟩
  · intro hn
    refine ⟨h.mi, h.fcm, fun _ => ⟨ow_u_self, JJ.of (h.cd).up (fun c hc => cd_lo hc)⟩, fun j hj ej n hn' en g => ?_⟩
    exact absurd ((key M h j hj ej).mp g) hn
  · intro n hn en hf
    obtain ⟨j0, hj0, ej0⟩ := tix hf
    have hcond : ∀ B, J2 M B tc sc k → HTm B t ∧ HFm B t.toNatClampNeg f := by
      intro B hB
      have ec : t.toNatClampNeg = j0 := by rw [ej0, nI_clamp (by omega)]
      refine ⟨(hB.ht t).mpr ⟨hf.1, hf.2.1⟩, ?_⟩
      rw [ec]; exact (key B hB j0 hj0 ej0).mpr hf
    refine ⟨?_, ?_⟩
    · intro hl
      refine ⟨h.mi, h.fcm, fun g => absurd (hcond M h) g, fun j hj ej n' hn' en' g => ?_⟩
      have := nI_inj (by omega) (by omega) (en.symm.trans en'); subst this
      refine cto_none (h.cd) (fun c hc => cd_lo hc) ?_
      rw [lw_eq (h.cd (x := 0)).b (by omega) hn (by rw [← en]; exact hf.2.2.2) 24 (Nat.le_refl _)]; exact hl
    · intro p hp hl
      have h' : J2 M (comM M p 0 sc) tc sc k := h.congrB (fun c hc => comM_hi hc)
      have ha := lwk_al 24 p hl hp (Nat.le_refl _)
      refine ⟨h'.mi, h'.fcm, fun g => absurd (hcond _ h') g, fun j hj ej n' hn' en' g => ?_⟩
      have := nI_inj (by omega) (by omega) (en.symm.trans en'); subst this
      refine cto_some (h'.cd) hp ha (fun c hc => cd_lo hc) ?_
      rw [lw_eq (h'.cd (x := 0)).b (by omega) hn (by rw [← en]; exact hf.2.2.2) 24 (Nat.le_refl _)]; exact hl
section Easy3
variable {A A' B B' : ow_A} {k : Nat}
theorem RK.none {own pos : Nat → Int32} {ls : Nat → Nat} {n : Nat} (h : RK own pos ls n) (e : ∀ p, p < 24 → own p = -1) : n = 0 := by
  rcases Nat.eq_zero_or_pos n with h1 | h1
  · exact h1
  · have := h.2.1 0 h1; exact absurd (e _ this.1) this.2
/-- one type more -/
theorem BR.type {tc sc : Nat} (h : BR A B tc sc k) (e2 : ∀ t, t < tc → A' 2 t = A 2 t) (ea : ∀ c, 3 ≤ c → c < 26 → A' c = A c) : BR A' B (tc + 1) sc k := by
  have e3 := ea 3 (by decide) (by decide); have e4 := ea 4 (by decide) (by decide); have e5 := ea 5 (by decide) (by decide); have e7 := ea 7 (by decide) (by decide); have e8 := ea 8 (by decide) (by decide); have e9 := ea 9 (by decide) (by decide)
  obtain ⟨h1, h2, h3, h4, h5, h6, h7, h8, h9, h10, h11, h12, h13⟩ := h
  refine ⟨by rw [e8]; exact h1, by rw [e9]; exact h2, ?_, ?_, ?_, ?_, h7, h8, ?_, ?_, by rw [e7, e8]; exact h11, by rw [e8]; exact h12, by rw [e7]; exact h13⟩
  · rw [e8, e9]; intro p hp
    obtain ⟨t, q1, q2, q3⟩ := h3 p hp
    exact ⟨t, q1, q2, fun g => by have := q3 g; omega⟩
  · rw [e8, e9]; intro p hp hk f hf hl
    obtain ⟨t, q1, q2, q3⟩ := h3 p hp
    have ec : (A 9 p).toNatClampNeg = t := by rw [q2, nI_clamp (by omega)]
    rw [ec, e2 t (q3 hk)] at hl
    rw [ea (11 + f) (by omega) (by omega)]; exact h4 p hp hk f hf (by rw [ec]; exact hl)
  · intro s hs; rw [ea (15 + s) (by omega) (by omega)]; exact h5 s hs
  · intro s hs; rw [ea (15 + s) (by omega) (by omega), e8, e9, e4, e3]; exact h6 s hs
  · intro s hs; rw [ea (15 + s) (by omega) (by omega), ea (21 + s) (by omega) (by omega)]; exact h9 s hs
  · intro s hs hs5 hf h
    rw [show sfv A' s = sfv A s by unfold sfv; rw [e5]] at hf ⊢
    rw [e5] at h
    rw [ea (15 + s) (by omega) (by omega), ea (11 + sfv A s) (by omega) (by omega)]
    exact h10 s hs hs5 hf h
/-- one set more -/
theorem BR.set {tc sc : Nat} (h : BR A B tc sc k) (hsc : sc < 5) (e2 : A' 2 = A 2) (es : ∀ s, s < sc → A' 3 s = A 3 s ∧ A' 4 s = A 4 s ∧ A' 5 s = A 5 s) (ea : ∀ c, 7 ≤ c → c < 26 → A' c = A c) : BR A' B tc (sc + 1) k := by
  have e7 := ea 7 (by decide) (by decide); have e8 := ea 8 (by decide) (by decide); have e9 := ea 9 (by decide) (by decide)
  obtain ⟨h1, h2, h3, h4, h5, h6, h7, h8, h9, h10, h11, h12, h13⟩ := h
  refine ⟨by rw [e8]; exact h1, by rw [e9]; exact h2, by rw [e8, e9]; exact h3, ?_, ?_, ?_, h7, h8, ?_, ?_, by rw [e7, e8]; exact h11, by rw [e8]; exact h12, by rw [e7]; exact h13⟩
  · rw [e8, e9, e2]; intro p hp hk f hf hl; rw [ea (11 + f) (by omega) (by omega)]; exact h4 p hp hk f hf hl
  · intro s hs; rw [ea (15 + s) (by omega) (by omega)]; exact h5 s hs
  · intro s hs p hp; rw [ea (15 + s) (by omega) (by omega), e8, e9]
    rcases h6 s hs p hp with q | ⟨q1, q2, q3, q4⟩
    · exact Or.inl q
    · rw [(es s q1).1, (es s q1).2.1]; exact Or.inr ⟨by omega, q2, q3, q4⟩
  · intro s hs; rw [ea (15 + s) (by omega) (by omega), ea (21 + s) (by omega) (by omega)]; exact h9 s hs
  · intro s hs hs5 hf h
    by_cases g : s < sc
    · have e5 := (es s g).2.2
      rw [show sfv A' s = sfv A s by unfold sfv; rw [e5]] at hf ⊢
      rw [e5] at h
      rw [ea (15 + s) (by omega) (by omega), ea (11 + sfv A s) (by omega) (by omega)]
      exact h10 s g hs5 hf h
    · have hn : mln B s = 0 := (h9 s hs5).none (fun p hp => by
        rcases h6 s hs5 p hp with q | ⟨q1, _⟩
        · exact q
        · omega)
      rw [hn]; intro i j hij hj; omega
theorem ow_uc {c j : Nat} {x : Int32} {c' : Nat} (h : c' ≠ c) : ow_u A c j x c' = A c' := ow_u_ne h
end Easy3
theorem HX_type_ok : HX_type JJ := by
  intro k M x hk ⟨tc, sc, h⟩
  have h4 := h.p.t4
  have hev := h.p.ev
  refine ⟨tc, sc, h.ci, ?_, ?_, ?_⟩
  · intro hx
    exact ⟨h.mi, fun _ => ⟨ow_u_self, JJ.of (h.cd).up (fun c hc => cd_lo hc)⟩, fun q1 q2 => absurd ⟨q1, q2⟩ hx, fun q1 q2 => absurd ⟨q1, q2⟩ hx⟩
  · intro q1 q2 q3
    have q4 : M 48 1 = 4 ∨ ¬ M 48 8 = 0 := by
      rcases q3 with q | q
      · left
        rw [h.p.a1] at q
        have : 4 ≤ tc := (nI_leI (a := 4) (by decide) (by omega)).mp q
        have e : tc = 4 := by omega
        rw [h.p.b1, e]; rfl
      · right; rw [← hev]; exact q
    refine ⟨h.mi, fun g => absurd ⟨q1, q2⟩ g, fun _ _ _ => ⟨ow_u_self, JJ.of (h.cd).up (fun c hc => cd_lo hc)⟩, fun _ _ g1 g2 => ?_⟩
    exact absurd q4 (fun z => z.elim g1 (fun z => z g2))
  · intro q1 q2 q3 q4
    have htc : tc < 4 := by
      rw [h.p.a1] at q3
      exact (nI_ltI (b := 4) (by omega) (by decide)).mp q3
    have e1 : ∀ c, c ≠ 1 → c ≠ 2 → ow_u (ow_u M 2 tc x) 1 0 (M 1 0 + 1) c = M c := fun c h1 h2 => by rw [ow_u_ne h1, ow_u_ne h2]
    have h' : J2 M (ow_u (ow_u M 2 tc x) 1 0 (M 1 0 + 1)) tc sc k := h.congrB (fun c hc => e1 c (by omega) (by omega))
    generalize hM1 : ow_u (ow_u M 2 tc x) 1 0 (M 1 0 + 1) = M1 at h' e1
    have hn4 : ¬ M1 48 1 = 4 := by
      rw [h'.p.b1]; intro e
      have := (nI_eq (a := tc) (b := 4) (by omega) (by decide)).mp e; omega
    refine ⟨h'.mi, fun g => absurd ⟨q1, q2⟩ g, fun _ _ g => ?_, fun _ _ _ _ => ⟨?_, ?_, ?_⟩⟩
    · exact absurd g (fun z => z.elim hn4 (fun z => z (by rw [← h'.p.ev]; exact q4)))
    · rw [ow_u_at (by decide), ow_u_ne (by decide), ow_u_self]
    · rw [h'.p.b1, h.p.a1]
    · refine JJ.of (A := M1) (tc := tc + 1) (sc := sc) ?_ (fun c hc => by rw [ow_u_ne (by omega), ow_u_ne (by omega), ow_u_ne (by omega)])
      have a1 : M1 1 0 = nI (tc + 1) := by rw [← hM1, ow_u_self, h.p.a1, nI_succ]
      have a11 : M1 1 1 = M 1 1 := by rw [← hM1, ow_u_at (by decide), ow_u_ne (by decide)]
      have a2 : ∀ t, M1 2 t = if t = tc then x else M 2 t := fun t => by
        rw [← hM1, ow_u_ne (by decide)]
        by_cases e : t = tc
        · subst e; rw [ow_u_self, if_pos rfl]
        · rw [ow_u_at e, if_neg e]
      have b49 : ∀ t, ow_u (ow_u (ow_u M1 48 0 0) 49 tc x) 48 1 (M1 48 1 + 1) 49 t = if t = tc then x else M 49 t := fun t => by
        rw [ow_u_ne (by decide)]
        by_cases e : t = tc
        · subst e; rw [ow_u_self, if_pos rfl]
        · rw [ow_u_at e, if_neg e, ow_u_ne (by decide), e1 49 (by decide) (by decide)]
      have bc : ∀ c, c ≠ 48 → c ≠ 49 → ow_u (ow_u (ow_u M1 48 0 0) 49 tc x) 48 1 (M1 48 1 + 1) c = M1 c := fun c h1 h2 => by rw [ow_u_ne h1, ow_u_ne h2, ow_u_ne h1]
      have b48 : ∀ j, j ≠ 1 → j ≠ 0 → ow_u (ow_u (ow_u M1 48 0 0) 49 tc x) 48 1 (M1 48 1 + 1) 48 j = M1 48 j := fun j h1 h2 => by rw [ow_u_at h1, ow_u_ne (by decide), ow_u_at h2]
      have a2' : ∀ t, t < tc → M1 2 t = M 2 t := fun t ht => by rw [a2, if_neg (by omega)]
      refine J2.up ⟨?_, ?_, ?_, ?_⟩
      · refine ⟨by omega, h.p.s5, a1, by rw [ow_u_self, h'.p.b1, nI_succ], by rw [a11]; exact h.p.a2, by rw [b48 3 (by decide) (by decide)]; exact h'.p.b2, ?_, ?_, ?_, ?_, ?_, ?_, ?_, ?_, ?_, ?_⟩
        · intro t ht; rw [a2, b49, h.p.fc t ht]
        · intro t ht; rw [a2]; split
          · exact ⟨by grind, q2⟩
          · exact h.p.fr t ht
        · intro s hs; rw [bc 50 (by decide) (by decide), e1 3 (by decide) (by decide), h'.p.ot s hs]
        · intro s hs; rw [bc 51 (by decide) (by decide), e1 4 (by decide) (by decide), h'.p.mt s hs]
        · intro s hs; rw [bc 52 (by decide) (by decide), e1 5 (by decide) (by decide), h'.p.od s hs]
        · intro s hs; rw [bc 53 (by decide) (by decide), e1 6 (by decide) (by decide), h'.p.kd s hs]
        · intro s hs; rw [e1 3 (by decide) (by decide), e1 4 (by decide) (by decide)]
          obtain ⟨t, u, z1, z2, z3⟩ := h.p.ov s hs
          exact ⟨t, u, by omega, by omega, z3⟩
        · rw [e1 6 (by decide) (by decide)]; exact h.p.kv
        · intro s hs; rw [e1 5 (by decide) (by decide), e1 4 (by decide) (by decide)]
          rcases h.p.oo s hs with z | ⟨z1, z2, z3, f, z4, z5, z6⟩
          · exact Or.inl z
          · obtain ⟨t, u, y1, y2, y3, y4, y5⟩ := h.p.ov s z1
            have ec : (M 4 s).toNatClampNeg = u := by rw [y5, nI_clamp (by omega)]
            exact Or.inr ⟨z1, z2, z3, f, z4, z5, by rw [ec, a2' u y2, ← ec]; exact z6⟩
        · rw [b48 8 (by decide) (by decide), e1 0 (by decide) (by decide)]; exact h'.p.ev
      · exact (h'.b.type (A' := M1) a2' (fun c h1 h2 => e1 c (by omega) (by omega))).congrB (b48 9 (by decide) (by decide)) (fun c h1 h2 => bc c (by omega) (by omega))
      · refine BR.keptB (B := M1) (BR.type (A := KA M) (A' := KA M1) h'.kb (fun t ht => ?_) (fun c h1 h2 => ?_)) (b48 20 (by decide) (by decide)) (fun c h1 h2 => bc c (by omega) (by omega))
        · show KA M1 2 t = KA M 2 t
          unfold KA; rw [if_neg (by omega), if_neg (by omega)]; exact a2' t ht
        · unfold KA
          split
          · exact e1 _ (by omega) (by omega)
          · exact e1 _ (by omega) (by omega)
      · have hs := h'.s
        refine ⟨?_, ?_, ?_, ?_, ?_, ?_⟩
        · rw [b48 16 (by decide) (by decide), e1 45 (by decide) (by decide)]; exact hs.ru
        · rw [e1 45 (by decide) (by decide), e1 8 (by decide) (by decide)]; exact hs.rl
        · rw [bc 60 (by decide) (by decide), e1 46 (by decide) (by decide)]; exact hs.tu
        · intro t ht; rw [e1 46 (by decide) (by decide), e1 8 (by decide) (by decide)]
          exact (hs.tl t ht).imp id (fun z => ⟨by omega, z.2⟩)
        · rw [bc 61 (by decide) (by decide), e1 47 (by decide) (by decide)]; exact hs.su
        · intro s hs5; rw [e1 47 (by decide) (by decide), e1 8 (by decide) (by decide), e1 9 (by decide) (by decide), e1 3 (by decide) (by decide), e1 (15 + s) (by omega) (by omega)]; exact hs.sl s hs5
