/-! set, keep, rollBack -/
theorem ord_j : ∀ j, j < 40 → 10 ≤ j → ((0 : Int32) ≤ nI j - nI j / 10 * 10) ∧ ((nI j - nI j / 10 * 10 < 3) → nI j ≤ 32) ∧ ∃ f, f < 10 ∧ nI j - nI j / 10 * 10 = nI f := by decide +kernel
theorem ord_x {x : Int32} (h1 : 10 ≤ x) (h2 : x < 40) : (0 ≤ x - x / 10 * 10) ∧ ((x - x / 10 * 10 < 3) → x ≤ 32) ∧ ∃ f, f < 10 ∧ x - x / 10 * 10 = nI f := by
  obtain ⟨j, hj, e⟩ := nI_ix (x := x) (n := 40) (by grind) (show x < nI 40 from h2) (by decide)
  subst e
  exact ord_j j hj ((nI_leI (a := 10) (by decide) (by omega)).mp h1)
theorem HX_set_ok : HX_set JJ := by
  intro k M x y z w hk ⟨tc, sc, h⟩
  have h4 := h.p.t4
  have h5 := h.p.s5
  have hev := h.p.ev
  have kdw : (0 ≤ w ∧ w < 6) ↔ (0 ≤ w ∧ w ≤ 5) := ⟨fun q => ⟨q.1, by have := q.2; grind⟩, fun q => ⟨q.1, by have := q.2; grind⟩⟩
  have iso : ∀ B, J2 M B tc sc k → HT M y → (ISm B z y ↔ ISO M z y) := by
    intro B hB hy
    obtain ⟨j, hj, ej⟩ := nI_ix hy.1 (by rw [← h.p.a1]; exact hy.2) (by omega)
    have ec : y.toNatClampNeg = j := by rw [ej, nI_clamp (by omega)]
    have hfr := h.p.fr j (by omega)
    unfold ISm ISO
    rw [ec, ← hB.p.fc j (by omega)]
    constructor
    · rintro (q | ⟨q1, q2, q3, q4⟩)
      · exact Or.inl q
      · have q5 : z < 40 := by grind
        exact Or.inr ⟨q1, q5, hy.1, hy.2, (ord_x q1 q5).1, q4⟩
    · rintro (q | ⟨q1, q2, _, _, _, q4⟩)
      · exact Or.inl q
      · have q3 : z - z / 10 * 10 < 3 := by have := hfr.2; grind
        exact Or.inr ⟨q1, (ord_x q1 q2).2.1 q3, q3, q4⟩
  have bad : JJ (k + 1) (ow_u M 48 0 1) := JJ.of (h.cd).up (fun c hc => cd_lo hc)
  refine ⟨tc, sc, h.ci, ?_, ?_, ?_, ?_⟩
  · intro hn
    refine ⟨h.mi, fun _ => ⟨ow_u_self, bad⟩, fun q1 q2 q3 q4 q5 => ?_⟩
    exact absurd ⟨(h.ht x).mp q1, (h.ht y).mp q2, q3⟩ hn
  · intro q1 q2 q3 hn
    refine ⟨h.mi, fun _ => ⟨ow_u_self, bad⟩, fun _ _ _ q4 q5 => ⟨fun _ => ⟨ow_u_self, bad⟩, fun q6 => ?_⟩⟩
    exact absurd ⟨(iso M h q2).mp q6, kdw.mpr ⟨q4, q5⟩⟩ hn
  · intro q1 q2 q3 q4 q5 q6 q7
    have q8 : M 48 3 = 5 ∨ ¬ M 48 8 = 0 := by
      rcases q7 with q | q
      · left
        rw [h.p.a2] at q
        have : 5 ≤ sc := (nI_leI (a := 5) (by decide) (by omega)).mp q
        have e : sc = 5 := by omega
        rw [h.p.b2, e]; rfl
      · right; rw [← hev]; exact q
    refine ⟨h.mi, fun g => absurd ⟨(h.ht x).mpr q1, (h.ht y).mpr q2, q3, q5, (kdw.mp ⟨q5, q6⟩).2⟩ g, fun _ _ _ _ _ => ⟨fun g => absurd ((iso M h q2).mpr q4) g, fun _ => ⟨fun _ => ⟨ow_u_self, JJ.of (h.cd).up (fun c hc => cd_lo hc)⟩, fun g1 g2 => ?_⟩⟩⟩
    exact absurd q8 (fun e => e.elim g1 (fun e => e g2))
  · intro q1 q2 q3 q4 q5 q6 q7 q8
    have hsc : sc < 5 := by
      rw [h.p.a2] at q7
      exact (nI_ltI (b := 5) (by omega) (by decide)).mp q7
    have e1 : ∀ c, c ≠ 1 → c ≠ 3 → c ≠ 4 → c ≠ 5 → c ≠ 6 → ow_u (ow_u (ow_u (ow_u (ow_u M 3 sc x) 4 sc y) 5 sc z) 6 sc w) 1 1 (M 1 1 + 1) c = M c := fun c h1 h3 h4 h5 h6 => by rw [ow_u_ne h1, ow_u_ne h6, ow_u_ne h5, ow_u_ne h4, ow_u_ne h3]
    have h' : J2 M (ow_u (ow_u (ow_u (ow_u (ow_u M 3 sc x) 4 sc y) 5 sc z) 6 sc w) 1 1 (M 1 1 + 1)) tc sc k := h.congrB (fun c hc => e1 c (by omega) (by omega) (by omega) (by omega) (by omega))
    have a1 : ow_u (ow_u (ow_u (ow_u (ow_u M 3 sc x) 4 sc y) 5 sc z) 6 sc w) 1 1 (M 1 1 + 1) 1 1 = nI (sc + 1) := by rw [ow_u_self, h.p.a2, nI_succ]
    have a10 : ow_u (ow_u (ow_u (ow_u (ow_u M 3 sc x) 4 sc y) 5 sc z) 6 sc w) 1 1 (M 1 1 + 1) 1 0 = M 1 0 := by rw [ow_u_at (by decide), ow_u_ne (by decide), ow_u_ne (by decide), ow_u_ne (by decide), ow_u_ne (by decide)]
    have up1 : ∀ (N : ow_A) (c : Nat) (v : Int32) (s : Nat), ow_u N c sc v c s = if s = sc then v else N c s := fun N c v s => by
      by_cases e : s = sc
      · subst e; rw [ow_u_self, if_pos rfl]
      · rw [ow_u_at e, if_neg e]
    have a3 : ∀ s, ow_u (ow_u (ow_u (ow_u (ow_u M 3 sc x) 4 sc y) 5 sc z) 6 sc w) 1 1 (M 1 1 + 1) 3 s = if s = sc then x else M 3 s := fun s => by rw [ow_u_ne (by decide), ow_u_ne (by decide), ow_u_ne (by decide), ow_u_ne (by decide), up1]
    have a4 : ∀ s, ow_u (ow_u (ow_u (ow_u (ow_u M 3 sc x) 4 sc y) 5 sc z) 6 sc w) 1 1 (M 1 1 + 1) 4 s = if s = sc then y else M 4 s := fun s => by rw [ow_u_ne (by decide), ow_u_ne (by decide), ow_u_ne (by decide), up1, ow_u_ne (by decide)]
    have a5 : ∀ s, ow_u (ow_u (ow_u (ow_u (ow_u M 3 sc x) 4 sc y) 5 sc z) 6 sc w) 1 1 (M 1 1 + 1) 5 s = if s = sc then z else M 5 s := fun s => by rw [ow_u_ne (by decide), ow_u_ne (by decide), up1, ow_u_ne (by decide), ow_u_ne (by decide)]
    have a6 : ∀ s, ow_u (ow_u (ow_u (ow_u (ow_u M 3 sc x) 4 sc y) 5 sc z) 6 sc w) 1 1 (M 1 1 + 1) 6 s = if s = sc then w else M 6 s := fun s => by rw [ow_u_ne (by decide), up1, ow_u_ne (by decide), ow_u_ne (by decide), ow_u_ne (by decide)]
    generalize ow_u (ow_u (ow_u (ow_u (ow_u M 3 sc x) 4 sc y) 5 sc z) 6 sc w) 1 1 (M 1 1 + 1) = M1 at h' e1 a1 a10 a3 a4 a5 a6 ⊢
    have hn5 : ¬ M1 48 3 = 5 := by
      rw [h'.p.b2]; intro e
      have := (nI_eq (a := sc) (b := 5) (by omega) (by decide)).mp e; omega
    refine ⟨h'.mi, fun g => absurd ⟨(h'.ht x).mpr q1, (h'.ht y).mpr q2, q3, q5, (kdw.mp ⟨q5, q6⟩).2⟩ g, fun _ _ _ _ _ => ⟨fun g => absurd ((iso M1 h' q2).mpr q4) g, fun _ => ⟨fun g => ?_, fun _ _ => ⟨?_, ?_, ?_⟩⟩⟩⟩
    · exact absurd g (fun e => e.elim hn5 (fun e => e (by rw [← h'.p.ev]; exact q8)))
    · rw [ow_u_at (by decide), ow_u_ne (by decide), ow_u_ne (by decide), ow_u_ne (by decide), ow_u_ne (by decide), ow_u_self]
    · rw [h'.p.b2, h.p.a2]
    · have bc : ∀ c, c ≠ 48 → c ≠ 50 → c ≠ 51 → c ≠ 52 → c ≠ 53 → ow_u (ow_u (ow_u (ow_u (ow_u (ow_u M1 48 0 0) 50 sc x) 51 sc y) 52 sc z) 53 sc w) 48 3 (M1 48 3 + 1) c = M1 c := fun c h1 h2 h3 h4 h5 => by rw [ow_u_ne h1, ow_u_ne h5, ow_u_ne h4, ow_u_ne h3, ow_u_ne h2, ow_u_ne h1]
      have b48 : ∀ j, j ≠ 3 → j ≠ 0 → ow_u (ow_u (ow_u (ow_u (ow_u (ow_u M1 48 0 0) 50 sc x) 51 sc y) 52 sc z) 53 sc w) 48 3 (M1 48 3 + 1) 48 j = M1 48 j := fun j h1 h2 => by rw [ow_u_at h1, ow_u_ne (by decide), ow_u_ne (by decide), ow_u_ne (by decide), ow_u_ne (by decide), ow_u_at h2]
      have b3 : ow_u (ow_u (ow_u (ow_u (ow_u (ow_u M1 48 0 0) 50 sc x) 51 sc y) 52 sc z) 53 sc w) 48 3 (M1 48 3 + 1) 48 3 = nI (sc + 1) := by rw [ow_u_self, h'.p.b2, nI_succ]
      have b50 : ∀ s, ow_u (ow_u (ow_u (ow_u (ow_u (ow_u M1 48 0 0) 50 sc x) 51 sc y) 52 sc z) 53 sc w) 48 3 (M1 48 3 + 1) 50 s = if s = sc then x else M1 50 s := fun s => by rw [ow_u_ne (by decide), ow_u_ne (by decide), ow_u_ne (by decide), ow_u_ne (by decide), up1, ow_u_ne (by decide)]
      have b51 : ∀ s, ow_u (ow_u (ow_u (ow_u (ow_u (ow_u M1 48 0 0) 50 sc x) 51 sc y) 52 sc z) 53 sc w) 48 3 (M1 48 3 + 1) 51 s = if s = sc then y else M1 51 s := fun s => by rw [ow_u_ne (by decide), ow_u_ne (by decide), ow_u_ne (by decide), up1, ow_u_ne (by decide), ow_u_ne (by decide)]
      have b52 : ∀ s, ow_u (ow_u (ow_u (ow_u (ow_u (ow_u M1 48 0 0) 50 sc x) 51 sc y) 52 sc z) 53 sc w) 48 3 (M1 48 3 + 1) 52 s = if s = sc then z else M1 52 s := fun s => by rw [ow_u_ne (by decide), ow_u_ne (by decide), up1, ow_u_ne (by decide), ow_u_ne (by decide), ow_u_ne (by decide)]
      have b53 : ∀ s, ow_u (ow_u (ow_u (ow_u (ow_u (ow_u M1 48 0 0) 50 sc x) 51 sc y) 52 sc z) 53 sc w) 48 3 (M1 48 3 + 1) 53 s = if s = sc then w else M1 53 s := fun s => by rw [ow_u_ne (by decide), up1, ow_u_ne (by decide), ow_u_ne (by decide), ow_u_ne (by decide), ow_u_ne (by decide)]
      have blo : ∀ c, c < 48 → ow_u (ow_u (ow_u (ow_u (ow_u (ow_u M1 48 0 0) 50 sc x) 51 sc y) 52 sc z) 53 sc w) 48 3 (M1 48 3 + 1) c = M1 c := fun c hc => bc c (by omega) (by omega) (by omega) (by omega) (by omega)
      generalize ow_u (ow_u (ow_u (ow_u (ow_u (ow_u M1 48 0 0) 50 sc x) 51 sc y) 52 sc z) 53 sc w) 48 3 (M1 48 3 + 1) = B2 at bc b48 b3 b50 b51 b52 b53 blo ⊢
      refine JJ.of (A := M1) (tc := tc) (sc := sc + 1) ?_ blo
      obtain ⟨jx, hjx, ejx⟩ := nI_ix q1.1 (by rw [← h.p.a1]; exact q1.2) (by omega)
      obtain ⟨jy, hjy, ejy⟩ := nI_ix q2.1 (by rw [← h.p.a1]; exact q2.2) (by omega)
      have ecy : y.toNatClampNeg = jy := by rw [ejy, nI_clamp (by omega)]
      have e2 : M1 2 = M 2 := e1 2 (by decide) (by decide) (by decide) (by decide) (by decide)
      have es : ∀ s, s < sc → M1 3 s = M 3 s ∧ M1 4 s = M 4 s ∧ M1 5 s = M 5 s := fun s hs => by
        rw [a3, a4, a5, if_neg (by omega), if_neg (by omega), if_neg (by omega)]; exact ⟨rfl, rfl, rfl⟩
      refine J2.up ⟨?_, ?_, ?_, ?_⟩
      · refine ⟨h4, by omega, by rw [a10]; exact h.p.a1, by rw [b48 1 (by decide) (by decide)]; exact h'.p.b1, a1, b3, ?_, ?_, ?_, ?_, ?_, ?_, ?_, ?_, ?_, ?_⟩
        · rw [e2, bc 49 (by decide) (by decide) (by decide) (by decide) (by decide)]; exact h'.p.fc
        · rw [e2]; exact h.p.fr
        · intro s hs; rw [a3, b50, h'.p.ot s hs]
        · intro s hs; rw [a4, b51, h'.p.mt s hs]
        · intro s hs; rw [a5, b52, h'.p.od s hs]
        · intro s hs; rw [a6, b53, h'.p.kd s hs]
        · intro s hs
          rw [a3, a4]
          by_cases e : s = sc
          · rw [if_pos e, if_pos e]
            exact ⟨jx, jy, hjx, hjy, fun q => q3 (by rw [ejx, ejy, q]), ejx, ejy⟩
          · rw [if_neg e, if_neg e]; exact h.p.ov s (by omega)
        · intro s hs; rw [a6]; split
          · exact kdw.mp ⟨q5, q6⟩
          · exact h.p.kv s hs
        · intro s hs
          rw [a5, a4, e2]
          by_cases e : s = sc
          · rw [if_pos e, if_pos e]
            rcases q4 with q | ⟨z1, z2, z3, z4, z5, z6⟩
            · exact Or.inl q
            · obtain ⟨f, hf, ef⟩ := (ord_x z1 z2).2.2
              refine Or.inr ⟨by omega, z1, z2, f, ?_, ef, by rw [← ef]; exact z6⟩
              have h6 := (h.p.fr jy (by omega)).2
              rw [ecy, ef] at z6
              have h7 : nI f < nI 3 := by have e3 : nI 3 = 3 := rfl
                                          rw [e3]; grind
              exact (nI_ltI (by omega) (by decide)).mp h7
          · rw [if_neg e, if_neg e]
            rcases h.p.oo s hs with q | ⟨z1, z2⟩
            · exact Or.inl q
            · exact Or.inr ⟨by omega, z2⟩
        · rw [b48 8 (by decide) (by decide), e1 0 (by decide) (by decide) (by decide) (by decide) (by decide)]; exact h'.p.ev
      · exact (h'.b.set (A' := M1) hsc e2 es (fun c h1 h2 => e1 c (by omega) (by omega) (by omega) (by omega) (by omega))).congrB (b48 9 (by decide) (by decide)) (fun c h1 h2 => bc c (by omega) (by omega) (by omega) (by omega) (by omega))
      · refine BR.keptB (B := M1) (BR.set (A := KA M) (A' := KA M1) h'.kb hsc ?_ (fun s hs => ?_) (fun c h1 h2 => ?_)) (b48 20 (by decide) (by decide)) (fun c h1 h2 => bc c (by omega) (by omega) (by omega) (by omega) (by omega))
        · exact e2
        · exact es s hs
        · unfold KA
          split
          · exact e1 _ (by omega) (by omega) (by omega) (by omega) (by omega)
          · exact e1 _ (by omega) (by omega) (by omega) (by omega) (by omega)
      · have hs := h'.s
        have ec : ∀ c, 7 ≤ c → M1 c = M c := fun c hc => e1 c (by omega) (by omega) (by omega) (by omega) (by omega)
        refine ⟨?_, ?_, ?_, ?_, ?_, ?_⟩
        · rw [b48 16 (by decide) (by decide), ec 45 (by decide)]; exact hs.ru
        · rw [ec 45 (by decide), ec 8 (by decide)]; exact hs.rl
        · rw [bc 60 (by decide) (by decide) (by decide) (by decide) (by decide), ec 46 (by decide)]; exact hs.tu
        · rw [ec 46 (by decide), ec 8 (by decide)]; exact hs.tl
        · rw [bc 61 (by decide) (by decide) (by decide) (by decide) (by decide), ec 47 (by decide)]; exact hs.su
        · intro s hs5
          rw [ec 47 (by decide), ec 8 (by decide), ec 9 (by decide), ec (15 + s) (by omega)]
          rcases hs.sl s hs5 with q | ⟨z1, z2⟩
          · exact Or.inl q
          · rw [(es s z1).1]; exact Or.inr ⟨by omega, z2⟩
section Keep
variable {A B : ow_A}
theorem ow_cp_at {a0 a N j : Nat} (h : j < N) : ow_cp A a0 a N a j = A a0 j := by
  rw [ow_cp_eq]; unfold va_cpy; rw [if_pos ⟨by omega, by omega⟩]; congr 1; omega
theorem kp_lo {c : Nat} (h : c < 26 ∨ 44 < c) : cp_keep A c = A c := by
  unfold cp_keep
  repeat rw [ow_cp_ne (by omega)]
  rw [ow_u_ne (by omega), ow_u_ne (by omega)]
theorem bk_lo {c : Nat} (h : c < 7 ∨ 25 < c) : cp_back A c = A c := by
  unfold cp_back
  repeat rw [ow_cp_ne (by omega)]
  rw [ow_u_ne (by omega), ow_u_ne (by omega)]
theorem kp_26 : cp_keep A 26 0 = A 7 0 ∧ cp_keep A 26 1 = A 7 1 := by
  unfold cp_keep
  refine ⟨?_, ?_⟩
  · repeat rw [ow_cp_ne (by omega)]
    rw [ow_u_at (by decide), ow_u_self]
  · repeat rw [ow_cp_ne (by omega)]
    rw [ow_u_self]
theorem bk_7 : cp_back A 7 0 = A 26 0 ∧ cp_back A 7 1 = A 26 1 := by
  unfold cp_back
  refine ⟨?_, ?_⟩
  · repeat rw [ow_cp_ne (by omega)]
    rw [ow_u_at (by decide), ow_u_self]
  · repeat rw [ow_cp_ne (by omega)]
    rw [ow_u_self]
end Keep
