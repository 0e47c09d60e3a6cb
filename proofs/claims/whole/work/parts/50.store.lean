/-! store: the fields of a place where nothing lives, then the new record -/
section Store
variable {A A' B B' : ow_A} {k tc sc s p j : Nat} {x y z t y' z' : Int32}
theorem BR.ndead (h : BR A B tc sc k) (hd : A 8 p = 0) (hs : s < 5) {i : Nat} (hi : i < mln B s) : ¬ lsB B s i = p := fun e => by
  have := (h.rg s hs).2.1 i hi
  rw [e] at this
  have h24 : p < 24 := this.1
  exact (h.mem hs h24 this.2).2.1 hd
theorem J2.dead (h : J2 A B tc sc k) (hd : A 8 p = 0) (ea : ∀ c, ¬ (11 ≤ c ∧ c < 14) → A' c = A c) (ef : ∀ f, f < 3 → ∀ q, q ≠ p → A' (11 + f) q = A (11 + f) q) (eb : ∀ c, c ≠ 56 → B' c = B c) (eg : ∀ f, f < 3 → ∀ q, q ≠ p → B' 56 (3 * q + f) = B 56 (3 * q + f)) : J2 A' B' tc sc k := by
  have h5 := h.p.s5
  have e48 := eb 48 (by decide); have e54 := eb 54 (by decide); have e55 := eb 55 (by decide); have e57 := eb 57 (by decide); have e58 := eb 58 (by decide); have e59 := eb 59 (by decide)
  have e8 := ea 8 (by omega); have e9 := ea 9 (by omega)
  refine ⟨(h.p.congrA (fun c hc => ea c (by omega))).congrB ⟨by rw [e48], by rw [e48], by rw [e48]⟩ (fun c h1 h2 => eb c (by omega)), ?_, (h.kb.keptA (fun c hc => ea c (by omega))).keptB (by rw [e48]) (fun c h1 h2 => eb c (by omega)), (h.s.congrA (fun c hc => ea c (by omega))).congrB (by rw [e48]) (eb 60 (by decide)) (eb 61 (by decide))⟩
  obtain ⟨q1, q2, q3, q4, q5, q6, q7, q8, q9, q9b, q10, q11, q12⟩ := h.b
  refine ⟨by rw [e8, e54]; exact q1, by rw [e9, e55]; exact q2, by rw [e8, e9]; exact q3, ?_, fun s hs => by rw [ea (15 + s) (by omega), e57]; exact q5 s hs, fun s hs => by rw [ea (15 + s) (by omega), e8, e9, ea 4 (by omega), ea 3 (by omega)]; exact q6 s hs, by rw [e58]; exact q7, by rw [e59]; exact q8, fun s hs => by rw [ea (15 + s) (by omega), ea (21 + s) (by omega), lsB_c e58, mln_c e59]; exact q9 s hs, ?_, by rw [ea 7 (by omega), e8, e48]; exact q10, by rw [e8]; exact q11, by rw [ea 7 (by omega), e54]; exact q12⟩
  · rw [e8, e9, ea 2 (by omega)]
    intro q hq hk f hf hl
    have hne : q ≠ p := fun e => hk (by rw [e]; exact hd)
    rw [ef f hf q hne, eg f hf q hne]; exact q4 q hq hk f hf hl
  · intro s hs hs5 hf h10 a b hab hb he
    have es : sfv A' s = sfv A s := by unfold sfv; rw [ea 5 (by omega)]
    rw [es] at hf ⊢
    rw [ea 5 (by omega)] at h10
    rw [mln_c e59] at hb
    rw [lsB_c e58] at he ⊢
    rw [ea (15 + s) (by omega)] at he
    rw [ef _ hf _ (h.b.ndead hd hs5 (by omega)), ef _ hf _ (h.b.ndead hd hs5 hb)]
    exact q9b s hs hs5 hf h10 a b hab hb he
theorem wrf_ne {c : Nat} (h : ¬ (11 ≤ c ∧ c < 14)) : wrf A p x y z c = A c := by
  unfold wrf; rw [ow_u_ne (by omega), ow_u_ne (by omega), ow_u_ne (by omega)]
theorem f3 {f : Nat} (h : f < 3) : f = 0 ∨ f = 1 ∨ f = 2 := by omega
theorem wrf_f {f q : Nat} (hf : f < 3) (h : q ≠ p) : wrf A p x y z (11 + f) q = A (11 + f) q := by
  unfold wrf
  rcases f3 hf with e | e | e <;> subst e
  · rw [ow_u_ne (by decide), ow_u_ne (by decide)]; exact ow_u_at h
  · rw [ow_u_ne (by decide), show 11 + 1 = 12 from rfl, ow_u_at h, ow_u_ne (by decide)]
  · rw [show 11 + 2 = 13 from rfl, ow_u_at h, ow_u_ne (by decide), ow_u_ne (by decide)]
theorem wrf_p {f : Nat} (hf : f < 3) : wrf A p x y z (11 + f) p = if f = 0 then x else if f = 1 then y else z := by
  unfold wrf
  rcases f3 hf with e | e | e <;> subst e
  · rw [ow_u_ne (by decide), ow_u_ne (by decide)]; exact ow_u_self
  · rw [ow_u_ne (by decide), show 11 + 1 = 12 from rfl, ow_u_self]; rfl
  · rw [show 11 + 2 = 13 from rfl, ow_u_self]; rfl
theorem wcl_ne {c : Nat} (h : c ≠ 56) : wcl B p x y z c = B c := by
  unfold wcl; rw [ow_u_ne h, ow_u_ne h, ow_u_ne h]
theorem wcl_f {f q : Nat} (hf : f < 3) (h : q ≠ p) : wcl B p x y z 56 (3 * q + f) = B 56 (3 * q + f) := by
  unfold wcl; rw [ow_u_at (by omega), ow_u_at (by omega), ow_u_at (by omega)]
theorem wcl_p {f : Nat} (hf : f < 3) : wcl B p x y z 56 (3 * p + f) = if f = 0 then x else if f = 1 then y else z := by
  unfold wcl
  rcases f3 hf with e | e | e <;> subst e
  · rw [ow_u_at (by omega), ow_u_at (by omega)]; exact ow_u_self
  · rw [ow_u_at (by omega), ow_u_self]; rfl
  · rw [ow_u_self]; rfl
theorem wcl_back {v w : Int32} : wcl (ow_u (wcl (ow_u B 48 0 w) p x y z) 48 0 v) p (B 56 (3 * p)) (B 56 (3 * p + 1)) (B 56 (3 * p + 2)) = ow_u B 48 0 v := by
  funext c j
  by_cases e : c = 56
  · subst e
    rw [ow_u_ne (c := 48) (by decide)]
    unfold wcl
    by_cases e2 : j = 3 * p + 2
    · rw [e2, ow_u_self]
    · rw [ow_u_at e2]
      by_cases e1 : j = 3 * p + 1
      · rw [e1, ow_u_self]
      · rw [ow_u_at e1]
        by_cases e0 : j = 3 * p
        · rw [e0, ow_u_self]
        · rw [ow_u_at e0, ow_u_ne (by decide), ow_u_at e2, ow_u_at e1, ow_u_at e0, ow_u_ne (by decide)]
  · rw [wcl_ne e]
    by_cases e3 : c = 48
    · subst e3
      by_cases e4 : j = 0
      · subst e4; rw [ow_u_self, ow_u_self]
      · rw [ow_u_at e4, ow_u_at e4, wcl_ne (by decide), ow_u_at e4]
    · rw [ow_u_ne e3, wcl_ne e, ow_u_ne e3, ow_u_ne e3]
theorem lt23 {x : Int32} : 2 < x ↔ 3 ≤ x := by
  rw [Int32.lt_iff_toInt_lt, Int32.le_iff_toInt_le]
  have h1 : ((2 : Int32)).toInt = 2 := by decide
  have h2 : ((3 : Int32)).toInt = 3 := by decide
  omega
theorem obS_2 : ∀ n, obS B t p n = 2 ↔ ∃ i, i < n ∧ (B 51 i = t ∧ 2 < B 53 i) ∧ mco B i < 0 := by
  intro n
  induction n with
  | zero => simp [obS]
  | succ n ih =>
    simp only [obS]
    have up : (∃ i, i < n + 1 ∧ (B 51 i = t ∧ 2 < B 53 i) ∧ mco B i < 0) ↔ ((∃ i, i < n ∧ (B 51 i = t ∧ 2 < B 53 i) ∧ mco B i < 0) ∨ ((B 51 n = t ∧ 2 < B 53 n) ∧ mco B n < 0)) := by
      constructor
      · rintro ⟨i, h1, h2⟩
        by_cases e : i = n
        · subst e; exact Or.inr h2
        · exact Or.inl ⟨i, by omega, h2⟩
      · rintro (⟨i, h1, h2⟩ | h2)
        · exact ⟨i, by omega, h2⟩
        · exact ⟨n, by omega, h2⟩
    rw [up, ← ih]
    by_cases g : B 51 n = t ∧ 2 < B 53 n
    · rw [if_pos g]
      by_cases g1 : mco B n < 0 ∨ obS B t p n = 2
      · rw [if_pos g1]
        exact ⟨fun _ => g1.elim (fun q => Or.inr ⟨g, q⟩) Or.inl, fun _ => rfl⟩
      · rw [if_neg g1]
        split
        · exact ⟨fun q => absurd q (by decide), fun q => q.elim (fun q => absurd (Or.inr q) g1) (fun q => absurd (Or.inl q.2) g1)⟩
        · exact ⟨fun q => absurd (Or.inr q) g1, fun q => q.elim (fun q => absurd (Or.inr q) g1) (fun q => absurd (Or.inl q.2) g1)⟩
    · rw [if_neg g]
      exact ⟨Or.inl, fun q => q.elim id (fun q => absurd q.1 g)⟩
theorem obS_3 : ∀ n, (¬ ∃ i, i < n ∧ (B 51 i = t ∧ 2 < B 53 i) ∧ mco B i < 0) → (obS B t p n = 3 ↔ ∃ i, i < n ∧ (B 51 i = t ∧ 2 < B 53 i) ∧ mRf B i (mco B i) (nI p) (mvl B i p) 24 = true) := by
  intro n
  induction n with
  | zero => intro _; simp [obS]
  | succ n ih =>
    intro hn
    have hn' : ¬ ∃ i, i < n ∧ (B 51 i = t ∧ 2 < B 53 i) ∧ mco B i < 0 := fun ⟨i, h1, h2⟩ => hn ⟨i, by omega, h2⟩
    have ih := ih hn'
    have h2 : ¬ obS B t p n = 2 := fun e => hn' ((obS_2 n).mp e)
    simp only [obS]
    by_cases g : B 51 n = t ∧ 2 < B 53 n
    · rw [if_pos g, if_neg (fun q => q.elim (fun q => hn ⟨n, by omega, g, q⟩) h2)]
      split
      · rename_i g1; exact ⟨fun _ => ⟨n, by omega, g, g1⟩, fun _ => rfl⟩
      · rename_i g1
        rw [ih]
        constructor
        · rintro ⟨i, h1, h2⟩; exact ⟨i, by omega, h2⟩
        · rintro ⟨i, r1, r2, r3⟩
          by_cases e : i = n
          · subst e; exact absurd r3 g1
          · exact ⟨i, by omega, r2, r3⟩
    · rw [if_neg g, ih]
      constructor
      · rintro ⟨i, h1, h2⟩; exact ⟨i, by omega, h2⟩
      · rintro ⟨i, r1, r2, r3⟩
        by_cases e : i = n
        · subst e; exact absurd r2 g
        · exact ⟨i, by omega, r2, r3⟩
/-- where the model looks for a place -/
theorem free_eq {q : Nat} (h : BR A B tc sc k) (hk : k < 1000) (hp : p < 24) (hd : A 8 p = 0) (hb : ∀ j, j < p → ¬ A 8 j = 0) (hq : q < 24) (q1 : ∀ i, i < q → 0 < B 54 i) (q2 : q = 23 ∨ ¬ 0 < B 54 q) : q = p := by
  rcases Nat.lt_trichotomy q p with e | e | e
  · rcases q2 with e2 | e2
    · omega
    · exact absurd ((h.alive hk hq).mpr (hb q e)) e2
  · exact e
  · exact absurd hd ((h.alive hk hp).mp (q1 p e))
/-- both sides with the fields written -/
theorem J2.written (h : J2 A B tc sc k) (hd : A 8 p = 0) : J2 (wrf A p x y z) (wcl B p x y' z') tc sc k :=
  h.dead hd (fun _ hc => wrf_ne hc) (fun _ hf _ hq => wrf_f hf hq) (fun _ hc => wcl_ne hc) (fun _ hf _ hq => wcl_f hf hq)
theorem cnt12 {B : ow_A} {y y' z z' : Int32} (hy : (1 < B 49 j ∧ y' = y) ∨ (¬ 1 < B 49 j ∧ y' = 0)) (hz : (2 < B 49 j ∧ z' = z) ∨ (¬ 2 < B 49 j ∧ z' = 0)) {f : Nat} (hf : f < 3) (hl : nI f < B 49 j) {x : Int32} : (if f = 0 then x else if f = 1 then y else z) = if f = 0 then x else if f = 1 then y' else z' := by
  rcases f3 hf with e | e | e <;> subst e
  · rfl
  · rcases hy with q | q
    · rw [q.2]; rfl
    · exact absurd hl q.1
  · rcases hz with q | q
    · rw [q.2]; rfl
    · exact absurd hl q.1
/-- the objections are the same -/
theorem J2.ob2 (h : J2 A B tc sc k) : obS B t p sc = 2 ↔ ∃ i, i < sc ∧ JW A i t ∧ co A i = -1 := by
  have h5 := h.p.s5
  rw [obS_2]
  have key : ∀ i, i < sc → (((B 51 i = t ∧ 2 < B 53 i) ∧ mco B i < 0) ↔ (JW A i t ∧ co A i = -1)) := fun i hi => by
    unfold JW; rw [h.negco (by omega), ← h.p.mt i (by omega), ← h.p.kd i (by omega), lt23]
  exact ⟨fun ⟨i, h1, h2⟩ => ⟨i, h1, (key i h1).mp h2⟩, fun ⟨i, h1, h2⟩ => ⟨i, h1, (key i h1).mpr h2⟩⟩
theorem J2.ob3 (h : J2 A B tc sc k) (hk : k < 1000) (hp : p < 24) (hn : ∀ i, i < sc → JW A i t → ¬ co A i = -1) (hv : ∀ i, i < sc → JW A i t → 10 ≤ A 5 i → A (11 + sfv A i) p = B 56 (3 * p + sfv A i)) : obS B t p sc = 3 ↔ ∃ i, i < sc ∧ JW A i t ∧ NE A i (nI p) (co A i) (A (11 + sfv A i) p) := by
  have h5 := h.p.s5
  have kj : ∀ i, i < sc → ((B 51 i = t ∧ 2 < B 53 i) ↔ JW A i t) := fun i hi => by
    unfold JW; rw [← h.p.mt i (by omega), ← h.p.kd i (by omega), lt23]
  rw [obS_3 sc (fun ⟨i, h1, h2, h3⟩ => hn i h1 ((kj i h1).mp h2) ((h.negco (by omega)).mp h3))]
  have key : ∀ i, i < sc → (((B 51 i = t ∧ 2 < B 53 i) ∧ mRf B i (mco B i) (nI p) (mvl B i p) 24 = true) ↔ (JW A i t ∧ NE A i (nI p) (co A i) (A (11 + sfv A i) p))) := fun i hi => by
    rw [kj i hi]
    constructor
    · rintro ⟨q1, q2⟩
      rw [h.coo (by omega)] at q2
      exact ⟨q1, (rf_p h.b.bn h.p hk (by omega) (hn i hi q1) (hv i hi q1)).mp q2⟩
    · rintro ⟨q1, q2⟩
      rw [h.coo (by omega)]
      exact ⟨q1, (rf_p h.b.bn h.p hk (by omega) (hn i hi q1) (hv i hi q1)).mpr q2⟩
  exact ⟨fun ⟨i, h1, h2⟩ => ⟨i, h1, (key i h1).mp h2⟩, fun ⟨i, h1, h2⟩ => ⟨i, h1, (key i h1).mpr h2⟩⟩
/-- a record more -/
theorem J2.birth (h : J2 A B tc sc k) (hk : k < 1000) (hp : p < 24) (hd : A 8 p = 0) (hj : j < tc) (hf : ∀ f, f < 3 → nI f < A 2 j → A (11 + f) p = B 56 (3 * p + f)) : J2 (ow_u (adr A p (nI j)) 0 4 1) (M2s B p (B 48 9) (nI j)) tc sc (k + 1) := by
  have h4 := h.p.t4
  have h5 := h.p.s5
  have ea : ∀ c, c ≠ 0 → c ≠ 7 → c ≠ 8 → c ≠ 9 → ow_u (adr A p (nI j)) 0 4 1 c = A c := fun c h1 h2 h3 h4 => by unfold adr; rw [ow_u_ne h1, ow_u_ne h2, ow_u_ne h2, ow_u_ne h4, ow_u_ne h3]
  have eb : ∀ c, c ≠ 48 → c ≠ 54 → c ≠ 55 → M2s B p (B 48 9) (nI j) c = B c := fun c h1 h2 h3 => by unfold M2s; rw [ow_u_ne h1, ow_u_ne h3, ow_u_ne h1, ow_u_ne h2, ow_u_ne h1]
  have eb48 : ∀ i, i ≠ 0 → i ≠ 9 → i ≠ 8 → M2s B p (B 48 9) (nI j) 48 i = B 48 i := fun i h1 h2 h3 => by
    unfold M2s; rw [ow_u_at h3, ow_u_ne (by decide), ow_u_at h2, ow_u_ne (by decide), ow_u_at h1]
  have a8 : ∀ q, ow_u (adr A p (nI j)) 0 4 1 8 q = if q = p then A 7 1 else A 8 q := fun q => by
    unfold adr; rw [ow_u_ne (by decide), ow_u_ne (by decide), ow_u_ne (by decide), ow_u_ne (by decide)]
    by_cases e : q = p
    · subst e; rw [ow_u_self, if_pos rfl]
    · rw [ow_u_at e, if_neg e]
  have a9 : ∀ q, ow_u (adr A p (nI j)) 0 4 1 9 q = if q = p then nI j else A 9 q := fun q => by
    unfold adr; rw [ow_u_ne (by decide), ow_u_ne (by decide), ow_u_ne (by decide)]
    by_cases e : q = p
    · subst e; rw [ow_u_self, if_pos rfl]
    · rw [ow_u_at e, if_neg e, ow_u_ne (by decide)]
  have a71 : ow_u (adr A p (nI j)) 0 4 1 7 1 = A 7 1 + 1 := by
    unfold adr; rw [ow_u_ne (by decide), ow_u_at (by decide), ow_u_self]
  have a70 : ow_u (adr A p (nI j)) 0 4 1 7 0 = A 7 0 + 1 := by
    unfold adr; rw [ow_u_ne (by decide), ow_u_self]
  have b54 : ∀ q, M2s B p (B 48 9) (nI j) 54 q = if q = p then B 48 9 else B 54 q := fun q => by
    unfold M2s; rw [ow_u_ne (by decide), ow_u_ne (by decide), ow_u_ne (by decide)]
    by_cases e : q = p
    · subst e; rw [ow_u_self, if_pos rfl]
    · rw [ow_u_at e, if_neg e, ow_u_ne (by decide)]
  have b55 : ∀ q, M2s B p (B 48 9) (nI j) 55 q = if q = p then nI j else B 55 q := fun q => by
    unfold M2s; rw [ow_u_ne (by decide)]
    by_cases e : q = p
    · subst e; rw [ow_u_self, if_pos rfl]
    · rw [ow_u_at e, if_neg e, ow_u_ne (by decide), ow_u_ne (by decide), ow_u_ne (by decide)]
  have b9 : M2s B p (B 48 9) (nI j) 48 9 = B 48 9 + 1 := by
    unfold M2s; rw [ow_u_at (by decide), ow_u_ne (by decide), ow_u_self]
  have al : ∀ q, ¬ A 8 q = 0 → q ≠ p := fun q hq e => hq (by rw [e]; exact hd)
  obtain ⟨q1, q2, q3, q4, q5, q6, q7, q8, q9, q9b, ⟨m, m1, m2, m3, m4, m5⟩, q11, q12⟩ := h.b
  have hm0 : ¬ nI m = 0 := nI_ne0 (by omega) (by omega)
  have al' : ∀ q, ¬ A 8 q = 0 → ¬ ow_u (adr A p (nI j)) 0 4 1 8 q = 0 := fun q hq => by rw [a8, if_neg (al q hq)]; exact hq
  have ty' : ∀ q, ¬ A 8 q = 0 → ow_u (adr A p (nI j)) 0 4 1 9 q = A 9 q := fun q hq => by rw [a9, if_neg (al q hq)]
  refine ⟨?_, ?_, ?_, ?_⟩
  · obtain ⟨p1, p2, p3, p4, p5, p6, p7, p8, p9, p10, p11, p12, p13, p14, p15, p16⟩ := h.p
    have x1 := ea 1 (by decide) (by decide) (by decide) (by decide); have x2 := ea 2 (by decide) (by decide) (by decide) (by decide); have x3 := ea 3 (by decide) (by decide) (by decide) (by decide); have x4 := ea 4 (by decide) (by decide) (by decide) (by decide); have x5 := ea 5 (by decide) (by decide) (by decide) (by decide); have x6 := ea 6 (by decide) (by decide) (by decide) (by decide)
    have y1 := eb 49 (by decide) (by decide) (by decide); have y2 := eb 50 (by decide) (by decide) (by decide); have y3 := eb 51 (by decide) (by decide) (by decide); have y4 := eb 52 (by decide) (by decide) (by decide); have y5 := eb 53 (by decide) (by decide) (by decide)
    refine ⟨p1, p2, by rw [x1]; exact p3, by rw [eb48 1 (by decide) (by decide) (by decide)]; exact p4, by rw [x1]; exact p5, by rw [eb48 3 (by decide) (by decide) (by decide)]; exact p6, by rw [x2, y1]; exact p7, by rw [x2]; exact p8, by rw [x3, y2]; exact p9, by rw [x4, y3]; exact p10, by rw [x5, y4]; exact p11, by rw [x6, y5]; exact p12, by rw [x3, x4]; exact p13, by rw [x6]; exact p14, by rw [x5, x2, x4]; exact p15, ?_⟩
    unfold M2s; rw [ow_u_self, ow_u_self]
  · refine ⟨fun q hq => ?_, fun q hq => ?_, fun q hq => ?_, fun q hq hk2 f hf2 hl => ?_, fun s hs => by rw [ea (15 + s) (by omega) (by omega) (by omega) (by omega), eb 57 (by decide) (by decide) (by decide)]; exact q5 s hs, fun s hs q hq => ?_, by rw [eb 58 (by decide) (by decide) (by decide)]; exact q7, by rw [eb 59 (by decide) (by decide) (by decide)]; exact q8, fun s hs => ?_, fun s hs hs5 hf2 h10 a b hab hb he => ?_, ?_, fun a b ha hb he hne => ?_, ?_⟩
    · rw [a8, b54]; by_cases e : q = p
      · rw [if_pos e, if_pos e, m3, m4]
      · rw [if_neg e, if_neg e]; exact q1 q hq
    · rw [a9, b55]; by_cases e : q = p
      · rw [if_pos e, if_pos e]
      · rw [if_neg e, if_neg e]; exact q2 q hq
    · rw [a8, a9]; by_cases e : q = p
      · rw [if_pos e, if_pos e]; exact ⟨j, by omega, rfl, fun _ => hj⟩
      · rw [if_neg e, if_neg e]; exact q3 q hq
    · rw [eb 56 (by decide) (by decide) (by decide), ea (11 + f) (by omega) (by omega) (by omega) (by omega)]
      rw [ea 2 (by decide) (by decide) (by decide) (by decide), a9] at hl
      by_cases e : q = p
      · rw [if_pos e, nI_clamp (by omega)] at hl; rw [e]; exact hf f hf2 hl
      · rw [if_neg e] at hl
        rw [a8, if_neg e] at hk2
        exact q4 q hq hk2 f hf2 hl
    · rw [ea (15 + s) (by omega) (by omega) (by omega) (by omega), ea 4 (by decide) (by decide) (by decide) (by decide), ea 3 (by decide) (by decide) (by decide) (by decide)]
      rcases q6 s hs q hq with e | ⟨r1, r2, r3, o, r4, r5, r6, r7⟩
      · exact Or.inl e
      · exact Or.inr ⟨r1, al' q r2, by rw [ty' q r2]; exact r3, o, r4, r5, al' o r6, by rw [ty' o r6]; exact r7⟩
    · rw [ea (15 + s) (by omega) (by omega) (by omega) (by omega), ea (21 + s) (by omega) (by omega) (by omega) (by omega), lsB_c (eb 58 (by decide) (by decide) (by decide)), mln_c (eb 59 (by decide) (by decide) (by decide))]; exact q9 s hs
    · have e5 := ea 5 (by decide) (by decide) (by decide) (by decide)
      have es : sfv (ow_u (adr A p (nI j)) 0 4 1) s = sfv A s := by unfold sfv; rw [e5]
      rw [es] at hf2 ⊢
      rw [e5] at h10
      rw [ea (15 + s) (by omega) (by omega) (by omega) (by omega), lsB_c (eb 58 (by decide) (by decide) (by decide))] at he
      rw [mln_c (eb 59 (by decide) (by decide) (by decide))] at hb
      rw [ea (11 + sfv A s) (by omega) (by omega) (by omega) (by omega), lsB_c (eb 58 (by decide) (by decide) (by decide))]
      exact q9b s hs hs5 hf2 h10 a b hab hb he
    · refine ⟨m + 1, by omega, by omega, by rw [a71, m3, nI_succ], by rw [b9, m4, nI_succ], fun q hq => ?_⟩
      rw [a8]; by_cases e : q = p
      · rw [if_pos e, m3]; exact ⟨m, by omega, rfl⟩
      · rw [if_neg e]; obtain ⟨i, hi, ei⟩ := m5 q hq; exact ⟨i, by omega, ei⟩
    · rw [a8, a8] at he
      rw [a8] at hne
      by_cases e1 : a = p
      · by_cases e2 : b = p
        · rw [e1, e2]
        · rw [if_pos e1, if_neg e2, m3] at he
          obtain ⟨i, hi, ei⟩ := m5 b hb
          rw [ei] at he
          have := (nI_eq (by omega) (by omega)).mp he; omega
      · by_cases e2 : b = p
        · rw [if_neg e1, if_pos e2, m3] at he
          obtain ⟨i, hi, ei⟩ := m5 a ha
          rw [ei] at he
          have := (nI_eq (by omega) (by omega)).mp he; omega
        · rw [if_neg e1, if_neg e2] at he
          rw [if_neg e1] at hne
          exact q11 a b ha hb he hne
    · rw [a70, q12, ← nI_succ]
      congr 1
      refine (cn_add (x := p) 24 hp ?_ ?_ ?_).symm
      · rw [← q1 p hp, hd]; rfl
      · rw [b54, if_pos rfl, m4]; exact decide_eq_true ((nI_ltI (a := 0) (by decide) (by omega)).mpr (by omega))
      · intro q hq hne; rw [b54, if_neg hne]
  · refine ((h.kb.congrA (A' := KA (ow_u (adr A p (nI j)) 0 4 1)) (fun c h1 h2 _ _ _ _ => ?_)).keptB (eb48 20 (by decide) (by decide) (by decide)) (fun c h1 h2 => eb c (by omega) (by omega) (by omega))).up (by omega)
    unfold KA
    split
    · exact ea _ (by omega) (by omega) (by omega) (by omega)
    · exact ea _ (by omega) (by omega) (by omega) (by omega)
  · obtain ⟨h1, h2, h3, h4, h5, h6⟩ := h.s
    have x45 := ea 45 (by decide) (by decide) (by decide) (by decide); have x46 := ea 46 (by decide) (by decide) (by decide) (by decide); have x47 := ea 47 (by decide) (by decide) (by decide) (by decide)
    refine ⟨by rw [x45, eb48 16 (by decide) (by decide) (by decide)]; exact h1, ?_, by rw [x46, eb 60 (by decide) (by decide) (by decide)]; exact h3, fun t ht => ?_, by rw [x47, eb 61 (by decide) (by decide) (by decide)]; exact h5, fun s hs => ?_⟩
    · rw [x45]; exact h2.imp id (fun ⟨c, r1, r2, r3⟩ => ⟨c, r1, r2, al' c r3⟩)
    · rw [x46]; exact (h4 t ht).imp id (fun ⟨r0, c, r1, r2, r3⟩ => ⟨r0, c, r1, r2, al' c r3⟩)
    · rw [x47, ea 3 (by decide) (by decide) (by decide) (by decide), ea (15 + s) (by omega) (by omega) (by omega) (by omega)]
      exact (h6 s hs).imp id (fun ⟨r0, c, r1, r2, r3, r4⟩ => ⟨r0, c, r1, r2, al' c r3, by rw [ty' c r3]; exact r4⟩)
/-- the new record joins its rings -/
theorem joins (h : J2 A B tc sc k) (hp : p < 24) (hal : ¬ A 8 p = 0) (hty : A 9 p = t) (hm : ∀ s, s < 5 → A (15 + s) p = -1) (hc : ∀ i, i < sc → JW A i t → ¬ co A i = -1) : ∀ i, i ≤ sc → J2 (joS A t p i) (mjS B t p i) tc sc k ∧ (∀ s, i ≤ s → s < 5 → joS A t p i (15 + s) = A (15 + s)) ∧
    ∀ i', i' < i → B 51 i' = t → 2 < B 53 i' → JnOK (mjS B t p i') i' p (mco (mjS B t p i') i') := by
  have h5 := h.p.s5
  intro i
  induction i with
  | zero => intro _; exact ⟨h, fun _ _ _ => rfl, fun i' hi' => by omega⟩
  | succ i ih =>
    intro hi
    obtain ⟨i1, i2, i3⟩ := ih (by omega)
    have lo : ∀ c, c < 15 ∨ 25 < c → joS A t p i c = A c := fun c hc => joS_ne hc (by omega)
    have kj : (B 51 i = t ∧ 2 < B 53 i) ↔ JW A i t := by
      unfold JW; rw [← h.p.mt i (by omega), ← h.p.kd i (by omega), lt23]
    simp only [joS, mjS]
    rw [lo 4 (by omega), lo 6 (by omega)]
    by_cases g : JW A i t
    · rw [if_pos (show A 4 i = t ∧ 3 ≤ A 6 i from g), if_pos (kj.mpr g)]
      have eco : co (joS A t p i) i = co A i := by unfold co; rw [lo 47 (by omega), lo 9 (by omega), lo 3 (by omega), i2 i (Nat.le_refl _) (by omega)]
      obtain ⟨w, hw, ew, hwa, hwt⟩ := i1.owner (s := i) (by omega) (by rw [eco]; exact hc i (by omega) g)
      obtain ⟨j1, j2⟩ := i1.join (s := i) (by omega) hp (by rw [i2 i (Nat.le_refl _) (by omega)]; exact hm i (by omega)) (by rw [lo 8 (by omega)]; exact hal) (by rw [lo 9 (by omega), lo 4 (by omega), hty]; exact g.1.symm) hw hwa hwt
      rw [i1.coo (by omega), ew]
      refine ⟨j2, fun s h1 h2 => ?_, fun i' hi' => ?_⟩
      · unfold jonM; rw [putM_ne (by omega) (by omega)]; exact i2 s (by omega) h2
      · by_cases e : i' = i
        · subst e; intro _ _; rw [i1.coo (by omega), ew]; exact j1
        · exact i3 i' (by omega)
    · rw [if_neg (show ¬ (A 4 i = t ∧ 3 ≤ A 6 i) from g), if_neg (fun z => g (kj.mp z))]
      refine ⟨i1, fun s h1 h2 => i2 s (by omega) h2, fun i' hi' => ?_⟩
      by_cases e : i' = i
      · subst e; intro z1 z2; exact absurd (kj.mp ⟨z1, z2⟩) g
      · exact i3 i' (by omega)
end Store
