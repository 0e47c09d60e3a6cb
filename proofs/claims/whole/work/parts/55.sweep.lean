/-! those that go leave their rings, and are no more -/
def Lv (A : ow_A) (g : Int32) (s q : Nat) : Prop := bt g q = true ∨ ∃ o, o < 24 ∧ A (15 + s) q = nI o ∧ bt g o = true
section Sweep
variable {A A' B B' : ow_A} {k tc sc s i p : Nat} {g : Int32}
theorem Lv.congr (e : A' (15 + s) = A (15 + s)) {q : Nat} : Lv A' g s q ↔ Lv A g s q := by unfold Lv; rw [e]
theorem sweepP (h : J2 A B tc sc k) (hi : i < 5) (hz : ∀ q, q < 24 → (B 62 q = 0 ↔ bt g q = false)) (hst : ∀ q, q < 24 → Lv A g i q → ¬ A (15 + i) q = -1 → ¬ A 47 i = nI q) : ∀ r, r ≤ 24 →
    J2 (rmP A i (g ||| mob A i g 24) r) (swP B i r) tc sc k ∧ (∀ c, c ≠ 15 + i → c ≠ 21 + i → rmP A i (g ||| mob A i g 24) r c = A c) ∧
    (∀ q, q < 24 → (q < r ∧ Lv A g i q → rmP A i (g ||| mob A i g 24) r (15 + i) q = -1) ∧ (¬ (q < r ∧ Lv A g i q) → rmP A i (g ||| mob A i g 24) r (15 + i) q = A (15 + i) q)) ∧
    ∀ r', r' < r → 0 ≤ swP B i r' 57 (24 * i + r') → (¬ B 62 r' = 0 ∨ ¬ B 62 (swP B i r' 57 (24 * i + r')).toNatClampNeg = 0) → LvOK (swP B i r') i r' := by
  have zt : ∀ q, q < 24 → (¬ B 62 q = 0 ↔ bt g q = true) := fun q hq => by rw [hz q hq]; simp
  have hpl : ∀ q, q < 24 → plc (A (15 + i) q) := fun q hq => h.ci.own hi hq
  intro r
  induction r with
  | zero => intro _; exact ⟨h, fun _ _ _ => rfl, fun q _ => ⟨fun z => absurd z.1 (by omega), fun _ => rfl⟩, fun r' hr' => by omega⟩
  | succ r ih =>
    intro hr
    obtain ⟨i1, i2, i3, i4⟩ := ih (by omega)
    have eown : rmP A i (g ||| mob A i g 24) r (15 + i) r = A (15 + i) r := (i3 r (by omega)).2 (fun z => absurd z.1 (by omega))
    have e57 : swP B i r 57 (24 * i + r) = A (15 + i) r := by rw [← i1.b.ow i hi r (by omega)]; exact eown
    have bit : (0 ≤ nI r ∧ ¬ ((g ||| mob A i g 24) >>> (nI r &&& 31)) &&& 1 = 0) ↔ Lv A g i r := by
      rw [hb_n (by omega), bt_or, Bool.or_eq_true, mob_bt hpl 24 (Nat.le_refl _)]
      unfold Lv
      exact ⟨fun z => z.imp id (fun w => w.2), fun z => z.imp id (fun w => ⟨by omega, w⟩)⟩
    have mcond : (0 ≤ A (15 + i) r ∧ (¬ B 62 r = 0 ∨ ¬ B 62 (A (15 + i) r).toNatClampNeg = 0)) ↔ (Lv A g i r ∧ ¬ A (15 + i) r = -1) := by
      rw [plc_0 (hpl r (by omega))]
      rcases hpl r (by omega) with e | ⟨o, ho, e⟩
      · exact ⟨fun z => absurd e z.1, fun z => absurd e z.2⟩
      · rw [zt r (by omega), e, nI_clamp (by omega), zt o ho]
        unfold Lv
        constructor
        · rintro ⟨z1, z2⟩; exact ⟨z2.imp id (fun w => ⟨o, ho, e, w⟩), z1⟩
        · rintro ⟨z1, z2⟩
          refine ⟨z2, z1.imp id (fun ⟨o', h1, h2, h3⟩ => ?_)⟩
          rw [e] at h2; rw [nI_inj ho h1 h2]; exact h3
    -- the cells after one that left
    simp only [rmP, swP]
    rw [e57]
    have up : ∀ q, (q < r + 1 ∧ Lv A g i q) ↔ ((q < r ∧ Lv A g i q) ∨ (q = r ∧ Lv A g i q)) := fun q => by
      constructor
      · intro z
        by_cases e : q = r
        · exact Or.inr ⟨e, z.2⟩
        · exact Or.inl ⟨by omega, z.2⟩
      · rintro (z | z)
        · exact ⟨by omega, z.2⟩
        · exact ⟨by omega, z.2⟩
    have tail : ∀ (P : Nat → Prop), (∀ r', r' < r → P r') → P r → ∀ r', r' < r + 1 → P r' := fun P h1 h2 r' hr' => by
      by_cases e : r' = r
      · rw [e]; exact h2
      · exact h1 r' (by omega)
    by_cases L : Lv A g i r
    · rw [if_pos (bit.mpr L)]
      by_cases M1 : A (15 + i) r = -1
      · have et : takM (rmP A i (g ||| mob A i g 24) r) i r = rmP A i (g ||| mob A i g 24) r := by unfold takM; rw [eown, if_pos M1]
        rw [et, if_neg (fun z => (mcond.mp z).2 M1)]
        refine ⟨i1, i2, fun q hq => ⟨fun z => ?_, fun z => ?_⟩, tail _ i4 (fun z1 z2 => ?_)⟩
        · rcases (up q).mp z with z | z
          · exact (i3 q hq).1 z
          · rw [z.1, eown]; exact M1
        · exact (i3 q hq).2 (fun w => z ((up q).mpr (Or.inl w)))
        · rw [e57] at z1 z2; exact absurd M1 (mcond.mp ⟨z1, z2⟩).2
      · rw [if_pos (mcond.mpr ⟨L, M1⟩)]
        obtain ⟨j1, j2⟩ := i1.leave hi (show r < 24 by omega) (by rw [eown]; exact M1) (by rw [i2 47 (by omega) (by omega)]; exact hst r (by omega) L M1)
        refine ⟨j2, fun c h1 h2 => by rw [takM_ne h1 h2]; exact i2 c h1 h2, fun q hq => ⟨fun z => ?_, fun z => ?_⟩, tail _ i4 (fun _ _ => j1)⟩
        · rw [tak_own (by rw [eown]; exact M1)]
          rcases (up q).mp z with z | z
          · rw [if_neg (by omega)]; exact (i3 q hq).1 z
          · rw [if_pos z.1]
        · rw [tak_own (by rw [eown]; exact M1), if_neg (fun e => z ((up q).mpr (Or.inr ⟨e, by rw [e]; exact L⟩)))]
          exact (i3 q hq).2 (fun w => z ((up q).mpr (Or.inl w)))
    · rw [if_neg (fun z => L (bit.mp z)), if_neg (fun z => L (mcond.mp z).1)]
      refine ⟨i1, i2, fun q hq => ⟨fun z => ?_, fun z => ?_⟩, tail _ i4 (fun z1 z2 => ?_)⟩
      · rcases (up q).mp z with z | z
        · exact (i3 q hq).1 z
        · rw [z.1] at z; exact absurd z.2 L
      · exact (i3 q hq).2 (fun w => z ((up q).mpr (Or.inl w)))
      · rw [e57] at z1 z2; exact absurd (mcond.mp ⟨z1, z2⟩).1 L
theorem sweepS (h : J2 A B tc sc k) (hz : ∀ q, q < 24 → (B 62 q = 0 ↔ bt g q = false)) (hst : ∀ i, i < 5 → ∀ q, q < 24 → Lv A g i q → ¬ A (15 + i) q = -1 → ¬ A 47 i = nI q) : ∀ i, i ≤ sc →
    J2 (rmS A g i) (swS B i) tc sc k ∧ (∀ c, c < 15 ∨ 25 < c → rmS A g i c = A c) ∧ (∀ s, i ≤ s → s < 5 → rmS A g i (15 + s) = A (15 + s)) ∧
    (∀ s, s < i → ∀ q, q < 24 → (Lv A g s q → rmS A g i (15 + s) q = -1) ∧ (¬ Lv A g s q → rmS A g i (15 + s) q = A (15 + s) q)) ∧
    ∀ i', i' < i → ∀ r, r < 24 → 0 ≤ swP (swS B i') i' r 57 (24 * i' + r) → (¬ B 62 r = 0 ∨ ¬ B 62 (swP (swS B i') i' r 57 (24 * i' + r)).toNatClampNeg = 0) → LvOK (swP (swS B i') i' r) i' r := by
  have h5 := h.p.s5
  intro i
  induction i with
  | zero => intro _; exact ⟨h, fun _ _ => rfl, fun _ _ _ => rfl, fun s hs => by omega, fun i' hi' => by omega⟩
  | succ i ih =>
    intro hi
    obtain ⟨i1, i2, i3, i4, i5⟩ := ih (by omega)
    have e62 : swS B i 62 = B 62 := swS_ne (by decide) (by decide) (by decide)
    have eo := i3 i (Nat.le_refl _) (by omega)
    obtain ⟨j1, j2, j3, j4⟩ := sweepP (g := g) i1 (show i < 5 by omega) (fun q hq => by rw [e62]; exact hz q hq) (fun q hq L hm => by
      rw [Lv.congr eo] at L; rw [eo] at hm; rw [i2 47 (by omega)]; exact hst i (by omega) q hq L hm) 24 (Nat.le_refl _)
    simp only [rmS, swS]
    refine ⟨j1, fun c hc => ?_, fun s h1 h2 => ?_, fun s hs q hq => ?_, fun i' hi' r hr => ?_⟩
    · rw [j2 c (by omega) (by omega)]; exact i2 c hc
    · rw [j2 (15 + s) (by omega) (by omega)]; exact i3 s (by omega) h2
    · by_cases e : s = i
      · subst e
        have := j3 q hq
        rw [Lv.congr eo, eo] at this
        exact ⟨fun L => this.1 ⟨hq, L⟩, fun L => this.2 (fun z => L z.2)⟩
      · rw [j2 (15 + s) (by omega) (by omega)]; exact i4 s (by omega) q hq
    · by_cases e : i' = i
      · subst e
        have := j4 r hr
        rw [e62] at this; exact this
      · exact i5 i' (by omega) r hr
/-- the keys of those that go -/
theorem drP_ne {c n : Nat} (h1 : c ≠ 7) (h2 : c ≠ 8) : drP A g n c = A c := by
  induction n with
  | zero => rfl
  | succ n ih =>
    simp only [drP]; split
    · rw [ow_u_ne h1, ow_u_ne h2]; exact ih
    · exact ih
theorem drP_71 {n j : Nat} (h : j ≠ 0) : drP A g n 7 j = A 7 j := by
  induction n with
  | zero => rfl
  | succ n ih =>
    simp only [drP]; split
    · rw [ow_u_at h, ow_u_ne (by decide)]; exact ih
    · exact ih
theorem drP_8 {q : Nat} : ∀ n, n ≤ 24 → drP A g n 8 q = if q < n ∧ bt g q = true then 0 else A 8 q := by
  intro n
  induction n with
  | zero => intro _; rw [if_neg (fun z => absurd z.1 (by omega))]; rfl
  | succ n ih =>
    intro hn
    have ih := ih (by omega)
    simp only [drP]
    by_cases b : bt g n = true
    · rw [if_pos ((hb_n (by omega)).mpr b), ow_u_ne (by decide)]
      by_cases e : q = n
      · rw [e, ow_u_self, if_pos ⟨by omega, b⟩]
      · rw [ow_u_at e, ih]
        by_cases z : q < n ∧ bt g q = true
        · rw [if_pos z, if_pos ⟨by omega, z.2⟩]
        · rw [if_neg z, if_neg (fun w => z ⟨by omega, w.2⟩)]
    · rw [if_neg (fun z => b ((hb_n (by omega)).mp z)), ih]
      by_cases z : q < n ∧ bt g q = true
      · rw [if_pos z, if_pos ⟨by omega, z.2⟩]
      · rw [if_neg z, if_neg (fun w => ?_)]
        by_cases e : q = n
        · rw [e] at w; exact b w.2
        · exact z ⟨by omega, w.2⟩
theorem drP_70 (v : Nat → Int32) (hv : ∀ q, q < 24 → bt g q = true → 0 < v q) (h0 : A 7 0 = nI (cn (fun r => decide (0 < v r)) 24)) : ∀ n, n ≤ 24 → drP A g n 7 0 = nI (cn (fun r => decide (0 < if r < n ∧ bt g r = true then 0 else v r)) 24) := by
  intro n
  induction n with
  | zero =>
    intro _
    show A 7 0 = _
    rw [h0]
    exact congrArg nI (cn_congr 24 (fun r hr => by rw [if_neg (fun z => absurd z.1 (by omega))]))
  | succ n ih =>
    intro hn
    have ih := ih (by omega)
    simp only [drP]
    by_cases b : bt g n = true
    · rw [if_pos ((hb_n (by omega)).mpr b), ow_u_self, ih]
      have hadd := cn_add (p := fun r => decide (0 < if r < n + 1 ∧ bt g r = true then 0 else v r)) (q := fun r => decide (0 < if r < n ∧ bt g r = true then 0 else v r)) (x := n) 24 (by omega)
        (by rw [if_pos ⟨by omega, b⟩]; rfl) (by rw [if_neg (fun z => absurd z.1 (by omega))]; exact decide_eq_true (hv n (by omega) b)) (fun r hr hne => by
          have : (r < n ∧ bt g r = true) ↔ (r < n + 1 ∧ bt g r = true) := ⟨fun z => ⟨by omega, z.2⟩, fun z => ⟨by omega, z.2⟩⟩
          rw [ite_congr (propext this) (fun _ => rfl) (fun _ => rfl)])
      rw [hadd, nIpred (by omega)]
      rfl
    · rw [if_neg (fun z => b ((hb_n (by omega)).mp z)), ih]
      congr 1
      refine cn_congr 24 (fun r hr => ?_)
      have : (r < n ∧ bt g r = true) ↔ (r < n + 1 ∧ bt g r = true) := by
        constructor
        · intro z; exact ⟨by omega, z.2⟩
        · intro z
          by_cases e : r = n
          · rw [e] at z; exact absurd z.2 b
          · exact ⟨by omega, z.2⟩
      rw [ite_congr (propext this) (fun _ => rfl) (fun _ => rfl)]
theorem J2.drop (h : J2 A B tc sc k) (hk : k < 1000) (hz : ∀ q, q < 24 → (B 62 q = 0 ↔ bt g q = false)) (hal : ∀ q, q < 24 → bt g q = true → ¬ A 8 q = 0) (hown : ∀ s, s < 5 → ∀ q, q < 24 → ¬ A (15 + s) q = -1 → bt g q = false ∧ ∀ o, o < 24 → A (15 + s) q = nI o → bt g o = false)
    (h45 : A 45 0 = -1) (h46 : ∀ t, t < 4 → A 46 t = -1 ∨ ∃ c, c < 24 ∧ A 46 t = nI c ∧ bt g c = false) (h47 : ∀ s, s < 5 → A 47 s = -1 ∨ ∃ c, c < 24 ∧ A 47 s = nI c ∧ bt g c = false) : J2 (drP A g 24) (swK B 24) tc sc k := by
  have h4 := h.p.t4
  have h5 := h.p.s5
  have ea : ∀ c, c ≠ 7 → c ≠ 8 → drP A g 24 c = A c := fun c h1 h2 => drP_ne h1 h2
  have eb : ∀ c, c ≠ 54 → swK B 24 c = B c := fun c hc => swK_ne hc
  have zt : ∀ q, q < 24 → (¬ B 62 q = 0 ↔ bt g q = true) := fun q hq => by rw [hz q hq]; simp
  have a8 : ∀ q, q < 24 → drP A g 24 8 q = if bt g q = true then 0 else A 8 q := fun q hq => by
    rw [drP_8 24 (Nat.le_refl _)]
    exact ite_congr (propext ⟨fun z => z.2, fun z => ⟨hq, z⟩⟩) (fun _ => rfl) (fun _ => rfl)
  have b54 : ∀ q, q < 24 → swK B 24 54 q = if bt g q = true then 0 else B 54 q := fun q hq => by
    show (if 54 = 54 ∧ q < 24 ∧ ¬ B 62 q = 0 then 0 else B 54 q) = _
    exact ite_congr (propext ⟨fun z => (zt q hq).mp z.2.2, fun z => ⟨rfl, hq, (zt q hq).mpr z⟩⟩) (fun _ => rfl) (fun _ => rfl)
  have stay : ∀ q, q < 24 → bt g q = false → drP A g 24 8 q = A 8 q := fun q hq hb => by rw [a8 q hq, if_neg (by simp [hb])]
  have live : ∀ q, q < 24 → ¬ drP A g 24 8 q = 0 → ¬ A 8 q = 0 ∧ bt g q = false := fun q hq hne => by
    rw [a8 q hq] at hne
    by_cases b : bt g q = true
    · rw [if_pos b] at hne; exact absurd rfl hne
    · rw [if_neg b] at hne; exact ⟨hne, by simpa using b⟩
  have x9 := ea 9 (by decide) (by decide)
  have y48 := eb 48 (by decide); have y58 := eb 58 (by decide); have y59 := eb 59 (by decide)
  obtain ⟨q1, q2, q3, q4, q5, q6, q7, q8, q9, q9b, ⟨m, m1, m2, m3, m4, m5⟩, q11, q12⟩ := h.b
  refine ⟨(h.p.congrA (fun c hc => ea c (by omega) (by omega))).congrB ⟨by rw [y48], by rw [y48], by rw [y48]⟩ (fun c h1 h2 => eb c (by omega)), ?_, (h.kb.keptA (fun c hc => ?_)).keptB (by rw [y48]) (fun c h1 h2 => eb c (by omega)), ?_⟩
  · refine ⟨fun q hq => ?_, fun q hq => by rw [x9, eb 55 (by decide)]; exact q2 q hq, fun q hq => ?_, fun q hq hne f hf hl => ?_, fun s hs => by rw [ea (15 + s) (by omega) (by omega), eb 57 (by decide)]; exact q5 s hs, fun s hs q hq => ?_, by rw [y58]; exact q7, by rw [y59]; exact q8, fun s hs => by rw [ea (15 + s) (by omega) (by omega), ea (21 + s) (by omega) (by omega), lsB_c y58, mln_c y59]; exact q9 s hs, fun s hs hs5 hf h10 => ?_, ?_, fun a b ha hb he hne => ?_, ?_⟩
    · rw [a8 q hq, b54 q hq, q1 q hq]
    · rw [x9]
      obtain ⟨t, r1, r2, r3⟩ := q3 q hq
      exact ⟨t, r1, r2, fun z => r3 (live q hq z).1⟩
    · rw [x9, ea 2 (by decide) (by decide)] at hl
      rw [ea (11 + f) (by omega) (by omega), eb 56 (by decide)]
      exact q4 q hq (live q hq hne).1 f hf hl
    · rw [ea (15 + s) (by omega) (by omega), x9, ea 4 (by decide) (by decide), ea 3 (by decide) (by decide)]
      rcases q6 s hs q hq with e | ⟨r1, r2, r3, o, r4, r5, r6, r7⟩
      · exact Or.inl e
      · obtain ⟨z1, z2⟩ := hown s hs q hq (by rw [r5]; exact nI_m1 (by omega))
        exact Or.inr ⟨r1, by rw [stay q hq z1]; exact r2, r3, o, r4, r5, by rw [stay o r4 (z2 o r4 r5)]; exact r6, r7⟩
    · have e5 := ea 5 (by decide) (by decide)
      have es : sfv (drP A g 24) s = sfv A s := by unfold sfv; rw [e5]
      rw [es] at hf ⊢
      rw [e5] at h10
      rw [ea (15 + s) (by omega) (by omega), ea (11 + sfv A s) (by omega) (by omega), lsB_c y58, mln_c y59]
      exact q9b s hs hs5 hf h10
    · refine ⟨m, m1, m2, by rw [drP_71 (by decide)]; exact m3, by rw [y48]; exact m4, fun q hq => ?_⟩
      rw [a8 q hq]
      by_cases b : bt g q = true
      · rw [if_pos b]; exact ⟨0, by omega, rfl⟩
      · rw [if_neg b]; exact m5 q hq
    · obtain ⟨z1, z2⟩ := live a ha hne
      have hne2 : ¬ drP A g 24 8 b = 0 := by rw [← he]; exact hne
      rw [stay a ha z2, stay b hb (live b hb hne2).2] at he
      exact q11 a b ha hb he z1
    · rw [drP_70 (g := g) (B 54) (fun q hq hb => (h.b.alive hk hq).mpr (hal q hq hb)) q12 24 (Nat.le_refl _)]
      congr 1
      refine cn_congr 24 (fun r hr => ?_)
      rw [b54 r hr, ite_congr (propext ⟨fun (z : r < 24 ∧ bt g r = true) => z.2, fun z => ⟨hr, z⟩⟩) (fun _ => rfl) (fun _ => rfl)]
  · exact ea c (by omega) (by omega)
  · obtain ⟨r1, r2, r3, r4, r5, r6⟩ := h.s
    have x45 := ea 45 (by decide) (by decide); have x46 := ea 46 (by decide) (by decide); have x47 := ea 47 (by decide) (by decide)
    refine ⟨by rw [x45, y48]; exact r1, Or.inl (by rw [x45]; exact h45), by rw [x46, eb 60 (by decide)]; exact r3, fun t ht => ?_, by rw [x47, eb 61 (by decide)]; exact r5, fun s hs => ?_⟩
    · rw [x46]
      rcases r4 t ht with e | ⟨z0, c, z1, z2, z3⟩
      · exact Or.inl e
      · rcases h46 t ht with e | ⟨c', w1, w2, w3⟩
        · exact Or.inl e
        · have := nI_inj z1 w1 (z2.symm.trans w2); subst this
          exact Or.inr ⟨z0, c, z1, z2, by rw [stay c z1 w3]; exact z3⟩
    · rw [x47, x9, ea 3 (by decide) (by decide), ea (15 + s) (by omega) (by omega)]
      rcases r6 s hs with e | ⟨z0, c, z1, z2, z3, z4⟩
      · exact Or.inl e
      · rcases h47 s hs with e | ⟨c', w1, w2, w3⟩
        · exact Or.inl e
        · have := nI_inj z1 w1 (z2.symm.trans w2); subst this
          exact Or.inr ⟨z0, c, z1, z2, by rw [stay c z1 w3]; exact z3, z4⟩
end Sweep
