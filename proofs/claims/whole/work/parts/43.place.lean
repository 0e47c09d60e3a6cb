/-! where one joins a ring; sorted rings stay sorted -/
section Place
variable {A B : ow_A} {k tc sc s p w : Nat} {o x : Int32}
theorem SRT.ins {own own' val : Nat → Int32} {ls ls' : Nat → Nat} {n a : Nat} (h : SRT own val ls n) (hnp : ∀ j, j < n → ¬ ls j = p) (ha : a ≤ n) (e0 : own' p = o) (e1 : ∀ q, q ≠ p → own' q = own q) (l1 : ∀ j, j < a → ls' j = ls j) (l2 : ls' a = p) (l3 : ∀ j, a ≤ j → j < n → ls' (j + 1) = ls j)
    (c1 : ∀ j, j < a → own (ls j) = o → val (ls j) ≤ val p) (c2 : ∀ j, a ≤ j → j < n → own (ls j) = o → val p ≤ val (ls j)) : SRT own' val ls' (n + 1) := by
  intro i j hij hj he
  rcases Nat.lt_trichotomy i a with hi | hi | hi
  · rw [l1 i hi, e1 _ (hnp i (by omega))] at he
    rw [l1 i hi]
    rcases Nat.lt_trichotomy j a with hj2 | hj2 | hj2
    · rw [l1 j hj2, e1 _ (hnp j (by omega))] at he
      rw [l1 j hj2]; exact h i j hij (by omega) he
    · subst hj2
      rw [l2, e0] at he
      rw [l2]; exact c1 i hi he
    · obtain ⟨j', rfl⟩ : ∃ j', j = j' + 1 := ⟨j - 1, by omega⟩
      rw [l3 j' (by omega) (by omega), e1 _ (hnp j' (by omega))] at he
      rw [l3 j' (by omega) (by omega)]; exact h i j' (by omega) (by omega) he
  · subst hi
    rw [l2, e0] at he
    rw [l2]
    obtain ⟨j', rfl⟩ : ∃ j', j = j' + 1 := ⟨j - 1, by omega⟩
    rw [l3 j' (by omega) (by omega), e1 _ (hnp j' (by omega))] at he
    rw [l3 j' (by omega) (by omega)]; exact c2 j' (by omega) (by omega) he.symm
  · obtain ⟨i', rfl⟩ : ∃ i', i = i' + 1 := ⟨i - 1, by omega⟩
    obtain ⟨j', rfl⟩ : ∃ j', j = j' + 1 := ⟨j - 1, by omega⟩
    rw [l3 i' (by omega) (by omega), l3 j' (by omega) (by omega), e1 _ (hnp i' (by omega)), e1 _ (hnp j' (by omega))] at he
    rw [l3 i' (by omega) (by omega), l3 j' (by omega) (by omega)]; exact h i' j' (by omega) (by omega) he
theorem SRT.rem {own own' val : Nat → Int32} {ls ls' : Nat → Nat} {n a : Nat} (h : ∀ i j, i < j → j < n → ¬ ls i = p → ¬ ls j = p → own (ls i) = own (ls j) → val (ls i) ≤ val (ls j)) (hnp : ∀ j, j < n → j ≠ a → ¬ ls j = p) (ha : a < n) (e1 : ∀ q, q ≠ p → own' q = own q) (l1 : ∀ j, j < a → ls' j = ls j) (l3 : ∀ j, a ≤ j → j + 1 < n → ls' j = ls (j + 1)) : SRT own' val ls' (n - 1) := by
  intro i j hij hj he
  by_cases hi : i < a
  · rw [l1 i hi, e1 _ (hnp i (by omega) (by omega))] at he
    rw [l1 i hi]
    by_cases hj2 : j < a
    · rw [l1 j hj2, e1 _ (hnp j (by omega) (by omega))] at he
      rw [l1 j hj2]; exact h i j hij (by omega) (hnp i (by omega) (by omega)) (hnp j (by omega) (by omega)) he
    · rw [l3 j (by omega) (by omega), e1 _ (hnp (j + 1) (by omega) (by omega))] at he
      rw [l3 j (by omega) (by omega)]; exact h i (j + 1) (by omega) (by omega) (hnp i (by omega) (by omega)) (hnp (j + 1) (by omega) (by omega)) he
  · rw [l3 i (by omega) (by omega), l3 j (by omega) (by omega), e1 _ (hnp (i + 1) (by omega) (by omega)), e1 _ (hnp (j + 1) (by omega) (by omega))] at he
    rw [l3 i (by omega) (by omega), l3 j (by omega) (by omega)]; exact h (i + 1) (j + 1) (by omega) (by omega) (hnp (i + 1) (by omega) (by omega)) (hnp (j + 1) (by omega) (by omega)) he
theorem cn_cut {q : Nat → Bool} {a n : Nat} (han : a ≤ n) (h : ∀ j, a ≤ j → j < n → q j = false) : cn q n = cn q a := by
  obtain ⟨d, rfl⟩ : ∃ d, n = a + d := ⟨n - a, by omega⟩
  clear han
  induction d with
  | zero => rfl
  | succ d ih => rw [show a + (d + 1) = (a + d) + 1 by omega, cn_s0 (h (a + d) (by omega) (by omega))]; exact ih (fun j h1 h2 => h j h1 (by omega))
theorem mpv_sp (B : ow_A) (s : Nat) (o v : Int32) : ∀ f k, (∃ j, k ≤ j ∧ j < k + f ∧ mpv B s o v f k = nI j ∧ (B 57 (24 * s + (B 58 (24 * s + j)).toNatClampNeg) = o ∧ (v < B 56 (3 * (B 58 (24 * s + j)).toNatClampNeg + sfm B s) ∨ (B 56 (3 * (B 58 (24 * s + j)).toNatClampNeg + sfm B s) = v ∧ B 52 s < 20))) ∧ ∀ i, k ≤ i → i < j → ¬ (B 57 (24 * s + (B 58 (24 * s + i)).toNatClampNeg) = o ∧ (v < B 56 (3 * (B 58 (24 * s + i)).toNatClampNeg + sfm B s) ∨ (B 56 (3 * (B 58 (24 * s + i)).toNatClampNeg + sfm B s) = v ∧ B 52 s < 20)))) ∨
    (mpv B s o v f k = B 59 s ∧ ∀ i, k ≤ i → i < k + f → ¬ (B 57 (24 * s + (B 58 (24 * s + i)).toNatClampNeg) = o ∧ (v < B 56 (3 * (B 58 (24 * s + i)).toNatClampNeg + sfm B s) ∨ (B 56 (3 * (B 58 (24 * s + i)).toNatClampNeg + sfm B s) = v ∧ B 52 s < 20)))) := by
  intro f
  induction f with
  | zero => intro k; exact Or.inr ⟨rfl, fun i h1 h2 => by omega⟩
  | succ f ih =>
    intro k
    simp only [mpv]
    split
    · rename_i g; exact Or.inl ⟨k, Nat.le_refl _, by omega, rfl, g, fun i h1 h2 => by omega⟩
    · rename_i g
      rcases ih (k + 1) with ⟨j, h1, h2, h3, h4, h5⟩ | ⟨h1, h2⟩
      · refine Or.inl ⟨j, by omega, by omega, h3, h4, fun i h6 h7 => ?_⟩
        by_cases e : i = k
        · subst e; exact g
        · exact h5 i (by omega) h7
      · refine Or.inr ⟨h1, fun i h6 h7 => ?_⟩
        by_cases e : i = k
        · subst e; exact g
        · exact h2 i (by omega) (by omega)
/-- the place by value -/
theorem place_v (h : BN A B tc sc k) (hs : s < 5) (hp : p < 24) (hw : w < 24) (od : A 5 s = B 52 s) (hv : ∀ q, q < 24 → A (15 + s) q = nI w ∨ q = p → A (11 + sfv A s) q = B 56 (3 * q + sfv A s)) (so : SRT (A (15 + s)) (A (11 + sfv A s)) (lsB B s) (mln B s)) :
    ∃ a, a ≤ mln B s ∧ mpv B s (nI w) (B 56 (3 * p + sfm B s)) (mln B s) 0 = nI a ∧ nI (cn (bfr A s p (nI w)) 24) = nI (rk (A (15 + s)) (lsB B s) (nI w) a) ∧
      (∀ j, j < a → A (15 + s) (lsB B s j) = nI w → A (11 + sfv A s) (lsB B s j) ≤ A (11 + sfv A s) p) ∧ ∀ j, a ≤ j → j < mln B s → A (15 + s) (lsB B s j) = nI w → A (11 + sfv A s) p ≤ A (11 + sfv A s) (lsB B s j) := by
  have hr := h.rg s hs
  have hn := hr.1
  have hsf : sfm B s = sfv A s := by unfold sfm sfv; rw [od]
  have hpv := hv p hp (Or.inr rfl)
  -- the condition, in the class's words
  have cond : ∀ j, j < mln B s → ((B 57 (24 * s + (B 58 (24 * s + j)).toNatClampNeg) = nI w ∧ (B 56 (3 * p + sfm B s) < B 56 (3 * (B 58 (24 * s + j)).toNatClampNeg + sfm B s) ∨ (B 56 (3 * (B 58 (24 * s + j)).toNatClampNeg + sfm B s) = B 56 (3 * p + sfm B s) ∧ B 52 s < 20))) ↔
      (A (15 + s) (lsB B s j) = nI w ∧ (A (11 + sfv A s) p < A (11 + sfv A s) (lsB B s j) ∨ (A (11 + sfv A s) (lsB B s j) = A (11 + sfv A s) p ∧ A 5 s < 20)))) := by
    intro j hj
    have hl := h.lk hs (show j < 24 by omega)
    rw [h.lo hs (by omega), hl.1, nI_clamp (by omega), hsf, ← od]
    constructor
    · intro ⟨q1, q2⟩; rw [hpv, hv _ hl.2 (Or.inl q1)]; exact ⟨q1, q2⟩
    · intro ⟨q1, q2⟩; rw [hpv, hv _ hl.2 (Or.inl q1)] at q2; exact ⟨q1, q2⟩
  have main : ∀ a, a ≤ mln B s → (∀ j, j < a → A (15 + s) (lsB B s j) = nI w → ¬ (A (11 + sfv A s) p < A (11 + sfv A s) (lsB B s j) ∨ (A (11 + sfv A s) (lsB B s j) = A (11 + sfv A s) p ∧ A 5 s < 20))) →
      (∀ j, a ≤ j → j < mln B s → A (15 + s) (lsB B s j) = nI w → (A (11 + sfv A s) p < A (11 + sfv A s) (lsB B s j) ∨ (A (11 + sfv A s) (lsB B s j) = A (11 + sfv A s) p ∧ A 5 s < 20))) →
      nI (cn (bfr A s p (nI w)) 24) = nI (rk (A (15 + s)) (lsB B s) (nI w) a) ∧ (∀ j, j < a → A (15 + s) (lsB B s j) = nI w → A (11 + sfv A s) (lsB B s j) ≤ A (11 + sfv A s) p) ∧ ∀ j, a ≤ j → j < mln B s → A (15 + s) (lsB B s j) = nI w → A (11 + sfv A s) p ≤ A (11 + sfv A s) (lsB B s j) := by
    intro a ha c1 c2
    refine ⟨?_, fun j hj he => ?_, fun j h1 h2 he => ?_⟩
    · congr 1
      rw [hr.count (q := bfr A s p (nI w)) (fun r _ hb => by
        unfold bfr at hb
        rw [Bool.and_eq_true] at hb
        have : A (15 + s) r = nI w := by simpa using hb.2
        rw [this]; exact nI_m1 (by omega))]
      rw [cn_cut ha (fun j h1 h2 => ?_)]
      · unfold rk
        refine cn_congr a (fun j hj => ?_)
        by_cases e : A (15 + s) (lsB B s j) = nI w
        · have := c1 j hj e
          unfold bfr
          have g1 : A (11 + sfv A s) (lsB B s j) < A (11 + sfv A s) p ∨ (20 ≤ A 5 s ∧ A (11 + sfv A s) (lsB B s j) = A (11 + sfv A s) p) := by grind
          rcases g1 with g1 | ⟨g1, g2⟩
          · simp [e, g1]
          · simp [e, g1, g2]
        · unfold bfr; simp [e]
      · by_cases e : A (15 + s) (lsB B s j) = nI w
        · have := c2 j h1 h2 e
          unfold bfr
          have g1 : ¬ A (11 + sfv A s) (lsB B s j) < A (11 + sfv A s) p := by grind
          have g2 : ¬ (20 ≤ A 5 s ∧ A (11 + sfv A s) (lsB B s j) = A (11 + sfv A s) p) := by grind
          simp only [g1, decide_false, Bool.false_or]
          by_cases g3 : 20 ≤ A 5 s
          · have g4 : ¬ A (11 + sfv A s) (lsB B s j) = A (11 + sfv A s) p := fun q => g2 ⟨g3, q⟩
            simp [g4]
          · simp [g3]
        · unfold bfr; simp [e]
    · have := c1 j hj he; grind
    · have := c2 j h1 h2 he; grind
  rcases mpv_sp B s (nI w) (B 56 (3 * p + sfm B s)) (mln B s) 0 with ⟨j, h1, h2, h3, h4, h5⟩ | ⟨h1, h2⟩
  · have hj : j < mln B s := by omega
    refine ⟨j, by omega, h3, main j (by omega) (fun i hi he q => h5 i (by omega) hi ((cond i (by omega)).mpr ⟨he, q⟩)) (fun i hi hi2 he => ?_)⟩
    have g := (cond j hj).mp h4
    by_cases e : i = j
    · subst e; exact g.2
    · have := so j i (by omega) hi2 (by rw [g.1, he])
      have g2 := g.2
      grind
  · refine ⟨mln B s, Nat.le_refl _, by rw [h1, h.n59 hs], main _ (Nat.le_refl _) (fun i hi he q => h2 i (by omega) (by omega) ((cond i hi).mpr ⟨he, q⟩)) (fun i hi hi2 => by omega)⟩
/-- the place by the set's order -/
theorem place (h : BN A B tc sc k) (hs : s < 5) (hp : p < 24) (hw : w < 24) (su : A 47 s = B 61 s) (pl : plc (A 47 s)) (od : A 5 s = B 52 s) (ord : (0 ≤ A 5 s ∧ A 5 s ≤ 3) ∨ (10 ≤ A 5 s ∧ ∃ f, f < 3 ∧ A 5 s - A 5 s / 10 * 10 = nI f))
    (hv : 10 ≤ A 5 s → ∀ q, q < 24 → A (15 + s) q = nI w ∨ q = p → A (11 + sfv A s) q = B 56 (3 * q + sfv A s)) (so : 10 ≤ A 5 s → SRT (A (15 + s)) (A (11 + sfv A s)) (lsB B s) (mln B s)) :
    ∃ a, a ≤ mln B s ∧ mpf B s (nI w) p = nI a ∧ pbo A s p (nI w) = nI (rk (A (15 + s)) (lsB B s) (nI w) a) ∧ (10 ≤ A 5 s →
      (∀ j, j < a → A (15 + s) (lsB B s j) = nI w → A (11 + sfv A s) (lsB B s j) ≤ A (11 + sfv A s) p) ∧ ∀ j, a ≤ j → j < mln B s → A (15 + s) (lsB B s j) = nI w → A (11 + sfv A s) p ≤ A (11 + sfv A s) (lsB B s j)) := by
  have hr := h.rg s hs
  have hn := hr.1
  have how : ¬ nI w = -1 := nI_m1 (by omega)
  have e59 := h.n59 hs
  have hsf : sfm B s = sfv A s := by unfold sfm sfv; rw [od]
  have here : (0 ≤ B 61 s ∧ B 57 (24 * s + (B 61 s).toNatClampNeg) = nI w) ↔ (¬ A 47 s = -1 ∧ A (15 + s) (A 47 s).toNatClampNeg = nI w) := by
    rw [← su]
    rcases pl with e | ⟨c, hc, e⟩
    · rw [e]; exact ⟨fun q => absurd q.1 (by decide), fun q => absurd rfl q.1⟩
    · rw [e, nI_clamp (by omega), ← h.ow s hs c hc]
      exact ⟨fun q => ⟨nI_m1 (by omega), q.2⟩, fun q => ⟨nI_ge0 hc, q.2⟩⟩
  have first : ∃ a, a ≤ mln B s ∧ (if mnf B s (nI w) (mln B s) 0 < 0 then B 59 s else mpo B s (mnf B s (nI w) (mln B s) 0) (mln B s)) = nI a ∧ (0 : Int32) = nI (rk (A (15 + s)) (lsB B s) (nI w) a) := by
    rcases mnf_sp B s (nI w) (mln B s) 0 with ⟨q1, q2⟩ | ⟨j, q1, q2, q3, q4, q5⟩
    · refine ⟨mln B s, Nat.le_refl _, by rw [q1, if_pos (by decide), e59], ?_⟩
      rw [rk_const (a := 0) (by omega) (fun i _ h2 => by rw [← h.lo hs (by omega)]; exact q2 i (by omega) (by omega))]; rfl
    · have hj : j < mln B s := by omega
      refine ⟨j, by omega, ?_, ?_⟩
      · rw [q3, (h.lk hs (by omega)).1, if_neg (Int32.not_lt.mpr (nI_ge0 (h.lk hs (by omega)).2)), h.mpoo hs hj]
      · rw [rk_const (a := 0) (by omega) (fun i _ h2 => by rw [← h.lo hs (by omega)]; exact q5 i (by omega) h2)]; rfl
  have size : szr A s (nI w) = nI (rk (A (15 + s)) (lsB B s) (nI w) (mln B s)) := by unfold szr; rw [hr.size how]
  have besd : (¬ A 47 s = -1 ∧ A (15 + s) (A 47 s).toNatClampNeg = nI w) → ∃ i, i < mln B s ∧ mpo B s (B 61 s) (mln B s) = nI i ∧ A (21 + s) (A 47 s).toNatClampNeg = nI (rk (A (15 + s)) (lsB B s) (nI w) i) ∧ A (15 + s) (lsB B s i) = nI w := by
    intro ⟨q1, q2⟩
    obtain ⟨c, hc, e⟩ := pl.resolve_left q1
    rw [e, nI_clamp (by omega)] at q2 ⊢
    obtain ⟨i, hi, ei⟩ := hr.2.2.2.1 c hc (by rw [q2]; exact how)
    have q3 : A (15 + s) (lsB B s i) = nI w := by rw [ei]; exact q2
    refine ⟨i, hi, by rw [← su, e, ← ei]; exact h.mpoo hs hi, ?_, q3⟩
    have := hr.at hi q3; rw [ei] at this; exact this
  have ns : ∀ y : Int32, A 5 s = y → y < 10 → ¬ 10 ≤ A 5 s := fun y e1 e2 q => by rw [e1] at q; exact absurd e2 (Int32.not_lt.mpr q)
  rcases ord5 ord with e | e | e | e | e
  · obtain ⟨a, h1, h2, h3⟩ := first
    refine ⟨a, h1, ?_, ?_, fun q => absurd q (ns 0 e (by decide))⟩
    · unfold mpf; rw [← od, e, if_neg (fun q => q.2.elim (by decide) (by decide)), if_pos (Or.inl rfl)]; exact h2
    · unfold pbo; rw [e, if_pos rfl]; exact h3
  · refine ⟨mln B s, Nat.le_refl _, ?_, ?_, fun q => absurd q (ns 1 e (by decide))⟩
    · unfold mpf; rw [← od, e, if_neg (fun q => q.2.elim (by decide) (by decide)), if_neg (fun q => q.elim (by decide) (by decide)), if_pos (by decide)]; exact e59
    · unfold pbo; rw [e, if_neg (by decide), if_pos rfl]; exact size
  · by_cases g : ¬ A 47 s = -1 ∧ A (15 + s) (A 47 s).toNatClampNeg = nI w
    · obtain ⟨i, hi, h1, h2, h3⟩ := besd g
      refine ⟨i + 1, by omega, ?_, ?_, fun q => absurd q (ns 2 e (by decide))⟩
      · unfold mpf; rw [← od, e, if_pos ⟨here.mpr g, Or.inl rfl⟩, if_pos rfl, h1, nI_succ]
      · unfold pbo; rw [e, if_neg (by decide), if_neg (by decide), if_pos rfl, if_pos g, h2, ← nI_succ, rk_s1 h3]
    · obtain ⟨a, h1, h2, h3⟩ := first
      refine ⟨a, h1, ?_, ?_, fun q => absurd q (ns 2 e (by decide))⟩
      · unfold mpf; rw [← od, e, if_neg (fun q => g (here.mp q.1)), if_pos (Or.inr rfl)]; exact h2
      · unfold pbo; rw [e, if_neg (by decide), if_neg (by decide), if_pos rfl, if_neg g]; exact h3
  · by_cases g : ¬ A 47 s = -1 ∧ A (15 + s) (A 47 s).toNatClampNeg = nI w
    · obtain ⟨i, hi, h1, h2, h3⟩ := besd g
      refine ⟨i, by omega, ?_, ?_, fun q => absurd q (ns 3 e (by decide))⟩
      · unfold mpf; rw [← od, e, if_pos ⟨here.mpr g, Or.inr rfl⟩, if_neg (by decide), h1]; exact Int32.add_zero _
      · unfold pbo; rw [e, if_neg (by decide), if_neg (by decide), if_neg (by decide), if_pos rfl, if_pos g, h2]
    · refine ⟨mln B s, Nat.le_refl _, ?_, ?_, fun q => absurd q (ns 3 e (by decide))⟩
      · unfold mpf; rw [← od, e, if_neg (fun q => g (here.mp q.1)), if_neg (fun q => q.elim (by decide) (by decide)), if_pos (by decide)]; exact e59
      · unfold pbo; rw [e, if_neg (by decide), if_neg (by decide), if_neg (by decide), if_pos rfl, if_neg g]; exact size
  · obtain ⟨a, h1, h2, h3, h4, h5⟩ := place_v h hs hp hw od (hv e) (so e)
    have n0 : ¬ A 5 s = 0 := fun q => ns 0 q (by decide) e
    have n1 : ¬ A 5 s = 1 := fun q => ns 1 q (by decide) e
    have n2 : ¬ A 5 s = 2 := fun q => ns 2 q (by decide) e
    have n3 : ¬ A 5 s = 3 := fun q => ns 3 q (by decide) e
    refine ⟨a, h1, ?_, ?_, fun _ => ⟨h4, h5⟩⟩
    · unfold mpf; rw [← od, if_neg (fun q => q.2.elim n2 n3), if_neg (fun q => q.elim n0 n2), if_neg (Int32.not_lt.mpr e)]; exact h2
    · unfold pbo; rw [if_neg n0, if_neg n1, if_neg n2, if_neg n3]; exact h3
end Place
