/-! sets of places as the bits of an int -/
def bt (g : Int32) (q : Nat) : Bool := g.toBitVec.getLsbD q
def LO (g : Int32) : Prop := ∀ q, 24 ≤ q → bt g q = false
theorem nI31 : ∀ q, q < 24 → nI q &&& 31 = nI q ∧ (nI q).toBitVec.smod 32 = BitVec.ofNat 32 q := by decide +kernel
theorem bt_and1 (x : BitVec 32) : x &&& 1 = 0 ↔ x.getLsbD 0 = false := by
  constructor
  · intro h
    have := congrArg (fun y => y.getLsbD 0) h
    simpa using this
  · intro h
    apply BitVec.eq_of_getLsbD_eq
    intro i hi
    rw [BitVec.getLsbD_and]
    by_cases e : i = 0
    · subst e; rw [h]; rfl
    · have : (1 : BitVec 32).getLsbD i = false := by
        have := BitVec.getLsbD_one (w := 32) (i := i)
        simp [e] at this ⊢
      rw [this]; simp
theorem bt_iff {g : Int32} {q : Nat} (hq : q < 24) : (g >>> (nI q &&& 31)) &&& 1 = 0 ↔ bt g q = false := by
  rw [← Int32.toBitVec_inj, Int32.toBitVec_and, Int32.toBitVec_shiftRight, (nI31 q hq).1]
  show (g.toBitVec.sshiftRight' ((nI q).toBitVec.smod 32)) &&& 1 = 0 ↔ _
  rw [(nI31 q hq).2, bt_and1]
  show (g.toBitVec.sshiftRight (BitVec.ofNat 32 q).toNat).getLsbD 0 = false ↔ _
  rw [BitVec.toNat_ofNat, Nat.mod_eq_of_lt (by omega), BitVec.getLsbD_sshiftRight]
  have : q + 0 < 32 := by omega
  simp [bt, hq, show ¬ 32 ≤ 0 by decide]
  omega
theorem bt_or {a b : Int32} {q : Nat} : bt (a ||| b) q = (bt a q || bt b q) := by unfold bt; rw [Int32.toBitVec_or, BitVec.getLsbD_or]
theorem bt_ge {a : Int32} {q : Nat} (h : 32 ≤ q) : bt a q = false := BitVec.getLsbD_of_ge _ _ h
theorem bt_one' : ∀ p, p < 24 → ∀ q, q < 32 → bt ((1 : Int32) <<< (nI p &&& 31)) q = decide (q = p) := by decide +kernel
theorem bt_one {p q : Nat} (hp : p < 24) : bt ((1 : Int32) <<< (nI p &&& 31)) q = decide (q = p) := by
  by_cases h : q < 32
  · exact bt_one' p hp q h
  · rw [bt_ge (by omega)]; simp; omega
theorem bt_ext {a b : Int32} (h : ∀ q, bt a q = bt b q) : a = b := by
  rw [← Int32.toBitVec_inj]
  exact BitVec.eq_of_getLsbD_eq (fun i _ => h i)
theorem bt_0 (q : Nat) : bt 0 q = false := by unfold bt; simp
theorem bt_andn {a b : Int32} : a &&& (b ^^^ -1) = 0 ↔ ∀ q, q < 32 → bt a q = true → bt b q = true := by
  constructor
  · intro h q hq ha
    have := congrArg (fun y => bt y q) h
    simp only [bt_0] at this
    unfold bt at this ha ⊢
    rw [Int32.toBitVec_and, Int32.toBitVec_xor, BitVec.getLsbD_and, BitVec.getLsbD_xor, ha] at this
    have e : (-1 : Int32).toBitVec.getLsbD q = true := by
      have : (-1 : Int32).toBitVec = BitVec.allOnes 32 := by decide
      rw [this, BitVec.getLsbD_allOnes]; simpa using hq
    rw [e] at this
    simpa using this
  · intro h
    apply bt_ext
    intro q
    rw [bt_0]
    by_cases hq : q < 32
    · unfold bt
      rw [Int32.toBitVec_and, Int32.toBitVec_xor, BitVec.getLsbD_and, BitVec.getLsbD_xor]
      have e : (-1 : Int32).toBitVec.getLsbD q = true := by
        have : (-1 : Int32).toBitVec = BitVec.allOnes 32 := by decide
        rw [this, BitVec.getLsbD_allOnes]; simpa using hq
      rw [e]
      by_cases g : a.toBitVec.getLsbD q = true
      · have := h q hq g
        unfold bt at this; rw [this]; simp
      · simp [g]
    · exact bt_ge (by omega)
/-- the test for a place that may be none -/
theorem hb_n {g : Int32} {q : Nat} (hq : q < 24) : (0 ≤ nI q ∧ ¬ (g >>> (nI q &&& 31)) &&& 1 = 0) ↔ bt g q = true := by
  rw [bt_iff hq]
  exact ⟨fun h => by simpa using h.2, fun h => ⟨nI_ge0 hq, by simpa using h⟩⟩
theorem hb_m {g : Int32} : ¬ (0 ≤ (-1 : Int32) ∧ ¬ (g >>> ((-1 : Int32) &&& 31)) &&& 1 = 0) := fun h => absurd h.1 (by decide)
section Bits
variable {A B : ow_A} {k tc sc s p : Nat} {g m : Int32}
theorem mob_bt (ho : ∀ q, q < 24 → plc (A (15 + s) q)) : ∀ n, n ≤ 24 → ∀ q, bt (mob A s g n) q = true ↔ q < n ∧ ∃ o, o < 24 ∧ A (15 + s) q = nI o ∧ bt g o = true := by
  intro n
  induction n with
  | zero => intro _ q; simp [mob, bt_0]
  | succ n ih =>
    intro hn q
    have ih := ih (by omega) q
    simp only [mob]
    rcases ho n (by omega) with e | ⟨o, h1, h2⟩
    · rw [if_neg (by rw [e]; exact hb_m), ih]
      constructor
      · intro ⟨h1, h2⟩; exact ⟨by omega, h2⟩
      · intro ⟨h1, o, h2, h3, h4⟩
        refine ⟨?_, o, h2, h3, h4⟩
        by_cases e2 : q = n
        · subst e2; rw [e] at h3; exact absurd h3.symm (nI_m1 (by omega))
        · omega
    · rw [h2]
      by_cases g1 : bt g o = true
      · rw [if_pos ((hb_n h1).mpr g1), bt_or, bt_one (by omega), Bool.or_eq_true, ih, decide_eq_true_eq]
        constructor
        · rintro (⟨q1, q2⟩ | q1)
          · exact ⟨by omega, q2⟩
          · subst q1; exact ⟨by omega, o, h1, h2, g1⟩
        · rintro ⟨q1, q2⟩
          by_cases e2 : q = n
          · exact Or.inr e2
          · exact Or.inl ⟨by omega, q2⟩
      · rw [if_neg (fun z => g1 ((hb_n h1).mp z)), ih]
        constructor
        · intro ⟨h1, h2⟩; exact ⟨by omega, h2⟩
        · intro ⟨q1, o', q2, q3, q4⟩
          refine ⟨?_, o', q2, q3, q4⟩
          by_cases e2 : q = n
          · subst e2; rw [h2] at q3; rw [nI_inj h1 q2 q3] at g1; exact absurd q4 g1
          · omega
theorem mor_bt (ho : ∀ s, s < 5 → ∀ q, q < 24 → plc (A (15 + s) q)) : ∀ n, n ≤ 5 → ∀ q, bt (morS A g m n) q = true ↔ bt g q = true ∨ ∃ s, s < n ∧ A 6 s - A 6 s / 3 * 3 < m ∧ q < 24 ∧ ∃ o, o < 24 ∧ A (15 + s) q = nI o ∧ bt g o = true := by
  intro n
  induction n with
  | zero => intro _ q; simp [morS]
  | succ n ih =>
    intro hn q
    have ih := ih (by omega) q
    simp only [morS]
    by_cases g1 : A 6 n - A 6 n / 3 * 3 < m
    · rw [if_pos g1, bt_or, Bool.or_eq_true, ih, mob_bt (ho n (by omega)) 24 (Nat.le_refl _)]
      constructor
      · rintro ((q1 | ⟨s, q1, q2⟩) | q1)
        · exact Or.inl q1
        · exact Or.inr ⟨s, by omega, q2⟩
        · exact Or.inr ⟨n, by omega, g1, q1⟩
      · rintro (q1 | ⟨s, q1, q2, q3⟩)
        · exact Or.inl (Or.inl q1)
        · by_cases e : s = n
          · subst e; exact Or.inr q3
          · exact Or.inl (Or.inr ⟨s, by omega, q2, q3⟩)
    · rw [if_neg g1, ih]
      constructor
      · rintro (q1 | ⟨s, q1, q2⟩)
        · exact Or.inl q1
        · exact Or.inr ⟨s, by omega, q2⟩
      · rintro (q1 | ⟨s, q1, q2, q3⟩)
        · exact Or.inl q1
        · by_cases e : s = n
          · subst e; exact absurd q2 g1
          · exact Or.inr ⟨s, by omega, q2, q3⟩
/-- what is closed under going with one's owner -/
def CLA (A : ow_A) (sc : Nat) (m : Int32) (P : Nat → Prop) : Prop := ∀ s, s < sc → A 6 s - A 6 s / 3 * 3 < m → ∀ q, q < 24 → ∀ o, o < 24 → A (15 + s) q = nI o → P o → P q
theorem mor_fix (ho : ∀ s, s < 5 → ∀ q, q < 24 → plc (A (15 + s) q)) (hsc : sc ≤ 5) (h : morS A g m sc = g) : CLA A sc m (fun q => bt g q = true) := by
  intro s hs hk q hq o ho' e hb
  show bt g q = true
  rw [← h]; exact (mor_bt ho sc hsc q).mpr (Or.inr ⟨s, hs, hk, hq, o, ho', e, hb⟩)
theorem atg_sp (ho : ∀ s, s < 5 → ∀ q, q < 24 → plc (A (15 + s) q)) (hsc : sc ≤ 5) : ∀ n g, LO g → 24 ≤ n + cn (bt g) 24 → LO (atg A m sc n g) ∧ (∀ q, bt g q = true → bt (atg A m sc n g) q = true) ∧ CLA A sc m (fun q => bt (atg A m sc n g) q = true) ∧
    ∀ P : Nat → Prop, CLA A sc m P → (∀ q, q < 24 → bt g q = true → P q) → ∀ q, q < 24 → bt (atg A m sc n g) q = true → P q := by
  have base : ∀ g, LO g → morS A g m sc = g → LO g ∧ (∀ q, bt g q = true → bt g q = true) ∧ CLA A sc m (fun q => bt g q = true) ∧ ∀ P : Nat → Prop, CLA A sc m P → (∀ q, q < 24 → bt g q = true → P q) → ∀ q, q < 24 → bt g q = true → P q :=
    fun g hl hf => ⟨hl, fun _ h => h, mor_fix ho hsc hf, fun P _ h => h⟩
  have mono : ∀ g q, bt g q = true → bt (morS A g m sc) q = true := fun g q h => (mor_bt ho sc hsc q).mpr (Or.inl h)
  have mlo : ∀ g, LO g → LO (morS A g m sc) := fun g hl q hq => by
    refine Bool.eq_false_iff.mpr (fun h => ?_)
    rcases (mor_bt ho sc hsc q).mp h with q1 | ⟨s, _, _, q1, _⟩
    · rw [hl q hq] at q1; exact absurd q1 (by decide)
    · omega
  intro n
  induction n with
  | zero =>
    intro g hl hc
    refine base g hl (bt_ext (fun q => ?_))
    by_cases hq : q < 24
    · have : bt g q = true := by
        refine Decidable.byContradiction (fun h => ?_)
        have h1 := cn_lt (p := bt g) (q := fun _ => true) (j := q) 24 (fun _ _ => rfl) hq (by simpa using h) rfl
        have h2 := cn_le (fun _ => true) 24
        omega
      rw [this, mono g q this]
    · rw [hl q (by omega), mlo g hl q (by omega)]
  | succ n ih =>
    intro g hl hc
    simp only [atg]
    split
    · rename_i hf; exact base g hl hf
    · rename_i hf
      have hex : ∃ q, bt g q = false ∧ bt (morS A g m sc) q = true := by
        refine Classical.byContradiction (fun h => hf (bt_ext (fun q => ?_)))
        by_cases e : bt g q = true
        · rw [e, mono g q e]
        · have e2 : bt g q = false := by simpa using e
          rw [e2]
          exact Bool.eq_false_iff.mpr (fun h2 => h ⟨q, e2, h2⟩)
      obtain ⟨q, q1, q2⟩ := hex
      have hq : q < 24 := by
        refine Decidable.byContradiction (fun h => ?_)
        rw [mlo g hl q (by omega)] at q2; exact absurd q2 (by decide)
      have h1 := cn_lt (p := bt g) (q := bt (morS A g m sc)) 24 (mono g) hq q1 q2
      obtain ⟨r1, r2, r3, r4⟩ := ih (morS A g m sc) (mlo g hl) (by omega)
      refine ⟨r1, fun q h => r2 q (mono g q h), r3, fun P hP hg => r4 P hP (fun q hq h => ?_)⟩
      rcases (mor_bt ho sc hsc q).mp h with h | ⟨s, h3, h4, h5, o, h6, h7, h8⟩
      · exact hg q hq h
      · exact hP s h3 h4 q h5 o h6 h7 (hg o h6 h8)
end Bits
