/-! what holds between the class (memory A) and the model (memory B) -/
abbrev ow_A : Type := Nat → Nat → Int32
def lsB (B : ow_A) (s : Nat) : Nat → Nat := fun k => (B 58 (24 * s + k)).toNatClampNeg
def SRT (own val : Nat → Int32) (ls : Nat → Nat) (n : Nat) : Prop := ∀ i j, i < j → j < n → own (ls i) = own (ls j) → val (ls i) ≤ val (ls j)
def PR (A B : ow_A) (tc sc : Nat) : Prop :=
  (tc ≤ 4) ∧
  (sc ≤ 5) ∧
  (A 1 0 = nI tc) ∧
  (B 48 1 = nI tc) ∧
  (A 1 1 = nI sc) ∧
  (B 48 3 = nI sc) ∧
  (∀ t, t < 4 → A 2 t = B 49 t) ∧
  (∀ t, t < 4 → 0 ≤ A 2 t ∧ A 2 t ≤ 3) ∧
  (∀ s, s < 5 → A 3 s = B 50 s) ∧
  (∀ s, s < 5 → A 4 s = B 51 s) ∧
  (∀ s, s < 5 → A 5 s = B 52 s) ∧
  (∀ s, s < 5 → A 6 s = B 53 s) ∧
  (∀ s, s < sc → ∃ t u, t < tc ∧ u < tc ∧ t ≠ u ∧ A 3 s = nI t ∧ A 4 s = nI u) ∧
  (∀ s, s < 5 → 0 ≤ A 6 s ∧ A 6 s ≤ 5) ∧
  (∀ s, s < 5 → (0 ≤ A 5 s ∧ A 5 s ≤ 3) ∨ (s < sc ∧ 10 ≤ A 5 s ∧ A 5 s < 40 ∧ ∃ f, f < 3 ∧ A 5 s - A 5 s / 10 * 10 = nI f ∧ nI f < A 2 (A 4 s).toNatClampNeg)) ∧
  (A 0 4 = B 48 8)
theorem PR.t4 {A B : ow_A} {tc sc : Nat} (h : PR A B tc sc) : tc ≤ 4 := h.1
theorem PR.s5 {A B : ow_A} {tc sc : Nat} (h : PR A B tc sc) : sc ≤ 5 := h.2.1
theorem PR.a1 {A B : ow_A} {tc sc : Nat} (h : PR A B tc sc) : A 1 0 = nI tc := h.2.2.1
theorem PR.b1 {A B : ow_A} {tc sc : Nat} (h : PR A B tc sc) : B 48 1 = nI tc := h.2.2.2.1
theorem PR.a2 {A B : ow_A} {tc sc : Nat} (h : PR A B tc sc) : A 1 1 = nI sc := h.2.2.2.2.1
theorem PR.b2 {A B : ow_A} {tc sc : Nat} (h : PR A B tc sc) : B 48 3 = nI sc := h.2.2.2.2.2.1
theorem PR.fc {A B : ow_A} {tc sc : Nat} (h : PR A B tc sc) : ∀ t, t < 4 → A 2 t = B 49 t := h.2.2.2.2.2.2.1
theorem PR.fr {A B : ow_A} {tc sc : Nat} (h : PR A B tc sc) : ∀ t, t < 4 → 0 ≤ A 2 t ∧ A 2 t ≤ 3 := h.2.2.2.2.2.2.2.1
theorem PR.ot {A B : ow_A} {tc sc : Nat} (h : PR A B tc sc) : ∀ s, s < 5 → A 3 s = B 50 s := h.2.2.2.2.2.2.2.2.1
theorem PR.mt {A B : ow_A} {tc sc : Nat} (h : PR A B tc sc) : ∀ s, s < 5 → A 4 s = B 51 s := h.2.2.2.2.2.2.2.2.2.1
theorem PR.od {A B : ow_A} {tc sc : Nat} (h : PR A B tc sc) : ∀ s, s < 5 → A 5 s = B 52 s := h.2.2.2.2.2.2.2.2.2.2.1
theorem PR.kd {A B : ow_A} {tc sc : Nat} (h : PR A B tc sc) : ∀ s, s < 5 → A 6 s = B 53 s := h.2.2.2.2.2.2.2.2.2.2.2.1
theorem PR.ov {A B : ow_A} {tc sc : Nat} (h : PR A B tc sc) : ∀ s, s < sc → ∃ t u, t < tc ∧ u < tc ∧ t ≠ u ∧ A 3 s = nI t ∧ A 4 s = nI u := h.2.2.2.2.2.2.2.2.2.2.2.2.1
theorem PR.kv {A B : ow_A} {tc sc : Nat} (h : PR A B tc sc) : ∀ s, s < 5 → 0 ≤ A 6 s ∧ A 6 s ≤ 5 := h.2.2.2.2.2.2.2.2.2.2.2.2.2.1
theorem PR.oo {A B : ow_A} {tc sc : Nat} (h : PR A B tc sc) : ∀ s, s < 5 → (0 ≤ A 5 s ∧ A 5 s ≤ 3) ∨ (s < sc ∧ 10 ≤ A 5 s ∧ A 5 s < 40 ∧ ∃ f, f < 3 ∧ A 5 s - A 5 s / 10 * 10 = nI f ∧ nI f < A 2 (A 4 s).toNatClampNeg) := h.2.2.2.2.2.2.2.2.2.2.2.2.2.2.1
theorem PR.ev {A B : ow_A} {tc sc : Nat} (h : PR A B tc sc) : A 0 4 = B 48 8 := h.2.2.2.2.2.2.2.2.2.2.2.2.2.2.2
def BR (A B : ow_A) (tc sc k : Nat) : Prop :=
  (∀ p, p < 24 → A 8 p = B 54 p) ∧
  (∀ p, p < 24 → A 9 p = B 55 p) ∧
  (∀ p, p < 24 → ∃ t, t < 4 ∧ A 9 p = nI t ∧ (¬ A 8 p = 0 → t < tc)) ∧
  (∀ p, p < 24 → ¬ A 8 p = 0 → ∀ f, f < 3 → nI f < A 2 (A 9 p).toNatClampNeg → A (11 + f) p = B 56 (3 * p + f)) ∧
  (∀ s, s < 5 → ∀ p, p < 24 → A (15 + s) p = B 57 (24 * s + p)) ∧
  (∀ s, s < 5 → ∀ p, p < 24 → A (15 + s) p = -1 ∨ (s < sc ∧ ¬ A 8 p = 0 ∧ A 9 p = A 4 s ∧ ∃ o, o < 24 ∧ A (15 + s) p = nI o ∧ ¬ A 8 o = 0 ∧ A 9 o = A 3 s)) ∧
  (∀ j, j < 120 → ∃ p, p < 24 ∧ B 58 j = nI p) ∧
  (∀ s, s < 5 → ∃ n, n ≤ 24 ∧ B 59 s = nI n) ∧
  (∀ s, s < 5 → RK (A (15 + s)) (A (21 + s)) (lsB B s) (mln B s)) ∧
  (∀ s, s < sc → s < 5 → sfv A s < 3 → 10 ≤ A 5 s → SRT (A (15 + s)) (A (11 + sfv A s)) (lsB B s) (mln B s)) ∧
  (∃ m, 1 ≤ m ∧ m ≤ k + 1 ∧ A 7 1 = nI m ∧ B 48 9 = nI m ∧ ∀ p, p < 24 → ∃ j, j < m ∧ A 8 p = nI j) ∧
  (∀ p q, p < 24 → q < 24 → A 8 p = A 8 q → ¬ A 8 p = 0 → p = q) ∧
  (A 7 0 = nI (cn (fun r => decide (0 < B 54 r)) 24))
theorem BR.ky {A B : ow_A} {tc sc k : Nat} (h : BR A B tc sc k) : ∀ p, p < 24 → A 8 p = B 54 p := h.1
theorem BR.ty {A B : ow_A} {tc sc k : Nat} (h : BR A B tc sc k) : ∀ p, p < 24 → A 9 p = B 55 p := h.2.1
theorem BR.tv {A B : ow_A} {tc sc k : Nat} (h : BR A B tc sc k) : ∀ p, p < 24 → ∃ t, t < 4 ∧ A 9 p = nI t ∧ (¬ A 8 p = 0 → t < tc) := h.2.2.1
theorem BR.fd {A B : ow_A} {tc sc k : Nat} (h : BR A B tc sc k) : ∀ p, p < 24 → ¬ A 8 p = 0 → ∀ f, f < 3 → nI f < A 2 (A 9 p).toNatClampNeg → A (11 + f) p = B 56 (3 * p + f) := h.2.2.2.1
theorem BR.ow {A B : ow_A} {tc sc k : Nat} (h : BR A B tc sc k) : ∀ s, s < 5 → ∀ p, p < 24 → A (15 + s) p = B 57 (24 * s + p) := h.2.2.2.2.1
theorem BR.wv {A B : ow_A} {tc sc k : Nat} (h : BR A B tc sc k) : ∀ s, s < 5 → ∀ p, p < 24 → A (15 + s) p = -1 ∨ (s < sc ∧ ¬ A 8 p = 0 ∧ A 9 p = A 4 s ∧ ∃ o, o < 24 ∧ A (15 + s) p = nI o ∧ ¬ A 8 o = 0 ∧ A 9 o = A 3 s) := h.2.2.2.2.2.1
theorem BR.ll {A B : ow_A} {tc sc k : Nat} (h : BR A B tc sc k) : ∀ j, j < 120 → ∃ p, p < 24 ∧ B 58 j = nI p := h.2.2.2.2.2.2.1
theorem BR.ln {A B : ow_A} {tc sc k : Nat} (h : BR A B tc sc k) : ∀ s, s < 5 → ∃ n, n ≤ 24 ∧ B 59 s = nI n := h.2.2.2.2.2.2.2.1
theorem BR.rg {A B : ow_A} {tc sc k : Nat} (h : BR A B tc sc k) : ∀ s, s < 5 → RK (A (15 + s)) (A (21 + s)) (lsB B s) (mln B s) := h.2.2.2.2.2.2.2.2.1
theorem BR.so {A B : ow_A} {tc sc k : Nat} (h : BR A B tc sc k) : ∀ s, s < sc → s < 5 → sfv A s < 3 → 10 ≤ A 5 s → SRT (A (15 + s)) (A (11 + sfv A s)) (lsB B s) (mln B s) := h.2.2.2.2.2.2.2.2.2.1
theorem BR.nk {A B : ow_A} {tc sc k : Nat} (h : BR A B tc sc k) : ∃ m, 1 ≤ m ∧ m ≤ k + 1 ∧ A 7 1 = nI m ∧ B 48 9 = nI m ∧ ∀ p, p < 24 → ∃ j, j < m ∧ A 8 p = nI j := h.2.2.2.2.2.2.2.2.2.2.1
theorem BR.kd {A B : ow_A} {tc sc k : Nat} (h : BR A B tc sc k) : ∀ p q, p < 24 → q < 24 → A 8 p = A 8 q → ¬ A 8 p = 0 → p = q := h.2.2.2.2.2.2.2.2.2.2.2.1
theorem BR.ct {A B : ow_A} {tc sc k : Nat} (h : BR A B tc sc k) : A 7 0 = nI (cn (fun r => decide (0 < B 54 r)) 24) := h.2.2.2.2.2.2.2.2.2.2.2.2
def SR (A B : ow_A) (tc sc : Nat) : Prop :=
  (A 45 0 = B 48 16) ∧
  (A 45 0 = -1 ∨ ∃ p, p < 24 ∧ A 45 0 = nI p ∧ ¬ A 8 p = 0) ∧
  (∀ t, t < 4 → A 46 t = B 60 t) ∧
  (∀ t, t < 4 → A 46 t = -1 ∨ (t < tc ∧ ∃ p, p < 24 ∧ A 46 t = nI p ∧ ¬ A 8 p = 0)) ∧
  (∀ s, s < 5 → A 47 s = B 61 s) ∧
  (∀ s, s < 5 → A 47 s = -1 ∨ (s < sc ∧ ∃ p, p < 24 ∧ A 47 s = nI p ∧ ¬ A 8 p = 0 ∧ (A 9 p = A 3 s ∨ ¬ A (15 + s) p = -1)))
theorem SR.ru {A B : ow_A} {tc sc : Nat} (h : SR A B tc sc) : A 45 0 = B 48 16 := h.1
theorem SR.rl {A B : ow_A} {tc sc : Nat} (h : SR A B tc sc) : A 45 0 = -1 ∨ ∃ p, p < 24 ∧ A 45 0 = nI p ∧ ¬ A 8 p = 0 := h.2.1
theorem SR.tu {A B : ow_A} {tc sc : Nat} (h : SR A B tc sc) : ∀ t, t < 4 → A 46 t = B 60 t := h.2.2.1
theorem SR.tl {A B : ow_A} {tc sc : Nat} (h : SR A B tc sc) : ∀ t, t < 4 → A 46 t = -1 ∨ (t < tc ∧ ∃ p, p < 24 ∧ A 46 t = nI p ∧ ¬ A 8 p = 0) := h.2.2.2.1
theorem SR.su {A B : ow_A} {tc sc : Nat} (h : SR A B tc sc) : ∀ s, s < 5 → A 47 s = B 61 s := h.2.2.2.2.1
theorem SR.sl {A B : ow_A} {tc sc : Nat} (h : SR A B tc sc) : ∀ s, s < 5 → A 47 s = -1 ∨ (s < sc ∧ ∃ p, p < 24 ∧ A 47 s = nI p ∧ ¬ A 8 p = 0 ∧ (A 9 p = A 3 s ∨ ¬ A (15 + s) p = -1)) := h.2.2.2.2.2
/-- the kept base in the place of the base -/
def KA (A : ow_A) : ow_A := fun c => if 7 ≤ c ∧ c < 26 then A (c + 19) else A c
def KB (B : ow_A) : ow_A := fun c j => if c = 48 ∧ j = 9 then B 48 20 else if 54 ≤ c ∧ c ≤ 59 then B (c + 9) j else B c j
def J2 (A B : ow_A) (tc sc k : Nat) : Prop :=
  (PR A B tc sc) ∧
  (BR A B tc sc k) ∧
  (BR (KA A) (KB B) tc sc k) ∧
  (SR A B tc sc)
theorem J2.p {A B : ow_A} {tc sc k : Nat} (h : J2 A B tc sc k) : PR A B tc sc := h.1
theorem J2.b {A B : ow_A} {tc sc k : Nat} (h : J2 A B tc sc k) : BR A B tc sc k := h.2.1
theorem J2.kb {A B : ow_A} {tc sc k : Nat} (h : J2 A B tc sc k) : BR (KA A) (KB B) tc sc k := h.2.2.1
theorem J2.s {A B : ow_A} {tc sc k : Nat} (h : J2 A B tc sc k) : SR A B tc sc := h.2.2.2
def JJ (k : Nat) (M : ow_A) : Prop := ∃ tc sc, J2 M M tc sc k
section Rel
variable {A A' B B' : ow_A} {k tc' sc' : Nat}
theorem PR.congrA {tc sc : Nat} (h : PR A B tc sc) (e : ∀ c, c < 7 → A' c = A c) : PR A' B tc sc := by
  have e0 := e 0 (by decide); have e1 := e 1 (by decide); have e2 := e 2 (by decide); have e3 := e 3 (by decide); have e4 := e 4 (by decide); have e5 := e 5 (by decide); have e6 := e 6 (by decide)
  obtain ⟨h1, h2, h3, h4, h5, h6, h7, h8, h9, h10, h11, h12, h13, h14, h15, h16⟩ := h
  exact ⟨h1, h2, by rw [e1]; exact h3, h4, by rw [e1]; exact h5, h6, by rw [e2]; exact h7, by rw [e2]; exact h8, by rw [e3]; exact h9, by rw [e4]; exact h10, by rw [e5]; exact h11, by rw [e6]; exact h12, by rw [e3, e4]; exact h13, by rw [e6]; exact h14, by rw [e5, e2, e4]; exact h15, by rw [e0]; exact h16⟩
theorem PR.congrB {tc sc : Nat} (h : PR A B tc sc) (e48 : B' 48 1 = B 48 1 ∧ B' 48 3 = B 48 3 ∧ B' 48 8 = B 48 8) (e : ∀ c, 49 ≤ c → c ≤ 53 → B' c = B c) : PR A B' tc sc := by
  have e1 := e 49 (by decide) (by decide); have e2 := e 50 (by decide) (by decide); have e3 := e 51 (by decide) (by decide); have e4 := e 52 (by decide) (by decide); have e5 := e 53 (by decide) (by decide)
  obtain ⟨h1, h2, h3, h4, h5, h6, h7, h8, h9, h10, h11, h12, h13, h14, h15, h16⟩ := h
  exact ⟨h1, h2, h3, by rw [e48.1]; exact h4, h5, by rw [e48.2.1]; exact h6, by rw [e1]; exact h7, h8, by rw [e2]; exact h9, by rw [e3]; exact h10, by rw [e4]; exact h11, by rw [e5]; exact h12, h13, h14, h15, by rw [e48.2.2]; exact h16⟩
theorem BR.congrA {tc sc : Nat} (h : BR A B tc sc k) (e : ∀ c, 2 ≤ c → c < 26 → c ≠ 6 → c ≠ 10 → c ≠ 14 → c ≠ 20 → A' c = A c) : BR A' B tc sc k := by
  have e2 := e 2 (by decide) (by decide) (by decide) (by decide) (by decide) (by decide); have e3 := e 3 (by decide) (by decide) (by decide) (by decide) (by decide) (by decide); have e4 := e 4 (by decide) (by decide) (by decide) (by decide) (by decide) (by decide); have e5 := e 5 (by decide) (by decide) (by decide) (by decide) (by decide) (by decide); have e7 := e 7 (by decide) (by decide) (by decide) (by decide) (by decide) (by decide); have e8 := e 8 (by decide) (by decide) (by decide) (by decide) (by decide) (by decide); have e9 := e 9 (by decide) (by decide) (by decide) (by decide) (by decide) (by decide)
  have ef : ∀ f, f < 3 → A' (11 + f) = A (11 + f) := fun f hf => e _ (by omega) (by omega) (by omega) (by omega) (by omega) (by omega)
  have eo : ∀ s, s < 5 → A' (15 + s) = A (15 + s) := fun s hs => e _ (by omega) (by omega) (by omega) (by omega) (by omega) (by omega)
  have ep : ∀ s, s < 5 → A' (21 + s) = A (21 + s) := fun s hs => e _ (by omega) (by omega) (by omega) (by omega) (by omega) (by omega)
  obtain ⟨h1, h2, h3, h4, h5, h6, h7, h8, h9, h10, h11, h12, h13⟩ := h
  refine ⟨by rw [e8]; exact h1, by rw [e9]; exact h2, by rw [e8, e9]; exact h3, ?_, ?_, ?_, h7, h8, ?_, ?_, by rw [e7, e8]; exact h11, by rw [e8]; exact h12, by rw [e7]; exact h13⟩
  · rw [e8, e9, e2]; intro p hp hk f hf hl; rw [ef f hf]; exact h4 p hp hk f hf hl
  · intro s hs; rw [eo s hs]; exact h5 s hs
  · intro s hs; rw [eo s hs, e8, e9, e4, e3]; exact h6 s hs
  · intro s hs; rw [eo s hs, ep s hs]; exact h9 s hs
  · intro s hs hs5 hf h
    rw [show sfv A' s = sfv A s by unfold sfv; rw [e5]] at hf ⊢
    rw [e5] at h
    rw [eo s hs5, ef _ hf]
    exact h10 s hs hs5 hf h
theorem lsB_c (e : B' 58 = B 58) (s : Nat) : lsB B' s = lsB B s := by unfold lsB; rw [e]
theorem mln_c (e : B' 59 = B 59) (s : Nat) : mln B' s = mln B s := by unfold mln; rw [e]
theorem BR.congrB {tc sc : Nat} (h : BR A B tc sc k) (e48 : B' 48 9 = B 48 9) (e : ∀ c, 54 ≤ c → c ≤ 59 → B' c = B c) : BR A B' tc sc k := by
  have e4 := e 54 (by decide) (by decide); have e5 := e 55 (by decide) (by decide); have e6 := e 56 (by decide) (by decide); have e7 := e 57 (by decide) (by decide); have e8 := e 58 (by decide) (by decide); have e9 := e 59 (by decide) (by decide)
  obtain ⟨h1, h2, h3, h4, h5, h6, h7, h8, h9, h10, h11, h12, h13⟩ := h
  refine ⟨by rw [e4]; exact h1, by rw [e5]; exact h2, h3, by rw [e6]; exact h4, by rw [e7]; exact h5, h6, by rw [e8]; exact h7, by rw [e9]; exact h8, ?_, ?_, by rw [e48]; exact h11, h12, by rw [e4]; exact h13⟩
  · intro s hs; rw [lsB_c e8, mln_c e9]; exact h9 s hs
  · intro s hs; rw [lsB_c e8, mln_c e9]; exact h10 s hs
theorem SR.congrA {tc sc : Nat} (h : SR A B tc sc) (e : ∀ c, c = 3 ∨ c = 8 ∨ c = 9 ∨ (15 ≤ c ∧ c < 20) ∨ (45 ≤ c ∧ c < 48) → A' c = A c) : SR A' B tc sc := by
  have e3 := e 3 (by omega); have e8 := e 8 (by omega); have e9 := e 9 (by omega); have e45 := e 45 (by omega); have e46 := e 46 (by omega); have e47 := e 47 (by omega)
  have eo : ∀ s, s < 5 → A' (15 + s) = A (15 + s) := fun s hs => e _ (by omega)
  obtain ⟨h1, h2, h3, h4, h5, h6⟩ := h
  refine ⟨by rw [e45]; exact h1, by rw [e45, e8]; exact h2, by rw [e46]; exact h3, by rw [e46, e8]; exact h4, by rw [e47]; exact h5, ?_⟩
  intro s hs; rw [e47, e8, e9, e3, eo s hs]; exact h6 s hs
theorem SR.congrB {tc sc : Nat} (h : SR A B tc sc) (e48 : B' 48 16 = B 48 16) (e60 : B' 60 = B 60) (e61 : B' 61 = B 61) : SR A B' tc sc := by
  obtain ⟨h1, h2, h3, h4, h5, h6⟩ := h
  exact ⟨by rw [e48]; exact h1, h2, by rw [e60]; exact h3, h4, by rw [e61]; exact h5, h6⟩
theorem BR.up {tc sc k' : Nat} (h : BR A B tc sc k) (hk : k ≤ k') : BR A B tc sc k' := by
  obtain ⟨h1, h2, h3, h4, h5, h6, h7, h8, h9, h10, ⟨m, h11, h12, h13⟩, h14, h15⟩ := h
  exact ⟨h1, h2, h3, h4, h5, h6, h7, h8, h9, h10, ⟨m, h11, by omega, h13⟩, h14, h15⟩
theorem KA_c (e : ∀ c, c < 7 ∨ (26 ≤ c ∧ c < 45) → A' c = A c) : ∀ c, c < 26 → KA A' c = KA A c := by
  intro c hc
  unfold KA
  split
  · exact e _ (by omega)
  · exact e _ (by omega)
theorem KB_at {c : Nat} (h1 : 54 ≤ c) (h2 : c ≤ 59) : KB B c = B (c + 9) := by
  funext j; unfold KB; rw [if_neg (by omega), if_pos ⟨h1, h2⟩]
theorem KB_c (e48 : B' 48 20 = B 48 20) (e : ∀ c, 63 ≤ c → c ≤ 68 → B' c = B c) : KB B' 48 9 = KB B 48 9 ∧ ∀ c, 54 ≤ c → c ≤ 59 → KB B' c = KB B c := by
  refine ⟨?_, fun c h1 h2 => ?_⟩
  · unfold KB; rw [if_pos ⟨rfl, rfl⟩, if_pos ⟨rfl, rfl⟩]; exact e48
  · rw [KB_at h1 h2, KB_at h1 h2]; exact e _ (by omega) (by omega)
/-- the kept base is as it was -/
theorem BR.keptA {tc sc : Nat} (h : BR (KA A) B tc sc k) (e : ∀ c, c < 7 ∨ (26 ≤ c ∧ c < 45) → A' c = A c) : BR (KA A') B tc sc k :=
  h.congrA (fun c _ h2 _ _ _ _ => KA_c e c h2)
theorem BR.keptB {tc sc : Nat} (h : BR A (KB B) tc sc k) (e48 : B' 48 20 = B 48 20) (e : ∀ c, 63 ≤ c → c ≤ 68 → B' c = B c) : BR A (KB B') tc sc k :=
  h.congrB (KB_c e48 e).1 (KB_c e48 e).2
theorem J2.congrA {tc sc : Nat} (h : J2 A B tc sc k) (e : ∀ c, c < 48 → A' c = A c) : J2 A' B tc sc k :=
  ⟨h.p.congrA (fun c hc => e c (by omega)), h.b.congrA (fun c _ hc _ _ _ _ => e c (by omega)), h.kb.keptA (fun c hc => e c (by omega)), h.s.congrA (fun c hc => e c (by omega))⟩
theorem J2.congrB {tc sc : Nat} (h : J2 A B tc sc k) (e : ∀ c, 48 ≤ c → B' c = B c) : J2 A B' tc sc k := by
  have e48 := e 48 (by decide)
  exact ⟨h.p.congrB ⟨by rw [e48], by rw [e48], by rw [e48]⟩ (fun c h1 _ => e c (by omega)), h.b.congrB (by rw [e48]) (fun c h1 _ => e c (by omega)), h.kb.keptB (by rw [e48]) (fun c h1 _ => e c (by omega)), h.s.congrB (by rw [e48]) (e 60 (by decide)) (e 61 (by decide))⟩
/-- the code doesn't count -/
theorem J2.cd {tc sc : Nat} {x : Int32} (h : J2 A B tc sc k) : J2 A (ow_u B 48 0 x) tc sc k := by
  have e : ∀ c, c ≠ 48 → ow_u B 48 0 x c = B c := fun c hc => ow_u_ne hc
  exact ⟨h.p.congrB ⟨rfl, rfl, rfl⟩ (fun c h1 _ => e c (by omega)), h.b.congrB rfl (fun c h1 _ => e c (by omega)), h.kb.keptB rfl (fun c h1 _ => e c (by omega)), h.s.congrB rfl (e 60 (by decide)) (e 61 (by decide))⟩
theorem J2.up {tc sc : Nat} (h : J2 A B tc sc k) : J2 A B tc sc (k + 1) := ⟨h.p, h.b.up (by omega), h.kb.up (by omega), h.s⟩
/-- what a call leaves behind: the class's memory, then the model's -/
theorem JJ.of {tc sc : Nat} {M2 : ow_A} (h : J2 A M2 tc sc k) (e : ∀ c, c < 48 → M2 c = A c) : JJ k M2 := ⟨tc, sc, h.congrA e⟩
theorem PR.ord {tc sc : Nat} (h : PR A B tc sc) (s : Nat) (hs : s < 5) : (0 ≤ A 5 s ∧ A 5 s ≤ 3) ∨ (10 ≤ A 5 s ∧ ∃ f, f < 3 ∧ A 5 s - A 5 s / 10 * 10 = nI f) := by
  rcases h.oo s hs with h1 | ⟨_, h2, _, f, h3, h4, _⟩
  · exact Or.inl h1
  · exact Or.inr ⟨h2, f, h3, h4⟩
theorem J2.ci {tc sc : Nat} (h : J2 A B tc sc k) : CI A tc sc := by
  refine ⟨h.p.t4, h.p.s5, h.p.a1, h.p.a2, ?_, ?_, ?_, ?_, ?_, fun s hs => h.p.ord s hs⟩
  · rcases h.s.rl with h1 | ⟨p, h1, h2, _⟩
    · exact Or.inl h1
    · exact Or.inr ⟨p, h1, h2⟩
  · intro t ht
    rcases h.s.tl t ht with h1 | ⟨_, p, h1, h2, _⟩
    · exact Or.inl h1
    · exact Or.inr ⟨p, h1, h2⟩
  · intro s hs
    rcases h.s.sl s hs with h1 | ⟨_, p, h1, h2, _⟩
    · exact Or.inl h1
    · exact Or.inr ⟨p, h1, h2⟩
  · intro s hs p hp
    rcases h.b.wv s hs p hp with h1 | ⟨_, _, _, o, h1, h2, _⟩
    · exact Or.inl h1
    · exact Or.inr ⟨o, h1, h2⟩
  · intro p hp
    obtain ⟨t, h1, h2, _⟩ := h.b.tv p hp
    exact ⟨t, h1, h2⟩
theorem J2.mi {tc sc : Nat} (h : J2 A B tc sc k) : MI B tc sc := by
  have hc := h.ci
  refine ⟨h.p.t4, h.p.s5, h.p.b1, h.p.b2, ?_, ?_, ?_, ?_, ?_, h.b.ll, h.b.ln, ?_⟩
  · rw [← h.s.ru]; exact hc.run
  · intro t ht; rw [← h.s.tu t ht]; exact hc.ofT ht
  · intro s hs; rw [← h.s.su s hs]; exact hc.ofS hs
  · intro j hj
    have h1 := h.b.ow (j / 24) (by omega) (j % 24) (by omega)
    rw [show 24 * (j / 24) + j % 24 = j by omega] at h1
    rw [← h1]; exact hc.own (by omega) (by omega)
  · intro p hp; rw [← h.b.ty p hp]; exact hc.ty hp
  · intro s hs; rw [← h.p.od s hs]; exact h.p.ord s hs
theorem J2.fc {tc sc : Nat} (h : J2 A B tc sc k) : FC A := fun t ht => (h.p.fr t ht).2
theorem J2.fcm {tc sc : Nat} (h : J2 A B tc sc k) : FCm B := fun t ht => by rw [← h.p.fc t ht]; exact (h.p.fr t ht).2
end Rel
theorem HX_none_ok : HX_none JJ := fun _ _ ⟨tc, sc, h⟩ => ⟨tc, sc, h.up⟩
theorem HX_count_ok : HX_count JJ := by
  intro k M hk ⟨tc, sc, h⟩
  refine ⟨h.b.ct, ?_⟩
  exact JJ.of (h.cd (x := 0)).up (fun c hc => ow_u_ne (by omega))
