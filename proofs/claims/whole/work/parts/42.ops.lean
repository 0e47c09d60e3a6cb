/-! joining and leaving, on both sides -/
def BN (A B : ow_A) (tc sc k : Nat) : Prop :=
  (∀ p, p < 24 → A 8 p = B 54 p) ∧
  (∀ p, p < 24 → A 9 p = B 55 p) ∧
  (∀ p, p < 24 → ∃ t, t < 4 ∧ A 9 p = nI t ∧ (¬ A 8 p = 0 → t < tc)) ∧
  (∀ p, p < 24 → ¬ A 8 p = 0 → ∀ f, f < 3 → nI f < A 2 (A 9 p).toNatClampNeg → A (11 + f) p = B 56 (3 * p + f)) ∧
  (∀ s, s < 5 → ∀ p, p < 24 → A (15 + s) p = B 57 (24 * s + p)) ∧
  (∀ s, s < 5 → ∀ p, p < 24 → A (15 + s) p = -1 ∨ (s < sc ∧ ¬ A 8 p = 0 ∧ A 9 p = A 4 s ∧ ∃ o, o < 24 ∧ A (15 + s) p = nI o ∧ ¬ A 8 o = 0 ∧ A 9 o = A 3 s)) ∧
  (∀ j, j < 120 → ∃ p, p < 24 ∧ B 58 j = nI p) ∧
  (∀ s, s < 5 → ∃ n, n ≤ 24 ∧ B 59 s = nI n) ∧
  (∀ s, s < 5 → RK (A (15 + s)) (A (21 + s)) (lsB B s) (mln B s)) ∧
  (∃ m, 1 ≤ m ∧ m ≤ k + 1 ∧ A 7 1 = nI m ∧ B 48 9 = nI m ∧ ∀ p, p < 24 → ∃ j, j < m ∧ A 8 p = nI j) ∧
  (∀ p q, p < 24 → q < 24 → A 8 p = A 8 q → ¬ A 8 p = 0 → p = q) ∧
  (A 7 0 = nI (cn (fun r => decide (0 < B 54 r)) 24))
theorem BN.ky {A B : ow_A} {tc sc k : Nat} (h : BN A B tc sc k) : ∀ p, p < 24 → A 8 p = B 54 p := h.1
theorem BN.ty {A B : ow_A} {tc sc k : Nat} (h : BN A B tc sc k) : ∀ p, p < 24 → A 9 p = B 55 p := h.2.1
theorem BN.tv {A B : ow_A} {tc sc k : Nat} (h : BN A B tc sc k) : ∀ p, p < 24 → ∃ t, t < 4 ∧ A 9 p = nI t ∧ (¬ A 8 p = 0 → t < tc) := h.2.2.1
theorem BN.fd {A B : ow_A} {tc sc k : Nat} (h : BN A B tc sc k) : ∀ p, p < 24 → ¬ A 8 p = 0 → ∀ f, f < 3 → nI f < A 2 (A 9 p).toNatClampNeg → A (11 + f) p = B 56 (3 * p + f) := h.2.2.2.1
theorem BN.ow {A B : ow_A} {tc sc k : Nat} (h : BN A B tc sc k) : ∀ s, s < 5 → ∀ p, p < 24 → A (15 + s) p = B 57 (24 * s + p) := h.2.2.2.2.1
theorem BN.wv {A B : ow_A} {tc sc k : Nat} (h : BN A B tc sc k) : ∀ s, s < 5 → ∀ p, p < 24 → A (15 + s) p = -1 ∨ (s < sc ∧ ¬ A 8 p = 0 ∧ A 9 p = A 4 s ∧ ∃ o, o < 24 ∧ A (15 + s) p = nI o ∧ ¬ A 8 o = 0 ∧ A 9 o = A 3 s) := h.2.2.2.2.2.1
theorem BN.ll {A B : ow_A} {tc sc k : Nat} (h : BN A B tc sc k) : ∀ j, j < 120 → ∃ p, p < 24 ∧ B 58 j = nI p := h.2.2.2.2.2.2.1
theorem BN.ln {A B : ow_A} {tc sc k : Nat} (h : BN A B tc sc k) : ∀ s, s < 5 → ∃ n, n ≤ 24 ∧ B 59 s = nI n := h.2.2.2.2.2.2.2.1
theorem BN.rg {A B : ow_A} {tc sc k : Nat} (h : BN A B tc sc k) : ∀ s, s < 5 → RK (A (15 + s)) (A (21 + s)) (lsB B s) (mln B s) := h.2.2.2.2.2.2.2.2.1
theorem BN.nk {A B : ow_A} {tc sc k : Nat} (h : BN A B tc sc k) : ∃ m, 1 ≤ m ∧ m ≤ k + 1 ∧ A 7 1 = nI m ∧ B 48 9 = nI m ∧ ∀ p, p < 24 → ∃ j, j < m ∧ A 8 p = nI j := h.2.2.2.2.2.2.2.2.2.1
theorem BN.kd {A B : ow_A} {tc sc k : Nat} (h : BN A B tc sc k) : ∀ p q, p < 24 → q < 24 → A 8 p = A 8 q → ¬ A 8 p = 0 → p = q := h.2.2.2.2.2.2.2.2.2.2.1
theorem BN.ct {A B : ow_A} {tc sc k : Nat} (h : BN A B tc sc k) : A 7 0 = nI (cn (fun r => decide (0 < B 54 r)) 24) := h.2.2.2.2.2.2.2.2.2.2.2
def SO (A B : ow_A) (sc : Nat) : Prop := ∀ s, s < sc → s < 5 → sfv A s < 3 → 10 ≤ A 5 s → SRT (A (15 + s)) (A (11 + sfv A s)) (lsB B s) (mln B s)
section Ops
variable {A B : ow_A} {k tc sc s p : Nat} {o x : Int32}
theorem BR.bn (h : BR A B tc sc k) : BN A B tc sc k := ⟨h.ky, h.ty, h.tv, h.fd, h.ow, h.wv, h.ll, h.ln, h.rg, h.nk, h.kd, h.ct⟩
theorem BN.br (h : BN A B tc sc k) (so : SO A B sc) : BR A B tc sc k := ⟨h.ky, h.ty, h.tv, h.fd, h.ow, h.wv, h.ll, h.ln, h.rg, so, h.nk, h.kd, h.ct⟩
theorem BN.lk (h : BN A B tc sc k) (hs : s < 5) {j : Nat} (hj : j < 24) : B 58 (24 * s + j) = nI (lsB B s j) ∧ lsB B s j < 24 := by
  obtain ⟨p, hp, e⟩ := h.ll (24 * s + j) (by omega)
  have : lsB B s j = p := by unfold lsB; rw [e, nI_clamp (by omega)]
  rw [this]; exact ⟨e, hp⟩
theorem BN.lo (h : BN A B tc sc k) (hs : s < 5) {j : Nat} (hj : j < 24) : B 57 (24 * s + (B 58 (24 * s + j)).toNatClampNeg) = A (15 + s) (lsB B s j) := by
  have := h.lk hs hj
  rw [this.1, nI_clamp (by omega)]; exact (h.ow s hs _ this.2).symm
theorem BN.mpoo (h : BN A B tc sc k) (hs : s < 5) {i : Nat} (hi : i < mln B s) : mpo B s (nI (lsB B s i)) (mln B s) = nI i := by
  have hn := (h.rg s hs).1
  rw [← (h.lk hs (show i < 24 by omega)).1]
  refine mpo_at _ (fun i j hi hj e => ?_) hi
  rw [(h.lk hs (show i < 24 by omega)).1, (h.lk hs (show j < 24 by omega)).1] at e
  exact (h.rg s hs).2.2.1 i j hi hj (nI_inj (h.lk hs (by omega)).2 (h.lk hs (by omega)).2 e)
theorem BN.n59 (h : BN A B tc sc k) (hs : s < 5) : B 59 s = nI (mln B s) := by
  obtain ⟨n, hn, e⟩ := h.ln s hs
  rw [mln_eq e hn]; exact e
theorem mln_of {n : Nat} (e : B 59 s = nI n) (hn : n ≤ 24) : mln B s = n := mln_eq e hn
/-- the class's ring, one taken out -/
theorem tak_own (hm : ¬ A (15 + s) p = -1) (q : Nat) : takM A s p (15 + s) q = if q = p then -1 else A (15 + s) q := by
  unfold takM; rw [if_neg hm, shf_own (by omega), ow_u_ne (by omega)]
  by_cases e : q = p
  · subst e; rw [ow_u_self, if_pos rfl]
  · rw [ow_u_at e, if_neg e]
theorem tak_pos (hm : ¬ A (15 + s) p = -1) {q : Nat} (hq : q < 24) : takM A s p (21 + s) q = if q = p then -1 else if A (15 + s) q = A (15 + s) p ∧ A (21 + s) p ≤ A (21 + s) q then A (21 + s) q + (-1) else A (21 + s) q := by
  unfold takM; rw [if_neg hm]
  unfold shf
  have e15 : ∀ r, ow_u (ow_u A (15 + s) p (-1)) (21 + s) p (-1) (15 + s) r = if r = p then -1 else A (15 + s) r := fun r => by
    rw [ow_u_ne (by omega)]
    by_cases e : r = p
    · subst e; rw [ow_u_self, if_pos rfl]
    · rw [ow_u_at e, if_neg e]
  have e21 : ∀ r, ow_u (ow_u A (15 + s) p (-1)) (21 + s) p (-1) (21 + s) r = if r = p then -1 else A (21 + s) r := fun r => by
    by_cases e : r = p
    · subst e; rw [ow_u_self, if_pos rfl]
    · rw [ow_u_at e, if_neg e, ow_u_ne (by omega)]
  by_cases e : q = p
  · subst e
    rw [if_pos rfl, e15, e21, if_pos rfl, if_pos rfl, if_neg]
    intro z; exact hm z.2.2.1.symm
  · rw [if_neg e, e15, e21, if_neg e, if_neg e]
    by_cases g : A (15 + s) q = A (15 + s) p ∧ A (21 + s) p ≤ A (21 + s) q
    · rw [if_pos ⟨rfl, hq, g.1, g.2⟩, if_pos g]
    · rw [if_neg (fun z => g ⟨z.2.2.1, z.2.2.2⟩), if_neg g]
/-- and put in -/
theorem put_own {y : Int32} (q : Nat) : putM A s p o y (15 + s) q = if q = p then o else A (15 + s) q := by
  unfold putM; rw [ow_u_ne (by omega)]
  by_cases e : q = p
  · subst e; rw [ow_u_self, if_pos rfl]
  · rw [ow_u_at e, if_neg e, shf_own (by omega)]
theorem put_pos {y : Int32} {q : Nat} (hq : q < 24) : putM A s p o y (21 + s) q = if q = p then y else if A (15 + s) q = o ∧ y ≤ A (21 + s) q then A (21 + s) q + 1 else A (21 + s) q := by
  unfold putM
  by_cases e : q = p
  · subst e; rw [ow_u_self, if_pos rfl]
  · rw [ow_u_at e, if_neg e, ow_u_ne (by omega)]
    unfold shf
    by_cases g : A (15 + s) q = o ∧ y ≤ A (21 + s) q
    · rw [if_pos ⟨rfl, hq, g.1, g.2⟩, if_pos g]
    · rw [if_neg (fun z => g ⟨z.2.2.1, z.2.2.2⟩), if_neg g]
/-- the model's list, one taken out -/
theorem mlF_57 {a n j : Nat} : mlF B s p a n 57 j = if j = 24 * s + p then -1 else B 57 j := by
  unfold mlF
  by_cases e : j = 24 * s + p
  · subst e; rw [ow_u_self, if_pos rfl]
  · rw [ow_u_at e, if_neg e, mshL_ne (by decide), ow_u_ne (by decide)]
theorem mlF_58 {a n j : Nat} : mlF B s p a n 58 j = if 24 * s + a ≤ j ∧ j < 24 * s + (n - 1) then B 58 (j + 1) else B 58 j := by
  unfold mlF; rw [ow_u_ne (by decide)]; unfold mshL
  by_cases g : 24 * s + a ≤ j ∧ j < 24 * s + (n - 1)
  · rw [if_pos ⟨rfl, g.1, g.2⟩, if_pos g, ow_u_ne (by decide)]
  · rw [if_neg (fun z => g z.2), if_neg g, ow_u_ne (by decide)]
theorem mlF_59 {a n j : Nat} : mlF B s p a n 59 j = if j = s then B 59 s - 1 else B 59 j := by
  unfold mlF; rw [ow_u_ne (by decide), mshL_ne (by decide)]
  by_cases e : j = s
  · subst e; rw [ow_u_self, if_pos rfl]
  · rw [ow_u_at e, if_neg e]
theorem mjF_57 {a n j : Nat} : mjF B s p o a n 57 j = if j = 24 * s + p then o else B 57 j := by
  unfold mjF
  by_cases e : j = 24 * s + p
  · subst e; rw [ow_u_self, if_pos rfl]
  · rw [ow_u_at e, if_neg e, ow_u_ne (by decide), ow_u_ne (by decide), mshR_ne (by decide)]
theorem mjF_58 {a n j : Nat} : mjF B s p o a n 58 j = if j = 24 * s + a then nI p else if 24 * s + a < j ∧ j ≤ 24 * s + n then B 58 (j - 1) else B 58 j := by
  unfold mjF; rw [ow_u_ne (by decide), ow_u_ne (by decide)]
  by_cases e : j = 24 * s + a
  · subst e; rw [ow_u_self, if_pos rfl]
  · rw [ow_u_at e, if_neg e]; unfold mshR
    by_cases g : 24 * s + a < j ∧ j ≤ 24 * s + n
    · rw [if_pos ⟨rfl, g.1, g.2⟩, if_pos g]
    · rw [if_neg (fun z => g z.2), if_neg g]
theorem mjF_59 {a n j : Nat} : mjF B s p o a n 59 j = if j = s then B 59 s + 1 else B 59 j := by
  unfold mjF; rw [ow_u_ne (by decide)]
  by_cases e : j = s
  · subst e; rw [ow_u_self, if_pos rfl]
  · rw [ow_u_at e, if_neg e, ow_u_ne (by decide), mshR_ne (by decide)]
/-- leaving -/
theorem BN.leave (h : BN A B tc sc k) (hs : s < 5) (hp : p < 24) (hm : ¬ A (15 + s) p = -1) : LvOK B s p ∧ BN (takM A s p) (mlv B s p) tc sc k ∧
    (∃ a, a < mln B s ∧ lsB B s a = p ∧ mln (mlv B s p) s = mln B s - 1 ∧ (∀ j, j < a → lsB (mlv B s p) s j = lsB B s j) ∧ ∀ j, a ≤ j → j + 1 < mln B s → lsB (mlv B s p) s j = lsB B s (j + 1)) ∧
    ∀ s', s' < 5 → s' ≠ s → mln (mlv B s p) s' = mln B s' ∧ ∀ j, j < 24 → lsB (mlv B s p) s' j = lsB B s' j := by
  have hr := h.rg s hs
  have hn := hr.1
  obtain ⟨a, ha, ea⟩ := hr.2.2.2.1 p hp hm
  have hmp : mpo B s (nI p) (mln B s) = nI a := by rw [← ea]; exact h.mpoo hs ha
  have e59 := h.n59 hs
  have hmlv : mlv B s p = mlF B s p a (mln B s) := mlv_eq e59 hn hmp ha
  have hb : ∀ c, c ≠ 57 → c ≠ 58 → c ≠ 59 → mlv B s p c = B c := fun c h1 h2 h3 => mlv_ne h1 h2 h3
  have hta : ∀ c, c ≠ 15 + s → c ≠ 21 + s → takM A s p c = A c := fun c h1 h2 => takM_ne h1 h2
  have hl' : ∀ j, lsB (mlv B s p) s j = if a ≤ j ∧ j < mln B s - 1 then lsB B s (j + 1) else lsB B s j := fun j => by
    unfold lsB; rw [hmlv, mlF_58]
    by_cases g : a ≤ j ∧ j < mln B s - 1
    · rw [if_pos (by omega), if_pos g, show 24 * s + j + 1 = 24 * s + (j + 1) by omega]
    · rw [if_neg (by omega), if_neg g]
  have hn59 : ∀ s', mlv B s p 59 s' = if s' = s then nI (mln B s - 1) else B 59 s' := fun s' => by
    rw [hmlv, mlF_59]; split
    · rw [e59, nIpred (by omega)]
    · rfl
  have hn' : mln (mlv B s p) s = mln B s - 1 := mln_of (by rw [hn59, if_pos rfl]) (by omega)
  have hno : ∀ s', s' < 5 → s' ≠ s → mln (mlv B s p) s' = mln B s' ∧ ∀ j, j < 24 → lsB (mlv B s p) s' j = lsB B s' j := fun s' hs' hne => by
    refine ⟨by unfold mln; rw [hn59, if_neg hne], fun j hj => ?_⟩
    unfold lsB; rw [hmlv, mlF_58, if_neg (by omega)]
  have e8 : takM A s p 8 = A 8 := hta 8 (by omega) (by omega)
  have e9 : takM A s p 9 = A 9 := hta 9 (by omega) (by omega)
  have eo : ∀ s', s' < 5 → s' ≠ s → takM A s p (15 + s') = A (15 + s') ∧ takM A s p (21 + s') = A (21 + s') := fun s' hs' hne => ⟨hta _ (by omega) (by omega), hta _ (by omega) (by omega)⟩
  refine ⟨⟨a, mln B s, hn, e59, ha, hmp⟩, ⟨?_, ?_, ?_, ?_, ?_, ?_, ?_, ?_, ?_, ?_, ?_, ?_⟩, ⟨a, ha, ea, hn', fun j hj => by rw [hl', if_neg (by omega)], fun j h1 h2 => by rw [hl', if_pos (by omega)]⟩, hno⟩
  · rw [e8, hb 54 (by decide) (by decide) (by decide)]; exact h.ky
  · rw [e9, hb 55 (by decide) (by decide) (by decide)]; exact h.ty
  · rw [e8, e9]; exact h.tv
  · rw [e8, e9, hta 2 (by omega) (by omega), hb 56 (by decide) (by decide) (by decide)]
    intro q hq hk f hf hl; rw [hta (11 + f) (by omega) (by omega)]; exact h.fd q hq hk f hf hl
  · intro s' hs' q hq
    rw [hmlv, mlF_57]
    by_cases e : s' = s
    · subst e
      rw [tak_own hm]
      by_cases e2 : q = p
      · rw [if_pos e2, if_pos (by rw [e2])]
      · rw [if_neg e2, if_neg (by omega)]; exact h.ow s' hs' q hq
    · rw [if_neg (by omega), (eo s' hs' e).1]; exact h.ow s' hs' q hq
  · intro s' hs' q hq
    rw [e8, e9, hta 4 (by omega) (by omega), hta 3 (by omega) (by omega)]
    by_cases e : s' = s
    · subst e
      rw [tak_own hm]
      by_cases e2 : q = p
      · rw [if_pos e2]; exact Or.inl rfl
      · rw [if_neg e2]; exact h.wv s' hs' q hq
    · rw [(eo s' hs' e).1]; exact h.wv s' hs' q hq
  · intro j hj
    rw [hmlv, mlF_58]; split
    · exact h.ll _ (by omega)
    · exact h.ll j hj
  · intro s' hs'
    rw [hn59]; split
    · exact ⟨mln B s - 1, by omega, rfl⟩
    · exact h.ln s' hs'
  · intro s' hs'
    by_cases e : s' = s
    · subst e
      rw [hn']
      refine hr.rem ha ea (by rw [tak_own hm, if_pos rfl]) (fun q hq => by rw [tak_own hm, if_neg hq]) (by rw [tak_pos hm hp, if_pos rfl]) (fun q hq hne => by rw [tak_pos hm hq, if_neg hne]) (fun j hj => by rw [hl', if_neg (by omega)]) (fun j h1 h2 => by rw [hl', if_pos (by omega)])
    · rw [(eo s' hs' e).1, (eo s' hs' e).2, (hno s' hs' e).1]
      have hn2 := (h.rg s' hs').1
      exact (h.rg s' hs').congr (fun _ _ => rfl) (fun _ _ => rfl) (fun j hj => (hno s' hs' e).2 j (by omega))
  · rw [hta 7 (by omega) (by omega), e8, hb 48 (by decide) (by decide) (by decide)]; exact h.nk
  · rw [e8]; exact h.kd
  · rw [hta 7 (by omega) (by omega), hb 54 (by decide) (by decide) (by decide)]; exact h.ct
/-- joining at a place of the list -/
theorem BN.join (h : BN A B tc sc k) (hs : s < 5) (hsc : s < sc) (hp : p < 24) (hm : A (15 + s) p = -1) (hal : ¬ A 8 p = 0) (hty : A 9 p = A 4 s) {w : Nat} (hw : w < 24) (hwa : ¬ A 8 w = 0) (hwt : A 9 w = A 3 s) {a : Nat} (ha : a ≤ mln B s) (hmp : mpf B s (nI w) p = nI a) (hx : pbo A s p (nI w) = nI (rk (A (15 + s)) (lsB B s) (nI w) a)) : JnOK B s p (nI w) ∧ BN (jonM A s p (nI w)) (mjn B s p (nI w)) tc sc k ∧
    (mln (mjn B s p (nI w)) s = mln B s + 1 ∧ (∀ j, j < a → lsB (mjn B s p (nI w)) s j = lsB B s j) ∧ lsB (mjn B s p (nI w)) s a = p ∧ ∀ j, a ≤ j → j < mln B s → lsB (mjn B s p (nI w)) s (j + 1) = lsB B s j) ∧
    ∀ s', s' < 5 → s' ≠ s → mln (mjn B s p (nI w)) s' = mln B s' ∧ ∀ j, j < 24 → lsB (mjn B s p (nI w)) s' j = lsB B s' j := by
  have hr := h.rg s hs
  have hn := hr.full hp hm
  have e59 := h.n59 hs
  have hmjn : mjn B s p (nI w) = mjF B s p (nI w) a (mln B s) := mjn_eq e59 (by omega) hmp ha
  have hb : ∀ c, c ≠ 57 → c ≠ 58 → c ≠ 59 → mjn B s p (nI w) c = B c := fun c h1 h2 h3 => mjn_ne h1 h2 h3
  have hta : ∀ c, c ≠ 15 + s → c ≠ 21 + s → jonM A s p (nI w) c = A c := fun c h1 h2 => putM_ne h1 h2
  have hl' : ∀ j, j < 24 → lsB (mjn B s p (nI w)) s j = if j = a then p else if a < j ∧ j ≤ mln B s then lsB B s (j - 1) else lsB B s j := fun j hj => by
    unfold lsB; rw [hmjn, mjF_58]
    by_cases e : j = a
    · rw [if_pos (by rw [e]), if_pos e, nI_clamp (by omega)]
    · rw [if_neg (by omega), if_neg e]
      by_cases g : a < j ∧ j ≤ mln B s
      · rw [if_pos (by omega), if_pos g, show 24 * s + j - 1 = 24 * s + (j - 1) by omega]
      · rw [if_neg (by omega), if_neg g]
  have hn59 : ∀ s', mjn B s p (nI w) 59 s' = if s' = s then nI (mln B s + 1) else B 59 s' := fun s' => by
    rw [hmjn, mjF_59]; split
    · rw [e59, nI_succ]
    · rfl
  have hn' : mln (mjn B s p (nI w)) s = mln B s + 1 := mln_of (by rw [hn59, if_pos rfl]) (by omega)
  have hno : ∀ s', s' < 5 → s' ≠ s → mln (mjn B s p (nI w)) s' = mln B s' ∧ ∀ j, j < 24 → lsB (mjn B s p (nI w)) s' j = lsB B s' j := fun s' hs' hne => by
    refine ⟨by unfold mln; rw [hn59, if_neg hne], fun j hj => ?_⟩
    unfold lsB; rw [hmjn, mjF_58, if_neg (by omega), if_neg (by omega)]
  have e8 : jonM A s p (nI w) 8 = A 8 := hta 8 (by omega) (by omega)
  have e9 : jonM A s p (nI w) 9 = A 9 := hta 9 (by omega) (by omega)
  have eo : ∀ s', s' < 5 → s' ≠ s → jonM A s p (nI w) (15 + s') = A (15 + s') ∧ jonM A s p (nI w) (21 + s') = A (21 + s') := fun s' hs' hne => ⟨hta _ (by omega) (by omega), hta _ (by omega) (by omega)⟩
  have l1 : ∀ j, j < a → lsB (mjn B s p (nI w)) s j = lsB B s j := fun j hj => by rw [hl' j (by omega), if_neg (by omega), if_neg (by omega)]
  have l2 : lsB (mjn B s p (nI w)) s a = p := by rw [hl' a (by omega), if_pos rfl]
  have l3 : ∀ j, a ≤ j → j < mln B s → lsB (mjn B s p (nI w)) s (j + 1) = lsB B s j := fun j h1 h2 => by rw [hl' (j + 1) (by omega), if_neg (by omega), if_pos (by omega)]; rfl
  refine ⟨⟨a, mln B s, hn, e59, ha, hmp⟩, ⟨?_, ?_, ?_, ?_, ?_, ?_, ?_, ?_, ?_, ?_, ?_, ?_⟩, ⟨hn', l1, l2, l3⟩, hno⟩
  · rw [e8, hb 54 (by decide) (by decide) (by decide)]; exact h.ky
  · rw [e9, hb 55 (by decide) (by decide) (by decide)]; exact h.ty
  · rw [e8, e9]; exact h.tv
  · rw [e8, e9, hta 2 (by omega) (by omega), hb 56 (by decide) (by decide) (by decide)]
    intro q hq hk f hf hl; rw [hta (11 + f) (by omega) (by omega)]; exact h.fd q hq hk f hf hl
  · intro s' hs' q hq
    rw [hmjn, mjF_57]
    by_cases e : s' = s
    · subst e
      unfold jonM; rw [put_own]
      by_cases e2 : q = p
      · rw [if_pos e2, if_pos (by rw [e2])]
      · rw [if_neg e2, if_neg (by omega)]; exact h.ow s' hs' q hq
    · rw [if_neg (by omega), (eo s' hs' e).1]; exact h.ow s' hs' q hq
  · intro s' hs' q hq
    rw [e8, e9, hta 4 (by omega) (by omega), hta 3 (by omega) (by omega)]
    by_cases e : s' = s
    · subst e
      unfold jonM; rw [put_own]
      by_cases e2 : q = p
      · rw [if_pos e2, e2]; exact Or.inr ⟨hsc, hal, hty, w, hw, rfl, hwa, hwt⟩
      · rw [if_neg e2]; exact h.wv s' hs' q hq
    · rw [(eo s' hs' e).1]; exact h.wv s' hs' q hq
  · intro j hj
    rw [hmjn, mjF_58]; split
    · exact ⟨p, hp, rfl⟩
    · split
      · exact h.ll _ (by omega)
      · exact h.ll j hj
  · intro s' hs'
    rw [hn59]; split
    · exact ⟨mln B s + 1, by omega, rfl⟩
    · exact h.ln s' hs'
  · intro s' hs'
    by_cases e : s' = s
    · subst e
      rw [hn']
      unfold jonM
      refine hr.ins (x := pbo A s' p (nI w)) hp hm (nI_m1 (by omega)) ha hx (by rw [put_own, if_pos rfl]) (fun q hq => by rw [put_own, if_neg hq]) (by rw [put_pos hp, if_pos rfl]) (fun q hq hne => by rw [put_pos hq, if_neg hne]) l1 l2 l3
    · rw [(eo s' hs' e).1, (eo s' hs' e).2, (hno s' hs' e).1]
      have hn2 := (h.rg s' hs').1
      exact (h.rg s' hs').congr (fun _ _ => rfl) (fun _ _ => rfl) (fun j hj => (hno s' hs' e).2 j (by omega))
  · rw [hta 7 (by omega) (by omega), e8, hb 48 (by decide) (by decide) (by decide)]; exact h.nk
  · rw [e8]; exact h.kd
  · rw [hta 7 (by omega) (by omega), hb 54 (by decide) (by decide) (by decide)]; exact h.ct
end Ops
