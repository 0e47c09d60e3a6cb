/-! rings, without memory: owners and positions by place, and the list of the members -/
theorem cn_congr {p q : Nat → Bool} : ∀ n, (∀ j, j < n → p j = q j) → cn p n = cn q n := by
  intro n
  induction n with
  | zero => intro _; rfl
  | succ n ih =>
    intro h
    simp only [cn]
    rw [ih (fun j hj => h j (by omega)), h n (by omega)]
theorem cn_up (p : Nat → Bool) {i j : Nat} (h : i ≤ j) : cn p i ≤ cn p j := by
  obtain ⟨d, rfl⟩ : ∃ d, j = i + d := ⟨j - i, by omega⟩
  clear h
  induction d with
  | zero => exact Nat.le_refl _
  | succ d ih => rw [show i + (d + 1) = (i + d) + 1 by omega]; simp only [cn]; omega
theorem cn_s1 {p : Nat → Bool} {i : Nat} (h : p i = true) : cn p (i + 1) = cn p i + 1 := by simp only [cn]; rw [if_pos h]
theorem cn_s0 {p : Nat → Bool} {i : Nat} (h : p i = false) : cn p (i + 1) = cn p i := by simp only [cn]; rw [if_neg (by simp [h])]; rfl
theorem cn_lt' {p : Nat → Bool} {i j : Nat} (h : p i = true) (hij : i < j) : cn p i + 1 ≤ cn p j := by
  rw [← cn_s1 h]; exact cn_up p hij
theorem cn_inj {p : Nat → Bool} {i j : Nat} (hi : p i = true) (hj : p j = true) (h : cn p i = cn p j) : i = j := by
  rcases Nat.lt_trichotomy i j with h1 | h1 | h1
  · have := cn_lt' hi h1; omega
  · exact h1
  · have := cn_lt' hj h1; omega
theorem cn_ex {p : Nat → Bool} {y : Nat} : ∀ n, y < cn p n → ∃ k, k < n ∧ p k = true ∧ cn p k = y := by
  intro n
  induction n with
  | zero => intro h; simp [cn] at h
  | succ n ih =>
    intro h
    by_cases e : p n = true
    · rw [cn_s1 e] at h
      by_cases h2 : y < cn p n
      · obtain ⟨k, h3, h4, h5⟩ := ih h2; exact ⟨k, by omega, h4, h5⟩
      · exact ⟨n, by omega, e, by omega⟩
    · rw [cn_s0 (by simpa using e)] at h
      obtain ⟨k, h3, h4, h5⟩ := ih h; exact ⟨k, by omega, h4, h5⟩
theorem cn_pos {p : Nat → Bool} {n : Nat} : 0 < cn p n ↔ ∃ k, k < n ∧ p k = true := by
  constructor
  · intro h; obtain ⟨k, h1, h2, -⟩ := cn_ex n h; exact ⟨k, h1, h2⟩
  · intro ⟨k, h1, h2⟩; have := cn_lt' h2 h1; omega
theorem cn_zero {p : Nat → Bool} {n : Nat} (h : ∀ k, k < n → p k = false) : cn p n = 0 := by
  rcases Nat.eq_zero_or_pos (cn p n) with e | e
  · exact e
  · obtain ⟨k, h1, h2⟩ := cn_pos.mp e; rw [h k h1] at h2; cases h2
/-- one more -/
theorem cn_add {p q : Nat → Bool} {x : Nat} : ∀ n, x < n → p x = false → q x = true → (∀ j, j < n → j ≠ x → q j = p j) → cn q n = cn p n + 1 := by
  intro n
  induction n with
  | zero => intro h; omega
  | succ n ih =>
    intro hx h1 h2 h3
    by_cases e : x = n
    · subst e
      rw [cn_s0 h1, cn_s1 h2, cn_congr x (fun j hj => h3 j (by omega) (by omega))]
    · have := ih (by omega) h1 h2 (fun j hj hne => h3 j (by omega) hne)
      simp only [cn]
      rw [this, h3 n (by omega) (Ne.symm e)]
      omega
/-- how many of the ring o are among the first k of the list -/
def rk (own : Nat → Int32) (ls : Nat → Nat) (o : Int32) (k : Nat) : Nat := cn (fun j => own (ls j) == o) k
def RK (own pos : Nat → Int32) (ls : Nat → Nat) (n : Nat) : Prop :=
  n ≤ 24 ∧ (∀ k, k < n → ls k < 24 ∧ ¬ own (ls k) = -1) ∧ (∀ i j, i < n → j < n → ls i = ls j → i = j) ∧ (∀ p, p < 24 → ¬ own p = -1 → ∃ k, k < n ∧ ls k = p) ∧
  (∀ k, k < n → pos (ls k) = nI (rk own ls (own (ls k)) k)) ∧ ∀ p, p < 24 → own p = -1 → pos p = -1
section Ring
variable {own own' pos pos' : Nat → Int32} {ls ls' : Nat → Nat} {n a p : Nat} {o x : Int32}
theorem rk_s1 (h : own (ls a) = o) : rk own ls o (a + 1) = rk own ls o a + 1 := cn_s1 (by simpa using h)
theorem rk_s0 (h : ¬ own (ls a) = o) : rk own ls o (a + 1) = rk own ls o a := cn_s0 (by simpa using h)
theorem rk_le (h : a ≤ n) : rk own ls o a ≤ rk own ls o n := cn_up _ h
theorem rk_24 (h : n ≤ 24) : rk own ls o n ≤ 24 := Nat.le_trans (cn_le _ n) h
/-- the places of a kind, counted over the list -/
theorem RK.count (h : RK own pos ls n) {q : Nat → Bool} (hq : ∀ r, r < 24 → q r = true → ¬ own r = -1) : cn q 24 = cn (fun j => q (ls j)) n := by
  obtain ⟨h1, h2, h3, h4, -, -⟩ := h
  have key : ∀ m, m ≤ n → cn (fun r => q r && decide (∃ j, j < m ∧ ls j = r)) 24 = cn (fun j => q (ls j)) m := by
    intro m
    induction m with
    | zero =>
      intro _
      exact cn_zero (fun k _ => by
        have : ¬ ∃ j, j < 0 ∧ ls j = k := fun ⟨j, hj, _⟩ => by omega
        simp [this])
    | succ m ih =>
      intro hm
      have ih := ih (by omega)
      by_cases e : q (ls m) = true
      · rw [cn_s1 (p := fun j => q (ls j)) e, ← ih]
        refine cn_add (x := ls m) 24 (h2 m (by omega)).1 ?_ ?_ ?_
        · have : ¬ ∃ j, j < m ∧ ls j = ls m := fun ⟨j, hj, he⟩ => by have := h3 j m (by omega) (by omega) he; omega
          simp [this]
        · have : ∃ j, j < m + 1 ∧ ls j = ls m := ⟨m, by omega, rfl⟩
          simp [e, this]
        · intro r hr hne
          have : (∃ j, j < m + 1 ∧ ls j = r) ↔ ∃ j, j < m ∧ ls j = r := by
            constructor
            · intro ⟨j, hj, he⟩
              by_cases e2 : j = m
              · subst e2; exact absurd he.symm hne
              · exact ⟨j, by omega, he⟩
            · intro ⟨j, hj, he⟩; exact ⟨j, by omega, he⟩
          simp [this]
      · rw [cn_s0 (p := fun j => q (ls j)) (by simpa using e), ← ih]
        refine cn_congr 24 (fun r hr => ?_)
        by_cases e3 : r = ls m
        · subst e3; simp [e]
        · have : (∃ j, j < m + 1 ∧ ls j = r) ↔ ∃ j, j < m ∧ ls j = r := by
            constructor
            · intro ⟨j, hj, he⟩
              by_cases e2 : j = m
              · subst e2; exact absurd he.symm e3
              · exact ⟨j, by omega, he⟩
            · intro ⟨j, hj, he⟩; exact ⟨j, by omega, he⟩
          simp [this]
  rw [← key n (Nat.le_refl _)]
  refine cn_congr 24 (fun r hr => ?_)
  by_cases e : q r = true
  · have := h4 r hr (hq r hr e)
    simp [e, this]
  · simp [e]
theorem RK.size (h : RK own pos ls n) (ho : ¬ o = -1) : cn (fun r => own r == o) 24 = rk own ls o n :=
  h.count (fun r _ hr => by
    have : own r = o := by simpa using hr
    rw [this]; exact ho)
theorem RK.at (h : RK own pos ls n) (ha : a < n) (he : own (ls a) = o) : pos (ls a) = nI (rk own ls o a) := by
  rw [← he]; exact h.2.2.2.2.1 a ha
theorem RK.uniq (h : RK own pos ls n) (ho : ¬ o = -1) {q : Nat} (hq : q < 24) (he : own q = o) (ha : a < n) (hea : own (ls a) = o) (hp : pos q = nI (rk own ls o a)) : q = ls a := by
  obtain ⟨k, hk, ek⟩ := h.2.2.2.1 q hq (by rw [he]; exact ho)
  subst ek
  have h24 := h.1
  have h1 := h.at hk he
  rw [hp] at h1
  have h2 : rk own ls o a = rk own ls o k := (nI_eq (by have := rk_24 (own := own) (ls := ls) (o := o) (n := a) (by omega); omega) (by have := rk_24 (own := own) (ls := ls) (o := o) (n := k) (by omega); omega)).mp h1
  have := cn_inj (p := fun j => own (ls j) == o) (by simpa using hea) (by simpa using he) h2
  rw [this]
theorem RK.full (h : RK own pos ls n) (hp : p < 24) (h1 : own p = -1) : n < 24 := by
  have h2 := h.count (q := fun r => decide (¬ own r = -1)) (fun r _ hr => by simpa using hr)
  have h3 : cn (fun j => decide (¬ own (ls j) = -1)) n = n := by
    have : ∀ m, m ≤ n → cn (fun j => decide (¬ own (ls j) = -1)) m = m := by
      intro m
      induction m with
      | zero => intro _; rfl
      | succ m ih => intro hm; rw [cn_s1 (by simpa using (h.2.1 m (by omega)).2), ih (by omega)]
    exact this n (Nat.le_refl _)
  have h4 : cn (fun r => decide (¬ own r = -1)) 24 < 24 := by
    have h5 := cn_lt (p := fun r => decide (¬ own r = -1)) (q := fun _ => true) (j := p) 24 (fun _ _ => rfl) hp (by simp [h1]) rfl
    exact Nat.lt_of_lt_of_le h5 (cn_le _ 24)
  have h6 : cn (fun r => decide (¬ own r = -1)) 24 = n := h2.trans h3
  omega
/-- a list with p put in at a -/
theorem rk_ins_lo (hp : ∀ j, j < n → ¬ ls j = p) (ha : a ≤ n) (e1 : ∀ q, q ≠ p → own' q = own q) (l1 : ∀ k, k < a → ls' k = ls k) {o' : Int32} {k : Nat} (hk : k ≤ a) : rk own' ls' o' k = rk own ls o' k :=
  cn_congr k (fun j hj => by rw [l1 j (by omega), e1 _ (hp j (by omega))])
theorem rk_ins_hi (hp : ∀ j, j < n → ¬ ls j = p) (ha : a ≤ n) (e0 : own' p = o) (e1 : ∀ q, q ≠ p → own' q = own q) (l1 : ∀ k, k < a → ls' k = ls k) (l2 : ls' a = p) (l3 : ∀ k, a ≤ k → k < n → ls' (k + 1) = ls k) {o' : Int32} {k : Nat} (hk : a ≤ k) (hkn : k ≤ n) : rk own' ls' o' (k + 1) = rk own ls o' k + (if o' = o then 1 else 0) := by
  obtain ⟨d, rfl⟩ : ∃ d, k = a + d := ⟨k - a, by omega⟩
  clear hk
  induction d with
  | zero =>
    have h := rk_ins_lo (own := own) (own' := own') (o' := o') hp ha e1 l1 (Nat.le_refl a)
    by_cases e : o' = o
    · rw [rk_s1 (by rw [l2, e0, e]), show a + 0 = a from rfl, h, if_pos e]
    · rw [rk_s0 (by rw [l2, e0]; exact fun q => e q.symm), show a + 0 = a from rfl, h, if_neg e]; rfl
  | succ d ih =>
    have ih := ih (by omega)
    have hl : ls' (a + d + 1) = ls (a + d) := l3 _ (by omega) (by omega)
    have ho : own' (ls' (a + d + 1)) = own (ls (a + d)) := by rw [hl, e1 _ (hp _ (by omega))]
    rw [show a + (d + 1) = (a + d) + 1 by omega]
    by_cases e : own (ls (a + d)) = o'
    · rw [rk_s1 (by rw [ho]; exact e), ih, rk_s1 e]; omega
    · rw [rk_s0 (by rw [ho]; exact e), ih, rk_s0 e]
theorem RK.ins (h : RK own pos ls n) (hp : p < 24) (hm : own p = -1) (ho : ¬ o = -1) (ha : a ≤ n) (hx : x = nI (rk own ls o a)) (e0 : own' p = o) (e1 : ∀ q, q ≠ p → own' q = own q) (p0 : pos' p = x) (p1 : ∀ q, q < 24 → q ≠ p → pos' q = if own q = o ∧ x ≤ pos q then pos q + 1 else pos q)
    (l1 : ∀ k, k < a → ls' k = ls k) (l2 : ls' a = p) (l3 : ∀ k, a ≤ k → k < n → ls' (k + 1) = ls k) : RK own' pos' ls' (n + 1) := by
  have hn := h.full hp hm
  obtain ⟨h1, h2, h3, h4, h5, h6⟩ := h
  have hnp : ∀ j, j < n → ¬ ls j = p := fun j hj e => (h2 j hj).2 (by rw [e]; exact hm)
  have hr24 : ∀ (o' : Int32) k, k ≤ n → rk own ls o' k < 2 ^ 31 := fun o' k hk => by
    have := rk_24 (own := own) (ls := ls) (o := o') (n := k) (by omega); omega
  -- a place of the new list: below a, at a, behind a
  have hcase : ∀ k, k < n + 1 → (k < a ∧ ls' k = ls k) ∨ (k = a ∧ ls' k = p) ∨ (∃ j, k = j + 1 ∧ a ≤ j ∧ j < n ∧ ls' k = ls j) := by
    intro k hk
    rcases Nat.lt_trichotomy k a with h | h | h
    · exact Or.inl ⟨h, l1 k h⟩
    · subst h; exact Or.inr (Or.inl ⟨rfl, l2⟩)
    · obtain ⟨j, rfl⟩ : ∃ j, k = j + 1 := ⟨k - 1, by omega⟩
      exact Or.inr (Or.inr ⟨j, rfl, by omega, by omega, l3 j (by omega) (by omega)⟩)
  refine ⟨by omega, ?_, ?_, ?_, ?_, ?_⟩
  · intro k hk
    rcases hcase k hk with ⟨h, e⟩ | ⟨h, e⟩ | ⟨j, h, hj1, hj2, e⟩
    · rw [e, e1 _ (hnp k (by omega))]; exact h2 k (by omega)
    · rw [e, e0]; exact ⟨hp, ho⟩
    · rw [e, e1 _ (hnp j hj2)]; exact h2 j hj2
  · intro i j hi hj he
    rcases hcase i hi with ⟨hi1, ei⟩ | ⟨hi1, ei⟩ | ⟨i', hi1, hi2, hi3, ei⟩ <;> rcases hcase j hj with ⟨hj1, ej⟩ | ⟨hj1, ej⟩ | ⟨j', hj1, hj2, hj3, ej⟩ <;> rw [ei, ej] at he
    · exact h3 i j (by omega) (by omega) he
    · exact absurd he (hnp i (by omega))
    · have := h3 i j' (by omega) (by omega) he; omega
    · exact absurd he.symm (hnp j (by omega))
    · omega
    · exact absurd he.symm (hnp j' (by omega))
    · have := h3 i' j (by omega) (by omega) he; omega
    · exact absurd he (hnp i' (by omega))
    · have := h3 i' j' (by omega) (by omega) he; omega
  · intro q hq hne
    by_cases e : q = p
    · subst e; exact ⟨a, by omega, l2⟩
    · rw [e1 q e] at hne
      obtain ⟨k, hk, ek⟩ := h4 q hq hne
      by_cases h : k < a
      · exact ⟨k, by omega, by rw [l1 k h, ek]⟩
      · exact ⟨k + 1, by omega, by rw [l3 k (by omega) hk, ek]⟩
  · intro k hk
    rcases hcase k hk with ⟨h, e⟩ | ⟨h, e⟩ | ⟨j, h, hj1, hj2, e⟩
    · rw [e, e1 _ (hnp k (by omega)), p1 _ (h2 k (by omega)).1 (hnp k (by omega)), h5 k (by omega), rk_ins_lo hnp ha e1 l1 (by omega)]
      rw [if_neg]
      intro ⟨q1, q2⟩
      rw [q1, hx] at q2
      have q3 := (nI_leI (hr24 o a ha) (hr24 o k (by omega))).mp q2
      have := cn_lt' (p := fun j => own (ls j) == o) (by simpa using q1) h
      unfold rk at q3
      omega
    · rw [e, e0, p0, hx, h, rk_ins_lo hnp ha e1 l1 (Nat.le_refl _)]
    · rw [e, e1 _ (hnp j hj2), p1 _ (h2 j hj2).1 (hnp j hj2), h5 j hj2, h, rk_ins_hi hnp ha e0 e1 l1 l2 l3 hj1 (by omega)]
      by_cases q1 : own (ls j) = o
      · rw [if_pos ⟨q1, by
          rw [hx, q1]; exact (nI_leI (hr24 o a ha) (hr24 o j (by omega))).mpr (rk_le hj1)⟩, if_pos q1, nI_succ]
      · rw [if_neg (fun q => q1 q.1), if_neg q1]; rfl
  · intro q hq he
    by_cases e : q = p
    · subst e; rw [e0] at he; exact absurd he ho
    · rw [e1 q e] at he
      rw [p1 q hq e, if_neg (fun z => ho (by rw [← z.1]; exact he)), h6 q hq he]
/-- a list with what is at a taken out -/
theorem rk_rem_lo (hp : ∀ j, j < n → j ≠ a → ¬ ls j = p) (ha : a < n) (e1 : ∀ q, q ≠ p → own' q = own q) (l1 : ∀ k, k < a → ls' k = ls k) {o' : Int32} {k : Nat} (hk : k ≤ a) : rk own' ls' o' k = rk own ls o' k :=
  cn_congr k (fun j hj => by rw [l1 j (by omega), e1 _ (hp j (by omega) (by omega))])
theorem rk_rem_hi (hp : ∀ j, j < n → j ≠ a → ¬ ls j = p) (ha : a < n) (hpa : ls a = p) (e1 : ∀ q, q ≠ p → own' q = own q) (l1 : ∀ k, k < a → ls' k = ls k) (l3 : ∀ k, a ≤ k → k + 1 < n → ls' k = ls (k + 1)) {o' : Int32} {k : Nat} (hk : a ≤ k) (hkn : k + 1 ≤ n) : rk own ls o' (k + 1) = rk own' ls' o' k + (if o' = own p then 1 else 0) := by
  obtain ⟨d, rfl⟩ : ∃ d, k = a + d := ⟨k - a, by omega⟩
  clear hk
  induction d with
  | zero =>
    have h := rk_rem_lo (own := own) (own' := own') (o' := o') hp ha e1 l1 (Nat.le_refl a)
    by_cases e : o' = own p
    · rw [show a + 0 = a from rfl, rk_s1 (by rw [hpa]; exact e.symm), h, if_pos e]
    · rw [show a + 0 = a from rfl, rk_s0 (by rw [hpa]; exact fun q => e q.symm), h, if_neg e]; rfl
  | succ d ih =>
    have ih := ih (by omega)
    have hl : ls' (a + d) = ls (a + d + 1) := l3 _ (by omega) (by omega)
    have ho : own' (ls' (a + d)) = own (ls (a + d + 1)) := by rw [hl, e1 _ (hp _ (by omega) (by omega))]
    rw [show a + (d + 1) = (a + d) + 1 by omega]
    by_cases e : own (ls (a + d + 1)) = o'
    · rw [rk_s1 e, ih, rk_s1 (a := a + d) (by rw [ho]; exact e)]; omega
    · rw [rk_s0 e, ih, rk_s0 (a := a + d) (by rw [ho]; exact e)]
theorem RK.rem (h : RK own pos ls n) (ha : a < n) (hpa : ls a = p) (e0 : own' p = -1) (e1 : ∀ q, q ≠ p → own' q = own q) (p0 : pos' p = -1) (p1 : ∀ q, q < 24 → q ≠ p → pos' q = if own q = own p ∧ pos p ≤ pos q then pos q + (-1) else pos q)
    (l1 : ∀ k, k < a → ls' k = ls k) (l3 : ∀ k, a ≤ k → k + 1 < n → ls' k = ls (k + 1)) : RK own' pos' ls' (n - 1) := by
  obtain ⟨h1, h2, h3, h4, h5, h6⟩ := h
  have hpp : p < 24 ∧ ¬ own p = -1 := by rw [← hpa]; exact h2 a ha
  have hnp : ∀ j, j < n → j ≠ a → ¬ ls j = p := fun j hj hne e => hne (h3 j a hj ha (by rw [e, hpa]))
  have hr24 : ∀ (o' : Int32) k, k ≤ n → rk own ls o' k < 2 ^ 31 := fun o' k hk => by
    have := rk_24 (own := own) (ls := ls) (o := o') (n := k) (by omega); omega
  have hpos : pos p = nI (rk own ls (own p) a) := by
    have := h5 a ha
    rw [hpa] at this; exact this
  have hcase : ∀ k, k < n - 1 → (k < a ∧ ls' k = ls k) ∨ (a ≤ k ∧ ls' k = ls (k + 1)) := by
    intro k hk
    by_cases h : k < a
    · exact Or.inl ⟨h, l1 k h⟩
    · exact Or.inr ⟨by omega, l3 k (by omega) (by omega)⟩
  refine ⟨by omega, ?_, ?_, ?_, ?_, ?_⟩
  · intro k hk
    rcases hcase k hk with ⟨h, e⟩ | ⟨h, e⟩
    · rw [e, e1 _ (hnp k (by omega) (by omega))]; exact h2 k (by omega)
    · rw [e, e1 _ (hnp (k + 1) (by omega) (by omega))]; exact h2 (k + 1) (by omega)
  · intro i j hi hj he
    rcases hcase i hi with ⟨hi1, ei⟩ | ⟨hi1, ei⟩ <;> rcases hcase j hj with ⟨hj1, ej⟩ | ⟨hj1, ej⟩ <;> rw [ei, ej] at he
    · exact h3 i j (by omega) (by omega) he
    · have := h3 i (j + 1) (by omega) (by omega) he; omega
    · have := h3 (i + 1) j (by omega) (by omega) he; omega
    · have := h3 (i + 1) (j + 1) (by omega) (by omega) he; omega
  · intro q hq hne
    by_cases e : q = p
    · subst e; exact absurd e0 hne
    · rw [e1 q e] at hne
      obtain ⟨k, hk, ek⟩ := h4 q hq hne
      have hka : k ≠ a := fun z => e (by rw [← ek, z, hpa])
      by_cases h : k < a
      · exact ⟨k, by omega, by rw [l1 k h, ek]⟩
      · obtain ⟨j, rfl⟩ : ∃ j, k = j + 1 := ⟨k - 1, by omega⟩
        exact ⟨j, by omega, by rw [l3 j (by omega) hk, ek]⟩
  · intro k hk
    rcases hcase k hk with ⟨h, e⟩ | ⟨h, e⟩
    · have hk1 := h2 k (by omega)
      rw [e, e1 _ (hnp k (by omega) (by omega)), p1 _ hk1.1 (hnp k (by omega) (by omega)), h5 k (by omega), rk_rem_lo hnp ha e1 l1 (by omega)]
      rw [if_neg]
      intro ⟨q1, q2⟩
      rw [q1, hpos] at q2
      have q3 := (nI_leI (hr24 (own p) a (by omega)) (hr24 (own p) k (by omega))).mp q2
      have := cn_lt' (p := fun j => own (ls j) == own p) (by simpa using q1) h
      unfold rk at q3
      omega
    · have hk1 := h2 (k + 1) (by omega)
      rw [e, e1 _ (hnp (k + 1) (by omega) (by omega)), p1 _ hk1.1 (hnp (k + 1) (by omega) (by omega)), h5 (k + 1) (by omega)]
      have hr := rk_rem_hi (o' := own (ls (k + 1))) hnp ha hpa e1 l1 l3 h (by omega)
      rw [hr]
      by_cases q1 : own (ls (k + 1)) = own p
      · rw [if_pos q1] at hr
        have hle : pos p ≤ nI (rk own' ls' (own (ls (k + 1))) k + 1) := by
          rw [hpos, ← hr, q1]
          exact (nI_leI (hr24 (own p) a (by omega)) (hr24 (own p) (k + 1) (by omega))).mpr (rk_le (by omega))
        rw [if_pos q1, if_pos ⟨q1, hle⟩, pv_dn']
        rfl
      · rw [if_neg q1, if_neg (fun z => q1 z.1)]; rfl
  · intro q hq he
    by_cases e : q = p
    · subst e; exact p0
    · rw [e1 q e] at he
      rw [p1 q hq e, if_neg (fun z => hpp.2 (by rw [← z.1]; exact he)), h6 q hq he]
end Ring
