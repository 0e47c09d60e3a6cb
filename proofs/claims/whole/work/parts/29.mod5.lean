/-! the model: erase -/
/-- the memory with another row of those that go -/
def gM (M : Nat → Nat → Int32) (G : Nat → Int32) : Nat → Nat → Int32 := fun c => if c = 62 then G else M c
theorem gM_ne {M : Nat → Nat → Int32} {G : Nat → Int32} {c : Nat} (h : c ≠ 62) : gM M G c = M c := by unfold gM; rw [if_neg h]
theorem gM_at {M : Nat → Nat → Int32} {G : Nat → Int32} : gM M G 62 = G := by unfold gM; rw [if_pos rfl]
theorem gM_self {M : Nat → Nat → Int32} : gM M (M 62) = M := by
  funext c; by_cases h : c = 62
  · subst h; rw [gM_at]
  · rw [gM_ne h]
theorem gM_up {M : Nat → Nat → Int32} {G : Nat → Int32} {j : Nat} {x : Int32} : ow_u (gM M G) 62 j x = gM M (upd G j x) := by
  funext c; by_cases h : c = 62
  · subst h; rw [ow_u_eq, gM_at, gM_at]
  · rw [ow_u_ne h, gM_ne h, gM_ne h]
theorem MI.gg {M : Nat → Nat → Int32} {tc sc : Nat} (h : MI M tc sc) (G : Nat → Int32) : MI (gM M G) tc sc :=
  h.same ⟨by rw [gM_ne (by decide)], by rw [gM_ne (by decide)], by rw [gM_ne (by decide)]⟩ (fun c h1 h2 h3 h4 => gM_ne (by omega))
/-- the members of a set go with their owners -/
def TKm (M : Nat → Nat → Int32) (s : Nat) (m : Int32) : Prop := m = 3 ∨ M 53 s - M 53 s / 3 * 3 < m
/-- P is closed at the member r of the set s -/
def CLm (M : Nat → Nat → Int32) (m : Int32) (P : Nat → Prop) (s r : Nat) : Prop := 0 ≤ M 57 (24 * s + r) → P (M 57 (24 * s + r)).toNatClampNeg → TKm M s m → P r
def GG (M : Nat → Nat → Int32) (sc : Nat) (m : Int32) (G : Nat → Int32) : Prop := (∀ p, p < 24 → G p = 0 ∨ G p = 1) ∧ (∀ p, p < 24 → M 62 p = 1 → G p = 1) ∧
  ∀ P : Nat → Prop, (∀ p, p < 24 → M 62 p = 1 → P p) → (∀ s, s < sc → ∀ r, r < 24 → CLm M m P s r) → ∀ p, p < 24 → G p = 1 → P p
theorem cn_lt {p q : Nat → Bool} {j : Nat} : ∀ n, (∀ k, p k = true → q k = true) → j < n → p j = false → q j = true → cn p n < cn q n := by
  have hle : ∀ n, (∀ k, p k = true → q k = true) → cn p n ≤ cn q n := by
    intro n h
    induction n with
    | zero => exact Nat.le_refl _
    | succ n ih =>
      simp only [cn]
      have := h n
      by_cases e : p n = true
      · rw [if_pos e, if_pos (this e)]; omega
      · rw [if_neg e]; split <;> omega
  intro n
  induction n with
  | zero => intro _ h; omega
  | succ n ih =>
    intro h hj h1 h2
    simp only [cn]
    by_cases e : j = n
    · subst e; rw [if_neg (by simp [h1]), if_pos h2]; have := hle j h; omega
    · have h3 := ih h (by omega) h1 h2
      by_cases e2 : p n = true
      · rw [if_pos e2, if_pos (h n e2)]; omega
      · rw [if_neg e2]; split <;> omega
def cG (G : Nat → Int32) : Nat := cn (fun p => G p == 1) 24
theorem cG_le (G : Nat → Int32) : cG G ≤ 24 := cn_le _ 24
theorem cG_up {G : Nat → Int32} {j : Nat} (hj : j < 24) (h : ¬ G j = 1) : cG G < cG (upd G j 1) := by
  refine cn_lt (j := j) 24 (fun k hk => ?_) hj (by simpa using h) (by simp [upd])
  by_cases e : k = j
  · subst e; simp [upd]
  · simpa [upd, e] using hk
/-- what a pass has done so far: the sets below i, of the set i the members below j -/
def PSS (M : Nat → Nat → Int32) (sc : Nat) (m : Int32) (G0 G : Nat → Int32) (mo : Int32) (i j : Nat) : Prop :=
  GG M sc m G ∧ ((mo = 1 ∧ cG G0 < cG G) ∨ (mo = 0 ∧ G = G0 ∧ ∀ s r, r < 24 → (s < i ∨ (s = i ∧ r < j)) → CLm M m (fun p => G0 p = 1) s r))
def STR (M : Nat → Nat → Int32) (s r : Nat) : Prop := 0 ≤ M 57 (24 * s + r) ∧ ¬ M 62 (M 57 (24 * s + r)).toNatClampNeg = 0 ∧ M 62 r = 0 ∧ M 53 s - M 53 s / 3 * 3 = 1
def STI (M : Nat → Nat → Int32) (sc : Nat) (fl : Int32) (i j : Nat) : Prop := (fl = 1 ∧ ∃ s r, s < sc ∧ r < 24 ∧ STR M s r) ∨ (fl = 0 ∧ ∀ s r, r < 24 → (s < i ∨ (s = i ∧ r < j)) → ¬ STR M s r)
/-- from k down in a ring: the first that doesn't go -/
def mhw (M : Nat → Nat → Int32) (s : Nat) (ow : Int32) : Nat → Int32
  | 0 => -1
  | k + 1 => if M 57 (24 * s + (M 58 (24 * s + k)).toNatClampNeg) = ow ∧ M 62 (M 58 (24 * s + k)).toNatClampNeg = 0 then M 58 (24 * s + k) else mhw M s ow k
def mhe (M : Nat → Nat → Int32) (s : Nat) : Int32 :=
  if M 61 s < 0 ∨ M 55 (M 61 s).toNatClampNeg = M 50 s then (if 0 ≤ M 61 s ∧ ¬ M 62 (M 61 s).toNatClampNeg = 0 then -1 else M 61 s)
  else if ¬ M 62 (M 57 (24 * s + (M 61 s).toNatClampNeg)).toNatClampNeg = 0 then -1
  else if mhw M s (M 57 (24 * s + (M 61 s).toNatClampNeg)) ((mpo M s (M 61 s) (mln M s)).toNatClampNeg + 1) < 0 then M 57 (24 * s + (M 61 s).toNatClampNeg) else mhw M s (M 57 (24 * s + (M 61 s).toNatClampNeg)) ((mpo M s (M 61 s) (mln M s)).toNatClampNeg + 1)
def HOK (M : Nat → Nat → Int32) (s : Nat) : Prop := LIJ M s ∧ (¬ M 61 s < 0 → ¬ M 55 (M 61 s).toNatClampNeg = M 50 s → 0 ≤ M 57 (24 * s + (M 61 s).toNatClampNeg) ∧ ∃ c, c < mln M s ∧ M 58 (24 * s + c) = M 61 s)
theorem mnb_sp (M : Nat → Nat → Int32) (s : Nat) (ow : Int32) : ∀ k, (mnb M s ow k = -1 ∧ ∀ j, j < k → ¬ M 57 (24 * s + (M 58 (24 * s + j)).toNatClampNeg) = ow) ∨ (∃ j, j < k ∧ mnb M s ow k = M 58 (24 * s + j) ∧ M 57 (24 * s + (M 58 (24 * s + j)).toNatClampNeg) = ow ∧ ∀ i, j < i → i < k → ¬ M 57 (24 * s + (M 58 (24 * s + i)).toNatClampNeg) = ow) := by
  intro k
  induction k with
  | zero => exact Or.inl ⟨rfl, fun j h2 => by omega⟩
  | succ k ih =>
    simp only [mnb]
    split
    · rename_i h; exact Or.inr ⟨k, by omega, rfl, h, fun i h1 h2 => by omega⟩
    · rename_i h
      rcases ih with ⟨h1, h2⟩ | ⟨j, h1, h2, h3, h4⟩
      · refine Or.inl ⟨h1, fun j h3 => ?_⟩
        by_cases e : j = k
        · subst e; exact h
        · exact h2 j (by omega)
      · refine Or.inr ⟨j, by omega, h2, h3, fun i h6 h7 => ?_⟩
        by_cases e : i = k
        · subst e; exact h
        · exact h4 i h6 (by omega)
theorem mhw_skip {M : Nat → Nat → Int32} {s : Nat} {ow : Int32} {j k : Nat} (hk : j ≤ k) (h : ∀ i, j ≤ i → i < k → ¬ M 57 (24 * s + (M 58 (24 * s + i)).toNatClampNeg) = ow) : mhw M s ow k = mhw M s ow j := by
  obtain ⟨d, rfl⟩ : ∃ d, k = j + d := ⟨k - j, by omega⟩
  clear hk
  induction d with
  | zero => rfl
  | succ d ih =>
    rw [show j + (d + 1) = (j + d) + 1 by omega]; simp only [mhw]
    rw [if_neg (fun q => h (j + d) (by omega) (by omega) q.1)]
    exact ih (fun i h1 h2 => h i h1 (by omega))
def swP (M : Nat → Nat → Int32) (s : Nat) : Nat → Nat → Nat → Int32
  | 0 => M
  | r + 1 => if 0 ≤ swP M s r 57 (24 * s + r) ∧ (¬ M 62 r = 0 ∨ ¬ M 62 (swP M s r 57 (24 * s + r)).toNatClampNeg = 0) then mlv (swP M s r) s r else swP M s r
def swS (M : Nat → Nat → Int32) : Nat → Nat → Nat → Int32
  | 0 => M
  | i + 1 => swP (swS M i) i 24
theorem swP_ne {M : Nat → Nat → Int32} {s r c : Nat} (h1 : c ≠ 57) (h2 : c ≠ 58) (h3 : c ≠ 59) : swP M s r c = M c := by
  induction r with
  | zero => rfl
  | succ r ih =>
    simp only [swP]; split
    · rw [mlv_ne h1 h2 h3]; exact ih
    · exact ih
theorem swS_ne {M : Nat → Nat → Int32} {i c : Nat} (h1 : c ≠ 57) (h2 : c ≠ 58) (h3 : c ≠ 59) : swS M i c = M c := by
  induction i with
  | zero => rfl
  | succ i ih => simp only [swS]; rw [swP_ne h1 h2 h3]; exact ih
def swOK (M : Nat → Nat → Int32) (sc : Nat) : Prop := ∀ i, i < sc → ∀ r, r < 24 → 0 ≤ swP (swS M i) i r 57 (24 * i + r) → (¬ M 62 r = 0 ∨ ¬ M 62 (swP (swS M i) i r 57 (24 * i + r)).toNatClampNeg = 0) → LvOK (swP (swS M i) i r) i r
theorem MI.sP {M : Nat → Nat → Int32} {tc sc : Nat} {i r : Nat} (h : MI (swS M i) tc sc) (hk : swOK M sc) (hi : i < sc) (hr : r ≤ 24) : MI (swP (swS M i) i r) tc sc := by
  induction r with
  | zero => exact h
  | succ r ih =>
    have ih := ih (by omega)
    have h5 := h.s5
    simp only [swP]; split
    · rename_i g
      rw [swS_ne (by decide) (by decide) (by decide)] at g
      exact ih.lv (by omega) (by omega) (hk i hi r (by omega) g.1 g.2)
    · exact ih
theorem MI.sS {M : Nat → Nat → Int32} {tc sc i : Nat} (h : MI M tc sc) (hk : swOK M sc) (hi : i ≤ sc) : MI (swS M i) tc sc := by
  induction i with
  | zero => exact h
  | succ i ih => exact (ih (by omega)).sP hk (by omega) (Nat.le_refl _)
def swK (M : Nat → Nat → Int32) (i : Nat) : Nat → Nat → Int32 := fun c j => if c = 54 ∧ j < i ∧ ¬ M 62 j = 0 then 0 else M c j
theorem swK_0 (M : Nat → Nat → Int32) : swK M 0 = M := by funext c j; unfold swK; rw [if_neg (by omega)]
theorem swK_ne {M : Nat → Nat → Int32} {i c : Nat} (h : c ≠ 54) : swK M i c = M c := by funext j; unfold swK; rw [if_neg (by omega)]
theorem swK_ge {M : Nat → Nat → Int32} {i j : Nat} (h : i ≤ j) : swK M i 54 j = M 54 j := by unfold swK; rw [if_neg (by omega)]
theorem swK_y {M : Nat → Nat → Int32} {i : Nat} (h : ¬ M 62 i = 0) : ow_u (swK M i) 54 i 0 = swK M (i + 1) := by
  funext c j
  by_cases e : c = 54
  · subst e; rw [ow_u_eq]
    by_cases hj : j = i
    · subst hj; simp only [upd, if_true]; unfold swK; rw [if_pos ⟨rfl, by omega, h⟩]
    · simp only [upd, if_neg hj]; unfold swK
      by_cases h2 : j < i ∧ ¬ M 62 j = 0
      · rw [if_pos ⟨rfl, h2.1, h2.2⟩, if_pos ⟨rfl, by omega, h2.2⟩]
      · rw [if_neg (fun q => h2 q.2), if_neg (fun q => h2 ⟨by have := q.2.1; omega, q.2.2⟩)]
  · rw [ow_u_ne e, swK_ne e, swK_ne e]
theorem swK_n {M : Nat → Nat → Int32} {i : Nat} (h : M 62 i = 0) : ow_u (swK M i) 54 i (M 54 i) = swK M (i + 1) := by
  funext c j
  by_cases e : c = 54
  · subst e; rw [ow_u_eq]
    by_cases hj : j = i
    · subst hj; simp only [upd, if_true]; unfold swK; rw [if_neg (fun q => q.2.2 h)]
    · simp only [upd, if_neg hj]; unfold swK
      by_cases h2 : j < i ∧ ¬ M 62 j = 0
      · rw [if_pos ⟨rfl, h2.1, h2.2⟩, if_pos ⟨rfl, by omega, h2.2⟩]
      · rw [if_neg (fun q => h2 q.2), if_neg (fun q => h2 ⟨by have := q.2.1; omega, q.2.2⟩)]
  · rw [ow_u_ne e, swK_ne e, swK_ne e]
def swM (M : Nat → Nat → Int32) (sc : Nat) : Nat → Nat → Int32 := swK (swS M sc) 24
def ngo (M : Nat → Nat → Int32) : Int32 := nI (cn (fun r => decide (¬ M 62 r = 0)) 24)
/-- erase's first row -/
def gI (M : Nat → Nat → Int32) (p i : Nat) : Nat → Nat → Int32 := fun c j => if c = 62 ∧ j < i then (if j = p then 1 else 0) else M c j
theorem gI_0 (M : Nat → Nat → Int32) (p : Nat) : gI M p 0 = M := by funext c j; unfold gI; rw [if_neg (by omega)]
theorem gI_ne {M : Nat → Nat → Int32} {p i c : Nat} (h : c ≠ 62) : gI M p i c = M c := by funext j; unfold gI; rw [if_neg (by omega)]
theorem gI_st {M : Nat → Nat → Int32} {p i : Nat} : ow_u (gI M p i) 62 i (if i = p then 1 else 0) = gI M p (i + 1) := by
  funext c j
  by_cases e : c = 62
  · subst e; rw [ow_u_eq]
    by_cases hj : j = i
    · subst hj; simp only [upd, if_true]; unfold gI; exact (if_pos ⟨rfl, by omega⟩).symm
    · simp only [upd, if_neg hj]; unfold gI
      by_cases h2 : j < i
      · exact (if_pos ⟨rfl, h2⟩).trans (if_pos ⟨rfl, by omega⟩).symm
      · rw [if_neg (by omega), if_neg (by omega)]
  · rw [ow_u_ne e, gI_ne e, gI_ne e]
theorem gI_at {M : Nat → Nat → Int32} {p j : Nat} (h : j < 24) : gI M p 24 62 j = if j = p then 1 else 0 := by unfold gI; rw [if_pos ⟨rfl, h⟩]
theorem MI.gi {M : Nat → Nat → Int32} {tc sc p i : Nat} (h : MI M tc sc) : MI (gI M p i) tc sc :=
  h.same ⟨by rw [gI_ne (by decide)], by rw [gI_ne (by decide)], by rw [gI_ne (by decide)]⟩ (fun c h1 h2 h3 h4 => gI_ne (by omega))
def mhS (M : Nat → Nat → Int32) : Nat → Nat → Nat → Int32
  | 0 => M
  | i + 1 => ow_u (mhS M i) 61 i (mhe (mhS M i) i)
theorem mhS_ne {M : Nat → Nat → Int32} {i c : Nat} (h : c ≠ 61) : mhS M i c = M c := by
  induction i with
  | zero => rfl
  | succ i ih => simp only [mhS]; rw [ow_u_ne h]; exact ih
theorem mhS_61 {M : Nat → Nat → Int32} {i s : Nat} (h : i ≤ s) : mhS M i 61 s = M 61 s := by
  induction i with
  | zero => rfl
  | succ i ih => simp only [mhS]; rw [ow_u_at (by omega)]; exact ih (by omega)
theorem HOK.congr {M M' : Nat → Nat → Int32} {s : Nat} (h : HOK M s) (e : M' 61 s = M 61 s) (e1 : M' 55 = M 55) (e2 : M' 50 = M 50) (e3 : M' 57 = M 57) (e4 : M' 58 = M 58) (e5 : M' 59 = M 59) : HOK M' s := by
  unfold HOK LIJ mln at *; rw [e, e1, e2, e3, e4, e5]; exact h
def mtT (M : Nat → Nat → Int32) : Nat → Nat → Nat → Int32
  | 0 => M
  | t + 1 => ow_u (mtT M t) 60 t (if 0 ≤ mtT M t 60 t ∧ ¬ M 62 (mtT M t 60 t).toNatClampNeg = 0 then -1 else mtT M t 60 t)
theorem mtT_ne {M : Nat → Nat → Int32} {i c : Nat} (h : c ≠ 60) : mtT M i c = M c := by
  induction i with
  | zero => rfl
  | succ i ih => simp only [mtT]; rw [ow_u_ne h]; exact ih
theorem mhw_plc {M : Nat → Nat → Int32} {tc sc s : Nat} {ow : Int32} (h : MI M tc sc) (hs : s < 5) : ∀ k, k ≤ 24 → plc (mhw M s ow k) := by
  intro k
  induction k with
  | zero => intro _; exact Or.inl rfl
  | succ k ih =>
    intro hk
    simp only [mhw]; split
    · exact Or.inr (h.lst (by omega))
    · exact ih (by omega)
theorem mhe_plc {M : Nat → Nat → Int32} {tc sc s : Nat} (h : MI M tc sc) (hs : s < 5) (hO : HOK M s) : plc (mhe M s) := by
  unfold mhe
  split
  · split
    · exact Or.inl rfl
    · exact h.ofS hs
  · rename_i hn
    obtain ⟨c, hc, ec⟩ := plc_ge (h.ofS hs) (fun g => hn (Or.inl g))
    split
    · exact Or.inl rfl
    · split
      · rw [ec, nI_clamp (by omega)]; exact h.own (by omega)
      · obtain ⟨c2, hc2, ec2⟩ := (hO.2 (fun g => hn (Or.inl g)) (fun g => hn (Or.inr g))).2
        have e3 : mpo M s (M 61 s) (mln M s) = nI c2 := by rw [← ec2]; exact mpo_at _ hO.1 hc2
        have hl := (h.ln hs).1
        rw [e3, nI_clamp (by omega)]
        exact mhw_plc h hs _ (by omega)
theorem MI.hS {M : Nat → Nat → Int32} {tc sc i : Nat} (h : MI M tc sc) (hk : ∀ s, s < sc → HOK M s) (hi : i ≤ sc) : MI (mhS M i) tc sc := by
  induction i with
  | zero => exact h
  | succ i ih =>
    have ih := ih (by omega)
    have h5 := h.s5
    have hO : HOK (mhS M i) i := (hk i (by omega)).congr (mhS_61 (Nat.le_refl _)) (mhS_ne (by decide)) (mhS_ne (by decide)) (mhS_ne (by decide)) (mhS_ne (by decide)) (mhS_ne (by decide))
    have hp := mhe_plc ih (by omega) hO
    have e : ∀ c, c ≠ 61 → mhS M (i + 1) c = mhS M i c := fun c hc => by simp only [mhS]; exact ow_u_ne hc
    refine ih.congr (by rw [e 48 (by decide)]) (by rw [e 48 (by decide)]) (by rw [e 48 (by decide)]; exact ih.run) (fun t ht => by rw [e 60 (by decide)]; exact ih.ofT ht) (fun s hs => ?_) (fun k hk => by rw [e 57 (by decide)]; exact ih.own hk) (fun p hp => by rw [e 55 (by decide)]; exact ih.ty hp) (fun k hk => by rw [e 58 (by decide)]; exact ih.lst hk) (fun s hs => by rw [e 59 (by decide)]; exact ih.lgd hs) (e 52 (by decide))
    simp only [mhS]; rw [ow_u_eq]
    by_cases e : s = i
    · subst e; simp [upd]; exact hp
    · simp [upd, e]; exact ih.ofS hs
theorem MI.tT {M : Nat → Nat → Int32} {tc sc i : Nat} (h : MI M tc sc) (hi : i ≤ 4) : MI (mtT M i) tc sc := by
  have e : ∀ c, c ≠ 60 → mtT M i c = M c := fun c hc => mtT_ne hc
  refine h.congr (by rw [e 48 (by decide)]) (by rw [e 48 (by decide)]) (by rw [e 48 (by decide)]; exact h.run) ?_ (fun s hs => by rw [e 61 (by decide)]; exact h.ofS hs) (fun k hk => by rw [e 57 (by decide)]; exact h.own hk) (fun p hp => by rw [e 55 (by decide)]; exact h.ty hp) (fun k hk => by rw [e 58 (by decide)]; exact h.lst hk) (fun s hs => by rw [e 59 (by decide)]; exact h.lgd hs) (e 52 (by decide))
  clear e
  induction i with
  | zero => exact fun t ht => h.ofT ht
  | succ i ih =>
    intro t ht
    have ih := ih (by omega)
    simp only [mtT]; rw [ow_u_eq]
    by_cases e : t = i
    · subst e; simp only [upd, if_true]; split
      · exact Or.inl rfl
      · exact ih t ht
    · simp only [upd, if_neg e]; exact ih t ht
theorem MI.rn {M : Nat → Nat → Int32} {tc sc : Nat} {x : Int32} (h : MI M tc sc) (hx : plc x) : MI (ow_u M 48 16 x) tc sc :=
  h.congr rfl rfl (by rw [ow_u_self]; exact hx) (fun t ht => by rw [ow_u_ne (by decide)]; exact h.ofT ht) (fun s hs => by rw [ow_u_ne (by decide)]; exact h.ofS hs) (fun k hk => by rw [ow_u_ne (by decide)]; exact h.own hk) (fun p hp => by rw [ow_u_ne (by decide)]; exact h.ty hp) (fun k hk => by rw [ow_u_ne (by decide)]; exact h.lst hk) (fun s hs => by rw [ow_u_ne (by decide)]; exact h.lgd hs) (ow_u_ne (by decide))
/-- erase's memory before it sweeps -/
def esM (M : Nat → Nat → Int32) (tc sc : Nat) : Nat → Nat → Int32 := ow_u (mtT (mhS M sc) tc) 48 16 (-1)
def EOK (M : Nat → Nat → Int32) (tc sc : Nat) : Prop := (∀ s, s < sc → HOK M s) ∧ swOK (esM M tc sc) sc
def GSP (M : Nat → Nat → Int32) (sc : Nat) (m : Int32) (G : Nat → Int32) : Prop := GG M sc m G ∧ ∀ s, s < sc → ∀ r, r < 24 → CLm M m (fun p => G p = 1) s r
def D_erase (M : Nat → Nat → Int32) (tc sc : Nat) (m : Int32) (G : Int32 → (Nat → Nat → Int32) → Prop) : Prop :=
  (¬ (0 ≤ m ∧ m ≤ 3) → G 0 (ow_u M 48 0 1)) ∧ (0 ≤ m → m ≤ 3 → (M 48 16 = -1 → G 0 (ow_u M 48 0 2)) ∧ ∀ p, p < 24 → M 48 16 = nI p →
    (m = 0 → 0 < cn (fun k => M 57 k == nI p) (24 * sc) → G 0 (ow_u M 48 0 3)) ∧
    (¬ (m = 0 ∧ 0 < cn (fun k => M 57 k == nI p) (24 * sc)) → ∀ g, GSP (gI (ow_u M 48 0 0) p 24) sc m g →
      (m = 1 → (∃ s r, s < sc ∧ r < 24 ∧ STR (gM (gI (ow_u M 48 0 0) p 24) g) s r) → G 0 (ow_u (gM (gI (ow_u M 48 0 0) p 24) g) 48 0 3)) ∧
      (¬ (m = 1 ∧ ∃ s r, s < sc ∧ r < 24 ∧ STR (gM (gI (ow_u M 48 0 0) p 24) g) s r) → EOK (ow_u (gM (gI (ow_u M 48 0 0) p 24) g) 48 0 0) tc sc ∧ G (ngo (swS (esM (ow_u (gM (gI (ow_u M 48 0 0) p 24) g) 48 0 0) tc sc) sc)) (swM (esM (ow_u (gM (gI (ow_u M 48 0 0) p 24) g) 48 0 0) tc sc) sc))))
theorem cnpos {n : Nat} (h : ¬ nI n ≤ 0) : 0 < n := by
  rcases Nat.eq_zero_or_pos n with e | e
  · subst e; exact absurd (by decide) h
  · exact e
theorem cnneg {n : Nat} (hn : n < 2 ^ 31) (h : nI n ≤ 0) : ¬ 0 < n := by
  intro h2
  have h3 := (nI_ltI (a := 0) (b := n) (by decide) hn).mpr h2
  have e : nI 0 = 0 := rfl
  rw [e] at h3
  grind [cdv]
theorem nI_inj {a b : Nat} (ha : a < 24) (hb : b < 24) (h : nI a = nI b) : a = b := by
  have h1 := nI_clamp (n := a) (by omega)
  rw [h, nI_clamp (by omega)] at h1
  exact h1.symm
section TMod5
variable {l : Launch} {Q : ow_R → ow_M → Prop} {M : Nat → Nat → Int32} {K : Int64} {b : Nat} {tc sc : Nat}
/-- M_ownedMembers -/
theorem t_M_ownedMembers {r : Int32} (hC : MI M tc sc)  (hq : Q (.inl (some (nI (cn (fun k => M 57 k == r) (24 * sc))))) (mm M K b)) : MT l Y_M_ownedMembers (0, 0) [.ref 48, .int r] (mm M K b) Q := by
  refine mt_of (k := 2) (by decide) cd_M_ownedMembers.1 (by simp [Value.category]) rfl ?_
  have lp : ∀ i, i ≤ (24 * sc) → AW l Y_M_ownedMembers none (0, 0) Q 4 [some (.ref 48), some (.int r), some (.int (nI (cn (fun k => M 57 k == r) i))), some (.int (nI i))] [] (mm M K b) := by
    refine loop_dn (24 * sc) (fun i hi ih => ?_)
    refine aw_iload_n d_M_ownedMembers_4 rfl ?_
    refine aw_bipush (v := 24) d_M_ownedMembers_5 (by decide) ?_
    refine aw_aload_n d_M_ownedMembers_7 rfl ?_
    refine mm_geti f_M_90 d_M_ownedMembers_8 (by decide) rfl rfl ?_
    refine aw_imul d_M_ownedMembers_11 ?_
    refine aw_icmp_ge (tgt := 39) d_M_ownedMembers_12 rfl (fun g12 => ?_) (fun g12 => ?_)
    · have hi2 := ge_n (n := (24 * sc)) (by rw [hC.sc]; exact nImul 24 sc) hi (by have := hC.s5; omega) g12
      rw [hi2]
      refine aw_iload_n d_M_ownedMembers_39 rfl ?_
      refine aw_iret d_M_ownedMembers_40 rfl rfl ?_
      exact hq
    · have hi2 := lt_n (n := (24 * sc)) (by rw [hC.sc]; exact nImul 24 sc) hi (by have := hC.s5; omega) g12
      refine aw_iload_n d_M_ownedMembers_15 rfl ?_
      refine aw_aload_n d_M_ownedMembers_16 rfl ?_
      refine mm_getr (t := 57) f_M_38 d_M_ownedMembers_17 (by decide) rfl rfl rfl ?_
      refine aw_iload_n d_M_ownedMembers_20 rfl ?_
      refine mm_iald rfl d_M_ownedMembers_21 (by decide) rfl (by have := hC.s5; omega) (by decide) ?_
      refine aw_iload_n d_M_ownedMembers_22 rfl ?_
      refine aw_icmp_ne (tgt := 30) d_M_ownedMembers_23 rfl (fun g23 => ?_) (fun g23 => ?_)
      · refine aw_iconst (v := 0) d_M_ownedMembers_30 (by decide) ?_
        refine aw_iadd d_M_ownedMembers_31 ?_
        first | rw [← nI_succ] | rw [Int32.add_zero]
        refine aw_istore_n d_M_ownedMembers_32 (by decide) ?_
        refine aw_iinc (v := nI (i + 1)) d_M_ownedMembers_33 rfl (nI_succ i).symm (by decide) ?_
        refine aw_goto (tgt := 4) d_M_ownedMembers_36 rfl ?_
        first
          | (rw [show cn (fun k => M 57 k == r) (i + 1) = cn (fun k => M 57 k == r) i + 1 from by simp only [cn]; rw [if_pos (by grind [cdv])]] at ih; exact ih hi2)
          | (rw [show cn (fun k => M 57 k == r) (i + 1) = cn (fun k => M 57 k == r) i from by simp only [cn]; rw [if_neg (by grind [cdv])]; rfl] at ih; exact ih hi2)
      · refine aw_iconst (v := 1) d_M_ownedMembers_26 (by decide) ?_
        refine aw_goto (tgt := 31) d_M_ownedMembers_27 rfl ?_
        refine aw_iadd d_M_ownedMembers_31 ?_
        first | rw [← nI_succ] | rw [Int32.add_zero]
        refine aw_istore_n d_M_ownedMembers_32 (by decide) ?_
        refine aw_iinc (v := nI (i + 1)) d_M_ownedMembers_33 rfl (nI_succ i).symm (by decide) ?_
        refine aw_goto (tgt := 4) d_M_ownedMembers_36 rfl ?_
        first
          | (rw [show cn (fun k => M 57 k == r) (i + 1) = cn (fun k => M 57 k == r) i + 1 from by simp only [cn]; rw [if_pos (by grind [cdv])]] at ih; exact ih hi2)
          | (rw [show cn (fun k => M 57 k == r) (i + 1) = cn (fun k => M 57 k == r) i from by simp only [cn]; rw [if_neg (by grind [cdv])]; rfl] at ih; exact ih hi2)
  refine aw_iconst (v := 0) d_M_ownedMembers_0 (by decide) ?_
  refine aw_istore_n d_M_ownedMembers_1 (by decide) ?_
  refine aw_iconst (v := 0) d_M_ownedMembers_2 (by decide) ?_
  refine aw_istore_n d_M_ownedMembers_3 (by decide) ?_
  exact lp 0 (by omega)
theorem t_M_spread (hC : MI M tc sc) {m : Int32} (hm : 0 ≤ m) (h3 : m ≤ 3) (hk : ∀ s, s < 5 → 0 ≤ M 53 s - M 53 s / 3 * 3) (h01 : ∀ p, p < 24 → M 62 p = 0 ∨ M 62 p = 1) (hq : ∀ g, GSP M sc m g → Q (.inl none) (mm (gM M g) K b)) : MT l Y_M_spread (1, 14) [.ref 48, .int m] (mm M K b) Q := by
  refine mt_of (k := 4) (by decide) cd_M_spread.1 (by simp [Value.category]) rfl ?_
  have ex : ∀ g, GSP M sc m g → ∀ w3 w4 w5 : Option Value, AW l Y_M_spread none (1, 14) Q 10 [some (.ref 48), some (.int m), some (.int 0), w3, w4, w5] [] (mm (gM M g) K b) := by
    intro g hg w3 w4 w5
    refine aw_iload_n d_M_spread_10 rfl ?_
    refine aw_if_eq (tgt := 109) d_M_spread_11 rfl (fun g11 => ?_) (fun g11 => ?_)
    · refine aw_vret d_M_spread_109 rfl ?_
      exact hq g hg
    · exact absurd rfl g11
  have lp : ∀ d g, GG M sc m g → 25 - cG g ≤ d → ∀ w3 w4 w5 : Option Value, AW l Y_M_spread none (1, 14) Q 10 [some (.ref 48), some (.int m), some (.int 1), w3, w4, w5] [] (mm (gM M g) K b) := by
    intro d
    induction d with
    | zero => intro g _ h; have := cG_le g; omega
    | succ d ihd =>
      intro g0 hg0 hd w3 w4 w5
      have ls : ∀ i, i ≤ sc → ∀ g mo, PSS M sc m g0 g mo i 0 → ∀ w4 w5 : Option Value, AW l Y_M_spread none (1, 14) Q 18 [some (.ref 48), some (.int m), some (.int mo), some (.int (nI i)), w4, w5] [] (mm (gM M g) K b) := by
        refine loop_dn sc (fun i hi ih => ?_)
        intro g mo hP w4 w5
        have hCg := hC.gg g
        have lr : i < sc → i < 5 → ∀ j, j ≤ 24 → ∀ g mo, PSS M sc m g0 g mo i j → ∀ w5 : Option Value, AW l Y_M_spread none (1, 14) Q 29 [some (.ref 48), some (.int m), some (.int mo), some (.int (nI i)), some (.int (nI j)), w5] [] (mm (gM M g) K b) := by
          intro hi2 hi5
          refine loop_dn 24 (fun j hj ihj => ?_)
          intro g mo hP w5
          have hCg := hC.gg g
          have skip : j < 24 → ¬ (0 ≤ M 57 (24 * i + j) ∧ g (M 57 (24 * i + j)).toNatClampNeg = 1 ∧ ¬ g j = 1 ∧ TKm M i m) → PSS M sc m g0 g mo i (j + 1) := by
            intro hj2 hn
            refine ⟨hP.1, ?_⟩
            rcases hP.2 with h | ⟨h1, h2, h3⟩
            · exact Or.inl h
            · subst h2
              refine Or.inr ⟨h1, rfl, fun s r hr h4 => ?_⟩
              by_cases e : s = i ∧ r = j
              · obtain ⟨rfl, rfl⟩ := e
                intro q1 q2 q3
                exact Decidable.byContradiction (fun q4 => hn ⟨q1, q2, q4, q3⟩)
              · exact h3 s r hr (by omega)
          refine aw_iload d_M_spread_29 rfl ?_
          refine aw_bipush (v := 24) d_M_spread_31 (by decide) ?_
          refine aw_icmp_ge (tgt := 100) d_M_spread_33 rfl (fun g33 => ?_) (fun g33 => ?_)
          · have hj2 := ge_n (n := 24) rfl hj (by omega) g33
            subst hj2
            refine aw_iinc (v := nI (i + 1)) d_M_spread_100 rfl (nI_succ i).symm (by decide) ?_
            refine aw_goto (tgt := 18) d_M_spread_103 rfl ?_
            exact ih hi2 _ _ ⟨hP.1, hP.2.imp id (fun h => ⟨h.1, h.2.1, fun s r hr h4 => h.2.2 s r hr (by omega)⟩)⟩ _ _
          · have hj2 := lt_n (n := 24) rfl hj (by omega) g33
            refine aw_aload_n d_M_spread_36 rfl ?_
            refine mm_getr (t := 57) f_M_38 d_M_spread_37 (by decide) rfl rfl rfl ?_
            refine aw_bipush (v := 24) d_M_spread_40 (by decide) ?_
            refine aw_iload_n d_M_spread_42 rfl ?_
            refine aw_imul d_M_spread_43 ?_
            refine aw_iload d_M_spread_44 rfl ?_
            refine aw_iadd d_M_spread_46 ?_
            refine mm_iald (ix24 i j) d_M_spread_47 (by decide) rfl (by omega) (by decide) ?_
            rw [gM_ne (by decide)]
            refine aw_istore d_M_spread_48 (by decide) ?_
            refine aw_iload d_M_spread_50 rfl ?_
            refine aw_if_lt (tgt := 94) d_M_spread_52 rfl (fun g52 => ?_) (fun g52 => ?_)
            · refine aw_iinc (v := nI (j + 1)) d_M_spread_94 rfl (nI_succ j).symm (by decide) ?_
              refine aw_goto (tgt := 29) d_M_spread_97 rfl ?_
              first
                | exact ihj hj2 _ _ (skip hj2 (by unfold TKm; grind [cdv])) _
                | (refine ihj hj2 _ _ ⟨⟨?_, ?_, ?_⟩, Or.inl ⟨rfl, ?_⟩⟩ _
                   · intro p hp
                     by_cases e : p = j
                     · subst e; simp [upd]
                     · simp only [upd, if_neg e]; exact hP.1.1 p hp
                   · intro p hp h
                     by_cases e : p = j
                     · subst e; simp [upd]
                     · simp only [upd, if_neg e]; exact hP.1.2.1 p hp h
                   · intro P h1 h2 p hp h
                     by_cases e : p = j
                     · subst e
                       refine h2 i hi2 p hp (by grind [cdv]) ?_ (by unfold TKm; grind [cdv])
                       rw [e2]
                       exact hP.1.2.2 P h1 h2 q hq24 (by grind [cdv])
                     · simp only [upd, if_neg e] at h; exact hP.1.2.2 P h1 h2 p hp h
                   · have h5 := cG_up (G := g) hj2 (by grind [cdv])
                     rcases hP.2 with h | ⟨h1, h2, -⟩
                     · omega
                     · subst h2; exact h5)
            · obtain ⟨q, hq24, eq⟩ := plc_ge (hC.own (k := 24 * i + j) (by omega)) (by grind [cdv])
              have e2 : (M 57 (24 * i + j)).toNatClampNeg = q := by rw [eq, nI_clamp (by omega)]
              have hgq := hP.1.1 q hq24
              have hgj := hP.1.1 j hj2
              refine aw_aload_n d_M_spread_55 rfl ?_
              refine mm_getr (t := 62) f_M_56 d_M_spread_56 (by decide) rfl rfl rfl ?_
              refine aw_iload d_M_spread_59 rfl ?_
              refine mm_zald eq d_M_spread_61 (by decide) rfl (by omega) (by decide) ?_
              rw [gM_at]
              refine aw_if_eq (tgt := 94) d_M_spread_62 rfl (fun g62 => ?_) (fun g62 => ?_)
              · refine aw_iinc (v := nI (j + 1)) d_M_spread_94 rfl (nI_succ j).symm (by decide) ?_
                refine aw_goto (tgt := 29) d_M_spread_97 rfl ?_
                first
                  | exact ihj hj2 _ _ (skip hj2 (by unfold TKm; grind [cdv])) _
                  | (refine ihj hj2 _ _ ⟨⟨?_, ?_, ?_⟩, Or.inl ⟨rfl, ?_⟩⟩ _
                     · intro p hp
                       by_cases e : p = j
                       · subst e; simp [upd]
                       · simp only [upd, if_neg e]; exact hP.1.1 p hp
                     · intro p hp h
                       by_cases e : p = j
                       · subst e; simp [upd]
                       · simp only [upd, if_neg e]; exact hP.1.2.1 p hp h
                     · intro P h1 h2 p hp h
                       by_cases e : p = j
                       · subst e
                         refine h2 i hi2 p hp (by grind [cdv]) ?_ (by unfold TKm; grind [cdv])
                         rw [e2]
                         exact hP.1.2.2 P h1 h2 q hq24 (by grind [cdv])
                       · simp only [upd, if_neg e] at h; exact hP.1.2.2 P h1 h2 p hp h
                     · have h5 := cG_up (G := g) hj2 (by grind [cdv])
                       rcases hP.2 with h | ⟨h1, h2, -⟩
                       · omega
                       · subst h2; exact h5)
              · refine aw_aload_n d_M_spread_65 rfl ?_
                refine mm_getr (t := 62) f_M_56 d_M_spread_66 (by decide) rfl rfl rfl ?_
                refine aw_iload d_M_spread_69 rfl ?_
                refine mm_zald rfl d_M_spread_71 (by decide) rfl (by omega) (by decide) ?_
                rw [gM_at]
                refine aw_if_ne (tgt := 94) d_M_spread_72 rfl (fun g72 => ?_) (fun g72 => ?_)
                · refine aw_iinc (v := nI (j + 1)) d_M_spread_94 rfl (nI_succ j).symm (by decide) ?_
                  refine aw_goto (tgt := 29) d_M_spread_97 rfl ?_
                  first
                    | exact ihj hj2 _ _ (skip hj2 (by unfold TKm; grind [cdv])) _
                    | (refine ihj hj2 _ _ ⟨⟨?_, ?_, ?_⟩, Or.inl ⟨rfl, ?_⟩⟩ _
                       · intro p hp
                         by_cases e : p = j
                         · subst e; simp [upd]
                         · simp only [upd, if_neg e]; exact hP.1.1 p hp
                       · intro p hp h
                         by_cases e : p = j
                         · subst e; simp [upd]
                         · simp only [upd, if_neg e]; exact hP.1.2.1 p hp h
                       · intro P h1 h2 p hp h
                         by_cases e : p = j
                         · subst e
                           refine h2 i hi2 p hp (by grind [cdv]) ?_ (by unfold TKm; grind [cdv])
                           rw [e2]
                           exact hP.1.2.2 P h1 h2 q hq24 (by grind [cdv])
                         · simp only [upd, if_neg e] at h; exact hP.1.2.2 P h1 h2 p hp h
                       · have h5 := cG_up (G := g) hj2 (by grind [cdv])
                         rcases hP.2 with h | ⟨h1, h2, -⟩
                         · omega
                         · subst h2; exact h5)
                · refine aw_aload_n d_M_spread_75 rfl ?_
                  refine aw_iload_n d_M_spread_76 rfl ?_
                  refine aw_iload_n d_M_spread_77 rfl ?_
                  refine aw_cV2 (d' := (0, 0)) d_M_spread_78 lk_M_163 cd_M_takes (Nat.le_of_ble_eq_true rfl) rfl rfl ⟨Nat.le_of_ble_eq_true rfl, Nat.le_of_ble_eq_true rfl⟩ (fun _ h => nomatch h) ?_
                  refine t_M_takes hi5 ?_
                  rw [gM_ne (c := 53) (by decide)]
                  refine ow_next_i ?_
                  refine aw_if_eq (tgt := 94) d_M_spread_81 rfl (fun g81 => ?_) (fun g81 => ?_)
                  · refine aw_iinc (v := nI (j + 1)) d_M_spread_94 rfl (nI_succ j).symm (by decide) ?_
                    refine aw_goto (tgt := 29) d_M_spread_97 rfl ?_
                    first
                      | exact ihj hj2 _ _ (skip hj2 (by unfold TKm; grind [cdv])) _
                      | (refine ihj hj2 _ _ ⟨⟨?_, ?_, ?_⟩, Or.inl ⟨rfl, ?_⟩⟩ _
                         · intro p hp
                           by_cases e : p = j
                           · subst e; simp [upd]
                           · simp only [upd, if_neg e]; exact hP.1.1 p hp
                         · intro p hp h
                           by_cases e : p = j
                           · subst e; simp [upd]
                           · simp only [upd, if_neg e]; exact hP.1.2.1 p hp h
                         · intro P h1 h2 p hp h
                           by_cases e : p = j
                           · subst e
                             refine h2 i hi2 p hp (by grind [cdv]) ?_ (by unfold TKm; grind [cdv])
                             rw [e2]
                             exact hP.1.2.2 P h1 h2 q hq24 (by grind [cdv])
                           · simp only [upd, if_neg e] at h; exact hP.1.2.2 P h1 h2 p hp h
                         · have h5 := cG_up (G := g) hj2 (by grind [cdv])
                           rcases hP.2 with h | ⟨h1, h2, -⟩
                           · omega
                           · subst h2; exact h5)
                  · refine aw_aload_n d_M_spread_84 rfl ?_
                    refine mm_getr (t := 62) f_M_56 d_M_spread_85 (by decide) rfl rfl rfl ?_
                    refine aw_iload d_M_spread_88 rfl ?_
                    refine aw_iconst (v := 1) d_M_spread_90 (by decide) ?_
                    refine mm_zast rfl d_M_spread_91 (by decide) rfl (by omega) (by decide) (by simp) ?_
                    rw [gM_up]
                    refine aw_iconst (v := 1) d_M_spread_92 (by decide) ?_
                    refine aw_istore_n d_M_spread_93 (by decide) ?_
                    refine aw_iinc (v := nI (j + 1)) d_M_spread_94 rfl (nI_succ j).symm (by decide) ?_
                    refine aw_goto (tgt := 29) d_M_spread_97 rfl ?_
                    first
                      | exact ihj hj2 _ _ (skip hj2 (by unfold TKm; grind [cdv])) _
                      | (refine ihj hj2 _ _ ⟨⟨?_, ?_, ?_⟩, Or.inl ⟨rfl, ?_⟩⟩ _
                         · intro p hp
                           by_cases e : p = j
                           · subst e; simp [upd]
                           · simp only [upd, if_neg e]; exact hP.1.1 p hp
                         · intro p hp h
                           by_cases e : p = j
                           · subst e; simp [upd]
                           · simp only [upd, if_neg e]; exact hP.1.2.1 p hp h
                         · intro P h1 h2 p hp h
                           by_cases e : p = j
                           · subst e
                             refine h2 i hi2 p hp (by grind [cdv]) ?_ (by unfold TKm; grind [cdv])
                             rw [e2]
                             exact hP.1.2.2 P h1 h2 q hq24 (by grind [cdv])
                           · simp only [upd, if_neg e] at h; exact hP.1.2.2 P h1 h2 p hp h
                         · have h5 := cG_up (G := g) hj2 (by grind [cdv])
                           rcases hP.2 with h | ⟨h1, h2, -⟩
                           · omega
                           · subst h2; exact h5)
        refine aw_iload_n d_M_spread_18 rfl ?_
        refine aw_aload_n d_M_spread_19 rfl ?_
        refine mm_geti f_M_90 d_M_spread_20 (by decide) rfl rfl ?_
        refine aw_icmp_ge (tgt := 106) d_M_spread_23 rfl (fun g23 => ?_) (fun g23 => ?_)
        · have hi2 := ge_n (n := sc) hCg.sc hi (by have := hC.s5; omega) g23
          subst hi2
          refine aw_goto (tgt := 10) d_M_spread_106 rfl ?_
          rcases hP.2 with ⟨h1, h2⟩ | ⟨h1, h2, h3⟩
          · subst h1
            have := cG_le g
            exact ihd g hP.1 (by omega) _ _ _
          · subst h1
            subst h2
            exact ex g ⟨hP.1, fun s hs r hr => h3 s r hr (Or.inl hs)⟩ _ _ _
        · have hi2 := lt_n (n := sc) hCg.sc hi (by have := hC.s5; omega) g23
          have hi5 : i < 5 := by have := hC.s5; omega
          refine aw_iconst (v := 0) d_M_spread_26 (by decide) ?_
          refine aw_istore d_M_spread_27 (by decide) ?_
          exact lr hi2 hi5 0 (by omega) _ _ hP _
      refine aw_iload_n d_M_spread_10 rfl ?_
      refine aw_if_eq (tgt := 109) d_M_spread_11 rfl (fun g11 => ?_) (fun g11 => ?_)
      · exact absurd g11 (by decide)
      · refine aw_iconst (v := 0) d_M_spread_14 (by decide) ?_
        refine aw_istore_n d_M_spread_15 (by decide) ?_
        refine aw_iconst (v := 0) d_M_spread_16 (by decide) ?_
        refine aw_istore_n d_M_spread_17 (by decide) ?_
        exact ls 0 (by omega) g0 0 ⟨hg0, Or.inr ⟨rfl, rfl, fun s r hr h => by omega⟩⟩ _ _
  have hg0 : GG M sc m (M 62) := ⟨h01, fun p _ h => h, fun P h1 _ p hp h => h1 p hp h⟩
  refine aw_iload_n d_M_spread_0 rfl ?_
  refine aw_if_le (tgt := 8) d_M_spread_1 rfl (fun g1 => ?_) (fun g1 => ?_)
  · have hm0 : m = 0 := by grind [cdv]
    refine aw_iconst (v := 0) d_M_spread_8 (by decide) ?_
    refine aw_istore_n d_M_spread_9 (by decide) ?_
    first
      | (have h := lp 25 (M 62) hg0 (by omega) none none none
         rw [gM_self] at h
         exact h)
      | (have h := ex (M 62) ⟨hg0, fun s hs r hr _ _ ht => by
           exfalso
           have h5 := hC.s5
           have := hk s (by omega)
           unfold TKm at ht
           subst hm0
           grind [cdv]⟩ none none none
         rw [gM_self] at h
         exact h)
  · refine aw_iconst (v := 1) d_M_spread_4 (by decide) ?_
    refine aw_goto (tgt := 9) d_M_spread_5 rfl ?_
    refine aw_istore_n d_M_spread_9 (by decide) ?_
    first
      | (have h := lp 25 (M 62) hg0 (by omega) none none none
         rw [gM_self] at h
         exact h)
      | (have h := ex (M 62) ⟨hg0, fun s hs r hr _ _ ht => by
           exfalso
           have h5 := hC.s5
           have := hk s (by omega)
           unfold TKm at ht
           subst hm0
           grind [cdv]⟩ none none none
         rw [gM_self] at h
         exact h)
theorem t_M_strands (hC : MI M tc sc) (h01 : ∀ p, p < 24 → M 62 p = 0 ∨ M 62 p = 1) (h0 : (¬ ∃ s r, s < sc ∧ r < 24 ∧ STR M s r) → Q (.inl (some 0)) (mm M K b)) (h1 : (∃ s r, s < sc ∧ r < 24 ∧ STR M s r) → Q (.inl (some 1)) (mm M K b)) : MT l Y_M_strands (0, 0) [.ref 48] (mm M K b) Q := by
  refine mt_of (k := 4) (by decide) cd_M_strands.1 (by simp [Value.category]) rfl ?_
  have ls : ∀ i, i ≤ sc → ∀ fl, STI M sc fl i 0 → ∀ w3 w4 : Option Value, AW l Y_M_strands none (0, 0) Q 4 [some (.ref 48), some (.int fl), some (.int (nI i)), w3, w4] [] (mm M K b) := by
    refine loop_dn sc (fun i hi ih => ?_)
    intro fl hP w3 w4
    have lr : i < sc → i < 5 → ∀ j, j ≤ 24 → ∀ fl, STI M sc fl i j → ∀ w4 : Option Value, AW l Y_M_strands none (0, 0) Q 14 [some (.ref 48), some (.int fl), some (.int (nI i)), some (.int (nI j)), w4] [] (mm M K b) := by
      intro hi2 hi5
      refine loop_dn 24 (fun j hj ihj => ?_)
      intro fl hP w4
      have skip : j < 24 → ¬ STR M i j → STI M sc fl i (j + 1) := by
        intro hj2 hn
        rcases hP with h | ⟨h1, h2⟩
        · exact Or.inl h
        · refine Or.inr ⟨h1, fun s r hr h4 => ?_⟩
          by_cases e : s = i ∧ r = j
          · obtain ⟨rfl, rfl⟩ := e; exact hn
          · exact h2 s r hr (by omega)
      refine aw_iload_n d_M_strands_14 rfl ?_
      refine aw_bipush (v := 24) d_M_strands_15 (by decide) ?_
      refine aw_icmp_ge (tgt := 85) d_M_strands_17 rfl (fun g17 => ?_) (fun g17 => ?_)
      · have hj2 := ge_n (n := 24) rfl hj (by omega) g17
        subst hj2
        refine aw_iinc (v := nI (i + 1)) d_M_strands_85 rfl (nI_succ i).symm (by decide) ?_
        refine aw_goto (tgt := 4) d_M_strands_88 rfl ?_
        exact ih hi2 _ (hP.imp id (fun h => ⟨h.1, fun s r hr h4 => h.2 s r hr (by omega)⟩)) _ _
      · have hj2 := lt_n (n := 24) rfl hj (by omega) g17
        refine aw_aload_n d_M_strands_20 rfl ?_
        refine mm_getr (t := 57) f_M_38 d_M_strands_21 (by decide) rfl rfl rfl ?_
        refine aw_bipush (v := 24) d_M_strands_24 (by decide) ?_
        refine aw_iload_n d_M_strands_26 rfl ?_
        refine aw_imul d_M_strands_27 ?_
        refine aw_iload_n d_M_strands_28 rfl ?_
        refine aw_iadd d_M_strands_29 ?_
        refine mm_iald (ix24 i j) d_M_strands_30 (by decide) rfl (by omega) (by decide) ?_
        refine aw_istore d_M_strands_31 (by decide) ?_
        refine aw_iload_n d_M_strands_33 rfl ?_
        refine aw_if_ne (tgt := 73) d_M_strands_34 rfl (fun g34 => ?_) (fun g34 => ?_)
        · have hfl : fl = 1 := by rcases hP with h | h; exact h.1; exact absurd h.1 g34
          subst hfl
          refine aw_iconst (v := 1) d_M_strands_73 (by decide) ?_
          refine aw_goto (tgt := 78) d_M_strands_74 rfl ?_
          refine aw_istore_n d_M_strands_78 (by decide) ?_
          refine aw_iinc (v := nI (j + 1)) d_M_strands_79 rfl (nI_succ j).symm (by decide) ?_
          refine aw_goto (tgt := 14) d_M_strands_82 rfl ?_
          first
            | exact ihj hj2 _ (hP.imp id (fun h => absurd h.1 (by decide))) _
            | exact ihj hj2 _ (skip hj2 (by unfold STR; grind [cdv])) _
            | exact ihj hj2 _ (Or.inl ⟨rfl, i, j, hi2, hj2, by unfold STR; grind [cdv]⟩) _
        · have hfl : fl = 0 := by grind [cdv]
          subst hfl
          refine aw_iload d_M_strands_37 rfl ?_
          refine aw_if_lt (tgt := 77) d_M_strands_39 rfl (fun g39 => ?_) (fun g39 => ?_)
          · refine aw_iconst (v := 0) d_M_strands_77 (by decide) ?_
            refine aw_istore_n d_M_strands_78 (by decide) ?_
            refine aw_iinc (v := nI (j + 1)) d_M_strands_79 rfl (nI_succ j).symm (by decide) ?_
            refine aw_goto (tgt := 14) d_M_strands_82 rfl ?_
            first
              | exact ihj hj2 _ (hP.imp id (fun h => absurd h.1 (by decide))) _
              | exact ihj hj2 _ (skip hj2 (by unfold STR; grind [cdv])) _
              | exact ihj hj2 _ (Or.inl ⟨rfl, i, j, hi2, hj2, by unfold STR; grind [cdv]⟩) _
          · obtain ⟨q, hq24, eq⟩ := plc_ge (hC.own (k := 24 * i + j) (by omega)) (by grind [cdv])
            have e2 : (M 57 (24 * i + j)).toNatClampNeg = q := by rw [eq, nI_clamp (by omega)]
            refine aw_aload_n d_M_strands_42 rfl ?_
            refine mm_getr (t := 62) f_M_56 d_M_strands_43 (by decide) rfl rfl rfl ?_
            refine aw_iload d_M_strands_46 rfl ?_
            refine mm_zald eq d_M_strands_48 (by decide) rfl (by omega) (by decide) ?_
            refine aw_if_eq (tgt := 77) d_M_strands_49 rfl (fun g49 => ?_) (fun g49 => ?_)
            · refine aw_iconst (v := 0) d_M_strands_77 (by decide) ?_
              refine aw_istore_n d_M_strands_78 (by decide) ?_
              refine aw_iinc (v := nI (j + 1)) d_M_strands_79 rfl (nI_succ j).symm (by decide) ?_
              refine aw_goto (tgt := 14) d_M_strands_82 rfl ?_
              first
                | exact ihj hj2 _ (hP.imp id (fun h => absurd h.1 (by decide))) _
                | exact ihj hj2 _ (skip hj2 (by unfold STR; grind [cdv])) _
                | exact ihj hj2 _ (Or.inl ⟨rfl, i, j, hi2, hj2, by unfold STR; grind [cdv]⟩) _
            · refine aw_aload_n d_M_strands_52 rfl ?_
              refine mm_getr (t := 62) f_M_56 d_M_strands_53 (by decide) rfl rfl rfl ?_
              refine aw_iload_n d_M_strands_56 rfl ?_
              refine mm_zald rfl d_M_strands_57 (by decide) rfl (by omega) (by decide) ?_
              refine aw_if_ne (tgt := 77) d_M_strands_58 rfl (fun g58 => ?_) (fun g58 => ?_)
              · refine aw_iconst (v := 0) d_M_strands_77 (by decide) ?_
                refine aw_istore_n d_M_strands_78 (by decide) ?_
                refine aw_iinc (v := nI (j + 1)) d_M_strands_79 rfl (nI_succ j).symm (by decide) ?_
                refine aw_goto (tgt := 14) d_M_strands_82 rfl ?_
                first
                  | exact ihj hj2 _ (hP.imp id (fun h => absurd h.1 (by decide))) _
                  | exact ihj hj2 _ (skip hj2 (by unfold STR; grind [cdv])) _
                  | exact ihj hj2 _ (Or.inl ⟨rfl, i, j, hi2, hj2, by unfold STR; grind [cdv]⟩) _
              · refine aw_aload_n d_M_strands_61 rfl ?_
                refine mm_getr (t := 53) f_M_22 d_M_strands_62 (by decide) rfl rfl rfl ?_
                refine aw_iload_n d_M_strands_65 rfl ?_
                refine mm_iald rfl d_M_strands_66 (by decide) rfl (by omega) (by decide) ?_
                refine aw_iconst (v := 3) d_M_strands_67 (by decide) ?_
                refine aw_irem d_M_strands_68 (by decide) ?_
                refine aw_iconst (v := 1) d_M_strands_69 (by decide) ?_
                refine aw_icmp_ne (tgt := 77) d_M_strands_70 rfl (fun g70 => ?_) (fun g70 => ?_)
                · refine aw_iconst (v := 0) d_M_strands_77 (by decide) ?_
                  refine aw_istore_n d_M_strands_78 (by decide) ?_
                  refine aw_iinc (v := nI (j + 1)) d_M_strands_79 rfl (nI_succ j).symm (by decide) ?_
                  refine aw_goto (tgt := 14) d_M_strands_82 rfl ?_
                  first
                    | exact ihj hj2 _ (hP.imp id (fun h => absurd h.1 (by decide))) _
                    | exact ihj hj2 _ (skip hj2 (by unfold STR; grind [cdv])) _
                    | exact ihj hj2 _ (Or.inl ⟨rfl, i, j, hi2, hj2, by unfold STR; grind [cdv]⟩) _
                · refine aw_iconst (v := 1) d_M_strands_73 (by decide) ?_
                  refine aw_goto (tgt := 78) d_M_strands_74 rfl ?_
                  refine aw_istore_n d_M_strands_78 (by decide) ?_
                  refine aw_iinc (v := nI (j + 1)) d_M_strands_79 rfl (nI_succ j).symm (by decide) ?_
                  refine aw_goto (tgt := 14) d_M_strands_82 rfl ?_
                  first
                    | exact ihj hj2 _ (hP.imp id (fun h => absurd h.1 (by decide))) _
                    | exact ihj hj2 _ (skip hj2 (by unfold STR; grind [cdv])) _
                    | exact ihj hj2 _ (Or.inl ⟨rfl, i, j, hi2, hj2, by unfold STR; grind [cdv]⟩) _
    refine aw_iload_n d_M_strands_4 rfl ?_
    refine aw_aload_n d_M_strands_5 rfl ?_
    refine mm_geti f_M_90 d_M_strands_6 (by decide) rfl rfl ?_
    refine aw_icmp_ge (tgt := 91) d_M_strands_9 rfl (fun g9 => ?_) (fun g9 => ?_)
    · have hi2 := ge_n (n := sc) hC.sc hi (by have := hC.s5; omega) g9
      subst hi2
      refine aw_iload_n d_M_strands_91 rfl ?_
      refine aw_iret d_M_strands_92 rfl (by rcases hP with h | h <;> (rw [h.1]; rfl)) ?_
      rcases hP with ⟨rfl, h⟩ | ⟨rfl, h⟩
      · exact h1 h
      · exact h0 (fun ⟨s, r, h2, h3, h4⟩ => h s r h3 (Or.inl h2) h4)
    · have hi2 := lt_n (n := sc) hC.sc hi (by have := hC.s5; omega) g9
      have hi5 : i < 5 := by have := hC.s5; omega
      refine aw_iconst (v := 0) d_M_strands_12 (by decide) ?_
      refine aw_istore_n d_M_strands_13 (by decide) ?_
      exact lr hi2 hi5 0 (by omega) _ hP _
  refine aw_iconst (v := 0) d_M_strands_0 (by decide) ?_
  refine aw_istore_n d_M_strands_1 (by decide) ?_
  refine aw_iconst (v := 0) d_M_strands_2 (by decide) ?_
  refine aw_istore_n d_M_strands_3 (by decide) ?_
  exact ls 0 (by omega) 0 (Or.inr ⟨rfl, fun s r hr h => by omega⟩) _ _
theorem t_M_heir (hC : MI M tc sc) {s : Nat} (hs : s < 5) (hO : HOK M s) (hq : Q (.inl (some (mhe M s))) (mm M K b)) : MT l Y_M_heir (1, 19) [.ref 48, .int (nI s)] (mm M K b) Q := by
  refine mt_of (k := 2) (by decide) cd_M_heir.1 (by simp [Value.category]) rfl ?_
  have hln := hC.ln hs
  have fin : ∀ ow x, plc ow → Q (.inl (some (if x < 0 then ow else x))) (mm M K b) → AW l Y_M_heir none (1, 19) Q 100 [some (.ref 48), some (.int (nI s)), some (.int x), some (.int ow)] [] (mm M K b) := by
    intro ow x ho hq
    refine aw_iload_n d_M_heir_100 rfl ?_
    refine aw_if_ge (tgt := 108) d_M_heir_101 rfl (fun g101 => ?_) (fun g101 => ?_)
    · refine aw_iload_n d_M_heir_108 rfl ?_
      refine aw_iret d_M_heir_109 rfl rfl ?_
      refine q_val hq ?_
      first
        | (rw [if_neg (Int32.not_lt.mpr g101)]; done)
        | (rw [if_pos (by grind [cdv])]; done)
    · refine aw_iload_n d_M_heir_104 rfl ?_
      refine aw_goto (tgt := 109) d_M_heir_105 rfl ?_
      refine aw_iret d_M_heir_109 rfl rfl ?_
      refine q_val hq ?_
      first
        | (rw [if_neg (Int32.not_lt.mpr g101)]; done)
        | (rw [if_pos (by grind [cdv])]; done)
  have lp : ∀ ow, plc ow → ∀ d k, k < mln M s → k < d → M 57 (24 * s + (M 58 (24 * s + k)).toNatClampNeg) = ow → Q (.inl (some (if mhw M s ow (k + 1) < 0 then ow else mhw M s ow (k + 1)))) (mm M K b) → AW l Y_M_heir none (1, 19) Q 68 [some (.ref 48), some (.int (nI s)), some (.int (M 58 (24 * s + k))), some (.int ow)] [] (mm M K b) := by
    intro ow ho d
    induction d with
    | zero => intro k _ h; omega
    | succ d ih =>
      intro k hk hd hown hq
      obtain ⟨p, hp, ep⟩ := hC.lst (k := 24 * s + k) (by omega)
      have e2 : (M 58 (24 * s + k)).toNatClampNeg = p := by rw [ep, nI_clamp (by omega)]
      refine aw_iload_n d_M_heir_68 rfl ?_
      refine aw_if_lt (tgt := 100) d_M_heir_69 rfl (fun g69 => ?_) (fun g69 => ?_)
      · exact absurd g69 (by rw [ep]; exact Int32.not_lt.mpr (nI_ge0 hp))
      · refine aw_aload_n d_M_heir_72 rfl ?_
        refine mm_getr (t := 62) f_M_56 d_M_heir_73 (by decide) rfl rfl rfl ?_
        refine aw_iload_n d_M_heir_76 rfl ?_
        refine mm_zald ep d_M_heir_77 (by decide) rfl (by omega) (by decide) ?_
        refine aw_if_eq (tgt := 100) d_M_heir_78 rfl (fun g78 => ?_) (fun g78 => ?_)
        · have em : mhw M s ow (k + 1) = M 58 (24 * s + k) := by simp only [mhw]; rw [if_pos ⟨hown, by rw [e2]; exact g78⟩]
          rw [em] at hq
          exact fin ow _ ho hq
        · have em : mhw M s ow (k + 1) = mhw M s ow k := by simp only [mhw]; rw [if_neg (fun h => g78 (by rw [← e2]; exact h.2))]
          rw [em] at hq
          refine aw_aload_n d_M_heir_81 rfl ?_
          refine aw_iload_n d_M_heir_82 rfl ?_
          refine aw_iload_n d_M_heir_83 rfl ?_
          refine aw_aload_n d_M_heir_84 rfl ?_
          refine aw_iload_n d_M_heir_85 rfl ?_
          refine aw_iload_n d_M_heir_86 rfl ?_
          refine aw_cV2 (d' := (0, 0)) d_M_heir_87 lk_M_109 cd_M_placeOf (Nat.le_of_ble_eq_true rfl) rfl rfl ⟨Nat.le_of_ble_eq_true rfl, Nat.le_of_ble_eq_true rfl⟩ (fun _ h => nomatch h) ?_
          refine t_M_placeOf hs hln.2 hln.1 ?_
          rw [mpo_at _ hO.1 hk]
          refine ow_next_i ?_
          refine aw_iconst (v := 1) d_M_heir_90 (by decide) ?_
          refine aw_isub d_M_heir_91 ?_
          refine aw_iconst (v := -1) d_M_heir_92 (by decide) ?_
          refine aw_cV4 (d' := (0, 0)) d_M_heir_93 lk_M_105 cd_M_nextIn (Nat.le_of_ble_eq_true rfl) rfl rfl ⟨Nat.le_of_ble_eq_true rfl, Nat.le_of_ble_eq_true rfl⟩ (fun _ h => nomatch h) ?_
          refine t_M_nextInB hC hs hln.2 hln.1 (a := k) (by omega) (Or.inl (pv_sub k)) ?_
          refine ow_next_i ?_
          refine aw_istore_n d_M_heir_96 (by decide) ?_
          rcases mnb_sp M s ow k with ⟨q1, q2⟩ | ⟨j, q1, q2, q3, q4⟩
          · have e5 : mhw M s ow k = -1 := mhw_skip (j := 0) (by omega) (fun i _ h => q2 i h)
            rw [e5] at hq
            rw [q1]
            refine aw_goto (tgt := 68) d_M_heir_97 rfl ?_
            refine aw_iload_n d_M_heir_68 rfl ?_
            refine aw_if_lt (tgt := 100) d_M_heir_69 rfl (fun g69 => ?_) (fun g69 => ?_)
            · exact fin ow (-1) ho hq
            · exact absurd (by decide) g69
          rw [mhw_skip (j := j + 1) (by omega) (fun i h1 h2 => q4 i (by omega) h2)] at hq
          rw [q2]
          refine aw_goto (tgt := 68) d_M_heir_97 rfl ?_
          exact ih j (by omega) (by omega) q3 hq
  refine aw_aload_n d_M_heir_0 rfl ?_
  refine mm_getr (t := 61) f_M_53 d_M_heir_1 (by decide) rfl rfl rfl ?_
  refine aw_iload_n d_M_heir_4 rfl ?_
  refine mm_iald rfl d_M_heir_5 (by decide) rfl (by omega) (by decide) ?_
  refine aw_istore_n d_M_heir_6 (by decide) ?_
  refine aw_iload_n d_M_heir_7 rfl ?_
  refine aw_if_lt (tgt := 26) d_M_heir_8 rfl (fun g8 => ?_) (fun g8 => ?_)
  · refine aw_iload_n d_M_heir_26 rfl ?_
    refine aw_if_lt (tgt := 43) d_M_heir_27 rfl (fun g27 => ?_) (fun g27 => ?_)
    · refine aw_iload_n d_M_heir_43 rfl ?_
      refine aw_iret d_M_heir_44 rfl rfl ?_
      refine q_val hq ?_
      unfold mhe
      first
        | (rw [if_pos (by grind [cdv]), if_pos (by grind [cdv])]; done)
        | (rw [if_pos (by grind [cdv]), if_neg (by grind [cdv])]; done)
    · obtain ⟨c, hc, ec⟩ := plc_ge (hC.ofS hs) g27
      have e2 : (M 61 s).toNatClampNeg = c := by rw [ec, nI_clamp (by omega)]
      refine aw_aload_n d_M_heir_30 rfl ?_
      refine mm_getr (t := 62) f_M_56 d_M_heir_31 (by decide) rfl rfl rfl ?_
      refine aw_iload_n d_M_heir_34 rfl ?_
      refine mm_zald ec d_M_heir_35 (by decide) rfl (by omega) (by decide) ?_
      refine aw_if_eq (tgt := 43) d_M_heir_36 rfl (fun g36 => ?_) (fun g36 => ?_)
      · refine aw_iload_n d_M_heir_43 rfl ?_
        refine aw_iret d_M_heir_44 rfl rfl ?_
        refine q_val hq ?_
        unfold mhe
        first
          | (rw [if_pos (by grind [cdv]), if_pos (by grind [cdv])]; done)
          | (rw [if_pos (by grind [cdv]), if_neg (by grind [cdv])]; done)
      · refine aw_iconst (v := -1) d_M_heir_39 (by decide) ?_
        refine aw_goto (tgt := 44) d_M_heir_40 rfl ?_
        refine aw_iret d_M_heir_44 rfl rfl ?_
        refine q_val hq ?_
        unfold mhe
        first
          | (rw [if_pos (by grind [cdv]), if_pos (by grind [cdv])]; done)
          | (rw [if_pos (by grind [cdv]), if_neg (by grind [cdv])]; done)
  · obtain ⟨c, hc, ec⟩ := plc_ge (hC.ofS hs) g8
    have e2 : (M 61 s).toNatClampNeg = c := by rw [ec, nI_clamp (by omega)]
    refine aw_aload_n d_M_heir_11 rfl ?_
    refine mm_getr (t := 55) f_M_32 d_M_heir_12 (by decide) rfl rfl rfl ?_
    refine aw_iload_n d_M_heir_15 rfl ?_
    refine mm_iald ec d_M_heir_16 (by decide) rfl (by omega) (by decide) ?_
    refine aw_aload_n d_M_heir_17 rfl ?_
    refine mm_getr (t := 50) f_M_13 d_M_heir_18 (by decide) rfl rfl rfl ?_
    refine aw_iload_n d_M_heir_21 rfl ?_
    refine mm_iald rfl d_M_heir_22 (by decide) rfl (by omega) (by decide) ?_
    refine aw_icmp_ne (tgt := 45) d_M_heir_23 rfl (fun g23 => ?_) (fun g23 => ?_)
    · obtain ⟨q1, c2, hc2, ec2⟩ := hO.2 g8 (by rw [e2]; exact g23)
      obtain ⟨ow, how, eow⟩ := plc_ge' (hC.own (k := 24 * s + c) (by omega)) (by rw [← e2]; exact q1)
      have e4 : (M 57 (24 * s + c)).toNatClampNeg = ow := by rw [eow, nI_clamp (by omega)]
      have e3 : mpo M s (M 61 s) (mln M s) = nI c2 := by rw [← ec2]; exact mpo_at _ hO.1 hc2
      refine aw_aload_n d_M_heir_45 rfl ?_
      refine mm_getr (t := 57) f_M_38 d_M_heir_46 (by decide) rfl rfl rfl ?_
      refine aw_bipush (v := 24) d_M_heir_49 (by decide) ?_
      refine aw_iload_n d_M_heir_51 rfl ?_
      refine aw_imul d_M_heir_52 ?_
      refine aw_iload_n d_M_heir_53 rfl ?_
      refine aw_iadd d_M_heir_54 ?_
      refine mm_iald (by rw [ec]; exact ix24 s c) d_M_heir_55 (by decide) rfl (by omega) (by decide) ?_
      refine aw_istore_n d_M_heir_56 (by decide) ?_
      refine aw_aload_n d_M_heir_57 rfl ?_
      refine mm_getr (t := 62) f_M_56 d_M_heir_58 (by decide) rfl rfl rfl ?_
      refine aw_iload_n d_M_heir_61 rfl ?_
      refine mm_zald eow d_M_heir_62 (by decide) rfl (by omega) (by decide) ?_
      refine aw_if_eq (tgt := 68) d_M_heir_63 rfl (fun g63 => ?_) (fun g63 => ?_)
      · rw [show M 61 s = M 58 (24 * s + c2) from ec2.symm]
        refine lp (M 57 (24 * s + c)) (hC.own (by omega)) 24 c2 hc2 (by omega) (by rw [ec2, e2]) ?_
        have hm : mhe M s = (if mhw M s (M 57 (24 * s + c)) (c2 + 1) < 0 then M 57 (24 * s + c) else mhw M s (M 57 (24 * s + c)) (c2 + 1)) := by
          unfold mhe
          rw [e2, if_neg (by grind [cdv]), if_neg (by rw [e4]; exact fun h => h g63), e3, nI_clamp (by omega)]
        rw [hm] at hq
        exact hq
      · refine aw_iconst (v := -1) d_M_heir_66 (by decide) ?_
        refine aw_iret d_M_heir_67 rfl rfl ?_
        refine q_val hq ?_
        unfold mhe
        rw [e2, if_neg (by grind [cdv]), if_pos (by rw [e4]; exact g63)]
    · refine aw_iload_n d_M_heir_26 rfl ?_
      refine aw_if_lt (tgt := 43) d_M_heir_27 rfl (fun g27 => ?_) (fun g27 => ?_)
      · refine aw_iload_n d_M_heir_43 rfl ?_
        refine aw_iret d_M_heir_44 rfl rfl ?_
        refine q_val hq ?_
        unfold mhe
        first
          | (rw [if_pos (by grind [cdv]), if_pos (by grind [cdv])]; done)
          | (rw [if_pos (by grind [cdv]), if_neg (by grind [cdv])]; done)
      · obtain ⟨c, hc, ec⟩ := plc_ge (hC.ofS hs) g27
        have e2 : (M 61 s).toNatClampNeg = c := by rw [ec, nI_clamp (by omega)]
        refine aw_aload_n d_M_heir_30 rfl ?_
        refine mm_getr (t := 62) f_M_56 d_M_heir_31 (by decide) rfl rfl rfl ?_
        refine aw_iload_n d_M_heir_34 rfl ?_
        refine mm_zald ec d_M_heir_35 (by decide) rfl (by omega) (by decide) ?_
        refine aw_if_eq (tgt := 43) d_M_heir_36 rfl (fun g36 => ?_) (fun g36 => ?_)
        · refine aw_iload_n d_M_heir_43 rfl ?_
          refine aw_iret d_M_heir_44 rfl rfl ?_
          refine q_val hq ?_
          unfold mhe
          first
            | (rw [if_pos (by grind [cdv]), if_pos (by grind [cdv])]; done)
            | (rw [if_pos (by grind [cdv]), if_neg (by grind [cdv])]; done)
        · refine aw_iconst (v := -1) d_M_heir_39 (by decide) ?_
          refine aw_goto (tgt := 44) d_M_heir_40 rfl ?_
          refine aw_iret d_M_heir_44 rfl rfl ?_
          refine q_val hq ?_
          unfold mhe
          first
            | (rw [if_pos (by grind [cdv]), if_pos (by grind [cdv])]; done)
            | (rw [if_pos (by grind [cdv]), if_neg (by grind [cdv])]; done)
theorem t_M_sweep (hC : MI M tc sc) (hk : swOK M sc) (hq : Q (.inl (some (ngo (swS M sc)))) (mm (swM M sc) K b)) : MT l Y_M_sweep (2, 32) [.ref 48] (mm M K b) Q := by
  refine mt_of (k := 3) (by decide) cd_M_sweep.1 (by simp [Value.category]) rfl ?_
  have l2 : ∀ i, i ≤ 24 → ∀ w3 : Option Value, AW l Y_M_sweep none (2, 32) Q 74 [some (.ref 48), some (.int (nI (cn (fun r => decide (¬ (swS M sc) 62 r = 0)) i))), some (.int (nI i)), w3] [] (mm (swK (swS M sc) i) K b) := by
    refine loop_dn 24 (fun i hi ih => ?_)
    intro w3
    refine aw_iload_n d_M_sweep_74 rfl ?_
    refine aw_bipush (v := 24) d_M_sweep_75 (by decide) ?_
    refine aw_icmp_ge (tgt := 128) d_M_sweep_77 rfl (fun g77 => ?_) (fun g77 => ?_)
    · have hi2 := ge_n (n := 24) rfl hi (by omega) g77
      subst hi2
      refine aw_iload_n d_M_sweep_128 rfl ?_
      refine aw_iret d_M_sweep_129 rfl rfl ?_
      exact hq
    · have hi2 := lt_n (n := 24) rfl hi (by omega) g77
      refine aw_iload_n d_M_sweep_80 rfl ?_
      refine aw_aload_n d_M_sweep_81 rfl ?_
      refine mm_getr (t := 62) f_M_56 d_M_sweep_82 (by decide) rfl rfl rfl ?_
      refine aw_iload_n d_M_sweep_85 rfl ?_
      refine mm_zald rfl d_M_sweep_86 (by decide) rfl (by omega) (by decide) ?_
      rw [swK_ne (by decide)]
      refine aw_if_eq (tgt := 94) d_M_sweep_87 rfl (fun g87 => ?_) (fun g87 => ?_)
      · refine aw_iconst (v := 0) d_M_sweep_94 (by decide) ?_
        refine aw_iadd d_M_sweep_95 ?_
        first | rw [← nI_succ] | rw [Int32.add_zero]
        refine aw_istore_n d_M_sweep_96 (by decide) ?_
        refine aw_aload_n d_M_sweep_97 rfl ?_
        refine mm_getr (t := 54) f_M_29 d_M_sweep_98 (by decide) rfl rfl rfl ?_
        refine aw_iload_n d_M_sweep_101 rfl ?_
        refine aw_aload_n d_M_sweep_102 rfl ?_
        refine mm_getr (t := 62) f_M_56 d_M_sweep_103 (by decide) rfl rfl rfl ?_
        refine aw_iload_n d_M_sweep_106 rfl ?_
        refine mm_zald rfl d_M_sweep_107 (by decide) rfl (by omega) (by decide) ?_
        rw [swK_ne (by decide)]
        refine aw_if_eq (tgt := 115) d_M_sweep_108 rfl (fun g108 => ?_) (fun g108 => ?_)
        · refine aw_aload_n d_M_sweep_115 rfl ?_
          refine mm_getr (t := 54) f_M_29 d_M_sweep_116 (by decide) rfl rfl rfl ?_
          refine aw_iload_n d_M_sweep_119 rfl ?_
          refine mm_iald rfl d_M_sweep_120 (by decide) rfl (by omega) (by decide) ?_
          rw [swK_ge (Nat.le_refl _)]
          refine mm_iast rfl d_M_sweep_121 (by decide) rfl (by omega) (by decide) ?_
          first | rw [swK_y (by grind [cdv])] | rw [swK_n (by grind [cdv])]
          refine aw_iinc (v := nI (i + 1)) d_M_sweep_122 rfl (nI_succ i).symm (by decide) ?_
          refine aw_goto (tgt := 74) d_M_sweep_125 rfl ?_
          first
            | (rw [show cn (fun r => decide (¬ (swS M sc) 62 r = 0)) (i + 1) = cn (fun r => decide (¬ (swS M sc) 62 r = 0)) i + 1 from by simp only [cn]; rw [if_pos (by grind [cdv])]] at ih; exact ih hi2 _)
            | (rw [show cn (fun r => decide (¬ (swS M sc) 62 r = 0)) (i + 1) = cn (fun r => decide (¬ (swS M sc) 62 r = 0)) i from by simp only [cn]; rw [if_neg (by grind [cdv])]; rfl] at ih; exact ih hi2 _)
            | exact absurd g87 g108
            | exact absurd g108 g87
        · refine aw_iconst (v := 0) d_M_sweep_111 (by decide) ?_
          refine aw_goto (tgt := 121) d_M_sweep_112 rfl ?_
          refine mm_iast rfl d_M_sweep_121 (by decide) rfl (by omega) (by decide) ?_
          first | rw [swK_y (by grind [cdv])] | rw [swK_n (by grind [cdv])]
          refine aw_iinc (v := nI (i + 1)) d_M_sweep_122 rfl (nI_succ i).symm (by decide) ?_
          refine aw_goto (tgt := 74) d_M_sweep_125 rfl ?_
          first
            | (rw [show cn (fun r => decide (¬ (swS M sc) 62 r = 0)) (i + 1) = cn (fun r => decide (¬ (swS M sc) 62 r = 0)) i + 1 from by simp only [cn]; rw [if_pos (by grind [cdv])]] at ih; exact ih hi2 _)
            | (rw [show cn (fun r => decide (¬ (swS M sc) 62 r = 0)) (i + 1) = cn (fun r => decide (¬ (swS M sc) 62 r = 0)) i from by simp only [cn]; rw [if_neg (by grind [cdv])]; rfl] at ih; exact ih hi2 _)
            | exact absurd g87 g108
            | exact absurd g108 g87
      · refine aw_iconst (v := 1) d_M_sweep_90 (by decide) ?_
        refine aw_goto (tgt := 95) d_M_sweep_91 rfl ?_
        refine aw_iadd d_M_sweep_95 ?_
        first | rw [← nI_succ] | rw [Int32.add_zero]
        refine aw_istore_n d_M_sweep_96 (by decide) ?_
        refine aw_aload_n d_M_sweep_97 rfl ?_
        refine mm_getr (t := 54) f_M_29 d_M_sweep_98 (by decide) rfl rfl rfl ?_
        refine aw_iload_n d_M_sweep_101 rfl ?_
        refine aw_aload_n d_M_sweep_102 rfl ?_
        refine mm_getr (t := 62) f_M_56 d_M_sweep_103 (by decide) rfl rfl rfl ?_
        refine aw_iload_n d_M_sweep_106 rfl ?_
        refine mm_zald rfl d_M_sweep_107 (by decide) rfl (by omega) (by decide) ?_
        rw [swK_ne (by decide)]
        refine aw_if_eq (tgt := 115) d_M_sweep_108 rfl (fun g108 => ?_) (fun g108 => ?_)
        · refine aw_aload_n d_M_sweep_115 rfl ?_
          refine mm_getr (t := 54) f_M_29 d_M_sweep_116 (by decide) rfl rfl rfl ?_
          refine aw_iload_n d_M_sweep_119 rfl ?_
          refine mm_iald rfl d_M_sweep_120 (by decide) rfl (by omega) (by decide) ?_
          rw [swK_ge (Nat.le_refl _)]
          refine mm_iast rfl d_M_sweep_121 (by decide) rfl (by omega) (by decide) ?_
          first | rw [swK_y (by grind [cdv])] | rw [swK_n (by grind [cdv])]
          refine aw_iinc (v := nI (i + 1)) d_M_sweep_122 rfl (nI_succ i).symm (by decide) ?_
          refine aw_goto (tgt := 74) d_M_sweep_125 rfl ?_
          first
            | (rw [show cn (fun r => decide (¬ (swS M sc) 62 r = 0)) (i + 1) = cn (fun r => decide (¬ (swS M sc) 62 r = 0)) i + 1 from by simp only [cn]; rw [if_pos (by grind [cdv])]] at ih; exact ih hi2 _)
            | (rw [show cn (fun r => decide (¬ (swS M sc) 62 r = 0)) (i + 1) = cn (fun r => decide (¬ (swS M sc) 62 r = 0)) i from by simp only [cn]; rw [if_neg (by grind [cdv])]; rfl] at ih; exact ih hi2 _)
            | exact absurd g87 g108
            | exact absurd g108 g87
        · refine aw_iconst (v := 0) d_M_sweep_111 (by decide) ?_
          refine aw_goto (tgt := 121) d_M_sweep_112 rfl ?_
          refine mm_iast rfl d_M_sweep_121 (by decide) rfl (by omega) (by decide) ?_
          first | rw [swK_y (by grind [cdv])] | rw [swK_n (by grind [cdv])]
          refine aw_iinc (v := nI (i + 1)) d_M_sweep_122 rfl (nI_succ i).symm (by decide) ?_
          refine aw_goto (tgt := 74) d_M_sweep_125 rfl ?_
          first
            | (rw [show cn (fun r => decide (¬ (swS M sc) 62 r = 0)) (i + 1) = cn (fun r => decide (¬ (swS M sc) 62 r = 0)) i + 1 from by simp only [cn]; rw [if_pos (by grind [cdv])]] at ih; exact ih hi2 _)
            | (rw [show cn (fun r => decide (¬ (swS M sc) 62 r = 0)) (i + 1) = cn (fun r => decide (¬ (swS M sc) 62 r = 0)) i from by simp only [cn]; rw [if_neg (by grind [cdv])]; rfl] at ih; exact ih hi2 _)
            | exact absurd g87 g108
            | exact absurd g108 g87
  have ls : ∀ i, i ≤ sc → ∀ w2 w3 : Option Value, AW l Y_M_sweep none (2, 32) Q 2 [some (.ref 48), some (.int (nI i)), w2, w3] [] (mm (swS M i) K b) := by
    refine loop_dn sc (fun i hi ih => ?_)
    intro w2 w3
    have hCi := hC.sS hk hi
    have lr : i < sc → i < 5 → ∀ j, j ≤ 24 → ∀ w3 : Option Value, AW l Y_M_sweep none (2, 32) Q 12 [some (.ref 48), some (.int (nI i)), some (.int (nI j)), w3] [] (mm (swP (swS M i) i j) K b) := by
      intro hi2 hi5
      refine loop_dn 24 (fun j hj ihj => ?_)
      intro w3
      have hCj := hCi.sP hk hi2 hj
      refine aw_iload_n d_M_sweep_12 rfl ?_
      refine aw_bipush (v := 24) d_M_sweep_13 (by decide) ?_
      refine aw_icmp_ge (tgt := 64) d_M_sweep_15 rfl (fun g15 => ?_) (fun g15 => ?_)
      · have hj2 := ge_n (n := 24) rfl hj (by omega) g15
        subst hj2
        refine aw_iinc (v := nI (i + 1)) d_M_sweep_64 rfl (nI_succ i).symm (by decide) ?_
        refine aw_goto (tgt := 2) d_M_sweep_67 rfl ?_
        exact ih hi2 _ _
      · have hj2 := lt_n (n := 24) rfl hj (by omega) g15
        refine aw_aload_n d_M_sweep_18 rfl ?_
        refine mm_getr (t := 57) f_M_38 d_M_sweep_19 (by decide) rfl rfl rfl ?_
        refine aw_bipush (v := 24) d_M_sweep_22 (by decide) ?_
        refine aw_iload_n d_M_sweep_24 rfl ?_
        refine aw_imul d_M_sweep_25 ?_
        refine aw_iload_n d_M_sweep_26 rfl ?_
        refine aw_iadd d_M_sweep_27 ?_
        refine mm_iald (ix24 i j) d_M_sweep_28 (by decide) rfl (by omega) (by decide) ?_
        refine aw_istore_n d_M_sweep_29 (by decide) ?_
        refine aw_iload_n d_M_sweep_30 rfl ?_
        refine aw_if_lt (tgt := 58) d_M_sweep_31 rfl (fun g31 => ?_) (fun g31 => ?_)
        · refine aw_iinc (v := nI (j + 1)) d_M_sweep_58 rfl (nI_succ j).symm (by decide) ?_
          refine aw_goto (tgt := 12) d_M_sweep_61 rfl ?_
          first
            | (rw [show swP (swS M i) i (j + 1) = mlv (swP (swS M i) i j) i j from by simp only [swP]; rw [swS_ne (c := 62) (by decide) (by decide) (by decide), if_pos (by grind [cdv])]] at ihj; exact ihj hj2 _)
            | (rw [show swP (swS M i) i (j + 1) = swP (swS M i) i j from by simp only [swP]; rw [swS_ne (c := 62) (by decide) (by decide) (by decide), if_neg (by grind [cdv])]] at ihj; exact ihj hj2 _)
        · obtain ⟨q, hq24, eq⟩ := plc_ge (hCj.own (k := 24 * i + j) (by omega)) (by grind [cdv])
          have e2 : (swP (swS M i) i j 57 (24 * i + j)).toNatClampNeg = q := by rw [eq, nI_clamp (by omega)]
          refine aw_aload_n d_M_sweep_34 rfl ?_
          refine mm_getr (t := 62) f_M_56 d_M_sweep_35 (by decide) rfl rfl rfl ?_
          refine aw_iload_n d_M_sweep_38 rfl ?_
          refine mm_zald rfl d_M_sweep_39 (by decide) rfl (by omega) (by decide) ?_
          rw [swP_ne (c := 62) (by decide) (by decide) (by decide), swS_ne (c := 62) (by decide) (by decide) (by decide)]
          refine aw_if_ne (tgt := 52) d_M_sweep_40 rfl (fun g40 => ?_) (fun g40 => ?_)
          · refine aw_aload_n d_M_sweep_52 rfl ?_
            refine aw_iload_n d_M_sweep_53 rfl ?_
            refine aw_iload_n d_M_sweep_54 rfl ?_
            have hob := hk i hi2 j hj2 (by grind [cdv]) (by grind [cdv])
            refine aw_cV2 (d' := (1, 16)) d_M_sweep_55 lk_M_157 cd_M_leave (Nat.le_of_ble_eq_true rfl) rfl rfl ⟨Nat.le_of_ble_eq_true rfl, Nat.le_of_ble_eq_true rfl⟩ (fun _ h => nomatch h) ?_
            refine t_M_leave hi5 hj2 hob ?_
            refine ow_next_v ?_
            refine aw_iinc (v := nI (j + 1)) d_M_sweep_58 rfl (nI_succ j).symm (by decide) ?_
            refine aw_goto (tgt := 12) d_M_sweep_61 rfl ?_
            first
              | (rw [show swP (swS M i) i (j + 1) = mlv (swP (swS M i) i j) i j from by simp only [swP]; rw [swS_ne (c := 62) (by decide) (by decide) (by decide), if_pos (by grind [cdv])]] at ihj; exact ihj hj2 _)
              | (rw [show swP (swS M i) i (j + 1) = swP (swS M i) i j from by simp only [swP]; rw [swS_ne (c := 62) (by decide) (by decide) (by decide), if_neg (by grind [cdv])]] at ihj; exact ihj hj2 _)
          · refine aw_aload_n d_M_sweep_43 rfl ?_
            refine mm_getr (t := 62) f_M_56 d_M_sweep_44 (by decide) rfl rfl rfl ?_
            refine aw_iload_n d_M_sweep_47 rfl ?_
            refine mm_zald eq d_M_sweep_48 (by decide) rfl (by omega) (by decide) ?_
            rw [swP_ne (c := 62) (by decide) (by decide) (by decide), swS_ne (c := 62) (by decide) (by decide) (by decide)]
            refine aw_if_eq (tgt := 58) d_M_sweep_49 rfl (fun g49 => ?_) (fun g49 => ?_)
            · refine aw_iinc (v := nI (j + 1)) d_M_sweep_58 rfl (nI_succ j).symm (by decide) ?_
              refine aw_goto (tgt := 12) d_M_sweep_61 rfl ?_
              first
                | (rw [show swP (swS M i) i (j + 1) = mlv (swP (swS M i) i j) i j from by simp only [swP]; rw [swS_ne (c := 62) (by decide) (by decide) (by decide), if_pos (by grind [cdv])]] at ihj; exact ihj hj2 _)
                | (rw [show swP (swS M i) i (j + 1) = swP (swS M i) i j from by simp only [swP]; rw [swS_ne (c := 62) (by decide) (by decide) (by decide), if_neg (by grind [cdv])]] at ihj; exact ihj hj2 _)
            · refine aw_aload_n d_M_sweep_52 rfl ?_
              refine aw_iload_n d_M_sweep_53 rfl ?_
              refine aw_iload_n d_M_sweep_54 rfl ?_
              have hob := hk i hi2 j hj2 (by grind [cdv]) (by grind [cdv])
              refine aw_cV2 (d' := (1, 16)) d_M_sweep_55 lk_M_157 cd_M_leave (Nat.le_of_ble_eq_true rfl) rfl rfl ⟨Nat.le_of_ble_eq_true rfl, Nat.le_of_ble_eq_true rfl⟩ (fun _ h => nomatch h) ?_
              refine t_M_leave hi5 hj2 hob ?_
              refine ow_next_v ?_
              refine aw_iinc (v := nI (j + 1)) d_M_sweep_58 rfl (nI_succ j).symm (by decide) ?_
              refine aw_goto (tgt := 12) d_M_sweep_61 rfl ?_
              first
                | (rw [show swP (swS M i) i (j + 1) = mlv (swP (swS M i) i j) i j from by simp only [swP]; rw [swS_ne (c := 62) (by decide) (by decide) (by decide), if_pos (by grind [cdv])]] at ihj; exact ihj hj2 _)
                | (rw [show swP (swS M i) i (j + 1) = swP (swS M i) i j from by simp only [swP]; rw [swS_ne (c := 62) (by decide) (by decide) (by decide), if_neg (by grind [cdv])]] at ihj; exact ihj hj2 _)
    refine aw_iload_n d_M_sweep_2 rfl ?_
    refine aw_aload_n d_M_sweep_3 rfl ?_
    refine mm_geti f_M_90 d_M_sweep_4 (by decide) rfl rfl ?_
    refine aw_icmp_ge (tgt := 70) d_M_sweep_7 rfl (fun g7 => ?_) (fun g7 => ?_)
    · have hi2 := ge_n (n := sc) hCi.sc hi (by have := hC.s5; omega) g7
      subst hi2
      refine aw_iconst (v := 0) d_M_sweep_70 (by decide) ?_
      refine aw_istore_n d_M_sweep_71 (by decide) ?_
      refine aw_iconst (v := 0) d_M_sweep_72 (by decide) ?_
      refine aw_istore_n d_M_sweep_73 (by decide) ?_
      have h := l2 0 (by omega) w3
      rw [swK_0] at h
      exact h
    · have hi2 := lt_n (n := sc) hCi.sc hi (by have := hC.s5; omega) g7
      have hi5 : i < 5 := by have := hC.s5; omega
      refine aw_iconst (v := 0) d_M_sweep_10 (by decide) ?_
      refine aw_istore_n d_M_sweep_11 (by decide) ?_
      exact lr hi2 hi5 0 (by omega) _
  refine aw_iconst (v := 0) d_M_sweep_0 (by decide) ?_
  refine aw_istore_n d_M_sweep_1 (by decide) ?_
  exact ls 0 (by omega) _ _
theorem t_M_erase (hC : MI M tc sc) {m : Int32} (hk : ∀ s, s < 5 → 0 ≤ M 53 s - M 53 s / 3 * 3) (hq : D_erase M tc sc m (fun r M' => Q (.inl (some r)) (mm M' K b))) : MT l Y_M_erase (3, 47) [.ref 48, .int m] (mm M K b) Q := by
  refine mt_of (k := 1) (by decide) cd_M_erase.1 (by simp [Value.category]) rfl ?_
  have tl : ∀ p g, EOK (ow_u (gM (gI (ow_u M 48 0 0) p 24) g) 48 0 0) tc sc → Q (.inl (some (ngo (swS (esM (ow_u (gM (gI (ow_u M 48 0 0) p 24) g) 48 0 0) tc sc) sc)))) (mm (swM (esM (ow_u (gM (gI (ow_u M 48 0 0) p 24) g) 48 0 0) tc sc) sc) K b) → ∀ w2 : Option Value, AW l Y_M_erase none (3, 47) Q 125 [some (.ref 48), some (.int m), w2] [] (mm (ow_u (gM (gI (ow_u M 48 0 0) p 24) g) 48 0 0) K b) := by
    intro p g hE hq w2
    have hCX := ((((hC.cd 0).gi (p := p) (i := 24)).gg g).cd 0)
    have hCh := hCX.hS hE.1 (Nat.le_refl sc)
    have lt : ∀ i, i ≤ tc → AW l Y_M_erase none (3, 47) Q 154 [some (.ref 48), some (.int m), some (.int (nI i))] [] (mm (mtT (mhS (ow_u (gM (gI (ow_u M 48 0 0) p 24) g) 48 0 0) sc) i) K b) := by
      refine loop_dn tc (fun i hi ih => ?_)
      have hCi := hCh.tT (i := i) (by have := hC.t4; omega)
      refine aw_iload_n d_M_erase_154 rfl ?_
      refine aw_aload_n d_M_erase_155 rfl ?_
      refine mm_geti f_M_87 d_M_erase_156 (by decide) rfl rfl ?_
      refine aw_icmp_ge (tgt := 207) d_M_erase_159 rfl (fun g159 => ?_) (fun g159 => ?_)
      · have hi2 := ge_n (n := tc) hCi.tc hi (by have := hC.t4; omega) g159
        subst hi2
        refine aw_aload_n d_M_erase_207 rfl ?_
        refine aw_iconst (v := -1) d_M_erase_208 (by decide) ?_
        refine mm_puti fw_M_47 d_M_erase_209 (by decide) rfl rfl rfl rfl ?_
        refine aw_aload_n d_M_erase_212 rfl ?_
        refine aw_cV0 (d' := (2, 32)) d_M_erase_213 lk_M_180 cd_M_sweep (Nat.le_of_ble_eq_true rfl) rfl rfl ⟨Nat.le_of_ble_eq_true rfl, Nat.le_of_ble_eq_true rfl⟩ (fun _ h => nomatch h) ?_
        refine t_M_sweep (hCi.rn (Or.inl rfl)) hE.2 ?_
        refine ow_next_i ?_
        refine aw_iret d_M_erase_216 rfl rfl ?_
        exact hq
      · have hi2 := lt_n (n := tc) hCi.tc hi (by have := hC.t4; omega) g159
        have hi5 : i < 4 := by have := hC.t4; omega
        refine aw_aload_n d_M_erase_162 rfl ?_
        refine mm_getr (t := 60) f_M_50 d_M_erase_163 (by decide) rfl rfl rfl ?_
        refine aw_iload_n d_M_erase_166 rfl ?_
        refine aw_aload_n d_M_erase_167 rfl ?_
        refine mm_getr (t := 60) f_M_50 d_M_erase_168 (by decide) rfl rfl rfl ?_
        refine aw_iload_n d_M_erase_171 rfl ?_
        refine mm_iald rfl d_M_erase_172 (by decide) rfl (by omega) (by decide) ?_
        refine aw_if_lt (tgt := 194) d_M_erase_173 rfl (fun g173 => ?_) (fun g173 => ?_)
        · refine aw_aload_n d_M_erase_194 rfl ?_
          refine mm_getr (t := 60) f_M_50 d_M_erase_195 (by decide) rfl rfl rfl ?_
          refine aw_iload_n d_M_erase_198 rfl ?_
          refine mm_iald rfl d_M_erase_199 (by decide) rfl (by omega) (by decide) ?_
          refine mm_iast rfl d_M_erase_200 (by decide) rfl (by omega) (by decide) ?_
          refine aw_iinc (v := nI (i + 1)) d_M_erase_201 rfl (nI_succ i).symm (by decide) ?_
          refine aw_goto (tgt := 154) d_M_erase_204 rfl ?_
          first
            | (rw [show mtT (mhS (ow_u (gM (gI (ow_u M 48 0 0) p 24) g) 48 0 0) sc) (i + 1) = ow_u (mtT (mhS (ow_u (gM (gI (ow_u M 48 0 0) p 24) g) 48 0 0) sc) i) 60 i (-1) from by simp only [mtT]; rw [if_pos (by grind [cdv])]] at ih; exact ih hi2)
            | (rw [show mtT (mhS (ow_u (gM (gI (ow_u M 48 0 0) p 24) g) 48 0 0) sc) (i + 1) = ow_u (mtT (mhS (ow_u (gM (gI (ow_u M 48 0 0) p 24) g) 48 0 0) sc) i) 60 i (mtT (mhS (ow_u (gM (gI (ow_u M 48 0 0) p 24) g) 48 0 0) sc) i 60 i) from by simp only [mtT]; rw [if_neg (by grind [cdv])]] at ih; exact ih hi2)
        · obtain ⟨q, hq24, eq⟩ := plc_ge (hCi.ofT hi5) g173
          have e2 : (mtT (mhS (ow_u (gM (gI (ow_u M 48 0 0) p 24) g) 48 0 0) sc) i 60 i).toNatClampNeg = q := by rw [eq, nI_clamp (by omega)]
          refine aw_aload_n d_M_erase_176 rfl ?_
          refine mm_getr (t := 62) f_M_56 d_M_erase_177 (by decide) rfl rfl rfl ?_
          refine aw_aload_n d_M_erase_180 rfl ?_
          refine mm_getr (t := 60) f_M_50 d_M_erase_181 (by decide) rfl rfl rfl ?_
          refine aw_iload_n d_M_erase_184 rfl ?_
          refine mm_iald rfl d_M_erase_185 (by decide) rfl (by omega) (by decide) ?_
          refine mm_zald eq d_M_erase_186 (by decide) rfl (by omega) (by decide) ?_
          rw [mtT_ne (c := 62) (by decide)]
          refine aw_if_eq (tgt := 194) d_M_erase_187 rfl (fun g187 => ?_) (fun g187 => ?_)
          · refine aw_aload_n d_M_erase_194 rfl ?_
            refine mm_getr (t := 60) f_M_50 d_M_erase_195 (by decide) rfl rfl rfl ?_
            refine aw_iload_n d_M_erase_198 rfl ?_
            refine mm_iald rfl d_M_erase_199 (by decide) rfl (by omega) (by decide) ?_
            refine mm_iast rfl d_M_erase_200 (by decide) rfl (by omega) (by decide) ?_
            refine aw_iinc (v := nI (i + 1)) d_M_erase_201 rfl (nI_succ i).symm (by decide) ?_
            refine aw_goto (tgt := 154) d_M_erase_204 rfl ?_
            first
              | (rw [show mtT (mhS (ow_u (gM (gI (ow_u M 48 0 0) p 24) g) 48 0 0) sc) (i + 1) = ow_u (mtT (mhS (ow_u (gM (gI (ow_u M 48 0 0) p 24) g) 48 0 0) sc) i) 60 i (-1) from by simp only [mtT]; rw [if_pos (by grind [cdv])]] at ih; exact ih hi2)
              | (rw [show mtT (mhS (ow_u (gM (gI (ow_u M 48 0 0) p 24) g) 48 0 0) sc) (i + 1) = ow_u (mtT (mhS (ow_u (gM (gI (ow_u M 48 0 0) p 24) g) 48 0 0) sc) i) 60 i (mtT (mhS (ow_u (gM (gI (ow_u M 48 0 0) p 24) g) 48 0 0) sc) i 60 i) from by simp only [mtT]; rw [if_neg (by grind [cdv])]] at ih; exact ih hi2)
          · refine aw_iconst (v := -1) d_M_erase_190 (by decide) ?_
            refine aw_goto (tgt := 200) d_M_erase_191 rfl ?_
            refine mm_iast rfl d_M_erase_200 (by decide) rfl (by omega) (by decide) ?_
            refine aw_iinc (v := nI (i + 1)) d_M_erase_201 rfl (nI_succ i).symm (by decide) ?_
            refine aw_goto (tgt := 154) d_M_erase_204 rfl ?_
            first
              | (rw [show mtT (mhS (ow_u (gM (gI (ow_u M 48 0 0) p 24) g) 48 0 0) sc) (i + 1) = ow_u (mtT (mhS (ow_u (gM (gI (ow_u M 48 0 0) p 24) g) 48 0 0) sc) i) 60 i (-1) from by simp only [mtT]; rw [if_pos (by grind [cdv])]] at ih; exact ih hi2)
              | (rw [show mtT (mhS (ow_u (gM (gI (ow_u M 48 0 0) p 24) g) 48 0 0) sc) (i + 1) = ow_u (mtT (mhS (ow_u (gM (gI (ow_u M 48 0 0) p 24) g) 48 0 0) sc) i) 60 i (mtT (mhS (ow_u (gM (gI (ow_u M 48 0 0) p 24) g) 48 0 0) sc) i 60 i) from by simp only [mtT]; rw [if_neg (by grind [cdv])]] at ih; exact ih hi2)
    have ls : ∀ i, i ≤ sc → AW l Y_M_erase none (3, 47) Q 127 [some (.ref 48), some (.int m), some (.int (nI i))] [] (mm (mhS (ow_u (gM (gI (ow_u M 48 0 0) p 24) g) 48 0 0) i) K b) := by
      refine loop_dn sc (fun i hi ih => ?_)
      have hCi := hCX.hS hE.1 hi
      refine aw_iload_n d_M_erase_127 rfl ?_
      refine aw_aload_n d_M_erase_128 rfl ?_
      refine mm_geti f_M_90 d_M_erase_129 (by decide) rfl rfl ?_
      refine aw_icmp_ge (tgt := 152) d_M_erase_132 rfl (fun g132 => ?_) (fun g132 => ?_)
      · have hi2 := ge_n (n := sc) hCi.sc hi (by have := hC.s5; omega) g132
        subst hi2
        refine aw_iconst (v := 0) d_M_erase_152 (by decide) ?_
        refine aw_istore_n d_M_erase_153 (by decide) ?_
        exact lt 0 (by omega)
      · have hi2 := lt_n (n := sc) hCi.sc hi (by have := hC.s5; omega) g132
        have hi5 : i < 5 := by have := hC.s5; omega
        have hO : HOK (mhS (ow_u (gM (gI (ow_u M 48 0 0) p 24) g) 48 0 0) i) i := (hE.1 i hi2).congr (mhS_61 (Nat.le_refl _)) (mhS_ne (by decide)) (mhS_ne (by decide)) (mhS_ne (by decide)) (mhS_ne (by decide)) (mhS_ne (by decide))
        refine aw_aload_n d_M_erase_135 rfl ?_
        refine mm_getr (t := 61) f_M_53 d_M_erase_136 (by decide) rfl rfl rfl ?_
        refine aw_iload_n d_M_erase_139 rfl ?_
        refine aw_aload_n d_M_erase_140 rfl ?_
        refine aw_iload_n d_M_erase_141 rfl ?_
        refine aw_cV1 (d' := (1, 19)) d_M_erase_142 lk_M_177 cd_M_heir (Nat.le_of_ble_eq_true rfl) rfl rfl ⟨Nat.le_of_ble_eq_true rfl, Nat.le_of_ble_eq_true rfl⟩ (fun _ h => nomatch h) ?_
        refine t_M_heir hCi hi5 hO ?_
        refine ow_next_i ?_
        refine mm_iast rfl d_M_erase_145 (by decide) rfl (by omega) (by decide) ?_
        refine aw_iinc (v := nI (i + 1)) d_M_erase_146 rfl (nI_succ i).symm (by decide) ?_
        refine aw_goto (tgt := 127) d_M_erase_149 rfl ?_
        exact ih hi2
    refine aw_iconst (v := 0) d_M_erase_125 (by decide) ?_
    refine aw_istore_n d_M_erase_126 (by decide) ?_
    exact ls 0 (by omega)
  have md : ∀ p, p < 24 → 0 ≤ m → m ≤ 3 → (∀ g, GSP (gI (ow_u M 48 0 0) p 24) sc m g → (m = 1 → (∃ s r, s < sc ∧ r < 24 ∧ STR (gM (gI (ow_u M 48 0 0) p 24) g) s r) → Q (.inl (some 0)) (mm (ow_u (gM (gI (ow_u M 48 0 0) p 24) g) 48 0 3) K b)) ∧ (¬ (m = 1 ∧ ∃ s r, s < sc ∧ r < 24 ∧ STR (gM (gI (ow_u M 48 0 0) p 24) g) s r) → EOK (ow_u (gM (gI (ow_u M 48 0 0) p 24) g) 48 0 0) tc sc ∧ Q (.inl (some (ngo (swS (esM (ow_u (gM (gI (ow_u M 48 0 0) p 24) g) 48 0 0) tc sc) sc)))) (mm (swM (esM (ow_u (gM (gI (ow_u M 48 0 0) p 24) g) 48 0 0) tc sc) sc) K b))) → ∀ w2 : Option Value, AW l Y_M_erase none (3, 47) Q 90 [some (.ref 48), some (.int m), w2] [] (mm (gI (ow_u M 48 0 0) p 24) K b) := by
    intro p hp hm0 hm3 hD w2
    have hCg := (hC.cd 0).gi (p := p) (i := 24)
    have h01 : ∀ q, q < 24 → gI (ow_u M 48 0 0) p 24 62 q = 0 ∨ gI (ow_u M 48 0 0) p 24 62 q = 1 := fun q hq => by
      rw [gI_at hq]; split
      · exact Or.inr rfl
      · exact Or.inl rfl
    have hkg : ∀ s, s < 5 → 0 ≤ gI (ow_u M 48 0 0) p 24 53 s - gI (ow_u M 48 0 0) p 24 53 s / 3 * 3 := fun s hs => by
      rw [gI_ne (by decide)]; exact hk s hs
    refine aw_aload_n d_M_erase_90 rfl ?_
    refine aw_iload_n d_M_erase_91 rfl ?_
    refine aw_cV1 (d' := (1, 14)) d_M_erase_92 lk_M_169 cd_M_spread (Nat.le_of_ble_eq_true rfl) rfl rfl ⟨Nat.le_of_ble_eq_true rfl, Nat.le_of_ble_eq_true rfl⟩ (fun _ h => nomatch h) ?_
    refine t_M_spread hCg hm0 hm3 hkg h01 (fun g hg => ?_)
    · have hDg := hD g hg
      refine ow_next_v ?_
      refine aw_aload_n d_M_erase_95 rfl ?_
      refine aw_iload_n d_M_erase_96 rfl ?_
      refine aw_iconst (v := 1) d_M_erase_97 (by decide) ?_
      refine aw_icmp_ne (tgt := 112) d_M_erase_98 rfl (fun g98 => ?_) (fun g98 => ?_)
      · refine aw_iconst (v := 0) d_M_erase_112 (by decide) ?_
        refine mm_puti fw_M_84 d_M_erase_113 (by decide) rfl rfl rfl rfl ?_
        refine aw_aload_n d_M_erase_116 rfl ?_
        refine mm_geti f_M_84 d_M_erase_117 (by decide) rfl rfl ?_
        rw [ow_u_self]
        refine aw_if_le (tgt := 125) d_M_erase_120 rfl (fun g120 => ?_) (fun g120 => ?_)
        · have hE := hDg.2 (by first | exact fun h => k5 h.2 | exact fun h => g98 h.1)
          exact tl p g hE.1 hE.2 _
        · exact absurd g120 (by decide)
      · refine aw_aload_n d_M_erase_101 rfl ?_
        refine aw_cV0 (d' := (0, 0)) d_M_erase_102 lk_M_173 cd_M_strands (Nat.le_of_ble_eq_true rfl) rfl rfl ⟨Nat.le_of_ble_eq_true rfl, Nat.le_of_ble_eq_true rfl⟩ (fun _ h => nomatch h) ?_
        refine t_M_strands (hCg.gg g) (by rw [gM_at]; exact hg.1.1) (fun k5 => ?_) (fun k5 => ?_)
        · refine ow_next_i ?_
          refine aw_if_eq (tgt := 112) d_M_erase_105 rfl (fun g105 => ?_) (fun g105 => ?_)
          · refine aw_iconst (v := 0) d_M_erase_112 (by decide) ?_
            refine mm_puti fw_M_84 d_M_erase_113 (by decide) rfl rfl rfl rfl ?_
            refine aw_aload_n d_M_erase_116 rfl ?_
            refine mm_geti f_M_84 d_M_erase_117 (by decide) rfl rfl ?_
            rw [ow_u_self]
            refine aw_if_le (tgt := 125) d_M_erase_120 rfl (fun g120 => ?_) (fun g120 => ?_)
            · have hE := hDg.2 (by first | exact fun h => k5 h.2 | exact fun h => g98 h.1)
              exact tl p g hE.1 hE.2 _
            · exact absurd g120 (by decide)
          · exact absurd rfl g105
        · refine ow_next_i ?_
          refine aw_if_eq (tgt := 112) d_M_erase_105 rfl (fun g105 => ?_) (fun g105 => ?_)
          · exact absurd g105 (by decide)
          · refine aw_iconst (v := 3) d_M_erase_108 (by decide) ?_
            refine aw_goto (tgt := 113) d_M_erase_109 rfl ?_
            refine mm_puti fw_M_84 d_M_erase_113 (by decide) rfl rfl rfl rfl ?_
            refine aw_aload_n d_M_erase_116 rfl ?_
            refine mm_geti f_M_84 d_M_erase_117 (by decide) rfl rfl ?_
            rw [ow_u_self]
            refine aw_if_le (tgt := 125) d_M_erase_120 rfl (fun g120 => ?_) (fun g120 => ?_)
            · exact absurd g120 (by decide)
            · refine aw_iconst (v := 0) d_M_erase_123 (by decide) ?_
              refine aw_iret d_M_erase_124 rfl rfl ?_
              exact hDg.1 (by grind [cdv]) k5
  have li : ∀ p, p < 24 → M 48 16 = nI p → 0 ≤ m → m ≤ 3 → (∀ g, GSP (gI (ow_u M 48 0 0) p 24) sc m g → (m = 1 → (∃ s r, s < sc ∧ r < 24 ∧ STR (gM (gI (ow_u M 48 0 0) p 24) g) s r) → Q (.inl (some 0)) (mm (ow_u (gM (gI (ow_u M 48 0 0) p 24) g) 48 0 3) K b)) ∧ (¬ (m = 1 ∧ ∃ s r, s < sc ∧ r < 24 ∧ STR (gM (gI (ow_u M 48 0 0) p 24) g) s r) → EOK (ow_u (gM (gI (ow_u M 48 0 0) p 24) g) 48 0 0) tc sc ∧ Q (.inl (some (ngo (swS (esM (ow_u (gM (gI (ow_u M 48 0 0) p 24) g) 48 0 0) tc sc) sc)))) (mm (swM (esM (ow_u (gM (gI (ow_u M 48 0 0) p 24) g) 48 0 0) tc sc) sc) K b))) → ∀ i, i ≤ 24 → AW l Y_M_erase none (3, 47) Q 59 [some (.ref 48), some (.int m), some (.int (nI i))] [] (mm (gI (ow_u M 48 0 0) p i) K b) := by
    intro p hp ep hm0 hm3 hD
    refine loop_dn 24 (fun i hi ih => ?_)
    refine aw_iload_n d_M_erase_59 rfl ?_
    refine aw_bipush (v := 24) d_M_erase_60 (by decide) ?_
    refine aw_icmp_ge (tgt := 90) d_M_erase_62 rfl (fun g62 => ?_) (fun g62 => ?_)
    · have hi2 := ge_n (n := 24) rfl hi (by omega) g62
      subst hi2
      exact md p hp hm0 hm3 hD _
    · have hi2 := lt_n (n := 24) rfl hi (by omega) g62
      refine aw_aload_n d_M_erase_65 rfl ?_
      refine mm_getr (t := 62) f_M_56 d_M_erase_66 (by decide) rfl rfl rfl ?_
      refine aw_iload_n d_M_erase_69 rfl ?_
      refine aw_iload_n d_M_erase_70 rfl ?_
      refine aw_aload_n d_M_erase_71 rfl ?_
      refine mm_geti f_M_47 d_M_erase_72 (by decide) rfl rfl ?_
      rw [show gI (ow_u M 48 0 0) p i 48 16 = nI p from by rw [gI_ne (by decide)]; exact ep]
      refine aw_icmp_ne (tgt := 82) d_M_erase_75 rfl (fun g75 => ?_) (fun g75 => ?_)
      · have hip : ¬ i = p := fun h => g75 (by rw [h])
        refine aw_iconst (v := 0) d_M_erase_82 (by decide) ?_
        refine mm_zast rfl d_M_erase_83 (by decide) rfl (by omega) (by decide) (by simp) ?_
        refine aw_iinc (v := nI (i + 1)) d_M_erase_84 rfl (nI_succ i).symm (by decide) ?_
        refine aw_goto (tgt := 59) d_M_erase_87 rfl ?_
        first
          | (have h := ih hi2
             rw [← gI_st, if_pos hip] at h
             exact h)
          | (have h := ih hi2
             rw [← gI_st, if_neg hip] at h
             exact h)
      · have hip : i = p := nI_inj (by omega) (by omega) (by grind [cdv])
        refine aw_iconst (v := 1) d_M_erase_78 (by decide) ?_
        refine aw_goto (tgt := 83) d_M_erase_79 rfl ?_
        refine mm_zast rfl d_M_erase_83 (by decide) rfl (by omega) (by decide) (by simp) ?_
        refine aw_iinc (v := nI (i + 1)) d_M_erase_84 rfl (nI_succ i).symm (by decide) ?_
        refine aw_goto (tgt := 59) d_M_erase_87 rfl ?_
        first
          | (have h := ih hi2
             rw [← gI_st, if_pos hip] at h
             exact h)
          | (have h := ih hi2
             rw [← gI_st, if_neg hip] at h
             exact h)
  refine aw_aload_n d_M_erase_0 rfl ?_
  refine aw_iload_n d_M_erase_1 rfl ?_
  refine aw_if_lt (tgt := 10) d_M_erase_2 rfl (fun g2 => ?_) (fun g2 => ?_)
  · refine aw_iconst (v := 1) d_M_erase_10 (by decide) ?_
    refine aw_goto (tgt := 45) d_M_erase_11 rfl ?_
    refine mm_puti fw_M_84 d_M_erase_45 (by decide) rfl rfl rfl rfl ?_
    refine aw_aload_n d_M_erase_48 rfl ?_
    refine mm_geti f_M_84 d_M_erase_49 (by decide) rfl rfl ?_
    rw [ow_u_self]
    refine aw_if_le (tgt := 57) d_M_erase_52 rfl (fun g52 => ?_) (fun g52 => ?_)
    · exact absurd g52 (by decide)
    · refine aw_iconst (v := 0) d_M_erase_55 (by decide) ?_
      refine aw_iret d_M_erase_56 rfl rfl ?_
      first
        | exact hq.1 (by grind [cdv])
        | exact (hq.2 (by grind [cdv]) (by grind [cdv])).1 hr1
        | exact ((hq.2 (by grind [cdv]) (by grind [cdv])).2 p hp ep).1 (by grind [cdv]) hyes
  · refine aw_iload_n d_M_erase_5 rfl ?_
    refine aw_iconst (v := 3) d_M_erase_6 (by decide) ?_
    refine aw_icmp_le (tgt := 14) d_M_erase_7 rfl (fun g7 => ?_) (fun g7 => ?_)
    · refine aw_aload_n d_M_erase_14 rfl ?_
      refine mm_geti f_M_47 d_M_erase_15 (by decide) rfl rfl ?_
      refine aw_if_ge (tgt := 25) d_M_erase_18 rfl (fun g18 => ?_) (fun g18 => ?_)
      · obtain ⟨p, hp, ep⟩ := plc_ge (x := M 48 16) hC.run (by grind [cdv])
        refine aw_iload_n d_M_erase_25 rfl ?_
        refine aw_if_ne (tgt := 44) d_M_erase_26 rfl (fun g26 => ?_) (fun g26 => ?_)
        · refine aw_iconst (v := 0) d_M_erase_44 (by decide) ?_
          refine mm_puti fw_M_84 d_M_erase_45 (by decide) rfl rfl rfl rfl ?_
          refine aw_aload_n d_M_erase_48 rfl ?_
          refine mm_geti f_M_84 d_M_erase_49 (by decide) rfl rfl ?_
          rw [ow_u_self]
          refine aw_if_le (tgt := 57) d_M_erase_52 rfl (fun g52 => ?_) (fun g52 => ?_)
          · refine aw_iconst (v := 0) d_M_erase_57 (by decide) ?_
            refine aw_istore_n d_M_erase_58 (by decide) ?_
            have hD := ((hq.2 (by grind [cdv]) (by grind [cdv])).2 p hp ep).2 (by first | exact fun h => hno h.2 | exact fun h => g26 h.1)
            have h := li p hp ep (by grind [cdv]) (by grind [cdv]) hD 0 (by omega)
            rw [gI_0] at h
            exact h
          · exact absurd g52 (by decide)
        · refine aw_aload_n d_M_erase_29 rfl ?_
          refine aw_aload_n d_M_erase_30 rfl ?_
          refine mm_geti f_M_47 d_M_erase_31 (by decide) rfl rfl ?_
          refine aw_cV1 (d' := (0, 0)) d_M_erase_34 lk_M_166 cd_M_ownedMembers (Nat.le_of_ble_eq_true rfl) rfl rfl ⟨Nat.le_of_ble_eq_true rfl, Nat.le_of_ble_eq_true rfl⟩ (fun _ h => nomatch h) ?_
          rw [ep]
          refine t_M_ownedMembers hC ?_
          refine ow_next_i ?_
          refine aw_if_le (tgt := 44) d_M_erase_37 rfl (fun g37 => ?_) (fun g37 => ?_)
          · have hno : ¬ 0 < cn (fun k => M 57 k == nI p) (24 * sc) := cnneg (Nat.lt_of_le_of_lt (cn_le _ _) (by have := hC.s5; omega)) g37
            refine aw_iconst (v := 0) d_M_erase_44 (by decide) ?_
            refine mm_puti fw_M_84 d_M_erase_45 (by decide) rfl rfl rfl rfl ?_
            refine aw_aload_n d_M_erase_48 rfl ?_
            refine mm_geti f_M_84 d_M_erase_49 (by decide) rfl rfl ?_
            rw [ow_u_self]
            refine aw_if_le (tgt := 57) d_M_erase_52 rfl (fun g52 => ?_) (fun g52 => ?_)
            · refine aw_iconst (v := 0) d_M_erase_57 (by decide) ?_
              refine aw_istore_n d_M_erase_58 (by decide) ?_
              have hD := ((hq.2 (by grind [cdv]) (by grind [cdv])).2 p hp ep).2 (by first | exact fun h => hno h.2 | exact fun h => g26 h.1)
              have h := li p hp ep (by grind [cdv]) (by grind [cdv]) hD 0 (by omega)
              rw [gI_0] at h
              exact h
            · exact absurd g52 (by decide)
          · have hyes : 0 < cn (fun k => M 57 k == nI p) (24 * sc) := cnpos g37
            refine aw_iconst (v := 3) d_M_erase_40 (by decide) ?_
            refine aw_goto (tgt := 45) d_M_erase_41 rfl ?_
            refine mm_puti fw_M_84 d_M_erase_45 (by decide) rfl rfl rfl rfl ?_
            refine aw_aload_n d_M_erase_48 rfl ?_
            refine mm_geti f_M_84 d_M_erase_49 (by decide) rfl rfl ?_
            rw [ow_u_self]
            refine aw_if_le (tgt := 57) d_M_erase_52 rfl (fun g52 => ?_) (fun g52 => ?_)
            · exact absurd g52 (by decide)
            · refine aw_iconst (v := 0) d_M_erase_55 (by decide) ?_
              refine aw_iret d_M_erase_56 rfl rfl ?_
              first
                | exact hq.1 (by grind [cdv])
                | exact (hq.2 (by grind [cdv]) (by grind [cdv])).1 hr1
                | exact ((hq.2 (by grind [cdv]) (by grind [cdv])).2 p hp ep).1 (by grind [cdv]) hyes
      · have hr1 : M 48 16 = -1 := by
          rcases hC.run with h | ⟨p, hp, h⟩
          · exact h
          · rw [h] at g18; have := nI_ge0 hp; grind [cdv]
        refine aw_iconst (v := 2) d_M_erase_21 (by decide) ?_
        refine aw_goto (tgt := 45) d_M_erase_22 rfl ?_
        refine mm_puti fw_M_84 d_M_erase_45 (by decide) rfl rfl rfl rfl ?_
        refine aw_aload_n d_M_erase_48 rfl ?_
        refine mm_geti f_M_84 d_M_erase_49 (by decide) rfl rfl ?_
        rw [ow_u_self]
        refine aw_if_le (tgt := 57) d_M_erase_52 rfl (fun g52 => ?_) (fun g52 => ?_)
        · exact absurd g52 (by decide)
        · refine aw_iconst (v := 0) d_M_erase_55 (by decide) ?_
          refine aw_iret d_M_erase_56 rfl rfl ?_
          first
            | exact hq.1 (by grind [cdv])
            | exact (hq.2 (by grind [cdv]) (by grind [cdv])).1 hr1
            | exact ((hq.2 (by grind [cdv]) (by grind [cdv])).2 p hp ep).1 (by grind [cdv]) hyes
    · refine aw_iconst (v := 1) d_M_erase_10 (by decide) ?_
      refine aw_goto (tgt := 45) d_M_erase_11 rfl ?_
      refine mm_puti fw_M_84 d_M_erase_45 (by decide) rfl rfl rfl rfl ?_
      refine aw_aload_n d_M_erase_48 rfl ?_
      refine mm_geti f_M_84 d_M_erase_49 (by decide) rfl rfl ?_
      rw [ow_u_self]
      refine aw_if_le (tgt := 57) d_M_erase_52 rfl (fun g52 => ?_) (fun g52 => ?_)
      · exact absurd g52 (by decide)
      · refine aw_iconst (v := 0) d_M_erase_55 (by decide) ?_
        refine aw_iret d_M_erase_56 rfl rfl ?_
        first
          | exact hq.1 (by grind [cdv])
          | exact (hq.2 (by grind [cdv]) (by grind [cdv])).1 hr1
          | exact ((hq.2 (by grind [cdv]) (by grind [cdv])).2 p hp ep).1 (by grind [cdv]) hyes
end TMod5
