/-! the model: its public methods, first part; D_x: what x asks of what is behind it -/
theorem ow_u_u {M : Nat → Nat → Int32} {c j : Nat} {x y : Int32} : ow_u (ow_u M c j x) c j y = ow_u M c j y := by
  funext a k
  by_cases e : a = c
  · subst e; rw [ow_u_eq, ow_u_eq, ow_u_eq]; by_cases h : k = j <;> simp [upd, h]
  · rw [ow_u_ne e, ow_u_ne e, ow_u_ne e]
theorem cdv {M : Nat → Nat → Int32} (x : Int32) (c j : Nat) : ow_u M 48 0 x c j = if c = 48 ∧ j = 0 then x else M c j := by
  by_cases e : c = 48
  · subst e; rw [ow_u_eq]; by_cases h : j = 0 <;> simp [upd, h]
  · rw [ow_u_ne e, if_neg (by omega)]
theorem u61_run {M : Nat → Nat → Int32} {s p : Nat} {x : Int32} (h : M 48 16 = nI p) : ow_u M 61 s x 48 16 = nI p := by rw [ow_u_ne (by decide)]; exact h
def HTm (M : Nat → Nat → Int32) (t : Int32) : Prop := 0 ≤ t ∧ t < M 48 1
def HSm (M : Nat → Nat → Int32) (t : Int32) : Prop := 0 ≤ t ∧ t < M 48 3
def HFm (M : Nat → Nat → Int32) (t : Nat) (f : Int32) : Prop := 0 ≤ f ∧ f < M 49 t
def ISm (M : Nat → Nat → Int32) (od me : Int32) : Prop := (0 ≤ od ∧ od ≤ 3) ∨ (10 ≤ od ∧ od ≤ 32 ∧ od - od / 10 * 10 < 3 ∧ od - od / 10 * 10 < M 49 me.toNatClampNeg)
def FCm (M : Nat → Nat → Int32) : Prop := ∀ t, t < 4 → M 49 t ≤ 3
def mky (M : Nat → Nat → Int32) (x : Int32) : Int32 := if x < 0 then 0 else M 54 x.toNatClampNeg
theorem HFm.ix {M : Nat → Nat → Int32} {t : Nat} {f : Int32} (hF : FCm M) (ht : t < 4) (h : HFm M t f) : ∃ n, n < 3 ∧ f = nI n :=
  nI_ix h.1 (show f < nI 3 by have : nI 3 = 3 := rfl; rw [this]; have := hF t ht; have := h.2; grind [cdv]) (by decide)
theorem mrw_c {M N : Nat → Nat → Int32} (h : N 54 = M 54) (k : Int32) (n : Nat) : mrw N k n = mrw M k n := by
  induction n with
  | zero => rfl
  | succ n ih => simp only [mrw]; rw [h, ih]
theorem sfm_c {M M' : Nat → Nat → Int32} (h : M' 52 = M 52) (s : Nat) : sfm M' s = sfm M s := by unfold sfm; rw [h]
theorem mRf_c {M M' : Nat → Nat → Int32} (h2 : M' 52 = M 52) (h4 : M' 54 = M 54) (h6 : M' 56 = M 56) (h7 : M' 57 = M 57) (s : Nat) (ow r v : Int32) (n : Nat) : mRf M' s ow r v n = mRf M s ow r v n := by
  induction n with
  | zero => rfl
  | succ n ih => simp only [mRf]; rw [h2, h4, h6, h7, ih, sfm_c h2]
def D_comeTo (M : Nat → Nat → Int32) (sc : Nat) (x : Int32) (G : Int32 → (Nat → Nat → Int32) → Prop) : Prop := (x = -1 → G 0 (ow_u M 48 0 2)) ∧ ∀ p, p < 24 → x = nI p → G (M 54 p) (mcm (ow_u M 48 0 0) p 0 sc)
def D_type (M : Nat → Nat → Int32) (tc : Nat) (x : Int32) (G : Int32 → (Nat → Nat → Int32) → Prop) : Prop :=
  (¬ (1 ≤ x ∧ x ≤ 3) → G 0 (ow_u M 48 0 1)) ∧ (1 ≤ x → x ≤ 3 → M 48 1 = 4 ∨ ¬ M 48 8 = 0 → G 0 (ow_u M 48 0 2)) ∧
  (1 ≤ x → x ≤ 3 → ¬ M 48 1 = 4 → M 48 8 = 0 → G (M 48 1 + 1 - 1) (ow_u (ow_u (ow_u M 48 0 0) 49 tc x) 48 1 (M 48 1 + 1)))
def D_set (M : Nat → Nat → Int32) (sc : Nat) (ow me od kd : Int32) (G : Int32 → (Nat → Nat → Int32) → Prop) : Prop :=
  (¬ (HTm M ow ∧ HTm M me ∧ ¬ ow = me ∧ 0 ≤ kd ∧ kd ≤ 5) → G 0 (ow_u M 48 0 1)) ∧ (HTm M ow → HTm M me → ¬ ow = me → 0 ≤ kd → kd ≤ 5 → (¬ ISm M od me → G 0 (ow_u M 48 0 1)) ∧
  (ISm M od me → (M 48 3 = 5 ∨ ¬ M 48 8 = 0 → G 0 (ow_u M 48 0 2)) ∧
  (¬ M 48 3 = 5 → M 48 8 = 0 → G (M 48 3 + 1 - 1) (ow_u (ow_u (ow_u (ow_u (ow_u (ow_u M 48 0 0) 50 sc ow) 51 sc me) 52 sc od) 53 sc kd) 48 3 (M 48 3 + 1)))))
def D_find (M : Nat → Nat → Int32) (sc : Nat) (x st : Int32) (G : (Nat → Nat → Int32) → Prop) : Prop :=
  (mrw M x 24 = -1 → G (ow_u M 48 0 1)) ∧ ∀ p, p < 24 → mrw M x 24 = nI p → G (mcm (ow_u M 48 0 0) p st sc)
def mlw (M : Nat → Nat → Int32) (t : Int32) (f : Nat) (v : Int32) : Nat → Int32
  | 0 => -1
  | i + 1 => if (0 < M 54 i ∧ M 55 i = t ∧ M 56 (3 * i + f) = v) ∧ (mlw M t f v i < 0 ∨ M 54 i < M 54 (mlw M t f v i).toNatClampNeg) then nI i else mlw M t f v i
theorem mlw_in (M : Nat → Nat → Int32) (t : Int32) (f : Nat) (v : Int32) (i : Nat) : mlw M t f v i = -1 ∨ ∃ k, k < i ∧ mlw M t f v i = nI k := by
  induction i with
  | zero => exact Or.inl rfl
  | succ i ih =>
    simp only [mlw]; split
    · exact Or.inr ⟨i, by omega, rfl⟩
    · rcases ih with h | ⟨k, hk, h⟩
      · exact Or.inl h
      · exact Or.inr ⟨k, by omega, h⟩
def D_seek (M : Nat → Nat → Int32) (tc sc : Nat) (t f x : Int32) (G : Int32 → (Nat → Nat → Int32) → Prop) : Prop :=
  (¬ (HTm M t ∧ HFm M t.toNatClampNeg f) → G 0 (ow_u M 48 0 1)) ∧ (∀ j, j < tc → t = nI j → ∀ n, n < 3 → f = nI n → HFm M j f → D_comeTo (ow_u M 48 0 0) sc (mlw (ow_u M 48 0 0) t n x 24) G)
def mmv (M : Nat → Nat → Int32) (s : Nat) (h : Int32) : Int32 := if mco M s < 0 then -1 else if h = 0 then mnf M s (mco M s) (mln M s) 0 else if h = 1 then mnb M s (mco M s) (mln M s) else if h = 4 then mco M s else if h = 2 then mbs M s else mbp M s
theorem mmv_plc {M : Nat → Nat → Int32} {tc sc s : Nat} {h : Int32} (hC : MI M tc sc) (hs : s < 5) : plc (mmv M s h) := by
  have hl := (hC.ln hs).1
  unfold mmv
  split
  · exact Or.inl rfl
  · split
    · exact mnf_plc hC hs _ _ (by omega)
    · split
      · exact mnb_plc hC hs _ hl
      · split
        · exact mco_plc hC hs
        · split
          · exact mbs_plc hC hs
          · exact mbp_plc hC hs
def D_move (M : Nat → Nat → Int32) (sc : Nat) (x h : Int32) (G : Int32 → (Nat → Nat → Int32) → Prop) : Prop :=
  (¬ (HSm M x ∧ 0 ≤ h ∧ h ≤ 4) → G 0 (ow_u M 48 0 1)) ∧ (∀ s, s < sc → x = nI s → 0 ≤ h → h ≤ 4 → D_comeTo (ow_u M 48 0 0) sc (mmv (ow_u M 48 0 0) s h) G)
def LIJ (M : Nat → Nat → Int32) (s : Nat) : Prop := ∀ i j, i < mln M s → j < mln M s → M 58 (24 * s + i) = M 58 (24 * s + j) → i = j
theorem mpo_at {M : Nat → Nat → Int32} {s k : Nat} : ∀ n, (∀ i j, i < n → j < n → M 58 (24 * s + i) = M 58 (24 * s + j) → i = j) → k < n → mpo M s (M 58 (24 * s + k)) n = nI k := by
  intro n
  induction n with
  | zero => intro _ h; omega
  | succ n ih =>
    intro hj hk
    simp only [mpo]
    by_cases e : k = n
    · subst e; rw [if_pos rfl]
    · rw [if_neg (fun h => e (hj k n hk (by omega) h.symm)), ih (fun i j h1 h2 h => hj i j (by omega) (by omega) h) (by omega)]
theorem mnf_sp (M : Nat → Nat → Int32) (s : Nat) (ow : Int32) : ∀ f k, (mnf M s ow f k = -1 ∧ ∀ j, k ≤ j → j < k + f → ¬ M 57 (24 * s + (M 58 (24 * s + j)).toNatClampNeg) = ow) ∨ (∃ j, k ≤ j ∧ j < k + f ∧ mnf M s ow f k = M 58 (24 * s + j) ∧ M 57 (24 * s + (M 58 (24 * s + j)).toNatClampNeg) = ow ∧ ∀ i, k ≤ i → i < j → ¬ M 57 (24 * s + (M 58 (24 * s + i)).toNatClampNeg) = ow) := by
  intro f
  induction f with
  | zero => intro k; exact Or.inl ⟨rfl, fun j h1 h2 => by omega⟩
  | succ f ih =>
    intro k
    simp only [mnf]
    split
    · rename_i h; exact Or.inr ⟨k, Nat.le_refl _, by omega, rfl, h, fun i h1 h2 => by omega⟩
    · rename_i h
      rcases ih (k + 1) with ⟨h1, h2⟩ | ⟨j, h1, h2, h3, h4, h5⟩
      · refine Or.inl ⟨h1, fun j h3 h4 => ?_⟩
        by_cases e : j = k
        · subst e; exact h
        · exact h2 j (by omega) (by omega)
      · refine Or.inr ⟨j, by omega, by omega, h3, h4, fun i h6 h7 => ?_⟩
        by_cases e : i = k
        · subst e; exact h
        · exact h5 i (by omega) h7
/-- the first from k on in a ring with the value v in the field n -/
def msn (M : Nat → Nat → Int32) (s : Nat) (ow : Int32) (n : Nat) (v : Int32) : Nat → Nat → Int32
  | 0, _ => -1
  | f + 1, k => if M 57 (24 * s + (M 58 (24 * s + k)).toNatClampNeg) = ow ∧ M 56 (3 * (M 58 (24 * s + k)).toNatClampNeg + n) = v then M 58 (24 * s + k) else msn M s ow n v f (k + 1)
theorem msn_skip {M : Nat → Nat → Int32} {s n N : Nat} {ow v : Int32} {k j : Nat} (hk : k ≤ j) (hj : j ≤ N) (h : ∀ i, k ≤ i → i < j → ¬ M 57 (24 * s + (M 58 (24 * s + i)).toNatClampNeg) = ow) : msn M s ow n v (N - k) k = msn M s ow n v (N - j) j := by
  obtain ⟨d, rfl⟩ : ∃ d, j = k + d := ⟨j - k, by omega⟩
  clear hk
  induction d generalizing k with
  | zero => rfl
  | succ d ih =>
    have hu : N - k = (N - (k + 1)) + 1 := by omega
    rw [hu]; simp only [msn]
    rw [if_neg (fun q => h k (Nat.le_refl _) (by omega) q.1)]
    have := ih (k := k + 1) (by omega) (fun i h1 h2 => h i (by omega) (by omega))
    rw [show k + 1 + d = k + (d + 1) by omega] at this
    exact this
theorem msn_plc {M : Nat → Nat → Int32} {tc sc s n : Nat} {ow v : Int32} (h : MI M tc sc) (hs : s < 5) : ∀ f k, f + k ≤ 24 → plc (msn M s ow n v f k) := by
  intro f
  induction f with
  | zero => intro k _; exact Or.inl rfl
  | succ f ih =>
    intro k hk
    simp only [msn]; split
    · exact Or.inr (h.lst (by omega))
    · exact ih _ (by omega)
def mscn (M : Nat → Nat → Int32) (s n : Nat) (v : Int32) : Int32 := if M 61 s < 0 then -1 else msn M s (mco M s) n v (mln M s - mbF M s) (mbF M s)
def D_scan (M : Nat → Nat → Int32) (sc : Nat) (y f x : Int32) (G : Int32 → (Nat → Nat → Int32) → Prop) : Prop :=
  (¬ (HSm M y ∧ 0 ≤ f) → G 0 (ow_u M 48 0 1)) ∧ (∀ s, s < sc → y = nI s → 0 ≤ f → (¬ f < M 49 (M 51 s).toNatClampNeg → G 0 (ow_u M 48 0 1)) ∧ (f < M 49 (M 51 s).toNatClampNeg → ∀ n, n < 3 → f = nI n → D_comeTo (ow_u M 48 0 0) sc (mscn (ow_u M 48 0 0) s n x) G))
def D_current (M : Nat → Nat → Int32) (tc sc : Nat) (w n : Int32) (G : Int32 → (Nat → Nat → Int32) → Prop) : Prop :=
  (w = 0 → G (mky M (M 48 16)) (ow_u M 48 0 0)) ∧ (w = 1 → ∀ t, t < tc → n = nI t → G (mky M (M 60 t)) (ow_u M 48 0 0)) ∧ (w = 2 → ∀ s, s < sc → n = nI s → G (mky M (M 61 s)) (ow_u M 48 0 0)) ∧ (¬ (w = 0 ∨ (w = 1 ∧ HTm M n) ∨ (w = 2 ∧ HSm M n)) → G 0 (ow_u M 48 0 1))
def D_get (M : Nat → Nat → Int32) (f : Int32) (G : Int32 → (Nat → Nat → Int32) → Prop) : Prop :=
  (M 48 16 = -1 → G 0 (ow_u M 48 0 1)) ∧ (∀ p, p < 24 → M 48 16 = nI p → (¬ HFm M (M 55 p).toNatClampNeg f → G 0 (ow_u M 48 0 2)) ∧ ∀ n, n < 3 → f = nI n → HFm M (M 55 p).toNatClampNeg f → G (M 56 (3 * p + n)) (ow_u M 48 0 0))
def D_connect (M : Nat → Nat → Int32) (sc : Nat) (x : Int32) (G : (Nat → Nat → Int32) → Prop) : Prop :=
  (¬ HSm M x → G (ow_u M 48 0 1)) ∧ (∀ s, s < sc → x = nI s → (M 48 16 = -1 → G (ow_u M 48 0 2)) ∧ ∀ p, p < 24 → M 48 16 = nI p → (mco M s < 0 → G (ow_u M 48 0 2)) ∧
    (¬ mco M s < 0 → ¬ (M 55 p = M 51 s ∧ M 57 (24 * s + p) < 0 ∧ mRf (ow_u M 48 0 0) s (mco (ow_u M 48 0 0) s) (nI p) (mvl (ow_u M 48 0 0) s p) 24 = false) → G (ow_u M 48 0 3)) ∧
    (¬ mco M s < 0 → M 55 p = M 51 s → M 57 (24 * s + p) < 0 → mRf (ow_u M 48 0 0) s (mco (ow_u M 48 0 0) s) (nI p) (mvl (ow_u M 48 0 0) s p) 24 = false → JnOK (ow_u M 48 0 0) s p (mco (ow_u M 48 0 0) s) ∧ G (mcm (mjn (ow_u M 48 0 0) s p (mco (ow_u M 48 0 0) s)) p 0 sc)))
def D_reconnect (M : Nat → Nat → Int32) (sc : Nat) (x : Int32) (G : (Nat → Nat → Int32) → Prop) : Prop :=
  (¬ HSm M x → G (ow_u M 48 0 1)) ∧ (∀ s, s < sc → x = nI s → (M 48 16 = -1 → G (ow_u M 48 0 2)) ∧ ∀ p, p < 24 → M 48 16 = nI p → (mco M s < 0 → G (ow_u M 48 0 2)) ∧
    (¬ mco M s < 0 → ¬ (¬ M 57 (24 * s + p) < 0 ∧ ¬ M 53 s - M 53 s / 3 * 3 = 0 ∧ mRf (ow_u M 48 0 0) s (mco (ow_u M 48 0 0) s) (nI p) (mvl (ow_u M 48 0 0) s p) 24 = false) → G (ow_u M 48 0 3)) ∧
    (¬ mco M s < 0 → ¬ M 57 (24 * s + p) < 0 → ¬ M 53 s - M 53 s / 3 * 3 = 0 → mRf (ow_u M 48 0 0) s (mco (ow_u M 48 0 0) s) (nI p) (mvl (ow_u M 48 0 0) s p) 24 = false → LvOK (ow_u M 48 0 0) s p ∧ JnOK (mlv (ow_u M 48 0 0) s p) s p (mco (ow_u M 48 0 0) s) ∧ G (mcm (mjn (mlv (ow_u M 48 0 0) s p) s p (mco (ow_u M 48 0 0) s)) p 0 sc)))
def mbf (M : Nat → Nat → Int32) (s p : Nat) : Int32 := mnb M s (M 57 (24 * s + p)) (mpo M s (nI p) (mln M s)).toNatClampNeg
def mhv (M : Nat → Nat → Int32) (s p : Nat) : Int32 := if mbf M s p < 0 then M 57 (24 * s + p) else mbf M s p
def mdi (M : Nat → Nat → Int32) (s p : Nat) : Nat → Nat → Int32 := if M 61 s = nI p then ow_u M 61 s (mhv M s p) else M
def D_disconnect (M : Nat → Nat → Int32) (sc : Nat) (x : Int32) (G : (Nat → Nat → Int32) → Prop) : Prop :=
  (¬ HSm M x → G (ow_u M 48 0 1)) ∧ (∀ s, s < sc → x = nI s → (M 48 16 = -1 → G (ow_u M 48 0 2)) ∧ ∀ p, p < 24 → M 48 16 = nI p →
    (¬ (¬ M 57 (24 * s + p) < 0 ∧ M 53 s - M 53 s / 3 * 3 = 2) → G (ow_u M 48 0 3)) ∧
    (¬ M 57 (24 * s + p) < 0 → M 53 s - M 53 s / 3 * 3 = 2 → LvOK (mdi (ow_u M 48 0 0) s p) s p ∧ G (mlv (mdi (ow_u M 48 0 0) s p) s p)))
def msz (M : Nat → Nat → Int32) (s : Nat) (ow : Int32) : Int32 := nI (cn (fun p => M (57) (24 * s + p) == ow) 24)
def D_members (M : Nat → Nat → Int32) (sc : Nat) (x : Int32) (G : Int32 → (Nat → Nat → Int32) → Prop) : Prop :=
  (¬ HSm M x → G 0 (ow_u M 48 0 1)) ∧ (∀ s, s < sc → x = nI s → (mco M s < 0 → G 0 (ow_u M 48 0 2)) ∧ (¬ mco M s < 0 → G (msz (ow_u M 48 0 0) s (mco (ow_u M 48 0 0) s)) (ow_u M 48 0 0)))
def D_owner (M : Nat → Nat → Int32) (sc : Nat) (x y : Int32) (G : Int32 → (Nat → Nat → Int32) → Prop) : Prop :=
  (¬ HSm M x → G 0 (ow_u M 48 0 1)) ∧ (∀ s, s < sc → x = nI s → (mrw M y 24 = -1 → G 0 (ow_u M 48 0 2)) ∧ (∀ p, p < 24 → mrw M y 24 = nI p → G (mky M (M 57 (24 * s + p))) (ow_u M 48 0 0)))
/-- forgetting -/
def fgM (M : Nat → Nat → Int32) : Nat → Nat → Int32 := (ow_u (ow_u (ow_u (ow_u (ow_u (ow_u (ow_u (ow_u (ow_u (ow_u M 48 16 (-1)) 60 0 (-1)) 60 1 (-1)) 60 2 (-1)) 60 3 (-1)) 61 0 (-1)) 61 1 (-1)) 61 2 (-1)) 61 3 (-1)) 61 4 (-1))
/-- the first i of c0 into c -/
def cpI (M : Nat → Nat → Int32) (c0 c i : Nat) : Nat → Nat → Int32 := fun x j => if x = c ∧ j < i then M c0 j else M x j
theorem cpI_0 (M : Nat → Nat → Int32) (c0 c : Nat) : cpI M c0 c 0 = M := by funext x j; unfold cpI; rw [if_neg (by omega)]
theorem cpI_ne {M : Nat → Nat → Int32} {c0 c i x : Nat} (h : x ≠ c) : cpI M c0 c i x = M x := by funext j; unfold cpI; rw [if_neg (by omega)]
theorem cpI_st {M : Nat → Nat → Int32} {c0 c i : Nat} (h : c0 ≠ c) : ow_u (cpI M c0 c i) c i (M c0 i) = cpI M c0 c (i + 1) := by
  funext x j
  by_cases e : x = c
  · subst e; rw [ow_u_eq]
    by_cases hj : j = i
    · subst hj; simp only [upd, if_true]; unfold cpI; rw [if_pos (by omega)]
    · simp only [upd, if_neg hj]; unfold cpI
      by_cases h2 : j < i
      · rw [if_pos (by omega), if_pos (by omega)]
      · rw [if_neg (by omega), if_neg (by omega)]
  · rw [ow_u_ne e, cpI_ne e, cpI_ne e]
theorem cpI_eq {M : Nat → Nat → Int32} {c0 c i j : Nat} : cpI M c0 c i c j = if j < i then M c0 j else M c j := by simp [cpI]
theorem cpI_st2 {M : Nat → Nat → Int32} {c0 c d0 d i : Nat} (h1 : c ≠ d) (h2 : c0 ≠ c) (h3 : c0 ≠ d) (h4 : d0 ≠ c) (h5 : d0 ≠ d) : ow_u (ow_u (cpI (cpI M c0 c i) d0 d i) c i (M c0 i)) d i (M d0 i) = cpI (cpI M c0 c (i + 1)) d0 d (i + 1) := by
  funext x j
  by_cases e : x = d
  · subst e; rw [ow_u_eq, cpI_eq, cpI_ne h4, cpI_ne (Ne.symm h1)]
    by_cases hj : j = i
    · subst hj; simp only [upd, if_true]; rw [if_pos (by omega)]
    · simp only [upd, if_neg hj]; rw [ow_u_ne (Ne.symm h1), cpI_eq, cpI_ne h4, cpI_ne (Ne.symm h1)]
      by_cases h6 : j < i
      · rw [if_pos h6, if_pos (by omega)]
      · rw [if_neg h6, if_neg (by omega)]
  · rw [ow_u_ne e, cpI_ne e]
    by_cases e2 : x = c
    · subst e2; rw [ow_u_eq, cpI_ne h1, cpI_eq]
      by_cases hj : j = i
      · subst hj; simp only [upd, if_true]; rw [if_pos (by omega)]
      · simp only [upd, if_neg hj]; rw [cpI_eq]
        by_cases h6 : j < i
        · rw [if_pos h6, if_pos (by omega)]
        · rw [if_neg h6, if_neg (by omega)]
    · rw [ow_u_ne e2, cpI_ne e, cpI_ne e2, cpI_ne e2]
theorem nI_ge0 {p : Nat} (h : p < 24) : 0 ≤ nI p := Int32.not_lt.mp (nI_pos (by omega))
def mkp (M : Nat → Nat → Int32) : Nat → Nat → Int32 := cpI (cpI (cpI (cpI (cpI (cpI (ow_u (ow_u M 48 0 0) 48 20 (M 48 9)) 54 63 24) 55 64 24) 56 65 72) 57 66 120) 58 67 120) 59 68 5
def mrb (M : Nat → Nat → Int32) : Nat → Nat → Int32 := cpI (cpI (cpI (cpI (cpI (cpI (ow_u (ow_u M 48 0 0) 48 9 (M 48 20)) 63 54 24) 64 55 24) 65 56 72) 66 57 120) 67 58 120) 68 59 5
section TMod3
variable {l : Launch} {Q : ow_R → ow_M → Prop} {M : Nat → Nat → Int32} {K : Int64} {b : Nat} {tc sc : Nat}
theorem t_M_comeTo (hC : MI M tc sc) {x : Int32} (hx : plc x) (hq : D_comeTo M sc x (fun r M' => Q (.inl (some r)) (mm M' K b))) : MT l Y_M_comeTo (1, 16) [.ref 48, .int x, .int 2] (mm M K b) Q := by
  refine mt_of (k := 0) (by decide) cd_M_comeTo.1 (by simp [Value.category]) rfl ?_
  refine aw_aload_n d_M_comeTo_0 rfl ?_
  refine aw_iload_n d_M_comeTo_1 rfl ?_
  refine aw_if_ge (tgt := 9) d_M_comeTo_2 rfl (fun g2 => ?_) (fun g2 => ?_)
  · obtain ⟨p, hp, rfl⟩ := plc_ge hx (by grind [cdv])
    refine aw_iconst (v := 0) d_M_comeTo_9 (by decide) ?_
    refine mm_puti fw_M_84 d_M_comeTo_10 (by decide) rfl rfl rfl rfl ?_
    refine aw_aload_n d_M_comeTo_13 rfl ?_
    refine mm_geti f_M_84 d_M_comeTo_14 (by decide) rfl rfl ?_
    rw [ow_u_self]
    refine aw_if_le (tgt := 22) d_M_comeTo_17 rfl (fun g17 => ?_) (fun g17 => ?_)
    · refine aw_aload_n d_M_comeTo_22 rfl ?_
      refine aw_iload_n d_M_comeTo_23 rfl ?_
      refine aw_iconst (v := 0) d_M_comeTo_24 (by decide) ?_
      refine aw_cV2 (d' := (0, 0)) d_M_comeTo_25 lk_M_135 cd_M_come (Nat.le_of_ble_eq_true rfl) rfl rfl ⟨Nat.le_of_ble_eq_true rfl, Nat.le_of_ble_eq_true rfl⟩ (fun _ h => nomatch h) ?_
      refine t_M_come (hC.cd 0) hp ?_
      refine ow_next_v ?_
      refine aw_aload_n d_M_comeTo_28 rfl ?_
      refine mm_getr (t := 54) f_M_29 d_M_comeTo_29 (by decide) rfl rfl rfl ?_
      refine aw_iload_n d_M_comeTo_32 rfl ?_
      refine mm_iald rfl d_M_comeTo_33 (by decide) rfl (by omega) (by decide) ?_
      refine aw_iret d_M_comeTo_34 rfl rfl ?_
      have e : mcm (ow_u M 48 0 0) p 0 sc 54 p = M 54 p := by unfold mcm; rw [mcS_ne (by decide)]; rfl
      rw [e]
      exact hq.2 p hp rfl
    · exact absurd g17 (by decide)
  · have hx1 : x = -1 := by
      rcases hx with h | ⟨p, hp, rfl⟩
      · exact h
      · have := nI_ge0 hp; grind [cdv]
    refine aw_iload_n d_M_comeTo_5 rfl ?_
    refine aw_goto (tgt := 10) d_M_comeTo_6 rfl ?_
    refine mm_puti fw_M_84 d_M_comeTo_10 (by decide) rfl rfl rfl rfl ?_
    refine aw_aload_n d_M_comeTo_13 rfl ?_
    refine mm_geti f_M_84 d_M_comeTo_14 (by decide) rfl rfl ?_
    rw [ow_u_self]
    refine aw_if_le (tgt := 22) d_M_comeTo_17 rfl (fun g17 => ?_) (fun g17 => ?_)
    · exact absurd g17 (by decide)
    · refine aw_iconst (v := 0) d_M_comeTo_20 (by decide) ?_
      refine aw_iret d_M_comeTo_21 rfl rfl ?_
      exact hq.1 hx1
theorem t_M_type (hC : MI M tc sc) {x : Int32} (hq : D_type M tc x (fun r M' => Q (.inl (some r)) (mm M' K b))) : MT l Y_M_type (0, 0) [.ref 48, .int x] (mm M K b) Q := by
  refine mt_of (k := 0) (by decide) cd_M_type.1 (by simp [Value.category]) rfl ?_
  refine aw_aload_n d_M_type_0 rfl ?_
  refine aw_iload_n d_M_type_1 rfl ?_
  refine aw_iconst (v := 1) d_M_type_2 (by decide) ?_
  refine aw_icmp_lt (tgt := 11) d_M_type_3 rfl (fun g3 => ?_) (fun g3 => ?_)
  · refine aw_iconst (v := 1) d_M_type_11 (by decide) ?_
    refine aw_goto (tgt := 35) d_M_type_12 rfl ?_
    refine mm_puti fw_M_84 d_M_type_35 (by decide) rfl rfl rfl rfl ?_
    refine aw_aload_n d_M_type_38 rfl ?_
    refine mm_geti f_M_84 d_M_type_39 (by decide) rfl rfl ?_
    rw [ow_u_self]
    refine aw_if_le (tgt := 47) d_M_type_42 rfl (fun g42 => ?_) (fun g42 => ?_)
    · exact absurd g42 (by decide)
    · refine aw_iconst (v := 0) d_M_type_45 (by decide) ?_
      refine aw_iret d_M_type_46 rfl rfl ?_
      first
        | exact hq.1 (by grind [cdv])
        | exact hq.2.1 (by grind [cdv]) (by grind [cdv]) (by grind [cdv])
  · refine aw_iload_n d_M_type_6 rfl ?_
    refine aw_iconst (v := 3) d_M_type_7 (by decide) ?_
    refine aw_icmp_le (tgt := 15) d_M_type_8 rfl (fun g8 => ?_) (fun g8 => ?_)
    · refine aw_aload_n d_M_type_15 rfl ?_
      refine mm_geti f_M_87 d_M_type_16 (by decide) rfl rfl ?_
      refine aw_iconst (v := 4) d_M_type_19 (by decide) ?_
      refine aw_icmp_eq (tgt := 30) d_M_type_20 rfl (fun g20 => ?_) (fun g20 => ?_)
      · refine aw_iconst (v := 2) d_M_type_30 (by decide) ?_
        refine aw_goto (tgt := 35) d_M_type_31 rfl ?_
        refine mm_puti fw_M_84 d_M_type_35 (by decide) rfl rfl rfl rfl ?_
        refine aw_aload_n d_M_type_38 rfl ?_
        refine mm_geti f_M_84 d_M_type_39 (by decide) rfl rfl ?_
        rw [ow_u_self]
        refine aw_if_le (tgt := 47) d_M_type_42 rfl (fun g42 => ?_) (fun g42 => ?_)
        · exact absurd g42 (by decide)
        · refine aw_iconst (v := 0) d_M_type_45 (by decide) ?_
          refine aw_iret d_M_type_46 rfl rfl ?_
          first
            | exact hq.1 (by grind [cdv])
            | exact hq.2.1 (by grind [cdv]) (by grind [cdv]) (by grind [cdv])
      · refine aw_aload_n d_M_type_23 rfl ?_
        refine mm_geti f_M_93 d_M_type_24 (by decide) rfl rfl ?_
        refine aw_if_eq (tgt := 34) d_M_type_27 rfl (fun g27 => ?_) (fun g27 => ?_)
        · refine aw_iconst (v := 0) d_M_type_34 (by decide) ?_
          refine mm_puti fw_M_84 d_M_type_35 (by decide) rfl rfl rfl rfl ?_
          refine aw_aload_n d_M_type_38 rfl ?_
          refine mm_geti f_M_84 d_M_type_39 (by decide) rfl rfl ?_
          rw [ow_u_self]
          refine aw_if_le (tgt := 47) d_M_type_42 rfl (fun g42 => ?_) (fun g42 => ?_)
          · refine aw_aload_n d_M_type_47 rfl ?_
            refine mm_getr (t := 49) f_M_7 d_M_type_48 (by decide) rfl rfl rfl ?_
            refine aw_aload_n d_M_type_51 rfl ?_
            refine mm_geti f_M_87 d_M_type_52 (by decide) rfl rfl ?_
            refine aw_iload_n d_M_type_55 rfl ?_
            refine mm_iast (show ow_u M 48 0 0 48 1 = nI tc from hC.tc) d_M_type_56 (by decide) rfl (by
      have h4 := hC.t4
      rcases Nat.lt_or_ge tc 4 with h5 | h5
      · exact h5
      · have h6 : tc = 4 := by omega
        subst h6; exact absurd hC.tc (by intro h; rw [h] at g20; exact g20 rfl)) (by decide) ?_
            refine aw_aload_n d_M_type_57 rfl ?_
            refine aw_dup d_M_type_58 rfl ?_
            refine mm_geti f_M_87 d_M_type_59 (by decide) rfl rfl ?_
            refine aw_iconst (v := 1) d_M_type_62 (by decide) ?_
            refine aw_iadd d_M_type_63 ?_
            refine mm_puti fw_M_87 d_M_type_64 (by decide) rfl rfl rfl rfl ?_
            refine aw_aload_n d_M_type_67 rfl ?_
            refine mm_geti f_M_87 d_M_type_68 (by decide) rfl rfl ?_
            rw [ow_u_self]
            refine aw_iconst (v := 1) d_M_type_71 (by decide) ?_
            refine aw_isub d_M_type_72 ?_
            refine aw_iret d_M_type_73 rfl rfl ?_
            exact hq.2.2 (by grind [cdv]) (by grind [cdv]) (by grind [cdv]) (by grind [cdv])
          · exact absurd g42 (by decide)
        · refine aw_iconst (v := 2) d_M_type_30 (by decide) ?_
          refine aw_goto (tgt := 35) d_M_type_31 rfl ?_
          refine mm_puti fw_M_84 d_M_type_35 (by decide) rfl rfl rfl rfl ?_
          refine aw_aload_n d_M_type_38 rfl ?_
          refine mm_geti f_M_84 d_M_type_39 (by decide) rfl rfl ?_
          rw [ow_u_self]
          refine aw_if_le (tgt := 47) d_M_type_42 rfl (fun g42 => ?_) (fun g42 => ?_)
          · exact absurd g42 (by decide)
          · refine aw_iconst (v := 0) d_M_type_45 (by decide) ?_
            refine aw_iret d_M_type_46 rfl rfl ?_
            first
              | exact hq.1 (by grind [cdv])
              | exact hq.2.1 (by grind [cdv]) (by grind [cdv]) (by grind [cdv])
    · refine aw_iconst (v := 1) d_M_type_11 (by decide) ?_
      refine aw_goto (tgt := 35) d_M_type_12 rfl ?_
      refine mm_puti fw_M_84 d_M_type_35 (by decide) rfl rfl rfl rfl ?_
      refine aw_aload_n d_M_type_38 rfl ?_
      refine mm_geti f_M_84 d_M_type_39 (by decide) rfl rfl ?_
      rw [ow_u_self]
      refine aw_if_le (tgt := 47) d_M_type_42 rfl (fun g42 => ?_) (fun g42 => ?_)
      · exact absurd g42 (by decide)
      · refine aw_iconst (v := 0) d_M_type_45 (by decide) ?_
        refine aw_iret d_M_type_46 rfl rfl ?_
        first
          | exact hq.1 (by grind [cdv])
          | exact hq.2.1 (by grind [cdv]) (by grind [cdv]) (by grind [cdv])
theorem t_M_set (hC : MI M tc sc) {x y z w : Int32} (hq : D_set M sc x y z w (fun r M' => Q (.inl (some r)) (mm M' K b))) : MT l Y_M_set (1, 15) [.ref 48, .int x, .int y, .int z, .int w] (mm M K b) Q := by
  refine mt_of (k := 1) (by decide) cd_M_set.1 (by simp [Value.category]) rfl ?_
  refine aw_aload_n d_M_set_0 rfl ?_
  refine aw_iload_n d_M_set_1 rfl ?_
  refine aw_cV1 (d' := (0, 0)) d_M_set_2 lk_M_97 cd_M_isType (Nat.le_of_ble_eq_true rfl) rfl rfl ⟨Nat.le_of_ble_eq_true rfl, Nat.le_of_ble_eq_true rfl⟩ (fun _ h => nomatch h) ?_
  refine t_M_isType ?_
  refine ow_next_i ?_
  refine aw_if_eq (tgt := 36) d_M_set_5 rfl (fun g5 => ?_) (fun g5 => ?_)
  · refine aw_iconst (v := 0) d_M_set_36 (by decide) ?_
    refine aw_istore d_M_set_37 (by decide) ?_
    refine aw_aload_n d_M_set_39 rfl ?_
    refine aw_iload d_M_set_40 rfl ?_
    refine aw_if_ne (tgt := 49) d_M_set_42 rfl (fun g42 => ?_) (fun g42 => ?_)
    · exact absurd g42 (by decide)
    · refine aw_iconst (v := 1) d_M_set_45 (by decide) ?_
      refine aw_goto (tgt := 86) d_M_set_46 rfl ?_
      refine mm_puti fw_M_84 d_M_set_86 (by decide) rfl rfl rfl rfl ?_
      refine aw_aload_n d_M_set_89 rfl ?_
      refine mm_geti f_M_84 d_M_set_90 (by decide) rfl rfl ?_
      rw [ow_u_self]
      refine aw_if_le (tgt := 98) d_M_set_93 rfl (fun g93 => ?_) (fun g93 => ?_)
      · exact absurd g93 (by decide)
      · refine aw_iconst (v := 0) d_M_set_96 (by decide) ?_
        refine aw_iret d_M_set_97 rfl rfl ?_
        first
          | exact hq.1 (by unfold HTm; grind [cdv])
          | exact (hq.2 (by unfold HTm; grind [cdv]) (by unfold HTm; grind [cdv]) (by grind [cdv]) (by grind [cdv]) (by grind [cdv])).1 (by unfold ISm; rw [eyt]; grind [cdv])
          | exact ((hq.2 (by unfold HTm; grind [cdv]) (by unfold HTm; grind [cdv]) (by grind [cdv]) (by grind [cdv]) (by grind [cdv])).2 (by unfold ISm; rw [eyt]; grind [cdv])).1 (by grind [cdv])
  · refine aw_aload_n d_M_set_8 rfl ?_
    refine aw_iload_n d_M_set_9 rfl ?_
    refine aw_cV1 (d' := (0, 0)) d_M_set_10 lk_M_97 cd_M_isType (Nat.le_of_ble_eq_true rfl) rfl rfl ⟨Nat.le_of_ble_eq_true rfl, Nat.le_of_ble_eq_true rfl⟩ (fun _ h => nomatch h) ?_
    refine t_M_isType ?_
    refine ow_next_i ?_
    refine aw_if_eq (tgt := 36) d_M_set_13 rfl (fun g13 => ?_) (fun g13 => ?_)
    · refine aw_iconst (v := 0) d_M_set_36 (by decide) ?_
      refine aw_istore d_M_set_37 (by decide) ?_
      refine aw_aload_n d_M_set_39 rfl ?_
      refine aw_iload d_M_set_40 rfl ?_
      refine aw_if_ne (tgt := 49) d_M_set_42 rfl (fun g42 => ?_) (fun g42 => ?_)
      · exact absurd g42 (by decide)
      · refine aw_iconst (v := 1) d_M_set_45 (by decide) ?_
        refine aw_goto (tgt := 86) d_M_set_46 rfl ?_
        refine mm_puti fw_M_84 d_M_set_86 (by decide) rfl rfl rfl rfl ?_
        refine aw_aload_n d_M_set_89 rfl ?_
        refine mm_geti f_M_84 d_M_set_90 (by decide) rfl rfl ?_
        rw [ow_u_self]
        refine aw_if_le (tgt := 98) d_M_set_93 rfl (fun g93 => ?_) (fun g93 => ?_)
        · exact absurd g93 (by decide)
        · refine aw_iconst (v := 0) d_M_set_96 (by decide) ?_
          refine aw_iret d_M_set_97 rfl rfl ?_
          first
            | exact hq.1 (by unfold HTm; grind [cdv])
            | exact (hq.2 (by unfold HTm; grind [cdv]) (by unfold HTm; grind [cdv]) (by grind [cdv]) (by grind [cdv]) (by grind [cdv])).1 (by unfold ISm; rw [eyt]; grind [cdv])
            | exact ((hq.2 (by unfold HTm; grind [cdv]) (by unfold HTm; grind [cdv]) (by grind [cdv]) (by grind [cdv]) (by grind [cdv])).2 (by unfold ISm; rw [eyt]; grind [cdv])).1 (by grind [cdv])
    · refine aw_iload_n d_M_set_16 rfl ?_
      refine aw_iload_n d_M_set_17 rfl ?_
      refine aw_icmp_eq (tgt := 36) d_M_set_18 rfl (fun g18 => ?_) (fun g18 => ?_)
      · refine aw_iconst (v := 0) d_M_set_36 (by decide) ?_
        refine aw_istore d_M_set_37 (by decide) ?_
        refine aw_aload_n d_M_set_39 rfl ?_
        refine aw_iload d_M_set_40 rfl ?_
        refine aw_if_ne (tgt := 49) d_M_set_42 rfl (fun g42 => ?_) (fun g42 => ?_)
        · exact absurd g42 (by decide)
        · refine aw_iconst (v := 1) d_M_set_45 (by decide) ?_
          refine aw_goto (tgt := 86) d_M_set_46 rfl ?_
          refine mm_puti fw_M_84 d_M_set_86 (by decide) rfl rfl rfl rfl ?_
          refine aw_aload_n d_M_set_89 rfl ?_
          refine mm_geti f_M_84 d_M_set_90 (by decide) rfl rfl ?_
          rw [ow_u_self]
          refine aw_if_le (tgt := 98) d_M_set_93 rfl (fun g93 => ?_) (fun g93 => ?_)
          · exact absurd g93 (by decide)
          · refine aw_iconst (v := 0) d_M_set_96 (by decide) ?_
            refine aw_iret d_M_set_97 rfl rfl ?_
            first
              | exact hq.1 (by unfold HTm; grind [cdv])
              | exact (hq.2 (by unfold HTm; grind [cdv]) (by unfold HTm; grind [cdv]) (by grind [cdv]) (by grind [cdv]) (by grind [cdv])).1 (by unfold ISm; rw [eyt]; grind [cdv])
              | exact ((hq.2 (by unfold HTm; grind [cdv]) (by unfold HTm; grind [cdv]) (by grind [cdv]) (by grind [cdv]) (by grind [cdv])).2 (by unfold ISm; rw [eyt]; grind [cdv])).1 (by grind [cdv])
      · refine aw_iload d_M_set_21 rfl ?_
        refine aw_if_lt (tgt := 36) d_M_set_23 rfl (fun g23 => ?_) (fun g23 => ?_)
        · refine aw_iconst (v := 0) d_M_set_36 (by decide) ?_
          refine aw_istore d_M_set_37 (by decide) ?_
          refine aw_aload_n d_M_set_39 rfl ?_
          refine aw_iload d_M_set_40 rfl ?_
          refine aw_if_ne (tgt := 49) d_M_set_42 rfl (fun g42 => ?_) (fun g42 => ?_)
          · exact absurd g42 (by decide)
          · refine aw_iconst (v := 1) d_M_set_45 (by decide) ?_
            refine aw_goto (tgt := 86) d_M_set_46 rfl ?_
            refine mm_puti fw_M_84 d_M_set_86 (by decide) rfl rfl rfl rfl ?_
            refine aw_aload_n d_M_set_89 rfl ?_
            refine mm_geti f_M_84 d_M_set_90 (by decide) rfl rfl ?_
            rw [ow_u_self]
            refine aw_if_le (tgt := 98) d_M_set_93 rfl (fun g93 => ?_) (fun g93 => ?_)
            · exact absurd g93 (by decide)
            · refine aw_iconst (v := 0) d_M_set_96 (by decide) ?_
              refine aw_iret d_M_set_97 rfl rfl ?_
              first
                | exact hq.1 (by unfold HTm; grind [cdv])
                | exact (hq.2 (by unfold HTm; grind [cdv]) (by unfold HTm; grind [cdv]) (by grind [cdv]) (by grind [cdv]) (by grind [cdv])).1 (by unfold ISm; rw [eyt]; grind [cdv])
                | exact ((hq.2 (by unfold HTm; grind [cdv]) (by unfold HTm; grind [cdv]) (by grind [cdv]) (by grind [cdv]) (by grind [cdv])).2 (by unfold ISm; rw [eyt]; grind [cdv])).1 (by grind [cdv])
        · refine aw_iload d_M_set_26 rfl ?_
          refine aw_iconst (v := 5) d_M_set_28 (by decide) ?_
          refine aw_icmp_gt (tgt := 36) d_M_set_29 rfl (fun g29 => ?_) (fun g29 => ?_)
          · refine aw_iconst (v := 0) d_M_set_36 (by decide) ?_
            refine aw_istore d_M_set_37 (by decide) ?_
            refine aw_aload_n d_M_set_39 rfl ?_
            refine aw_iload d_M_set_40 rfl ?_
            refine aw_if_ne (tgt := 49) d_M_set_42 rfl (fun g42 => ?_) (fun g42 => ?_)
            · exact absurd g42 (by decide)
            · refine aw_iconst (v := 1) d_M_set_45 (by decide) ?_
              refine aw_goto (tgt := 86) d_M_set_46 rfl ?_
              refine mm_puti fw_M_84 d_M_set_86 (by decide) rfl rfl rfl rfl ?_
              refine aw_aload_n d_M_set_89 rfl ?_
              refine mm_geti f_M_84 d_M_set_90 (by decide) rfl rfl ?_
              rw [ow_u_self]
              refine aw_if_le (tgt := 98) d_M_set_93 rfl (fun g93 => ?_) (fun g93 => ?_)
              · exact absurd g93 (by decide)
              · refine aw_iconst (v := 0) d_M_set_96 (by decide) ?_
                refine aw_iret d_M_set_97 rfl rfl ?_
                first
                  | exact hq.1 (by unfold HTm; grind [cdv])
                  | exact (hq.2 (by unfold HTm; grind [cdv]) (by unfold HTm; grind [cdv]) (by grind [cdv]) (by grind [cdv]) (by grind [cdv])).1 (by unfold ISm; rw [eyt]; grind [cdv])
                  | exact ((hq.2 (by unfold HTm; grind [cdv]) (by unfold HTm; grind [cdv]) (by grind [cdv]) (by grind [cdv]) (by grind [cdv])).2 (by unfold ISm; rw [eyt]; grind [cdv])).1 (by grind [cdv])
          · refine aw_iconst (v := 1) d_M_set_32 (by decide) ?_
            refine aw_goto (tgt := 37) d_M_set_33 rfl ?_
            refine aw_istore d_M_set_37 (by decide) ?_
            refine aw_aload_n d_M_set_39 rfl ?_
            refine aw_iload d_M_set_40 rfl ?_
            refine aw_if_ne (tgt := 49) d_M_set_42 rfl (fun g42 => ?_) (fun g42 => ?_)
            · refine aw_iload_n d_M_set_49 rfl ?_
              refine aw_aload_n d_M_set_50 rfl ?_
              refine mm_getr (t := 49) f_M_7 d_M_set_51 (by decide) rfl rfl rfl ?_
              refine aw_iload_n d_M_set_54 rfl ?_
              obtain ⟨yt, hyt, rfl⟩ := nI_ix (x := y) (n := tc) (by grind [cdv]) (by rw [← hC.tc]; grind [cdv]) (by have := hC.t4; omega)
              have hy4 : yt < 4 := by have := hC.t4; omega
              refine mm_iald rfl d_M_set_55 (by decide) rfl (by omega) (by decide) ?_
              have eyt : (nI yt).toNatClampNeg = yt := nI_clamp (by omega)
              refine aw_cS2 (d' := (0, 0)) d_M_set_56 lk_M_101 cd_M_isOrder ⟨Nat.le_of_ble_eq_true rfl, Nat.le_of_ble_eq_true rfl⟩ (fun _ h => nomatch h) ?_
              refine t_M_isOrder ?_
              refine ow_next_i ?_
              refine aw_if_ne (tgt := 66) d_M_set_59 rfl (fun g59 => ?_) (fun g59 => ?_)
              · refine aw_aload_n d_M_set_66 rfl ?_
                refine mm_geti f_M_90 d_M_set_67 (by decide) rfl rfl ?_
                refine aw_iconst (v := 5) d_M_set_70 (by decide) ?_
                refine aw_icmp_eq (tgt := 81) d_M_set_71 rfl (fun g71 => ?_) (fun g71 => ?_)
                · refine aw_iconst (v := 2) d_M_set_81 (by decide) ?_
                  refine aw_goto (tgt := 86) d_M_set_82 rfl ?_
                  refine mm_puti fw_M_84 d_M_set_86 (by decide) rfl rfl rfl rfl ?_
                  refine aw_aload_n d_M_set_89 rfl ?_
                  refine mm_geti f_M_84 d_M_set_90 (by decide) rfl rfl ?_
                  rw [ow_u_self]
                  refine aw_if_le (tgt := 98) d_M_set_93 rfl (fun g93 => ?_) (fun g93 => ?_)
                  · exact absurd g93 (by decide)
                  · refine aw_iconst (v := 0) d_M_set_96 (by decide) ?_
                    refine aw_iret d_M_set_97 rfl rfl ?_
                    first
                      | exact hq.1 (by unfold HTm; grind [cdv])
                      | exact (hq.2 (by unfold HTm; grind [cdv]) (by unfold HTm; grind [cdv]) (by grind [cdv]) (by grind [cdv]) (by grind [cdv])).1 (by unfold ISm; rw [eyt]; grind [cdv])
                      | exact ((hq.2 (by unfold HTm; grind [cdv]) (by unfold HTm; grind [cdv]) (by grind [cdv]) (by grind [cdv]) (by grind [cdv])).2 (by unfold ISm; rw [eyt]; grind [cdv])).1 (by grind [cdv])
                · refine aw_aload_n d_M_set_74 rfl ?_
                  refine mm_geti f_M_93 d_M_set_75 (by decide) rfl rfl ?_
                  refine aw_if_eq (tgt := 85) d_M_set_78 rfl (fun g78 => ?_) (fun g78 => ?_)
                  · have hs5 : sc < 5 := by
                      have h4 := hC.s5
                      rcases Nat.lt_or_ge sc 5 with h5 | h5
                      · exact h5
                      · have h6 : sc = 5 := by omega
                        subst h6; exact absurd hC.sc (by intro h; rw [h] at g71; exact g71 rfl)
                    refine aw_iconst (v := 0) d_M_set_85 (by decide) ?_
                    refine mm_puti fw_M_84 d_M_set_86 (by decide) rfl rfl rfl rfl ?_
                    refine aw_aload_n d_M_set_89 rfl ?_
                    refine mm_geti f_M_84 d_M_set_90 (by decide) rfl rfl ?_
                    rw [ow_u_self]
                    refine aw_if_le (tgt := 98) d_M_set_93 rfl (fun g93 => ?_) (fun g93 => ?_)
                    · refine aw_aload_n d_M_set_98 rfl ?_
                      refine mm_getr (t := 50) f_M_13 d_M_set_99 (by decide) rfl rfl rfl ?_
                      refine aw_aload_n d_M_set_102 rfl ?_
                      refine mm_geti f_M_90 d_M_set_103 (by decide) rfl rfl ?_
                      refine aw_iload_n d_M_set_106 rfl ?_
                      refine mm_iast (show ow_u M 48 0 0 48 3 = nI sc from hC.sc) d_M_set_107 (by decide) rfl (by omega) (by decide) ?_
                      refine aw_aload_n d_M_set_108 rfl ?_
                      refine mm_getr (t := 51) f_M_16 d_M_set_109 (by decide) rfl rfl rfl ?_
                      refine aw_aload_n d_M_set_112 rfl ?_
                      refine mm_geti f_M_90 d_M_set_113 (by decide) rfl rfl ?_
                      refine aw_iload_n d_M_set_116 rfl ?_
                      refine mm_iast (show ow_u M 48 0 0 48 3 = nI sc from hC.sc) d_M_set_117 (by decide) rfl (by omega) (by decide) ?_
                      refine aw_aload_n d_M_set_118 rfl ?_
                      refine mm_getr (t := 52) f_M_19 d_M_set_119 (by decide) rfl rfl rfl ?_
                      refine aw_aload_n d_M_set_122 rfl ?_
                      refine mm_geti f_M_90 d_M_set_123 (by decide) rfl rfl ?_
                      refine aw_iload_n d_M_set_126 rfl ?_
                      refine mm_iast (show ow_u M 48 0 0 48 3 = nI sc from hC.sc) d_M_set_127 (by decide) rfl (by omega) (by decide) ?_
                      refine aw_aload_n d_M_set_128 rfl ?_
                      refine mm_getr (t := 53) f_M_22 d_M_set_129 (by decide) rfl rfl rfl ?_
                      refine aw_aload_n d_M_set_132 rfl ?_
                      refine mm_geti f_M_90 d_M_set_133 (by decide) rfl rfl ?_
                      refine aw_iload d_M_set_136 rfl ?_
                      refine mm_iast (show ow_u M 48 0 0 48 3 = nI sc from hC.sc) d_M_set_138 (by decide) rfl (by omega) (by decide) ?_
                      refine aw_aload_n d_M_set_139 rfl ?_
                      refine aw_dup d_M_set_140 rfl ?_
                      refine mm_geti f_M_90 d_M_set_141 (by decide) rfl rfl ?_
                      refine aw_iconst (v := 1) d_M_set_144 (by decide) ?_
                      refine aw_iadd d_M_set_145 ?_
                      refine mm_puti fw_M_90 d_M_set_146 (by decide) rfl rfl rfl rfl ?_
                      refine aw_aload_n d_M_set_149 rfl ?_
                      refine mm_geti f_M_90 d_M_set_150 (by decide) rfl rfl ?_
                      rw [ow_u_self]
                      refine aw_iconst (v := 1) d_M_set_153 (by decide) ?_
                      refine aw_isub d_M_set_154 ?_
                      refine aw_iret d_M_set_155 rfl rfl ?_
                      exact ((hq.2 (by unfold HTm; grind [cdv]) (by unfold HTm; grind [cdv]) (by grind [cdv]) (by grind [cdv]) (by grind [cdv])).2 (by unfold ISm; rw [eyt]; grind [cdv])).2 (by grind [cdv]) (by grind [cdv])
                    · exact absurd g93 (by decide)
                  · refine aw_iconst (v := 2) d_M_set_81 (by decide) ?_
                    refine aw_goto (tgt := 86) d_M_set_82 rfl ?_
                    refine mm_puti fw_M_84 d_M_set_86 (by decide) rfl rfl rfl rfl ?_
                    refine aw_aload_n d_M_set_89 rfl ?_
                    refine mm_geti f_M_84 d_M_set_90 (by decide) rfl rfl ?_
                    rw [ow_u_self]
                    refine aw_if_le (tgt := 98) d_M_set_93 rfl (fun g93 => ?_) (fun g93 => ?_)
                    · exact absurd g93 (by decide)
                    · refine aw_iconst (v := 0) d_M_set_96 (by decide) ?_
                      refine aw_iret d_M_set_97 rfl rfl ?_
                      first
                        | exact hq.1 (by unfold HTm; grind [cdv])
                        | exact (hq.2 (by unfold HTm; grind [cdv]) (by unfold HTm; grind [cdv]) (by grind [cdv]) (by grind [cdv]) (by grind [cdv])).1 (by unfold ISm; rw [eyt]; grind [cdv])
                        | exact ((hq.2 (by unfold HTm; grind [cdv]) (by unfold HTm; grind [cdv]) (by grind [cdv]) (by grind [cdv]) (by grind [cdv])).2 (by unfold ISm; rw [eyt]; grind [cdv])).1 (by grind [cdv])
              · refine aw_iconst (v := 1) d_M_set_62 (by decide) ?_
                refine aw_goto (tgt := 86) d_M_set_63 rfl ?_
                refine mm_puti fw_M_84 d_M_set_86 (by decide) rfl rfl rfl rfl ?_
                refine aw_aload_n d_M_set_89 rfl ?_
                refine mm_geti f_M_84 d_M_set_90 (by decide) rfl rfl ?_
                rw [ow_u_self]
                refine aw_if_le (tgt := 98) d_M_set_93 rfl (fun g93 => ?_) (fun g93 => ?_)
                · exact absurd g93 (by decide)
                · refine aw_iconst (v := 0) d_M_set_96 (by decide) ?_
                  refine aw_iret d_M_set_97 rfl rfl ?_
                  first
                    | exact hq.1 (by unfold HTm; grind [cdv])
                    | exact (hq.2 (by unfold HTm; grind [cdv]) (by unfold HTm; grind [cdv]) (by grind [cdv]) (by grind [cdv]) (by grind [cdv])).1 (by unfold ISm; rw [eyt]; grind [cdv])
                    | exact ((hq.2 (by unfold HTm; grind [cdv]) (by unfold HTm; grind [cdv]) (by grind [cdv]) (by grind [cdv]) (by grind [cdv])).2 (by unfold ISm; rw [eyt]; grind [cdv])).1 (by grind [cdv])
            · exact absurd g42 (by decide)
theorem t_M_find (hC : MI M tc sc) {x y : Int32} (hq : D_find M sc x y (fun M' => Q (.inl none) (mm M' K b))) : MT l Y_M_find (1, 16) [.ref 48, .int x, .int y] (mm M K b) Q := by
  refine mt_of (k := 0) (by decide) cd_M_find.1 (by simp [Value.category]) rfl ?_
  refine aw_aload_n d_M_find_0 rfl ?_
  refine aw_aload_n d_M_find_1 rfl ?_
  refine aw_iload_n d_M_find_2 rfl ?_
  refine aw_cV1 (d' := (0, 0)) d_M_find_3 lk_M_139 cd_M_recordWith (Nat.le_of_ble_eq_true rfl) rfl rfl ⟨Nat.le_of_ble_eq_true rfl, Nat.le_of_ble_eq_true rfl⟩ (fun _ h => nomatch h) ?_
  refine t_M_recordWith ?_
  refine ow_next_i ?_
  refine aw_if_ge (tgt := 13) d_M_find_6 rfl (fun g6 => ?_) (fun g6 => ?_)
  · obtain ⟨p, hp, ep⟩ := plc_ge (mrw_plc M x (Nat.le_refl 24)) (by grind [cdv])
    refine aw_iconst (v := 0) d_M_find_13 (by decide) ?_
    refine mm_puti fw_M_84 d_M_find_14 (by decide) rfl rfl rfl rfl ?_
    refine aw_aload_n d_M_find_17 rfl ?_
    refine mm_geti f_M_84 d_M_find_18 (by decide) rfl rfl ?_
    rw [ow_u_self]
    refine aw_if_ne (tgt := 34) d_M_find_21 rfl (fun g21 => ?_) (fun g21 => ?_)
    · exact absurd g21 (by decide)
    · refine aw_aload_n d_M_find_24 rfl ?_
      refine aw_aload_n d_M_find_25 rfl ?_
      refine aw_iload_n d_M_find_26 rfl ?_
      refine aw_cV1 (d' := (0, 0)) d_M_find_27 lk_M_139 cd_M_recordWith (Nat.le_of_ble_eq_true rfl) rfl rfl ⟨Nat.le_of_ble_eq_true rfl, Nat.le_of_ble_eq_true rfl⟩ (fun _ h => nomatch h) ?_
      refine t_M_recordWith ?_
      rw [mrw_c (M := M) (N := ow_u M 48 0 0) rfl, ep]
      refine ow_next_i ?_
      refine aw_iload_n d_M_find_30 rfl ?_
      refine aw_cV2 (d' := (0, 0)) d_M_find_31 lk_M_135 cd_M_come (Nat.le_of_ble_eq_true rfl) rfl rfl ⟨Nat.le_of_ble_eq_true rfl, Nat.le_of_ble_eq_true rfl⟩ (fun _ h => nomatch h) ?_
      refine t_M_come (hC.cd 0) hp ?_
      refine ow_next_v ?_
      refine aw_vret d_M_find_34 rfl ?_
      first
        | exact hq.1 hx1
        | exact hq.2 p hp ep
  · have hx1 : mrw M x 24 = -1 := by
      rcases mrw_plc M x (Nat.le_refl 24) with h | ⟨p, hp, h⟩
      · exact h
      · rw [h] at g6; have := nI_ge0 hp; grind [cdv]
    refine aw_iconst (v := 1) d_M_find_9 (by decide) ?_
    refine aw_goto (tgt := 14) d_M_find_10 rfl ?_
    refine mm_puti fw_M_84 d_M_find_14 (by decide) rfl rfl rfl rfl ?_
    refine aw_aload_n d_M_find_17 rfl ?_
    refine mm_geti f_M_84 d_M_find_18 (by decide) rfl rfl ?_
    rw [ow_u_self]
    refine aw_if_ne (tgt := 34) d_M_find_21 rfl (fun g21 => ?_) (fun g21 => ?_)
    · refine aw_vret d_M_find_34 rfl ?_
      first
        | exact hq.1 hx1
        | exact hq.2 p hp ep
    · exact absurd g21 (by decide)
theorem t_M_seek (hC : MI M tc sc) (hF : FCm M) {t f x : Int32} (hq : D_seek M tc sc t f x (fun r M' => Q (.inl (some r)) (mm M' K b))) : MT l Y_M_seek (2, 30) [.ref 48, .int t, .int f, .int x] (mm M K b) Q := by
  refine mt_of (k := 3) (by decide) cd_M_seek.1 (by simp [Value.category]) rfl ?_
  have lp : ∀ j, j < tc → t = nI j → ∀ n, n < 3 → f = nI n → HFm M j f → ∀ i, i ≤ 24 → ∀ w : Option Value, AW l Y_M_seek none (2, 30) Q 46 [some (.ref 48), some (.int t), some (.int f), some (.int x), some (.int (mlw (ow_u M 48 0 0) t n x i)), some (.int (nI i)), w] [] (mm (ow_u M 48 0 0) K b) := by
    intro j hj ej n hn en hf
    refine loop_dn 24 (fun i hi ih => ?_)
    intro w
    refine aw_iload d_M_seek_46 rfl ?_
    refine aw_bipush (v := 24) d_M_seek_48 (by decide) ?_
    refine aw_icmp_ge (tgt := 138) d_M_seek_50 rfl (fun g50 => ?_) (fun g50 => ?_)
    · have hi2 := ge_n (n := 24) rfl hi (by omega) g50
      subst hi2
      refine aw_aload_n d_M_seek_138 rfl ?_
      refine aw_iload d_M_seek_139 rfl ?_
      refine aw_iconst (v := 2) d_M_seek_141 (by decide) ?_
      refine aw_cV2 (d' := (1, 16)) d_M_seek_142 lk_M_142 cd_M_comeTo (Nat.le_of_ble_eq_true rfl) rfl rfl ⟨Nat.le_of_ble_eq_true rfl, Nat.le_of_ble_eq_true rfl⟩ (fun _ h => nomatch h) ?_
      refine t_M_comeTo (hC.cd 0) (mlw_in _ _ _ _ 24) ⟨fun k7 => ?_, fun p hp k7 => ?_⟩
      · refine ow_next_i ?_
        refine aw_iret d_M_seek_145 rfl rfl ?_
        exact (hq.2 j hj ej n hn en hf).1 k7
      · refine ow_next_i ?_
        refine aw_iret d_M_seek_145 rfl rfl ?_
        exact (hq.2 j hj ej n hn en hf).2 p hp k7
    · have hi2 := lt_n (n := 24) rfl hi (by omega) g50
      refine aw_aload_n d_M_seek_53 rfl ?_
      refine mm_getr (t := 54) f_M_29 d_M_seek_54 (by decide) rfl rfl rfl ?_
      refine aw_iload d_M_seek_57 rfl ?_
      refine mm_iald rfl d_M_seek_59 (by decide) rfl (by omega) (by decide) ?_
      refine aw_if_le (tgt := 93) d_M_seek_60 rfl (fun g60 => ?_) (fun g60 => ?_)
      · refine aw_iconst (v := 0) d_M_seek_93 (by decide) ?_
        refine aw_istore d_M_seek_94 (by decide) ?_
        refine aw_iload d_M_seek_96 rfl ?_
        refine aw_if_eq (tgt := 128) d_M_seek_98 rfl (fun g98 => ?_) (fun g98 => ?_)
        · refine aw_iload d_M_seek_128 rfl ?_
          refine aw_istore d_M_seek_130 (by decide) ?_
          refine aw_iinc (v := nI (i + 1)) d_M_seek_132 rfl (nI_succ i).symm (by decide) ?_
          refine aw_goto (tgt := 46) d_M_seek_135 rfl ?_
          first
            | (rw [show mlw (ow_u M 48 0 0) t n x (i + 1) = nI i from by simp only [mlw]; rw [if_pos (by grind [cdv])]] at ih; exact ih hi2 _)
            | (rw [show mlw (ow_u M 48 0 0) t n x (i + 1) = mlw (ow_u M 48 0 0) t n x i from by simp only [mlw]; rw [if_neg (by grind [cdv])]] at ih; exact ih hi2 _)
        · exact absurd g98 (by decide)
      · refine aw_aload_n d_M_seek_63 rfl ?_
        refine mm_getr (t := 55) f_M_32 d_M_seek_64 (by decide) rfl rfl rfl ?_
        refine aw_iload d_M_seek_67 rfl ?_
        refine mm_iald rfl d_M_seek_69 (by decide) rfl (by omega) (by decide) ?_
        refine aw_iload_n d_M_seek_70 rfl ?_
        refine aw_icmp_ne (tgt := 93) d_M_seek_71 rfl (fun g71 => ?_) (fun g71 => ?_)
        · refine aw_iconst (v := 0) d_M_seek_93 (by decide) ?_
          refine aw_istore d_M_seek_94 (by decide) ?_
          refine aw_iload d_M_seek_96 rfl ?_
          refine aw_if_eq (tgt := 128) d_M_seek_98 rfl (fun g98 => ?_) (fun g98 => ?_)
          · refine aw_iload d_M_seek_128 rfl ?_
            refine aw_istore d_M_seek_130 (by decide) ?_
            refine aw_iinc (v := nI (i + 1)) d_M_seek_132 rfl (nI_succ i).symm (by decide) ?_
            refine aw_goto (tgt := 46) d_M_seek_135 rfl ?_
            first
              | (rw [show mlw (ow_u M 48 0 0) t n x (i + 1) = nI i from by simp only [mlw]; rw [if_pos (by grind [cdv])]] at ih; exact ih hi2 _)
              | (rw [show mlw (ow_u M 48 0 0) t n x (i + 1) = mlw (ow_u M 48 0 0) t n x i from by simp only [mlw]; rw [if_neg (by grind [cdv])]] at ih; exact ih hi2 _)
          · exact absurd g98 (by decide)
        · refine aw_aload_n d_M_seek_74 rfl ?_
          refine mm_getr (t := 56) f_M_35 d_M_seek_75 (by decide) rfl rfl rfl ?_
          refine aw_iconst (v := 3) d_M_seek_78 (by decide) ?_
          refine aw_iload d_M_seek_79 rfl ?_
          refine aw_imul d_M_seek_81 ?_
          refine aw_iload_n d_M_seek_82 rfl ?_
          refine aw_iadd d_M_seek_83 ?_
          refine mm_iald (by rw [en]; exact ix3 i n) d_M_seek_84 (by decide) rfl (by omega) (by decide) ?_
          refine aw_iload_n d_M_seek_85 rfl ?_
          refine aw_icmp_ne (tgt := 93) d_M_seek_86 rfl (fun g86 => ?_) (fun g86 => ?_)
          · refine aw_iconst (v := 0) d_M_seek_93 (by decide) ?_
            refine aw_istore d_M_seek_94 (by decide) ?_
            refine aw_iload d_M_seek_96 rfl ?_
            refine aw_if_eq (tgt := 128) d_M_seek_98 rfl (fun g98 => ?_) (fun g98 => ?_)
            · refine aw_iload d_M_seek_128 rfl ?_
              refine aw_istore d_M_seek_130 (by decide) ?_
              refine aw_iinc (v := nI (i + 1)) d_M_seek_132 rfl (nI_succ i).symm (by decide) ?_
              refine aw_goto (tgt := 46) d_M_seek_135 rfl ?_
              first
                | (rw [show mlw (ow_u M 48 0 0) t n x (i + 1) = nI i from by simp only [mlw]; rw [if_pos (by grind [cdv])]] at ih; exact ih hi2 _)
                | (rw [show mlw (ow_u M 48 0 0) t n x (i + 1) = mlw (ow_u M 48 0 0) t n x i from by simp only [mlw]; rw [if_neg (by grind [cdv])]] at ih; exact ih hi2 _)
            · exact absurd g98 (by decide)
          · refine aw_iconst (v := 1) d_M_seek_89 (by decide) ?_
            refine aw_goto (tgt := 94) d_M_seek_90 rfl ?_
            refine aw_istore d_M_seek_94 (by decide) ?_
            refine aw_iload d_M_seek_96 rfl ?_
            refine aw_if_eq (tgt := 128) d_M_seek_98 rfl (fun g98 => ?_) (fun g98 => ?_)
            · exact absurd g98 (by decide)
            · refine aw_iload d_M_seek_101 rfl ?_
              refine aw_if_lt (tgt := 123) d_M_seek_103 rfl (fun g103 => ?_) (fun g103 => ?_)
              · refine aw_iload d_M_seek_123 rfl ?_
                refine aw_goto (tgt := 130) d_M_seek_125 rfl ?_
                refine aw_istore d_M_seek_130 (by decide) ?_
                refine aw_iinc (v := nI (i + 1)) d_M_seek_132 rfl (nI_succ i).symm (by decide) ?_
                refine aw_goto (tgt := 46) d_M_seek_135 rfl ?_
                first
                  | (rw [show mlw (ow_u M 48 0 0) t n x (i + 1) = nI i from by simp only [mlw]; rw [if_pos (by grind [cdv])]] at ih; exact ih hi2 _)
                  | (rw [show mlw (ow_u M 48 0 0) t n x (i + 1) = mlw (ow_u M 48 0 0) t n x i from by simp only [mlw]; rw [if_neg (by grind [cdv])]] at ih; exact ih hi2 _)
              · obtain ⟨bk, hbk, ebk⟩ := (mlw_in (ow_u M 48 0 0) t n x i).resolve_left (by intro h; rw [h] at g103; exact g103 (by decide))
                have e2 : (mlw (ow_u M 48 0 0) t n x i).toNatClampNeg = bk := by rw [ebk, nI_clamp (by omega)]
                refine aw_aload_n d_M_seek_106 rfl ?_
                refine mm_getr (t := 54) f_M_29 d_M_seek_107 (by decide) rfl rfl rfl ?_
                refine aw_iload d_M_seek_110 rfl ?_
                refine mm_iald rfl d_M_seek_112 (by decide) rfl (by omega) (by decide) ?_
                refine aw_aload_n d_M_seek_113 rfl ?_
                refine mm_getr (t := 54) f_M_29 d_M_seek_114 (by decide) rfl rfl rfl ?_
                refine aw_iload d_M_seek_117 rfl ?_
                refine mm_iald ebk d_M_seek_119 (by decide) rfl (by omega) (by decide) ?_
                refine aw_icmp_ge (tgt := 128) d_M_seek_120 rfl (fun g120 => ?_) (fun g120 => ?_)
                · refine aw_iload d_M_seek_128 rfl ?_
                  refine aw_istore d_M_seek_130 (by decide) ?_
                  refine aw_iinc (v := nI (i + 1)) d_M_seek_132 rfl (nI_succ i).symm (by decide) ?_
                  refine aw_goto (tgt := 46) d_M_seek_135 rfl ?_
                  first
                    | (rw [show mlw (ow_u M 48 0 0) t n x (i + 1) = nI i from by simp only [mlw]; rw [if_pos (by grind [cdv])]] at ih; exact ih hi2 _)
                    | (rw [show mlw (ow_u M 48 0 0) t n x (i + 1) = mlw (ow_u M 48 0 0) t n x i from by simp only [mlw]; rw [if_neg (by grind [cdv])]] at ih; exact ih hi2 _)
                · refine aw_iload d_M_seek_123 rfl ?_
                  refine aw_goto (tgt := 130) d_M_seek_125 rfl ?_
                  refine aw_istore d_M_seek_130 (by decide) ?_
                  refine aw_iinc (v := nI (i + 1)) d_M_seek_132 rfl (nI_succ i).symm (by decide) ?_
                  refine aw_goto (tgt := 46) d_M_seek_135 rfl ?_
                  first
                    | (rw [show mlw (ow_u M 48 0 0) t n x (i + 1) = nI i from by simp only [mlw]; rw [if_pos (by grind [cdv])]] at ih; exact ih hi2 _)
                    | (rw [show mlw (ow_u M 48 0 0) t n x (i + 1) = mlw (ow_u M 48 0 0) t n x i from by simp only [mlw]; rw [if_neg (by grind [cdv])]] at ih; exact ih hi2 _)
  refine aw_aload_n d_M_seek_0 rfl ?_
  refine aw_aload_n d_M_seek_1 rfl ?_
  refine aw_iload_n d_M_seek_2 rfl ?_
  refine aw_cV1 (d' := (0, 0)) d_M_seek_3 lk_M_97 cd_M_isType (Nat.le_of_ble_eq_true rfl) rfl rfl ⟨Nat.le_of_ble_eq_true rfl, Nat.le_of_ble_eq_true rfl⟩ (fun _ h => nomatch h) ?_
  refine t_M_isType ?_
  refine ow_next_i ?_
  refine aw_if_eq (tgt := 23) d_M_seek_6 rfl (fun g6 => ?_) (fun g6 => ?_)
  · refine aw_iconst (v := 1) d_M_seek_23 (by decide) ?_
    refine aw_goto (tgt := 28) d_M_seek_24 rfl ?_
    refine mm_puti fw_M_84 d_M_seek_28 (by decide) rfl rfl rfl rfl ?_
    refine aw_aload_n d_M_seek_31 rfl ?_
    refine mm_geti f_M_84 d_M_seek_32 (by decide) rfl rfl ?_
    rw [ow_u_self]
    refine aw_if_le (tgt := 40) d_M_seek_35 rfl (fun g35 => ?_) (fun g35 => ?_)
    · exact absurd g35 (by decide)
    · refine aw_iconst (v := 0) d_M_seek_38 (by decide) ?_
      refine aw_iret d_M_seek_39 rfl rfl ?_
      exact hq.1 (by unfold HTm HFm; grind [cdv])
  · obtain ⟨j, hj, ej⟩ := nI_ix (x := t) (n := tc) (by grind [cdv]) (by rw [← hC.tc]; grind [cdv]) (by have := hC.t4; omega)
    have hj4 : j < 4 := by have := hC.t4; omega
    have ec : t.toNatClampNeg = j := by rw [ej, nI_clamp (by omega)]
    refine aw_iload_n d_M_seek_9 rfl ?_
    refine aw_if_lt (tgt := 23) d_M_seek_10 rfl (fun g10 => ?_) (fun g10 => ?_)
    · refine aw_iconst (v := 1) d_M_seek_23 (by decide) ?_
      refine aw_goto (tgt := 28) d_M_seek_24 rfl ?_
      refine mm_puti fw_M_84 d_M_seek_28 (by decide) rfl rfl rfl rfl ?_
      refine aw_aload_n d_M_seek_31 rfl ?_
      refine mm_geti f_M_84 d_M_seek_32 (by decide) rfl rfl ?_
      rw [ow_u_self]
      refine aw_if_le (tgt := 40) d_M_seek_35 rfl (fun g35 => ?_) (fun g35 => ?_)
      · exact absurd g35 (by decide)
      · refine aw_iconst (v := 0) d_M_seek_38 (by decide) ?_
        refine aw_iret d_M_seek_39 rfl rfl ?_
        exact hq.1 (by unfold HTm HFm; grind [cdv])
    · refine aw_iload_n d_M_seek_13 rfl ?_
      refine aw_aload_n d_M_seek_14 rfl ?_
      refine mm_getr (t := 49) f_M_7 d_M_seek_15 (by decide) rfl rfl rfl ?_
      refine aw_iload_n d_M_seek_18 rfl ?_
      refine mm_iald ej d_M_seek_19 (by decide) rfl (by omega) (by decide) ?_
      refine aw_icmp_lt (tgt := 27) d_M_seek_20 rfl (fun g20 => ?_) (fun g20 => ?_)
      · have hf : HFm M j f := by unfold HFm; grind [cdv]
        obtain ⟨n, hn, en⟩ := hf.ix hF hj4
        refine aw_iconst (v := 0) d_M_seek_27 (by decide) ?_
        refine mm_puti fw_M_84 d_M_seek_28 (by decide) rfl rfl rfl rfl ?_
        refine aw_aload_n d_M_seek_31 rfl ?_
        refine mm_geti f_M_84 d_M_seek_32 (by decide) rfl rfl ?_
        rw [ow_u_self]
        refine aw_if_le (tgt := 40) d_M_seek_35 rfl (fun g35 => ?_) (fun g35 => ?_)
        · refine aw_iconst (v := -1) d_M_seek_40 (by decide) ?_
          refine aw_istore d_M_seek_41 (by decide) ?_
          refine aw_iconst (v := 0) d_M_seek_43 (by decide) ?_
          refine aw_istore d_M_seek_44 (by decide) ?_
          exact lp j hj ej n hn en hf 0 (by omega) _
        · exact absurd g35 (by decide)
      · refine aw_iconst (v := 1) d_M_seek_23 (by decide) ?_
        refine aw_goto (tgt := 28) d_M_seek_24 rfl ?_
        refine mm_puti fw_M_84 d_M_seek_28 (by decide) rfl rfl rfl rfl ?_
        refine aw_aload_n d_M_seek_31 rfl ?_
        refine mm_geti f_M_84 d_M_seek_32 (by decide) rfl rfl ?_
        rw [ow_u_self]
        refine aw_if_le (tgt := 40) d_M_seek_35 rfl (fun g35 => ?_) (fun g35 => ?_)
        · exact absurd g35 (by decide)
        · refine aw_iconst (v := 0) d_M_seek_38 (by decide) ?_
          refine aw_iret d_M_seek_39 rfl rfl ?_
          exact hq.1 (by unfold HTm HFm; grind [cdv])
theorem t_M_move (hC : MI M tc sc) {x h : Int32} (hq : D_move M sc x h (fun r M' => Q (.inl (some r)) (mm M' K b))) : MT l Y_M_move (3, 47) [.ref 48, .int x, .int h] (mm M K b) Q := by
  refine mt_of (k := 2) (by decide) cd_M_move.1 (by simp [Value.category]) rfl ?_
  refine aw_aload_n d_M_move_0 rfl ?_
  refine aw_aload_n d_M_move_1 rfl ?_
  refine aw_iload_n d_M_move_2 rfl ?_
  refine aw_cV1 (d' := (0, 0)) d_M_move_3 lk_M_148 cd_M_isSet (Nat.le_of_ble_eq_true rfl) rfl rfl ⟨Nat.le_of_ble_eq_true rfl, Nat.le_of_ble_eq_true rfl⟩ (fun _ h => nomatch h) ?_
  refine t_M_isSet ?_
  refine ow_next_i ?_
  refine aw_if_eq (tgt := 18) d_M_move_6 rfl (fun g6 => ?_) (fun g6 => ?_)
  · refine aw_iconst (v := 1) d_M_move_18 (by decide) ?_
    refine aw_goto (tgt := 23) d_M_move_19 rfl ?_
    refine mm_puti fw_M_84 d_M_move_23 (by decide) rfl rfl rfl rfl ?_
    refine aw_aload_n d_M_move_26 rfl ?_
    refine mm_geti f_M_84 d_M_move_27 (by decide) rfl rfl ?_
    rw [ow_u_self]
    refine aw_if_le (tgt := 35) d_M_move_30 rfl (fun g30 => ?_) (fun g30 => ?_)
    · exact absurd g30 (by decide)
    · refine aw_iconst (v := 0) d_M_move_33 (by decide) ?_
      refine aw_iret d_M_move_34 rfl rfl ?_
      exact hq.1 (by unfold HSm; grind [cdv])
  · refine aw_iload_n d_M_move_9 rfl ?_
    refine aw_if_lt (tgt := 18) d_M_move_10 rfl (fun g10 => ?_) (fun g10 => ?_)
    · refine aw_iconst (v := 1) d_M_move_18 (by decide) ?_
      refine aw_goto (tgt := 23) d_M_move_19 rfl ?_
      refine mm_puti fw_M_84 d_M_move_23 (by decide) rfl rfl rfl rfl ?_
      refine aw_aload_n d_M_move_26 rfl ?_
      refine mm_geti f_M_84 d_M_move_27 (by decide) rfl rfl ?_
      rw [ow_u_self]
      refine aw_if_le (tgt := 35) d_M_move_30 rfl (fun g30 => ?_) (fun g30 => ?_)
      · exact absurd g30 (by decide)
      · refine aw_iconst (v := 0) d_M_move_33 (by decide) ?_
        refine aw_iret d_M_move_34 rfl rfl ?_
        exact hq.1 (by unfold HSm; grind [cdv])
    · refine aw_iload_n d_M_move_13 rfl ?_
      refine aw_iconst (v := 4) d_M_move_14 (by decide) ?_
      refine aw_icmp_le (tgt := 22) d_M_move_15 rfl (fun g15 => ?_) (fun g15 => ?_)
      · obtain ⟨s, hs, rfl⟩ := nI_ix (x := x) (n := sc) (by grind [cdv]) (by rw [← hC.sc]; grind [cdv]) (by have := hC.s5; omega)
        have hs5 : s < 5 := by have := hC.s5; omega
        have hln := (hC.cd 0).ln hs5
        refine aw_iconst (v := 0) d_M_move_22 (by decide) ?_
        refine mm_puti fw_M_84 d_M_move_23 (by decide) rfl rfl rfl rfl ?_
        refine aw_aload_n d_M_move_26 rfl ?_
        refine mm_geti f_M_84 d_M_move_27 (by decide) rfl rfl ?_
        rw [ow_u_self]
        refine aw_if_le (tgt := 35) d_M_move_30 rfl (fun g30 => ?_) (fun g30 => ?_)
        · refine aw_aload_n d_M_move_35 rfl ?_
          refine aw_iload_n d_M_move_36 rfl ?_
          refine aw_cV1 (d' := (0, 0)) d_M_move_37 lk_M_120 cd_M_currentOwner (Nat.le_of_ble_eq_true rfl) rfl rfl ⟨Nat.le_of_ble_eq_true rfl, Nat.le_of_ble_eq_true rfl⟩ (fun _ h => nomatch h) ?_
          refine t_M_currentOwner (hC.cd 0) hs5 ?_
          refine ow_next_i ?_
          refine aw_istore_n d_M_move_40 (by decide) ?_
          refine aw_iconst (v := -1) d_M_move_41 (by decide) ?_
          refine aw_istore d_M_move_42 (by decide) ?_
          refine aw_iload_n d_M_move_44 rfl ?_
          refine aw_if_lt (tgt := 101) d_M_move_45 rfl (fun g45 => ?_) (fun g45 => ?_)
          · refine aw_aload_n d_M_move_101 rfl ?_
            refine aw_iload d_M_move_102 rfl ?_
            refine aw_iconst (v := 2) d_M_move_104 (by decide) ?_
            have hmv : mmv (ow_u M 48 0 0) s h = mmv (ow_u M 48 0 0) s h := rfl
            conv at hmv => lhs; unfold mmv
            first
              | rw [if_pos (by grind [cdv])] at hmv
              | rw [if_neg (by grind [cdv]), if_pos (by grind [cdv])] at hmv
              | rw [if_neg (by grind [cdv]), if_neg (by grind [cdv]), if_pos (by grind [cdv])] at hmv
              | rw [if_neg (by grind [cdv]), if_neg (by grind [cdv]), if_neg (by grind [cdv]), if_pos (by grind [cdv])] at hmv
              | rw [if_neg (by grind [cdv]), if_neg (by grind [cdv]), if_neg (by grind [cdv]), if_neg (by grind [cdv]), if_pos (by grind [cdv])] at hmv
              | rw [if_neg (by grind [cdv]), if_neg (by grind [cdv]), if_neg (by grind [cdv]), if_neg (by grind [cdv]), if_neg (by grind [cdv])] at hmv
            rw [hmv]
            refine aw_cV2 (d' := (1, 16)) d_M_move_105 lk_M_142 cd_M_comeTo (Nat.le_of_ble_eq_true rfl) rfl rfl ⟨Nat.le_of_ble_eq_true rfl, Nat.le_of_ble_eq_true rfl⟩ (fun _ h => nomatch h) ?_
            refine t_M_comeTo (hC.cd 0) (mmv_plc (hC.cd 0) hs5) ⟨fun k7 => ?_, fun p hp k7 => ?_⟩
            · refine ow_next_i ?_
              refine aw_iret d_M_move_108 rfl rfl ?_
              exact (hq.2 s hs rfl (by grind [cdv]) (by grind [cdv])).1 k7
            · refine ow_next_i ?_
              refine aw_iret d_M_move_108 rfl rfl ?_
              exact (hq.2 s hs rfl (by grind [cdv]) (by grind [cdv])).2 p hp k7
          · refine aw_iload_n d_M_move_48 rfl ?_
            refine aw_if_ne (tgt := 61) d_M_move_49 rfl (fun g49 => ?_) (fun g49 => ?_)
            · refine aw_iload_n d_M_move_61 rfl ?_
              refine aw_iconst (v := 1) d_M_move_62 (by decide) ?_
              refine aw_icmp_ne (tgt := 75) d_M_move_63 rfl (fun g63 => ?_) (fun g63 => ?_)
              · refine aw_iload_n d_M_move_75 rfl ?_
                refine aw_iconst (v := 4) d_M_move_76 (by decide) ?_
                refine aw_icmp_ne (tgt := 84) d_M_move_77 rfl (fun g77 => ?_) (fun g77 => ?_)
                · refine aw_aload_n d_M_move_84 rfl ?_
                  refine aw_iload_n d_M_move_85 rfl ?_
                  refine aw_iload_n d_M_move_86 rfl ?_
                  refine aw_iconst (v := 2) d_M_move_87 (by decide) ?_
                  refine aw_icmp_ne (tgt := 95) d_M_move_88 rfl (fun g88 => ?_) (fun g88 => ?_)
                  · refine aw_iconst (v := -1) d_M_move_95 (by decide) ?_
                    refine aw_cV2 (d' := (2, 31)) d_M_move_96 lk_M_151 cd_M_beside (Nat.le_of_ble_eq_true rfl) rfl rfl ⟨Nat.le_of_ble_eq_true rfl, Nat.le_of_ble_eq_true rfl⟩ (fun _ h => nomatch h) ?_
                    first
                      | refine t_M_beside (hC.cd 0) hs5 ?_
                      | refine t_M_beside_B (hC.cd 0) hs5 ?_
                    refine ow_next_i ?_
                    refine aw_istore d_M_move_99 (by decide) ?_
                    refine aw_aload_n d_M_move_101 rfl ?_
                    refine aw_iload d_M_move_102 rfl ?_
                    refine aw_iconst (v := 2) d_M_move_104 (by decide) ?_
                    have hmv : mmv (ow_u M 48 0 0) s h = mmv (ow_u M 48 0 0) s h := rfl
                    conv at hmv => lhs; unfold mmv
                    first
                      | rw [if_pos (by grind [cdv])] at hmv
                      | rw [if_neg (by grind [cdv]), if_pos (by grind [cdv])] at hmv
                      | rw [if_neg (by grind [cdv]), if_neg (by grind [cdv]), if_pos (by grind [cdv])] at hmv
                      | rw [if_neg (by grind [cdv]), if_neg (by grind [cdv]), if_neg (by grind [cdv]), if_pos (by grind [cdv])] at hmv
                      | rw [if_neg (by grind [cdv]), if_neg (by grind [cdv]), if_neg (by grind [cdv]), if_neg (by grind [cdv]), if_pos (by grind [cdv])] at hmv
                      | rw [if_neg (by grind [cdv]), if_neg (by grind [cdv]), if_neg (by grind [cdv]), if_neg (by grind [cdv]), if_neg (by grind [cdv])] at hmv
                    rw [hmv]
                    refine aw_cV2 (d' := (1, 16)) d_M_move_105 lk_M_142 cd_M_comeTo (Nat.le_of_ble_eq_true rfl) rfl rfl ⟨Nat.le_of_ble_eq_true rfl, Nat.le_of_ble_eq_true rfl⟩ (fun _ h => nomatch h) ?_
                    refine t_M_comeTo (hC.cd 0) (mmv_plc (hC.cd 0) hs5) ⟨fun k7 => ?_, fun p hp k7 => ?_⟩
                    · refine ow_next_i ?_
                      refine aw_iret d_M_move_108 rfl rfl ?_
                      exact (hq.2 s hs rfl (by grind [cdv]) (by grind [cdv])).1 k7
                    · refine ow_next_i ?_
                      refine aw_iret d_M_move_108 rfl rfl ?_
                      exact (hq.2 s hs rfl (by grind [cdv]) (by grind [cdv])).2 p hp k7
                  · refine aw_iconst (v := 1) d_M_move_91 (by decide) ?_
                    refine aw_goto (tgt := 96) d_M_move_92 rfl ?_
                    refine aw_cV2 (d' := (2, 31)) d_M_move_96 lk_M_151 cd_M_beside (Nat.le_of_ble_eq_true rfl) rfl rfl ⟨Nat.le_of_ble_eq_true rfl, Nat.le_of_ble_eq_true rfl⟩ (fun _ h => nomatch h) ?_
                    first
                      | refine t_M_beside (hC.cd 0) hs5 ?_
                      | refine t_M_beside_B (hC.cd 0) hs5 ?_
                    refine ow_next_i ?_
                    refine aw_istore d_M_move_99 (by decide) ?_
                    refine aw_aload_n d_M_move_101 rfl ?_
                    refine aw_iload d_M_move_102 rfl ?_
                    refine aw_iconst (v := 2) d_M_move_104 (by decide) ?_
                    have hmv : mmv (ow_u M 48 0 0) s h = mmv (ow_u M 48 0 0) s h := rfl
                    conv at hmv => lhs; unfold mmv
                    first
                      | rw [if_pos (by grind [cdv])] at hmv
                      | rw [if_neg (by grind [cdv]), if_pos (by grind [cdv])] at hmv
                      | rw [if_neg (by grind [cdv]), if_neg (by grind [cdv]), if_pos (by grind [cdv])] at hmv
                      | rw [if_neg (by grind [cdv]), if_neg (by grind [cdv]), if_neg (by grind [cdv]), if_pos (by grind [cdv])] at hmv
                      | rw [if_neg (by grind [cdv]), if_neg (by grind [cdv]), if_neg (by grind [cdv]), if_neg (by grind [cdv]), if_pos (by grind [cdv])] at hmv
                      | rw [if_neg (by grind [cdv]), if_neg (by grind [cdv]), if_neg (by grind [cdv]), if_neg (by grind [cdv]), if_neg (by grind [cdv])] at hmv
                    rw [hmv]
                    refine aw_cV2 (d' := (1, 16)) d_M_move_105 lk_M_142 cd_M_comeTo (Nat.le_of_ble_eq_true rfl) rfl rfl ⟨Nat.le_of_ble_eq_true rfl, Nat.le_of_ble_eq_true rfl⟩ (fun _ h => nomatch h) ?_
                    refine t_M_comeTo (hC.cd 0) (mmv_plc (hC.cd 0) hs5) ⟨fun k7 => ?_, fun p hp k7 => ?_⟩
                    · refine ow_next_i ?_
                      refine aw_iret d_M_move_108 rfl rfl ?_
                      exact (hq.2 s hs rfl (by grind [cdv]) (by grind [cdv])).1 k7
                    · refine ow_next_i ?_
                      refine aw_iret d_M_move_108 rfl rfl ?_
                      exact (hq.2 s hs rfl (by grind [cdv]) (by grind [cdv])).2 p hp k7
                · refine aw_iload_n d_M_move_80 rfl ?_
                  refine aw_goto (tgt := 99) d_M_move_81 rfl ?_
                  refine aw_istore d_M_move_99 (by decide) ?_
                  refine aw_aload_n d_M_move_101 rfl ?_
                  refine aw_iload d_M_move_102 rfl ?_
                  refine aw_iconst (v := 2) d_M_move_104 (by decide) ?_
                  have hmv : mmv (ow_u M 48 0 0) s h = mmv (ow_u M 48 0 0) s h := rfl
                  conv at hmv => lhs; unfold mmv
                  first
                    | rw [if_pos (by grind [cdv])] at hmv
                    | rw [if_neg (by grind [cdv]), if_pos (by grind [cdv])] at hmv
                    | rw [if_neg (by grind [cdv]), if_neg (by grind [cdv]), if_pos (by grind [cdv])] at hmv
                    | rw [if_neg (by grind [cdv]), if_neg (by grind [cdv]), if_neg (by grind [cdv]), if_pos (by grind [cdv])] at hmv
                    | rw [if_neg (by grind [cdv]), if_neg (by grind [cdv]), if_neg (by grind [cdv]), if_neg (by grind [cdv]), if_pos (by grind [cdv])] at hmv
                    | rw [if_neg (by grind [cdv]), if_neg (by grind [cdv]), if_neg (by grind [cdv]), if_neg (by grind [cdv]), if_neg (by grind [cdv])] at hmv
                  rw [hmv]
                  refine aw_cV2 (d' := (1, 16)) d_M_move_105 lk_M_142 cd_M_comeTo (Nat.le_of_ble_eq_true rfl) rfl rfl ⟨Nat.le_of_ble_eq_true rfl, Nat.le_of_ble_eq_true rfl⟩ (fun _ h => nomatch h) ?_
                  refine t_M_comeTo (hC.cd 0) (mmv_plc (hC.cd 0) hs5) ⟨fun k7 => ?_, fun p hp k7 => ?_⟩
                  · refine ow_next_i ?_
                    refine aw_iret d_M_move_108 rfl rfl ?_
                    exact (hq.2 s hs rfl (by grind [cdv]) (by grind [cdv])).1 k7
                  · refine ow_next_i ?_
                    refine aw_iret d_M_move_108 rfl rfl ?_
                    exact (hq.2 s hs rfl (by grind [cdv]) (by grind [cdv])).2 p hp k7
              · refine aw_aload_n d_M_move_66 rfl ?_
                refine aw_iload_n d_M_move_67 rfl ?_
                refine aw_iload_n d_M_move_68 rfl ?_
                refine aw_cV2 (d' := (1, 17)) d_M_move_69 lk_M_145 cd_M_lastOf (Nat.le_of_ble_eq_true rfl) rfl rfl ⟨Nat.le_of_ble_eq_true rfl, Nat.le_of_ble_eq_true rfl⟩ (fun _ h => nomatch h) ?_
                refine t_M_lastOf (hC.cd 0) hs5 hln.2 hln.1 ?_
                refine ow_next_i ?_
                refine aw_goto (tgt := 99) d_M_move_72 rfl ?_
                refine aw_istore d_M_move_99 (by decide) ?_
                refine aw_aload_n d_M_move_101 rfl ?_
                refine aw_iload d_M_move_102 rfl ?_
                refine aw_iconst (v := 2) d_M_move_104 (by decide) ?_
                have hmv : mmv (ow_u M 48 0 0) s h = mmv (ow_u M 48 0 0) s h := rfl
                conv at hmv => lhs; unfold mmv
                first
                  | rw [if_pos (by grind [cdv])] at hmv
                  | rw [if_neg (by grind [cdv]), if_pos (by grind [cdv])] at hmv
                  | rw [if_neg (by grind [cdv]), if_neg (by grind [cdv]), if_pos (by grind [cdv])] at hmv
                  | rw [if_neg (by grind [cdv]), if_neg (by grind [cdv]), if_neg (by grind [cdv]), if_pos (by grind [cdv])] at hmv
                  | rw [if_neg (by grind [cdv]), if_neg (by grind [cdv]), if_neg (by grind [cdv]), if_neg (by grind [cdv]), if_pos (by grind [cdv])] at hmv
                  | rw [if_neg (by grind [cdv]), if_neg (by grind [cdv]), if_neg (by grind [cdv]), if_neg (by grind [cdv]), if_neg (by grind [cdv])] at hmv
                rw [hmv]
                refine aw_cV2 (d' := (1, 16)) d_M_move_105 lk_M_142 cd_M_comeTo (Nat.le_of_ble_eq_true rfl) rfl rfl ⟨Nat.le_of_ble_eq_true rfl, Nat.le_of_ble_eq_true rfl⟩ (fun _ h => nomatch h) ?_
                refine t_M_comeTo (hC.cd 0) (mmv_plc (hC.cd 0) hs5) ⟨fun k7 => ?_, fun p hp k7 => ?_⟩
                · refine ow_next_i ?_
                  refine aw_iret d_M_move_108 rfl rfl ?_
                  exact (hq.2 s hs rfl (by grind [cdv]) (by grind [cdv])).1 k7
                · refine ow_next_i ?_
                  refine aw_iret d_M_move_108 rfl rfl ?_
                  exact (hq.2 s hs rfl (by grind [cdv]) (by grind [cdv])).2 p hp k7
            · refine aw_aload_n d_M_move_52 rfl ?_
              refine aw_iload_n d_M_move_53 rfl ?_
              refine aw_iload_n d_M_move_54 rfl ?_
              refine aw_cV2 (d' := (1, 17)) d_M_move_55 lk_M_113 cd_M_firstOf (Nat.le_of_ble_eq_true rfl) rfl rfl ⟨Nat.le_of_ble_eq_true rfl, Nat.le_of_ble_eq_true rfl⟩ (fun _ h => nomatch h) ?_
              refine t_M_firstOf (hC.cd 0) hs5 hln.2 hln.1 ?_
              refine ow_next_i ?_
              refine aw_goto (tgt := 99) d_M_move_58 rfl ?_
              refine aw_istore d_M_move_99 (by decide) ?_
              refine aw_aload_n d_M_move_101 rfl ?_
              refine aw_iload d_M_move_102 rfl ?_
              refine aw_iconst (v := 2) d_M_move_104 (by decide) ?_
              have hmv : mmv (ow_u M 48 0 0) s h = mmv (ow_u M 48 0 0) s h := rfl
              conv at hmv => lhs; unfold mmv
              first
                | rw [if_pos (by grind [cdv])] at hmv
                | rw [if_neg (by grind [cdv]), if_pos (by grind [cdv])] at hmv
                | rw [if_neg (by grind [cdv]), if_neg (by grind [cdv]), if_pos (by grind [cdv])] at hmv
                | rw [if_neg (by grind [cdv]), if_neg (by grind [cdv]), if_neg (by grind [cdv]), if_pos (by grind [cdv])] at hmv
                | rw [if_neg (by grind [cdv]), if_neg (by grind [cdv]), if_neg (by grind [cdv]), if_neg (by grind [cdv]), if_pos (by grind [cdv])] at hmv
                | rw [if_neg (by grind [cdv]), if_neg (by grind [cdv]), if_neg (by grind [cdv]), if_neg (by grind [cdv]), if_neg (by grind [cdv])] at hmv
              rw [hmv]
              refine aw_cV2 (d' := (1, 16)) d_M_move_105 lk_M_142 cd_M_comeTo (Nat.le_of_ble_eq_true rfl) rfl rfl ⟨Nat.le_of_ble_eq_true rfl, Nat.le_of_ble_eq_true rfl⟩ (fun _ h => nomatch h) ?_
              refine t_M_comeTo (hC.cd 0) (mmv_plc (hC.cd 0) hs5) ⟨fun k7 => ?_, fun p hp k7 => ?_⟩
              · refine ow_next_i ?_
                refine aw_iret d_M_move_108 rfl rfl ?_
                exact (hq.2 s hs rfl (by grind [cdv]) (by grind [cdv])).1 k7
              · refine ow_next_i ?_
                refine aw_iret d_M_move_108 rfl rfl ?_
                exact (hq.2 s hs rfl (by grind [cdv]) (by grind [cdv])).2 p hp k7
        · exact absurd g30 (by decide)
      · refine aw_iconst (v := 1) d_M_move_18 (by decide) ?_
        refine aw_goto (tgt := 23) d_M_move_19 rfl ?_
        refine mm_puti fw_M_84 d_M_move_23 (by decide) rfl rfl rfl rfl ?_
        refine aw_aload_n d_M_move_26 rfl ?_
        refine mm_geti f_M_84 d_M_move_27 (by decide) rfl rfl ?_
        rw [ow_u_self]
        refine aw_if_le (tgt := 35) d_M_move_30 rfl (fun g30 => ?_) (fun g30 => ?_)
        · exact absurd g30 (by decide)
        · refine aw_iconst (v := 0) d_M_move_33 (by decide) ?_
          refine aw_iret d_M_move_34 rfl rfl ?_
          exact hq.1 (by unfold HSm; grind [cdv])
theorem t_M_scan (hC : MI M tc sc) (hF : FCm M) (h51 : ∀ s, s < sc → ∃ t, t < 4 ∧ M 51 s = nI t) (hJ : ∀ s, s < sc → LIJ M s) {y f x : Int32} (hq : D_scan M sc y f x (fun r M' => Q (.inl (some r)) (mm M' K b))) : MT l Y_M_scan (3, 47) [.ref 48, .int y, .int f, .int x] (mm M K b) Q := by
  refine mt_of (k := 2) (by decide) cd_M_scan.1 (by simp [Value.category]) rfl ?_
  have lp : ∀ s, s < sc → s < 5 → ∀ n, n < 3 → f = nI n → D_comeTo (ow_u M 48 0 0) sc (mscn (ow_u M 48 0 0) s n x) (fun r M' => Q (.inl (some r)) (mm M' K b)) → ∀ d i, i ≤ mln (ow_u M 48 0 0) s → mln (ow_u M 48 0 0) s - i ≤ d → ∀ r, r = mnf (ow_u M 48 0 0) s (mco (ow_u M 48 0 0) s) (mln (ow_u M 48 0 0) s - i) i → msn (ow_u M 48 0 0) s (mco (ow_u M 48 0 0) s) n x (mln (ow_u M 48 0 0) s - i) i = mscn (ow_u M 48 0 0) s n x → AW l Y_M_scan none (3, 47) Q 76 [some (.ref 48), some (.int (nI s)), some (.int f), some (.int x), some (.int (mco (ow_u M 48 0 0) s)), some (.int r)] [] (mm (ow_u M 48 0 0) K b) := by
    intro s hs hs5 n hn en hD d
    have hln := (hC.cd 0).ln hs5
    have hij : LIJ (ow_u M 48 0 0) s := hJ s hs
    induction d with
    | zero =>
      intro i hi hd r hr hR
      have e0 : mln (ow_u M 48 0 0) s - i = 0 := by omega
      rw [e0] at hr hR
      have hr1 : r = -1 := hr
      have hR1 : mscn (ow_u M 48 0 0) s n x = -1 := hR.symm
      subst hr1
      refine aw_iload d_M_scan_76 rfl ?_
      refine aw_if_lt (tgt := 118) d_M_scan_78 rfl (fun g78 => ?_) (fun g78 => ?_)
      · refine aw_aload_n d_M_scan_118 rfl ?_
        refine aw_iload d_M_scan_119 rfl ?_
        refine aw_iconst (v := 2) d_M_scan_121 (by decide) ?_
        refine aw_cV2 (d' := (1, 16)) d_M_scan_122 lk_M_142 cd_M_comeTo (Nat.le_of_ble_eq_true rfl) rfl rfl ⟨Nat.le_of_ble_eq_true rfl, Nat.le_of_ble_eq_true rfl⟩ (fun _ h => nomatch h) ?_
        refine t_M_comeTo (hC.cd 0) (Or.inl rfl) ⟨fun k7 => ?_, fun p9 hp9 k7 => ?_⟩
        · refine ow_next_i ?_
          refine aw_iret d_M_scan_125 rfl rfl ?_
          exact hD.1 hR1
        · refine ow_next_i ?_
          refine aw_iret d_M_scan_125 rfl rfl ?_
          exact absurd k7.symm (nI_m1 (by omega))
      · exact absurd (by decide) g78
    | succ d ih =>
      intro i hi hd r hr hR
      rcases mnf_sp (ow_u M 48 0 0) s (mco (ow_u M 48 0 0) s) (mln (ow_u M 48 0 0) s - i) i with ⟨q1, q2⟩ | ⟨k, q1, q2, q3, q4, q5⟩
      · have hR1 : mscn (ow_u M 48 0 0) s n x = -1 := by
          rw [← hR, msn_skip (j := mln (ow_u M 48 0 0) s) hi (Nat.le_refl _) (fun j h1 h2 => q2 j h1 (by omega)), Nat.sub_self]; rfl
        rw [q1] at hr
        subst hr
        refine aw_iload d_M_scan_76 rfl ?_
        refine aw_if_lt (tgt := 118) d_M_scan_78 rfl (fun g78 => ?_) (fun g78 => ?_)
        · refine aw_aload_n d_M_scan_118 rfl ?_
          refine aw_iload d_M_scan_119 rfl ?_
          refine aw_iconst (v := 2) d_M_scan_121 (by decide) ?_
          refine aw_cV2 (d' := (1, 16)) d_M_scan_122 lk_M_142 cd_M_comeTo (Nat.le_of_ble_eq_true rfl) rfl rfl ⟨Nat.le_of_ble_eq_true rfl, Nat.le_of_ble_eq_true rfl⟩ (fun _ h => nomatch h) ?_
          refine t_M_comeTo (hC.cd 0) (Or.inl rfl) ⟨fun k7 => ?_, fun p9 hp9 k7 => ?_⟩
          · refine ow_next_i ?_
            refine aw_iret d_M_scan_125 rfl rfl ?_
            exact hD.1 hR1
          · refine ow_next_i ?_
            refine aw_iret d_M_scan_125 rfl rfl ?_
            exact absurd k7.symm (nI_m1 (by omega))
        · exact absurd (by decide) g78
      · rw [q3] at hr
        subst hr
        have hk : k < mln (ow_u M 48 0 0) s := by omega
        obtain ⟨p, hp, ep⟩ := (hC.cd 0).lst (k := 24 * s + k) (by omega)
        have e2 : (ow_u M 48 0 0 58 (24 * s + k)).toNatClampNeg = p := by rw [ep, nI_clamp (by omega)]
        rw [msn_skip (j := k) q1 (by omega) q5, show mln (ow_u M 48 0 0) s - k = (mln (ow_u M 48 0 0) s - (k + 1)) + 1 by omega] at hR
        simp only [msn] at hR
        rw [e2] at hR q4
        refine aw_iload d_M_scan_76 rfl ?_
        refine aw_if_lt (tgt := 118) d_M_scan_78 rfl (fun g78 => ?_) (fun g78 => ?_)
        · exact absurd (by rw [ep] at g78; exact g78) (Int32.not_lt.mpr (nI_ge0 hp))
        · refine aw_aload_n d_M_scan_81 rfl ?_
          refine mm_getr (t := 56) f_M_35 d_M_scan_82 (by decide) rfl rfl rfl ?_
          refine aw_iconst (v := 3) d_M_scan_85 (by decide) ?_
          refine aw_iload d_M_scan_86 rfl ?_
          refine aw_imul d_M_scan_88 ?_
          refine aw_iload_n d_M_scan_89 rfl ?_
          refine aw_iadd d_M_scan_90 ?_
          refine mm_iald (by rw [ep, en]; exact ix3 p n) d_M_scan_91 (by decide) rfl (by omega) (by decide) ?_
          refine aw_iload_n d_M_scan_92 rfl ?_
          refine aw_icmp_eq (tgt := 118) d_M_scan_93 rfl (fun g93 => ?_) (fun g93 => ?_)
          · refine aw_aload_n d_M_scan_118 rfl ?_
            refine aw_iload d_M_scan_119 rfl ?_
            refine aw_iconst (v := 2) d_M_scan_121 (by decide) ?_
            rw [if_pos ⟨q4, g93⟩] at hR
            rw [hR]
            refine aw_cV2 (d' := (1, 16)) d_M_scan_122 lk_M_142 cd_M_comeTo (Nat.le_of_ble_eq_true rfl) rfl rfl ⟨Nat.le_of_ble_eq_true rfl, Nat.le_of_ble_eq_true rfl⟩ (fun _ h => nomatch h) ?_
            refine t_M_comeTo (hC.cd 0) (by rw [← hR, ep]; exact Or.inr ⟨p, hp, rfl⟩) ⟨fun k7 => ?_, fun p9 hp9 k7 => ?_⟩
            · refine ow_next_i ?_
              refine aw_iret d_M_scan_125 rfl rfl ?_
              exact hD.1 k7
            · refine ow_next_i ?_
              refine aw_iret d_M_scan_125 rfl rfl ?_
              exact hD.2 p9 hp9 k7
          · refine aw_aload_n d_M_scan_96 rfl ?_
            refine aw_iload_n d_M_scan_97 rfl ?_
            refine aw_iload d_M_scan_98 rfl ?_
            refine aw_aload_n d_M_scan_100 rfl ?_
            refine aw_iload_n d_M_scan_101 rfl ?_
            refine aw_iload d_M_scan_102 rfl ?_
            refine aw_cV2 (d' := (0, 0)) d_M_scan_104 lk_M_109 cd_M_placeOf (Nat.le_of_ble_eq_true rfl) rfl rfl ⟨Nat.le_of_ble_eq_true rfl, Nat.le_of_ble_eq_true rfl⟩ (fun _ h => nomatch h) ?_
            refine t_M_placeOf hs5 hln.2 hln.1 ?_
            rw [mpo_at _ hij hk]
            refine ow_next_i ?_
            refine aw_iconst (v := 1) d_M_scan_107 (by decide) ?_
            refine aw_iadd d_M_scan_108 ?_
            refine aw_iconst (v := 1) d_M_scan_109 (by decide) ?_
            refine aw_cV4 (d' := (0, 0)) d_M_scan_110 lk_M_105 cd_M_nextIn (Nat.le_of_ble_eq_true rfl) rfl rfl ⟨Nat.le_of_ble_eq_true rfl, Nat.le_of_ble_eq_true rfl⟩ (fun _ h => nomatch h) ?_
            rw [← nI_succ]
            refine t_M_nextInF (hC.cd 0) hs5 hln.2 hln.1 (a := k + 1) (by omega) ?_
            refine ow_next_i ?_
            refine aw_istore d_M_scan_113 (by decide) ?_
            refine aw_goto (tgt := 76) d_M_scan_115 rfl ?_
            rw [if_neg (fun h => g93 h.2)] at hR
            exact ih (k + 1) (by omega) (by omega) _ rfl hR
  have st : ∀ s, s < sc → s < 5 → ∀ n, n < 3 → f = nI n → D_comeTo (ow_u M 48 0 0) sc (mscn (ow_u M 48 0 0) s n x) (fun r M' => Q (.inl (some r)) (mm M' K b)) → AW l Y_M_scan none (3, 47) Q 76 [some (.ref 48), some (.int (nI s)), some (.int f), some (.int x), some (.int (mco (ow_u M 48 0 0) s)), some (.int (mbs (ow_u M 48 0 0) s))] [] (mm (ow_u M 48 0 0) K b) := by
    intro s hs hs5 n hn en hD
    have hln := (hC.cd 0).ln hs5
    by_cases g0 : ow_u M 48 0 0 61 s < 0
    · have hR1 : mscn (ow_u M 48 0 0) s n x = -1 := by unfold mscn; rw [if_pos g0]
      have hb1 : mbs (ow_u M 48 0 0) s = -1 := by unfold mbs; rw [if_pos g0]
      rw [hb1]
      refine aw_iload d_M_scan_76 rfl ?_
      refine aw_if_lt (tgt := 118) d_M_scan_78 rfl (fun g78 => ?_) (fun g78 => ?_)
      · refine aw_aload_n d_M_scan_118 rfl ?_
        refine aw_iload d_M_scan_119 rfl ?_
        refine aw_iconst (v := 2) d_M_scan_121 (by decide) ?_
        refine aw_cV2 (d' := (1, 16)) d_M_scan_122 lk_M_142 cd_M_comeTo (Nat.le_of_ble_eq_true rfl) rfl rfl ⟨Nat.le_of_ble_eq_true rfl, Nat.le_of_ble_eq_true rfl⟩ (fun _ h => nomatch h) ?_
        refine t_M_comeTo (hC.cd 0) (Or.inl rfl) ⟨fun k7 => ?_, fun p9 hp9 k7 => ?_⟩
        · refine ow_next_i ?_
          refine aw_iret d_M_scan_125 rfl rfl ?_
          exact hD.1 hR1
        · refine ow_next_i ?_
          refine aw_iret d_M_scan_125 rfl rfl ?_
          exact absurd k7.symm (nI_m1 (by omega))
      · exact absurd (by decide) g78
    · exact lp s hs hs5 n hn en hD _ (mbF (ow_u M 48 0 0) s) (mbF_le hln.1) (Nat.le_refl _) _ (by unfold mbs; rw [if_neg g0]) (by unfold mscn; rw [if_neg g0])
  refine aw_aload_n d_M_scan_0 rfl ?_
  refine aw_aload_n d_M_scan_1 rfl ?_
  refine aw_iload_n d_M_scan_2 rfl ?_
  refine aw_cV1 (d' := (0, 0)) d_M_scan_3 lk_M_148 cd_M_isSet (Nat.le_of_ble_eq_true rfl) rfl rfl ⟨Nat.le_of_ble_eq_true rfl, Nat.le_of_ble_eq_true rfl⟩ (fun _ h => nomatch h) ?_
  refine t_M_isSet ?_
  refine ow_next_i ?_
  refine aw_if_eq (tgt := 13) d_M_scan_6 rfl (fun g6 => ?_) (fun g6 => ?_)
  · refine aw_iconst (v := 1) d_M_scan_13 (by decide) ?_
    refine aw_goto (tgt := 18) d_M_scan_14 rfl ?_
    refine mm_puti fw_M_84 d_M_scan_18 (by decide) rfl rfl rfl rfl ?_
    refine aw_aload_n d_M_scan_21 rfl ?_
    refine mm_geti f_M_84 d_M_scan_22 (by decide) rfl rfl ?_
    rw [ow_u_self]
    refine aw_if_ne (tgt := 52) d_M_scan_25 rfl (fun g25 => ?_) (fun g25 => ?_)
    · refine aw_aload_n d_M_scan_52 rfl ?_
      refine mm_geti f_M_84 d_M_scan_53 (by decide) rfl rfl ?_
      rw [ow_u_self]
      refine aw_if_le (tgt := 61) d_M_scan_56 rfl (fun g56 => ?_) (fun g56 => ?_)
      · exact absurd g56 (by decide)
      · refine aw_iconst (v := 0) d_M_scan_59 (by decide) ?_
        refine aw_iret d_M_scan_60 rfl rfl ?_
        first
          | exact hq.1 (by unfold HSm; grind [cdv])
          | exact (hq.2 s hs rfl (by grind [cdv])).1 (by rw [ec]; exact Int32.not_lt.mpr (by grind [cdv]))
          | exact (hq.2 s hs rfl (by grind [cdv])).1 (by rw [ec]; grind [cdv])
    · exact absurd g25 (by decide)
  · refine aw_iload_n d_M_scan_9 rfl ?_
    refine aw_if_ge (tgt := 17) d_M_scan_10 rfl (fun g10 => ?_) (fun g10 => ?_)
    · obtain ⟨s, hs, rfl⟩ := nI_ix (x := y) (n := sc) (by grind [cdv]) (by rw [← hC.sc]; grind [cdv]) (by have := hC.s5; omega)
      have hs5 : s < 5 := by have := hC.s5; omega
      refine aw_iconst (v := 0) d_M_scan_17 (by decide) ?_
      refine mm_puti fw_M_84 d_M_scan_18 (by decide) rfl rfl rfl rfl ?_
      refine aw_aload_n d_M_scan_21 rfl ?_
      refine mm_geti f_M_84 d_M_scan_22 (by decide) rfl rfl ?_
      rw [ow_u_self]
      refine aw_if_ne (tgt := 52) d_M_scan_25 rfl (fun g25 => ?_) (fun g25 => ?_)
      · exact absurd g25 (by decide)
      · refine aw_aload_n d_M_scan_28 rfl ?_
        refine aw_iload_n d_M_scan_29 rfl ?_
        refine aw_aload_n d_M_scan_30 rfl ?_
        refine mm_getr (t := 49) f_M_7 d_M_scan_31 (by decide) rfl rfl rfl ?_
        refine aw_aload_n d_M_scan_34 rfl ?_
        refine mm_getr (t := 51) f_M_16 d_M_scan_35 (by decide) rfl rfl rfl ?_
        refine aw_iload_n d_M_scan_38 rfl ?_
        refine mm_iald rfl d_M_scan_39 (by decide) rfl (by omega) (by decide) ?_
        obtain ⟨mt, hmt, emt⟩ := h51 s hs
        have ec : (M 51 s).toNatClampNeg = mt := by rw [emt, nI_clamp (by omega)]
        refine mm_iald emt d_M_scan_40 (by decide) rfl (by omega) (by decide) ?_
        refine aw_icmp_lt (tgt := 48) d_M_scan_41 rfl (fun g41 => ?_) (fun g41 => ?_)
        · obtain ⟨n, hn, en⟩ := HFm.ix (M := M) (t := mt) (f := f) hF hmt ⟨by grind [cdv], by first | exact g41 | grind [cdv]⟩
          refine aw_iconst (v := 0) d_M_scan_48 (by decide) ?_
          refine mm_puti fw_M_84 d_M_scan_49 (by decide) rfl rfl rfl rfl ?_
          rw [ow_u_u]
          refine aw_aload_n d_M_scan_52 rfl ?_
          refine mm_geti f_M_84 d_M_scan_53 (by decide) rfl rfl ?_
          rw [ow_u_self]
          refine aw_if_le (tgt := 61) d_M_scan_56 rfl (fun g56 => ?_) (fun g56 => ?_)
          · refine aw_aload_n d_M_scan_61 rfl ?_
            refine aw_iload_n d_M_scan_62 rfl ?_
            refine aw_cV1 (d' := (0, 0)) d_M_scan_63 lk_M_120 cd_M_currentOwner (Nat.le_of_ble_eq_true rfl) rfl rfl ⟨Nat.le_of_ble_eq_true rfl, Nat.le_of_ble_eq_true rfl⟩ (fun _ h => nomatch h) ?_
            refine t_M_currentOwner (hC.cd 0) hs5 ?_
            refine ow_next_i ?_
            refine aw_istore d_M_scan_66 (by decide) ?_
            refine aw_aload_n d_M_scan_68 rfl ?_
            refine aw_iload_n d_M_scan_69 rfl ?_
            refine aw_iconst (v := 1) d_M_scan_70 (by decide) ?_
            refine aw_cV2 (d' := (2, 31)) d_M_scan_71 lk_M_151 cd_M_beside (Nat.le_of_ble_eq_true rfl) rfl rfl ⟨Nat.le_of_ble_eq_true rfl, Nat.le_of_ble_eq_true rfl⟩ (fun _ h => nomatch h) ?_
            refine t_M_beside (hC.cd 0) hs5 ?_
            refine ow_next_i ?_
            refine aw_istore d_M_scan_74 (by decide) ?_
            exact st s hs hs5 n hn en ((hq.2 s hs rfl (by grind [cdv])).2 (by rw [ec]; first | exact g41 | grind [cdv]) n hn en)
          · exact absurd g56 (by decide)
        · refine aw_iconst (v := 1) d_M_scan_44 (by decide) ?_
          refine aw_goto (tgt := 49) d_M_scan_45 rfl ?_
          refine mm_puti fw_M_84 d_M_scan_49 (by decide) rfl rfl rfl rfl ?_
          rw [ow_u_u]
          refine aw_aload_n d_M_scan_52 rfl ?_
          refine mm_geti f_M_84 d_M_scan_53 (by decide) rfl rfl ?_
          rw [ow_u_self]
          refine aw_if_le (tgt := 61) d_M_scan_56 rfl (fun g56 => ?_) (fun g56 => ?_)
          · exact absurd g56 (by decide)
          · refine aw_iconst (v := 0) d_M_scan_59 (by decide) ?_
            refine aw_iret d_M_scan_60 rfl rfl ?_
            first
              | exact hq.1 (by unfold HSm; grind [cdv])
              | exact (hq.2 s hs rfl (by grind [cdv])).1 (by rw [ec]; exact Int32.not_lt.mpr (by grind [cdv]))
              | exact (hq.2 s hs rfl (by grind [cdv])).1 (by rw [ec]; grind [cdv])
    · refine aw_iconst (v := 1) d_M_scan_13 (by decide) ?_
      refine aw_goto (tgt := 18) d_M_scan_14 rfl ?_
      refine mm_puti fw_M_84 d_M_scan_18 (by decide) rfl rfl rfl rfl ?_
      refine aw_aload_n d_M_scan_21 rfl ?_
      refine mm_geti f_M_84 d_M_scan_22 (by decide) rfl rfl ?_
      rw [ow_u_self]
      refine aw_if_ne (tgt := 52) d_M_scan_25 rfl (fun g25 => ?_) (fun g25 => ?_)
      · refine aw_aload_n d_M_scan_52 rfl ?_
        refine mm_geti f_M_84 d_M_scan_53 (by decide) rfl rfl ?_
        rw [ow_u_self]
        refine aw_if_le (tgt := 61) d_M_scan_56 rfl (fun g56 => ?_) (fun g56 => ?_)
        · exact absurd g56 (by decide)
        · refine aw_iconst (v := 0) d_M_scan_59 (by decide) ?_
          refine aw_iret d_M_scan_60 rfl rfl ?_
          first
            | exact hq.1 (by unfold HSm; grind [cdv])
            | exact (hq.2 s hs rfl (by grind [cdv])).1 (by rw [ec]; exact Int32.not_lt.mpr (by grind [cdv]))
            | exact (hq.2 s hs rfl (by grind [cdv])).1 (by rw [ec]; grind [cdv])
      · exact absurd g25 (by decide)
theorem t_M_current (hC : MI M tc sc) {w n : Int32} (hq : D_current M tc sc w n (fun r M' => Q (.inl (some r)) (mm M' K b))) : MT l Y_M_current (1, 13) [.ref 48, .int w, .int n] (mm M K b) Q := by
  refine mt_of (k := 2) (by decide) cd_M_current.1 (by simp [Value.category]) rfl ?_
  refine aw_iload_n d_M_current_0 rfl ?_
  refine aw_if_eq (tgt := 30) d_M_current_1 rfl (fun g1 => ?_) (fun g1 => ?_)
  · refine aw_iconst (v := 1) d_M_current_30 (by decide) ?_
    refine aw_goto (tgt := 35) d_M_current_31 rfl ?_
    refine aw_istore_n d_M_current_35 (by decide) ?_
    refine aw_aload_n d_M_current_36 rfl ?_
    refine aw_iload_n d_M_current_37 rfl ?_
    refine aw_if_eq (tgt := 45) d_M_current_38 rfl (fun g38 => ?_) (fun g38 => ?_)
    · exact absurd g38 (by decide)
    · refine aw_iconst (v := 0) d_M_current_41 (by decide) ?_
      refine aw_goto (tgt := 46) d_M_current_42 rfl ?_
      refine mm_puti fw_M_84 d_M_current_46 (by decide) rfl rfl rfl rfl ?_
      refine aw_aload_n d_M_current_49 rfl ?_
      refine mm_geti f_M_84 d_M_current_50 (by decide) rfl rfl ?_
      rw [ow_u_self]
      refine aw_if_le (tgt := 58) d_M_current_53 rfl (fun g53 => ?_) (fun g53 => ?_)
      · refine aw_iload_n d_M_current_58 rfl ?_
        refine aw_if_ne (tgt := 69) d_M_current_59 rfl (fun g59 => ?_) (fun g59 => ?_)
        · refine aw_iload_n d_M_current_69 rfl ?_
          refine aw_iconst (v := 1) d_M_current_70 (by decide) ?_
          refine aw_icmp_ne (tgt := 83) d_M_current_71 rfl (fun g71 => ?_) (fun g71 => ?_)
          · refine aw_aload_n d_M_current_83 rfl ?_
            refine mm_getr (t := 61) f_M_53 d_M_current_84 (by decide) rfl rfl rfl ?_
            refine aw_iload_n d_M_current_87 rfl ?_
            obtain ⟨t, ht, rfl⟩ := nI_ix (x := n) (n := sc) (by grind [cdv]) (by rw [← hC.sc]; grind [cdv]) (by have := hC.s5; omega)
            have ht5 : t < 5 := by have := hC.s5; omega
            refine mm_iald rfl d_M_current_88 (by decide) rfl (by omega) (by decide) ?_
            have hpl : plc (ow_u M 48 0 0 61 t) := hC.ofS ht5
            refine aw_istore d_M_current_89 (by decide) ?_
            refine aw_iload d_M_current_91 rfl ?_
            refine aw_if_ge (tgt := 100) d_M_current_93 rfl (fun g93 => ?_) (fun g93 => ?_)
            · obtain ⟨p, hp, ep⟩ := plc_ge hpl (by grind [cdv])
              have e2 := congrArg Int32.toNatClampNeg ep
              rw [nI_clamp (by omega)] at e2
              refine aw_aload_n d_M_current_100 rfl ?_
              refine mm_getr (t := 54) f_M_29 d_M_current_101 (by decide) rfl rfl rfl ?_
              refine aw_iload d_M_current_104 rfl ?_
              refine mm_iald ep d_M_current_106 (by decide) rfl (by omega) (by decide) ?_
              refine aw_iret d_M_current_107 rfl rfl ?_
              first
                | exact q_val (hq.1 (by grind [cdv])) (by unfold mky; first | exact (if_pos g93).symm | (rw [if_neg (by exact Int32.not_lt.mpr g93)]; exact congrArg (M 54) e2.symm))
                | exact q_val (hq.2.1 (by grind [cdv]) t ht rfl) (by unfold mky; first | exact (if_pos g93).symm | (rw [if_neg (by exact Int32.not_lt.mpr g93)]; exact congrArg (M 54) e2.symm))
                | exact q_val (hq.2.2.1 (by grind [cdv]) t ht rfl) (by unfold mky; first | exact (if_pos g93).symm | (rw [if_neg (by exact Int32.not_lt.mpr g93)]; exact congrArg (M 54) e2.symm))
                | exact q_val (hq.1 (by grind [cdv])) (by unfold mky; rw [if_pos (by grind [cdv])])
                | exact q_val (hq.2.1 (by grind [cdv]) t ht rfl) (by unfold mky; rw [if_pos (by grind [cdv])])
                | exact q_val (hq.2.2.1 (by grind [cdv]) t ht rfl) (by unfold mky; rw [if_pos (by grind [cdv])])
            · refine aw_iconst (v := 0) d_M_current_96 (by decide) ?_
              refine aw_goto (tgt := 107) d_M_current_97 rfl ?_
              refine aw_iret d_M_current_107 rfl rfl ?_
              first
                | exact q_val (hq.1 (by grind [cdv])) (by unfold mky; first | exact (if_pos g93).symm | (rw [if_neg (by exact Int32.not_lt.mpr g93)]; exact congrArg (M 54) e2.symm))
                | exact q_val (hq.2.1 (by grind [cdv]) t ht rfl) (by unfold mky; first | exact (if_pos g93).symm | (rw [if_neg (by exact Int32.not_lt.mpr g93)]; exact congrArg (M 54) e2.symm))
                | exact q_val (hq.2.2.1 (by grind [cdv]) t ht rfl) (by unfold mky; first | exact (if_pos g93).symm | (rw [if_neg (by exact Int32.not_lt.mpr g93)]; exact congrArg (M 54) e2.symm))
                | exact q_val (hq.1 (by grind [cdv])) (by unfold mky; rw [if_pos (by grind [cdv])])
                | exact q_val (hq.2.1 (by grind [cdv]) t ht rfl) (by unfold mky; rw [if_pos (by grind [cdv])])
                | exact q_val (hq.2.2.1 (by grind [cdv]) t ht rfl) (by unfold mky; rw [if_pos (by grind [cdv])])
          · refine aw_aload_n d_M_current_74 rfl ?_
            refine mm_getr (t := 60) f_M_50 d_M_current_75 (by decide) rfl rfl rfl ?_
            refine aw_iload_n d_M_current_78 rfl ?_
            obtain ⟨t, ht, rfl⟩ := nI_ix (x := n) (n := tc) (by grind [cdv]) (by rw [← hC.tc]; grind [cdv]) (by have := hC.t4; omega)
            have ht4 : t < 4 := by have := hC.t4; omega
            refine mm_iald rfl d_M_current_79 (by decide) rfl (by omega) (by decide) ?_
            have hpl : plc (ow_u M 48 0 0 60 t) := hC.ofT ht4
            refine aw_goto (tgt := 89) d_M_current_80 rfl ?_
            refine aw_istore d_M_current_89 (by decide) ?_
            refine aw_iload d_M_current_91 rfl ?_
            refine aw_if_ge (tgt := 100) d_M_current_93 rfl (fun g93 => ?_) (fun g93 => ?_)
            · obtain ⟨p, hp, ep⟩ := plc_ge hpl (by grind [cdv])
              have e2 := congrArg Int32.toNatClampNeg ep
              rw [nI_clamp (by omega)] at e2
              refine aw_aload_n d_M_current_100 rfl ?_
              refine mm_getr (t := 54) f_M_29 d_M_current_101 (by decide) rfl rfl rfl ?_
              refine aw_iload d_M_current_104 rfl ?_
              refine mm_iald ep d_M_current_106 (by decide) rfl (by omega) (by decide) ?_
              refine aw_iret d_M_current_107 rfl rfl ?_
              first
                | exact q_val (hq.1 (by grind [cdv])) (by unfold mky; first | exact (if_pos g93).symm | (rw [if_neg (by exact Int32.not_lt.mpr g93)]; exact congrArg (M 54) e2.symm))
                | exact q_val (hq.2.1 (by grind [cdv]) t ht rfl) (by unfold mky; first | exact (if_pos g93).symm | (rw [if_neg (by exact Int32.not_lt.mpr g93)]; exact congrArg (M 54) e2.symm))
                | exact q_val (hq.2.2.1 (by grind [cdv]) t ht rfl) (by unfold mky; first | exact (if_pos g93).symm | (rw [if_neg (by exact Int32.not_lt.mpr g93)]; exact congrArg (M 54) e2.symm))
                | exact q_val (hq.1 (by grind [cdv])) (by unfold mky; rw [if_pos (by grind [cdv])])
                | exact q_val (hq.2.1 (by grind [cdv]) t ht rfl) (by unfold mky; rw [if_pos (by grind [cdv])])
                | exact q_val (hq.2.2.1 (by grind [cdv]) t ht rfl) (by unfold mky; rw [if_pos (by grind [cdv])])
            · refine aw_iconst (v := 0) d_M_current_96 (by decide) ?_
              refine aw_goto (tgt := 107) d_M_current_97 rfl ?_
              refine aw_iret d_M_current_107 rfl rfl ?_
              first
                | exact q_val (hq.1 (by grind [cdv])) (by unfold mky; first | exact (if_pos g93).symm | (rw [if_neg (by exact Int32.not_lt.mpr g93)]; exact congrArg (M 54) e2.symm))
                | exact q_val (hq.2.1 (by grind [cdv]) t ht rfl) (by unfold mky; first | exact (if_pos g93).symm | (rw [if_neg (by exact Int32.not_lt.mpr g93)]; exact congrArg (M 54) e2.symm))
                | exact q_val (hq.2.2.1 (by grind [cdv]) t ht rfl) (by unfold mky; first | exact (if_pos g93).symm | (rw [if_neg (by exact Int32.not_lt.mpr g93)]; exact congrArg (M 54) e2.symm))
                | exact q_val (hq.1 (by grind [cdv])) (by unfold mky; rw [if_pos (by grind [cdv])])
                | exact q_val (hq.2.1 (by grind [cdv]) t ht rfl) (by unfold mky; rw [if_pos (by grind [cdv])])
                | exact q_val (hq.2.2.1 (by grind [cdv]) t ht rfl) (by unfold mky; rw [if_pos (by grind [cdv])])
        · have hpl : plc (ow_u M 48 0 0 48 16) := hC.run
          refine aw_aload_n d_M_current_62 rfl ?_
          refine mm_geti f_M_47 d_M_current_63 (by decide) rfl rfl ?_
          refine aw_goto (tgt := 89) d_M_current_66 rfl ?_
          refine aw_istore d_M_current_89 (by decide) ?_
          refine aw_iload d_M_current_91 rfl ?_
          refine aw_if_ge (tgt := 100) d_M_current_93 rfl (fun g93 => ?_) (fun g93 => ?_)
          · obtain ⟨p, hp, ep⟩ := plc_ge hpl (by grind [cdv])
            have e2 := congrArg Int32.toNatClampNeg ep
            rw [nI_clamp (by omega)] at e2
            refine aw_aload_n d_M_current_100 rfl ?_
            refine mm_getr (t := 54) f_M_29 d_M_current_101 (by decide) rfl rfl rfl ?_
            refine aw_iload d_M_current_104 rfl ?_
            refine mm_iald ep d_M_current_106 (by decide) rfl (by omega) (by decide) ?_
            refine aw_iret d_M_current_107 rfl rfl ?_
            first
              | exact q_val (hq.1 (by grind [cdv])) (by unfold mky; first | exact (if_pos g93).symm | (rw [if_neg (by exact Int32.not_lt.mpr g93)]; exact congrArg (M 54) e2.symm))
              | exact q_val (hq.2.1 (by grind [cdv]) t ht rfl) (by unfold mky; first | exact (if_pos g93).symm | (rw [if_neg (by exact Int32.not_lt.mpr g93)]; exact congrArg (M 54) e2.symm))
              | exact q_val (hq.2.2.1 (by grind [cdv]) t ht rfl) (by unfold mky; first | exact (if_pos g93).symm | (rw [if_neg (by exact Int32.not_lt.mpr g93)]; exact congrArg (M 54) e2.symm))
              | exact q_val (hq.1 (by grind [cdv])) (by unfold mky; rw [if_pos (by grind [cdv])])
              | exact q_val (hq.2.1 (by grind [cdv]) t ht rfl) (by unfold mky; rw [if_pos (by grind [cdv])])
              | exact q_val (hq.2.2.1 (by grind [cdv]) t ht rfl) (by unfold mky; rw [if_pos (by grind [cdv])])
          · refine aw_iconst (v := 0) d_M_current_96 (by decide) ?_
            refine aw_goto (tgt := 107) d_M_current_97 rfl ?_
            refine aw_iret d_M_current_107 rfl rfl ?_
            first
              | exact q_val (hq.1 (by grind [cdv])) (by unfold mky; first | exact (if_pos g93).symm | (rw [if_neg (by exact Int32.not_lt.mpr g93)]; exact congrArg (M 54) e2.symm))
              | exact q_val (hq.2.1 (by grind [cdv]) t ht rfl) (by unfold mky; first | exact (if_pos g93).symm | (rw [if_neg (by exact Int32.not_lt.mpr g93)]; exact congrArg (M 54) e2.symm))
              | exact q_val (hq.2.2.1 (by grind [cdv]) t ht rfl) (by unfold mky; first | exact (if_pos g93).symm | (rw [if_neg (by exact Int32.not_lt.mpr g93)]; exact congrArg (M 54) e2.symm))
              | exact q_val (hq.1 (by grind [cdv])) (by unfold mky; rw [if_pos (by grind [cdv])])
              | exact q_val (hq.2.1 (by grind [cdv]) t ht rfl) (by unfold mky; rw [if_pos (by grind [cdv])])
              | exact q_val (hq.2.2.1 (by grind [cdv]) t ht rfl) (by unfold mky; rw [if_pos (by grind [cdv])])
      · exact absurd g53 (by decide)
  · refine aw_iload_n d_M_current_4 rfl ?_
    refine aw_iconst (v := 1) d_M_current_5 (by decide) ?_
    refine aw_icmp_ne (tgt := 17) d_M_current_6 rfl (fun g6 => ?_) (fun g6 => ?_)
    · refine aw_iload_n d_M_current_17 rfl ?_
      refine aw_iconst (v := 2) d_M_current_18 (by decide) ?_
      refine aw_icmp_ne (tgt := 34) d_M_current_19 rfl (fun g19 => ?_) (fun g19 => ?_)
      · refine aw_iconst (v := 0) d_M_current_34 (by decide) ?_
        refine aw_istore_n d_M_current_35 (by decide) ?_
        refine aw_aload_n d_M_current_36 rfl ?_
        refine aw_iload_n d_M_current_37 rfl ?_
        refine aw_if_eq (tgt := 45) d_M_current_38 rfl (fun g38 => ?_) (fun g38 => ?_)
        · refine aw_iconst (v := 1) d_M_current_45 (by decide) ?_
          refine mm_puti fw_M_84 d_M_current_46 (by decide) rfl rfl rfl rfl ?_
          refine aw_aload_n d_M_current_49 rfl ?_
          refine mm_geti f_M_84 d_M_current_50 (by decide) rfl rfl ?_
          rw [ow_u_self]
          refine aw_if_le (tgt := 58) d_M_current_53 rfl (fun g53 => ?_) (fun g53 => ?_)
          · exact absurd g53 (by decide)
          · refine aw_iconst (v := 0) d_M_current_56 (by decide) ?_
            refine aw_iret d_M_current_57 rfl rfl ?_
            exact hq.2.2.2 (by unfold HTm HSm; grind [cdv])
        · exact absurd g38 (by decide)
      · refine aw_aload_n d_M_current_22 rfl ?_
        refine aw_iload_n d_M_current_23 rfl ?_
        refine aw_cV1 (d' := (0, 0)) d_M_current_24 lk_M_148 cd_M_isSet (Nat.le_of_ble_eq_true rfl) rfl rfl ⟨Nat.le_of_ble_eq_true rfl, Nat.le_of_ble_eq_true rfl⟩ (fun _ h => nomatch h) ?_
        refine t_M_isSet ?_
        refine ow_next_i ?_
        refine aw_if_eq (tgt := 34) d_M_current_27 rfl (fun g27 => ?_) (fun g27 => ?_)
        · refine aw_iconst (v := 0) d_M_current_34 (by decide) ?_
          refine aw_istore_n d_M_current_35 (by decide) ?_
          refine aw_aload_n d_M_current_36 rfl ?_
          refine aw_iload_n d_M_current_37 rfl ?_
          refine aw_if_eq (tgt := 45) d_M_current_38 rfl (fun g38 => ?_) (fun g38 => ?_)
          · refine aw_iconst (v := 1) d_M_current_45 (by decide) ?_
            refine mm_puti fw_M_84 d_M_current_46 (by decide) rfl rfl rfl rfl ?_
            refine aw_aload_n d_M_current_49 rfl ?_
            refine mm_geti f_M_84 d_M_current_50 (by decide) rfl rfl ?_
            rw [ow_u_self]
            refine aw_if_le (tgt := 58) d_M_current_53 rfl (fun g53 => ?_) (fun g53 => ?_)
            · exact absurd g53 (by decide)
            · refine aw_iconst (v := 0) d_M_current_56 (by decide) ?_
              refine aw_iret d_M_current_57 rfl rfl ?_
              exact hq.2.2.2 (by unfold HTm HSm; grind [cdv])
          · exact absurd g38 (by decide)
        · refine aw_iconst (v := 1) d_M_current_30 (by decide) ?_
          refine aw_goto (tgt := 35) d_M_current_31 rfl ?_
          refine aw_istore_n d_M_current_35 (by decide) ?_
          refine aw_aload_n d_M_current_36 rfl ?_
          refine aw_iload_n d_M_current_37 rfl ?_
          refine aw_if_eq (tgt := 45) d_M_current_38 rfl (fun g38 => ?_) (fun g38 => ?_)
          · exact absurd g38 (by decide)
          · refine aw_iconst (v := 0) d_M_current_41 (by decide) ?_
            refine aw_goto (tgt := 46) d_M_current_42 rfl ?_
            refine mm_puti fw_M_84 d_M_current_46 (by decide) rfl rfl rfl rfl ?_
            refine aw_aload_n d_M_current_49 rfl ?_
            refine mm_geti f_M_84 d_M_current_50 (by decide) rfl rfl ?_
            rw [ow_u_self]
            refine aw_if_le (tgt := 58) d_M_current_53 rfl (fun g53 => ?_) (fun g53 => ?_)
            · refine aw_iload_n d_M_current_58 rfl ?_
              refine aw_if_ne (tgt := 69) d_M_current_59 rfl (fun g59 => ?_) (fun g59 => ?_)
              · refine aw_iload_n d_M_current_69 rfl ?_
                refine aw_iconst (v := 1) d_M_current_70 (by decide) ?_
                refine aw_icmp_ne (tgt := 83) d_M_current_71 rfl (fun g71 => ?_) (fun g71 => ?_)
                · refine aw_aload_n d_M_current_83 rfl ?_
                  refine mm_getr (t := 61) f_M_53 d_M_current_84 (by decide) rfl rfl rfl ?_
                  refine aw_iload_n d_M_current_87 rfl ?_
                  obtain ⟨t, ht, rfl⟩ := nI_ix (x := n) (n := sc) (by grind [cdv]) (by rw [← hC.sc]; grind [cdv]) (by have := hC.s5; omega)
                  have ht5 : t < 5 := by have := hC.s5; omega
                  refine mm_iald rfl d_M_current_88 (by decide) rfl (by omega) (by decide) ?_
                  have hpl : plc (ow_u M 48 0 0 61 t) := hC.ofS ht5
                  refine aw_istore d_M_current_89 (by decide) ?_
                  refine aw_iload d_M_current_91 rfl ?_
                  refine aw_if_ge (tgt := 100) d_M_current_93 rfl (fun g93 => ?_) (fun g93 => ?_)
                  · obtain ⟨p, hp, ep⟩ := plc_ge hpl (by grind [cdv])
                    have e2 := congrArg Int32.toNatClampNeg ep
                    rw [nI_clamp (by omega)] at e2
                    refine aw_aload_n d_M_current_100 rfl ?_
                    refine mm_getr (t := 54) f_M_29 d_M_current_101 (by decide) rfl rfl rfl ?_
                    refine aw_iload d_M_current_104 rfl ?_
                    refine mm_iald ep d_M_current_106 (by decide) rfl (by omega) (by decide) ?_
                    refine aw_iret d_M_current_107 rfl rfl ?_
                    first
                      | exact q_val (hq.1 (by grind [cdv])) (by unfold mky; first | exact (if_pos g93).symm | (rw [if_neg (by exact Int32.not_lt.mpr g93)]; exact congrArg (M 54) e2.symm))
                      | exact q_val (hq.2.1 (by grind [cdv]) t ht rfl) (by unfold mky; first | exact (if_pos g93).symm | (rw [if_neg (by exact Int32.not_lt.mpr g93)]; exact congrArg (M 54) e2.symm))
                      | exact q_val (hq.2.2.1 (by grind [cdv]) t ht rfl) (by unfold mky; first | exact (if_pos g93).symm | (rw [if_neg (by exact Int32.not_lt.mpr g93)]; exact congrArg (M 54) e2.symm))
                      | exact q_val (hq.1 (by grind [cdv])) (by unfold mky; rw [if_pos (by grind [cdv])])
                      | exact q_val (hq.2.1 (by grind [cdv]) t ht rfl) (by unfold mky; rw [if_pos (by grind [cdv])])
                      | exact q_val (hq.2.2.1 (by grind [cdv]) t ht rfl) (by unfold mky; rw [if_pos (by grind [cdv])])
                  · refine aw_iconst (v := 0) d_M_current_96 (by decide) ?_
                    refine aw_goto (tgt := 107) d_M_current_97 rfl ?_
                    refine aw_iret d_M_current_107 rfl rfl ?_
                    first
                      | exact q_val (hq.1 (by grind [cdv])) (by unfold mky; first | exact (if_pos g93).symm | (rw [if_neg (by exact Int32.not_lt.mpr g93)]; exact congrArg (M 54) e2.symm))
                      | exact q_val (hq.2.1 (by grind [cdv]) t ht rfl) (by unfold mky; first | exact (if_pos g93).symm | (rw [if_neg (by exact Int32.not_lt.mpr g93)]; exact congrArg (M 54) e2.symm))
                      | exact q_val (hq.2.2.1 (by grind [cdv]) t ht rfl) (by unfold mky; first | exact (if_pos g93).symm | (rw [if_neg (by exact Int32.not_lt.mpr g93)]; exact congrArg (M 54) e2.symm))
                      | exact q_val (hq.1 (by grind [cdv])) (by unfold mky; rw [if_pos (by grind [cdv])])
                      | exact q_val (hq.2.1 (by grind [cdv]) t ht rfl) (by unfold mky; rw [if_pos (by grind [cdv])])
                      | exact q_val (hq.2.2.1 (by grind [cdv]) t ht rfl) (by unfold mky; rw [if_pos (by grind [cdv])])
                · refine aw_aload_n d_M_current_74 rfl ?_
                  refine mm_getr (t := 60) f_M_50 d_M_current_75 (by decide) rfl rfl rfl ?_
                  refine aw_iload_n d_M_current_78 rfl ?_
                  obtain ⟨t, ht, rfl⟩ := nI_ix (x := n) (n := tc) (by grind [cdv]) (by rw [← hC.tc]; grind [cdv]) (by have := hC.t4; omega)
                  have ht4 : t < 4 := by have := hC.t4; omega
                  refine mm_iald rfl d_M_current_79 (by decide) rfl (by omega) (by decide) ?_
                  have hpl : plc (ow_u M 48 0 0 60 t) := hC.ofT ht4
                  refine aw_goto (tgt := 89) d_M_current_80 rfl ?_
                  refine aw_istore d_M_current_89 (by decide) ?_
                  refine aw_iload d_M_current_91 rfl ?_
                  refine aw_if_ge (tgt := 100) d_M_current_93 rfl (fun g93 => ?_) (fun g93 => ?_)
                  · obtain ⟨p, hp, ep⟩ := plc_ge hpl (by grind [cdv])
                    have e2 := congrArg Int32.toNatClampNeg ep
                    rw [nI_clamp (by omega)] at e2
                    refine aw_aload_n d_M_current_100 rfl ?_
                    refine mm_getr (t := 54) f_M_29 d_M_current_101 (by decide) rfl rfl rfl ?_
                    refine aw_iload d_M_current_104 rfl ?_
                    refine mm_iald ep d_M_current_106 (by decide) rfl (by omega) (by decide) ?_
                    refine aw_iret d_M_current_107 rfl rfl ?_
                    first
                      | exact q_val (hq.1 (by grind [cdv])) (by unfold mky; first | exact (if_pos g93).symm | (rw [if_neg (by exact Int32.not_lt.mpr g93)]; exact congrArg (M 54) e2.symm))
                      | exact q_val (hq.2.1 (by grind [cdv]) t ht rfl) (by unfold mky; first | exact (if_pos g93).symm | (rw [if_neg (by exact Int32.not_lt.mpr g93)]; exact congrArg (M 54) e2.symm))
                      | exact q_val (hq.2.2.1 (by grind [cdv]) t ht rfl) (by unfold mky; first | exact (if_pos g93).symm | (rw [if_neg (by exact Int32.not_lt.mpr g93)]; exact congrArg (M 54) e2.symm))
                      | exact q_val (hq.1 (by grind [cdv])) (by unfold mky; rw [if_pos (by grind [cdv])])
                      | exact q_val (hq.2.1 (by grind [cdv]) t ht rfl) (by unfold mky; rw [if_pos (by grind [cdv])])
                      | exact q_val (hq.2.2.1 (by grind [cdv]) t ht rfl) (by unfold mky; rw [if_pos (by grind [cdv])])
                  · refine aw_iconst (v := 0) d_M_current_96 (by decide) ?_
                    refine aw_goto (tgt := 107) d_M_current_97 rfl ?_
                    refine aw_iret d_M_current_107 rfl rfl ?_
                    first
                      | exact q_val (hq.1 (by grind [cdv])) (by unfold mky; first | exact (if_pos g93).symm | (rw [if_neg (by exact Int32.not_lt.mpr g93)]; exact congrArg (M 54) e2.symm))
                      | exact q_val (hq.2.1 (by grind [cdv]) t ht rfl) (by unfold mky; first | exact (if_pos g93).symm | (rw [if_neg (by exact Int32.not_lt.mpr g93)]; exact congrArg (M 54) e2.symm))
                      | exact q_val (hq.2.2.1 (by grind [cdv]) t ht rfl) (by unfold mky; first | exact (if_pos g93).symm | (rw [if_neg (by exact Int32.not_lt.mpr g93)]; exact congrArg (M 54) e2.symm))
                      | exact q_val (hq.1 (by grind [cdv])) (by unfold mky; rw [if_pos (by grind [cdv])])
                      | exact q_val (hq.2.1 (by grind [cdv]) t ht rfl) (by unfold mky; rw [if_pos (by grind [cdv])])
                      | exact q_val (hq.2.2.1 (by grind [cdv]) t ht rfl) (by unfold mky; rw [if_pos (by grind [cdv])])
              · have hpl : plc (ow_u M 48 0 0 48 16) := hC.run
                refine aw_aload_n d_M_current_62 rfl ?_
                refine mm_geti f_M_47 d_M_current_63 (by decide) rfl rfl ?_
                refine aw_goto (tgt := 89) d_M_current_66 rfl ?_
                refine aw_istore d_M_current_89 (by decide) ?_
                refine aw_iload d_M_current_91 rfl ?_
                refine aw_if_ge (tgt := 100) d_M_current_93 rfl (fun g93 => ?_) (fun g93 => ?_)
                · obtain ⟨p, hp, ep⟩ := plc_ge hpl (by grind [cdv])
                  have e2 := congrArg Int32.toNatClampNeg ep
                  rw [nI_clamp (by omega)] at e2
                  refine aw_aload_n d_M_current_100 rfl ?_
                  refine mm_getr (t := 54) f_M_29 d_M_current_101 (by decide) rfl rfl rfl ?_
                  refine aw_iload d_M_current_104 rfl ?_
                  refine mm_iald ep d_M_current_106 (by decide) rfl (by omega) (by decide) ?_
                  refine aw_iret d_M_current_107 rfl rfl ?_
                  first
                    | exact q_val (hq.1 (by grind [cdv])) (by unfold mky; first | exact (if_pos g93).symm | (rw [if_neg (by exact Int32.not_lt.mpr g93)]; exact congrArg (M 54) e2.symm))
                    | exact q_val (hq.2.1 (by grind [cdv]) t ht rfl) (by unfold mky; first | exact (if_pos g93).symm | (rw [if_neg (by exact Int32.not_lt.mpr g93)]; exact congrArg (M 54) e2.symm))
                    | exact q_val (hq.2.2.1 (by grind [cdv]) t ht rfl) (by unfold mky; first | exact (if_pos g93).symm | (rw [if_neg (by exact Int32.not_lt.mpr g93)]; exact congrArg (M 54) e2.symm))
                    | exact q_val (hq.1 (by grind [cdv])) (by unfold mky; rw [if_pos (by grind [cdv])])
                    | exact q_val (hq.2.1 (by grind [cdv]) t ht rfl) (by unfold mky; rw [if_pos (by grind [cdv])])
                    | exact q_val (hq.2.2.1 (by grind [cdv]) t ht rfl) (by unfold mky; rw [if_pos (by grind [cdv])])
                · refine aw_iconst (v := 0) d_M_current_96 (by decide) ?_
                  refine aw_goto (tgt := 107) d_M_current_97 rfl ?_
                  refine aw_iret d_M_current_107 rfl rfl ?_
                  first
                    | exact q_val (hq.1 (by grind [cdv])) (by unfold mky; first | exact (if_pos g93).symm | (rw [if_neg (by exact Int32.not_lt.mpr g93)]; exact congrArg (M 54) e2.symm))
                    | exact q_val (hq.2.1 (by grind [cdv]) t ht rfl) (by unfold mky; first | exact (if_pos g93).symm | (rw [if_neg (by exact Int32.not_lt.mpr g93)]; exact congrArg (M 54) e2.symm))
                    | exact q_val (hq.2.2.1 (by grind [cdv]) t ht rfl) (by unfold mky; first | exact (if_pos g93).symm | (rw [if_neg (by exact Int32.not_lt.mpr g93)]; exact congrArg (M 54) e2.symm))
                    | exact q_val (hq.1 (by grind [cdv])) (by unfold mky; rw [if_pos (by grind [cdv])])
                    | exact q_val (hq.2.1 (by grind [cdv]) t ht rfl) (by unfold mky; rw [if_pos (by grind [cdv])])
                    | exact q_val (hq.2.2.1 (by grind [cdv]) t ht rfl) (by unfold mky; rw [if_pos (by grind [cdv])])
            · exact absurd g53 (by decide)
    · refine aw_aload_n d_M_current_9 rfl ?_
      refine aw_iload_n d_M_current_10 rfl ?_
      refine aw_cV1 (d' := (0, 0)) d_M_current_11 lk_M_97 cd_M_isType (Nat.le_of_ble_eq_true rfl) rfl rfl ⟨Nat.le_of_ble_eq_true rfl, Nat.le_of_ble_eq_true rfl⟩ (fun _ h => nomatch h) ?_
      refine t_M_isType ?_
      refine ow_next_i ?_
      refine aw_if_ne (tgt := 30) d_M_current_14 rfl (fun g14 => ?_) (fun g14 => ?_)
      · refine aw_iconst (v := 1) d_M_current_30 (by decide) ?_
        refine aw_goto (tgt := 35) d_M_current_31 rfl ?_
        refine aw_istore_n d_M_current_35 (by decide) ?_
        refine aw_aload_n d_M_current_36 rfl ?_
        refine aw_iload_n d_M_current_37 rfl ?_
        refine aw_if_eq (tgt := 45) d_M_current_38 rfl (fun g38 => ?_) (fun g38 => ?_)
        · exact absurd g38 (by decide)
        · refine aw_iconst (v := 0) d_M_current_41 (by decide) ?_
          refine aw_goto (tgt := 46) d_M_current_42 rfl ?_
          refine mm_puti fw_M_84 d_M_current_46 (by decide) rfl rfl rfl rfl ?_
          refine aw_aload_n d_M_current_49 rfl ?_
          refine mm_geti f_M_84 d_M_current_50 (by decide) rfl rfl ?_
          rw [ow_u_self]
          refine aw_if_le (tgt := 58) d_M_current_53 rfl (fun g53 => ?_) (fun g53 => ?_)
          · refine aw_iload_n d_M_current_58 rfl ?_
            refine aw_if_ne (tgt := 69) d_M_current_59 rfl (fun g59 => ?_) (fun g59 => ?_)
            · refine aw_iload_n d_M_current_69 rfl ?_
              refine aw_iconst (v := 1) d_M_current_70 (by decide) ?_
              refine aw_icmp_ne (tgt := 83) d_M_current_71 rfl (fun g71 => ?_) (fun g71 => ?_)
              · refine aw_aload_n d_M_current_83 rfl ?_
                refine mm_getr (t := 61) f_M_53 d_M_current_84 (by decide) rfl rfl rfl ?_
                refine aw_iload_n d_M_current_87 rfl ?_
                obtain ⟨t, ht, rfl⟩ := nI_ix (x := n) (n := sc) (by grind [cdv]) (by rw [← hC.sc]; grind [cdv]) (by have := hC.s5; omega)
                have ht5 : t < 5 := by have := hC.s5; omega
                refine mm_iald rfl d_M_current_88 (by decide) rfl (by omega) (by decide) ?_
                have hpl : plc (ow_u M 48 0 0 61 t) := hC.ofS ht5
                refine aw_istore d_M_current_89 (by decide) ?_
                refine aw_iload d_M_current_91 rfl ?_
                refine aw_if_ge (tgt := 100) d_M_current_93 rfl (fun g93 => ?_) (fun g93 => ?_)
                · obtain ⟨p, hp, ep⟩ := plc_ge hpl (by grind [cdv])
                  have e2 := congrArg Int32.toNatClampNeg ep
                  rw [nI_clamp (by omega)] at e2
                  refine aw_aload_n d_M_current_100 rfl ?_
                  refine mm_getr (t := 54) f_M_29 d_M_current_101 (by decide) rfl rfl rfl ?_
                  refine aw_iload d_M_current_104 rfl ?_
                  refine mm_iald ep d_M_current_106 (by decide) rfl (by omega) (by decide) ?_
                  refine aw_iret d_M_current_107 rfl rfl ?_
                  first
                    | exact q_val (hq.1 (by grind [cdv])) (by unfold mky; first | exact (if_pos g93).symm | (rw [if_neg (by exact Int32.not_lt.mpr g93)]; exact congrArg (M 54) e2.symm))
                    | exact q_val (hq.2.1 (by grind [cdv]) t ht rfl) (by unfold mky; first | exact (if_pos g93).symm | (rw [if_neg (by exact Int32.not_lt.mpr g93)]; exact congrArg (M 54) e2.symm))
                    | exact q_val (hq.2.2.1 (by grind [cdv]) t ht rfl) (by unfold mky; first | exact (if_pos g93).symm | (rw [if_neg (by exact Int32.not_lt.mpr g93)]; exact congrArg (M 54) e2.symm))
                    | exact q_val (hq.1 (by grind [cdv])) (by unfold mky; rw [if_pos (by grind [cdv])])
                    | exact q_val (hq.2.1 (by grind [cdv]) t ht rfl) (by unfold mky; rw [if_pos (by grind [cdv])])
                    | exact q_val (hq.2.2.1 (by grind [cdv]) t ht rfl) (by unfold mky; rw [if_pos (by grind [cdv])])
                · refine aw_iconst (v := 0) d_M_current_96 (by decide) ?_
                  refine aw_goto (tgt := 107) d_M_current_97 rfl ?_
                  refine aw_iret d_M_current_107 rfl rfl ?_
                  first
                    | exact q_val (hq.1 (by grind [cdv])) (by unfold mky; first | exact (if_pos g93).symm | (rw [if_neg (by exact Int32.not_lt.mpr g93)]; exact congrArg (M 54) e2.symm))
                    | exact q_val (hq.2.1 (by grind [cdv]) t ht rfl) (by unfold mky; first | exact (if_pos g93).symm | (rw [if_neg (by exact Int32.not_lt.mpr g93)]; exact congrArg (M 54) e2.symm))
                    | exact q_val (hq.2.2.1 (by grind [cdv]) t ht rfl) (by unfold mky; first | exact (if_pos g93).symm | (rw [if_neg (by exact Int32.not_lt.mpr g93)]; exact congrArg (M 54) e2.symm))
                    | exact q_val (hq.1 (by grind [cdv])) (by unfold mky; rw [if_pos (by grind [cdv])])
                    | exact q_val (hq.2.1 (by grind [cdv]) t ht rfl) (by unfold mky; rw [if_pos (by grind [cdv])])
                    | exact q_val (hq.2.2.1 (by grind [cdv]) t ht rfl) (by unfold mky; rw [if_pos (by grind [cdv])])
              · refine aw_aload_n d_M_current_74 rfl ?_
                refine mm_getr (t := 60) f_M_50 d_M_current_75 (by decide) rfl rfl rfl ?_
                refine aw_iload_n d_M_current_78 rfl ?_
                obtain ⟨t, ht, rfl⟩ := nI_ix (x := n) (n := tc) (by grind [cdv]) (by rw [← hC.tc]; grind [cdv]) (by have := hC.t4; omega)
                have ht4 : t < 4 := by have := hC.t4; omega
                refine mm_iald rfl d_M_current_79 (by decide) rfl (by omega) (by decide) ?_
                have hpl : plc (ow_u M 48 0 0 60 t) := hC.ofT ht4
                refine aw_goto (tgt := 89) d_M_current_80 rfl ?_
                refine aw_istore d_M_current_89 (by decide) ?_
                refine aw_iload d_M_current_91 rfl ?_
                refine aw_if_ge (tgt := 100) d_M_current_93 rfl (fun g93 => ?_) (fun g93 => ?_)
                · obtain ⟨p, hp, ep⟩ := plc_ge hpl (by grind [cdv])
                  have e2 := congrArg Int32.toNatClampNeg ep
                  rw [nI_clamp (by omega)] at e2
                  refine aw_aload_n d_M_current_100 rfl ?_
                  refine mm_getr (t := 54) f_M_29 d_M_current_101 (by decide) rfl rfl rfl ?_
                  refine aw_iload d_M_current_104 rfl ?_
                  refine mm_iald ep d_M_current_106 (by decide) rfl (by omega) (by decide) ?_
                  refine aw_iret d_M_current_107 rfl rfl ?_
                  first
                    | exact q_val (hq.1 (by grind [cdv])) (by unfold mky; first | exact (if_pos g93).symm | (rw [if_neg (by exact Int32.not_lt.mpr g93)]; exact congrArg (M 54) e2.symm))
                    | exact q_val (hq.2.1 (by grind [cdv]) t ht rfl) (by unfold mky; first | exact (if_pos g93).symm | (rw [if_neg (by exact Int32.not_lt.mpr g93)]; exact congrArg (M 54) e2.symm))
                    | exact q_val (hq.2.2.1 (by grind [cdv]) t ht rfl) (by unfold mky; first | exact (if_pos g93).symm | (rw [if_neg (by exact Int32.not_lt.mpr g93)]; exact congrArg (M 54) e2.symm))
                    | exact q_val (hq.1 (by grind [cdv])) (by unfold mky; rw [if_pos (by grind [cdv])])
                    | exact q_val (hq.2.1 (by grind [cdv]) t ht rfl) (by unfold mky; rw [if_pos (by grind [cdv])])
                    | exact q_val (hq.2.2.1 (by grind [cdv]) t ht rfl) (by unfold mky; rw [if_pos (by grind [cdv])])
                · refine aw_iconst (v := 0) d_M_current_96 (by decide) ?_
                  refine aw_goto (tgt := 107) d_M_current_97 rfl ?_
                  refine aw_iret d_M_current_107 rfl rfl ?_
                  first
                    | exact q_val (hq.1 (by grind [cdv])) (by unfold mky; first | exact (if_pos g93).symm | (rw [if_neg (by exact Int32.not_lt.mpr g93)]; exact congrArg (M 54) e2.symm))
                    | exact q_val (hq.2.1 (by grind [cdv]) t ht rfl) (by unfold mky; first | exact (if_pos g93).symm | (rw [if_neg (by exact Int32.not_lt.mpr g93)]; exact congrArg (M 54) e2.symm))
                    | exact q_val (hq.2.2.1 (by grind [cdv]) t ht rfl) (by unfold mky; first | exact (if_pos g93).symm | (rw [if_neg (by exact Int32.not_lt.mpr g93)]; exact congrArg (M 54) e2.symm))
                    | exact q_val (hq.1 (by grind [cdv])) (by unfold mky; rw [if_pos (by grind [cdv])])
                    | exact q_val (hq.2.1 (by grind [cdv]) t ht rfl) (by unfold mky; rw [if_pos (by grind [cdv])])
                    | exact q_val (hq.2.2.1 (by grind [cdv]) t ht rfl) (by unfold mky; rw [if_pos (by grind [cdv])])
            · have hpl : plc (ow_u M 48 0 0 48 16) := hC.run
              refine aw_aload_n d_M_current_62 rfl ?_
              refine mm_geti f_M_47 d_M_current_63 (by decide) rfl rfl ?_
              refine aw_goto (tgt := 89) d_M_current_66 rfl ?_
              refine aw_istore d_M_current_89 (by decide) ?_
              refine aw_iload d_M_current_91 rfl ?_
              refine aw_if_ge (tgt := 100) d_M_current_93 rfl (fun g93 => ?_) (fun g93 => ?_)
              · obtain ⟨p, hp, ep⟩ := plc_ge hpl (by grind [cdv])
                have e2 := congrArg Int32.toNatClampNeg ep
                rw [nI_clamp (by omega)] at e2
                refine aw_aload_n d_M_current_100 rfl ?_
                refine mm_getr (t := 54) f_M_29 d_M_current_101 (by decide) rfl rfl rfl ?_
                refine aw_iload d_M_current_104 rfl ?_
                refine mm_iald ep d_M_current_106 (by decide) rfl (by omega) (by decide) ?_
                refine aw_iret d_M_current_107 rfl rfl ?_
                first
                  | exact q_val (hq.1 (by grind [cdv])) (by unfold mky; first | exact (if_pos g93).symm | (rw [if_neg (by exact Int32.not_lt.mpr g93)]; exact congrArg (M 54) e2.symm))
                  | exact q_val (hq.2.1 (by grind [cdv]) t ht rfl) (by unfold mky; first | exact (if_pos g93).symm | (rw [if_neg (by exact Int32.not_lt.mpr g93)]; exact congrArg (M 54) e2.symm))
                  | exact q_val (hq.2.2.1 (by grind [cdv]) t ht rfl) (by unfold mky; first | exact (if_pos g93).symm | (rw [if_neg (by exact Int32.not_lt.mpr g93)]; exact congrArg (M 54) e2.symm))
                  | exact q_val (hq.1 (by grind [cdv])) (by unfold mky; rw [if_pos (by grind [cdv])])
                  | exact q_val (hq.2.1 (by grind [cdv]) t ht rfl) (by unfold mky; rw [if_pos (by grind [cdv])])
                  | exact q_val (hq.2.2.1 (by grind [cdv]) t ht rfl) (by unfold mky; rw [if_pos (by grind [cdv])])
              · refine aw_iconst (v := 0) d_M_current_96 (by decide) ?_
                refine aw_goto (tgt := 107) d_M_current_97 rfl ?_
                refine aw_iret d_M_current_107 rfl rfl ?_
                first
                  | exact q_val (hq.1 (by grind [cdv])) (by unfold mky; first | exact (if_pos g93).symm | (rw [if_neg (by exact Int32.not_lt.mpr g93)]; exact congrArg (M 54) e2.symm))
                  | exact q_val (hq.2.1 (by grind [cdv]) t ht rfl) (by unfold mky; first | exact (if_pos g93).symm | (rw [if_neg (by exact Int32.not_lt.mpr g93)]; exact congrArg (M 54) e2.symm))
                  | exact q_val (hq.2.2.1 (by grind [cdv]) t ht rfl) (by unfold mky; first | exact (if_pos g93).symm | (rw [if_neg (by exact Int32.not_lt.mpr g93)]; exact congrArg (M 54) e2.symm))
                  | exact q_val (hq.1 (by grind [cdv])) (by unfold mky; rw [if_pos (by grind [cdv])])
                  | exact q_val (hq.2.1 (by grind [cdv]) t ht rfl) (by unfold mky; rw [if_pos (by grind [cdv])])
                  | exact q_val (hq.2.2.1 (by grind [cdv]) t ht rfl) (by unfold mky; rw [if_pos (by grind [cdv])])
          · exact absurd g53 (by decide)
      · refine aw_iload_n d_M_current_17 rfl ?_
        refine aw_iconst (v := 2) d_M_current_18 (by decide) ?_
        refine aw_icmp_ne (tgt := 34) d_M_current_19 rfl (fun g19 => ?_) (fun g19 => ?_)
        · refine aw_iconst (v := 0) d_M_current_34 (by decide) ?_
          refine aw_istore_n d_M_current_35 (by decide) ?_
          refine aw_aload_n d_M_current_36 rfl ?_
          refine aw_iload_n d_M_current_37 rfl ?_
          refine aw_if_eq (tgt := 45) d_M_current_38 rfl (fun g38 => ?_) (fun g38 => ?_)
          · refine aw_iconst (v := 1) d_M_current_45 (by decide) ?_
            refine mm_puti fw_M_84 d_M_current_46 (by decide) rfl rfl rfl rfl ?_
            refine aw_aload_n d_M_current_49 rfl ?_
            refine mm_geti f_M_84 d_M_current_50 (by decide) rfl rfl ?_
            rw [ow_u_self]
            refine aw_if_le (tgt := 58) d_M_current_53 rfl (fun g53 => ?_) (fun g53 => ?_)
            · exact absurd g53 (by decide)
            · refine aw_iconst (v := 0) d_M_current_56 (by decide) ?_
              refine aw_iret d_M_current_57 rfl rfl ?_
              exact hq.2.2.2 (by unfold HTm HSm; grind [cdv])
          · exact absurd g38 (by decide)
        · refine aw_aload_n d_M_current_22 rfl ?_
          refine aw_iload_n d_M_current_23 rfl ?_
          refine aw_cV1 (d' := (0, 0)) d_M_current_24 lk_M_148 cd_M_isSet (Nat.le_of_ble_eq_true rfl) rfl rfl ⟨Nat.le_of_ble_eq_true rfl, Nat.le_of_ble_eq_true rfl⟩ (fun _ h => nomatch h) ?_
          refine t_M_isSet ?_
          refine ow_next_i ?_
          refine aw_if_eq (tgt := 34) d_M_current_27 rfl (fun g27 => ?_) (fun g27 => ?_)
          · refine aw_iconst (v := 0) d_M_current_34 (by decide) ?_
            refine aw_istore_n d_M_current_35 (by decide) ?_
            refine aw_aload_n d_M_current_36 rfl ?_
            refine aw_iload_n d_M_current_37 rfl ?_
            refine aw_if_eq (tgt := 45) d_M_current_38 rfl (fun g38 => ?_) (fun g38 => ?_)
            · refine aw_iconst (v := 1) d_M_current_45 (by decide) ?_
              refine mm_puti fw_M_84 d_M_current_46 (by decide) rfl rfl rfl rfl ?_
              refine aw_aload_n d_M_current_49 rfl ?_
              refine mm_geti f_M_84 d_M_current_50 (by decide) rfl rfl ?_
              rw [ow_u_self]
              refine aw_if_le (tgt := 58) d_M_current_53 rfl (fun g53 => ?_) (fun g53 => ?_)
              · exact absurd g53 (by decide)
              · refine aw_iconst (v := 0) d_M_current_56 (by decide) ?_
                refine aw_iret d_M_current_57 rfl rfl ?_
                exact hq.2.2.2 (by unfold HTm HSm; grind [cdv])
            · exact absurd g38 (by decide)
          · refine aw_iconst (v := 1) d_M_current_30 (by decide) ?_
            refine aw_goto (tgt := 35) d_M_current_31 rfl ?_
            refine aw_istore_n d_M_current_35 (by decide) ?_
            refine aw_aload_n d_M_current_36 rfl ?_
            refine aw_iload_n d_M_current_37 rfl ?_
            refine aw_if_eq (tgt := 45) d_M_current_38 rfl (fun g38 => ?_) (fun g38 => ?_)
            · exact absurd g38 (by decide)
            · refine aw_iconst (v := 0) d_M_current_41 (by decide) ?_
              refine aw_goto (tgt := 46) d_M_current_42 rfl ?_
              refine mm_puti fw_M_84 d_M_current_46 (by decide) rfl rfl rfl rfl ?_
              refine aw_aload_n d_M_current_49 rfl ?_
              refine mm_geti f_M_84 d_M_current_50 (by decide) rfl rfl ?_
              rw [ow_u_self]
              refine aw_if_le (tgt := 58) d_M_current_53 rfl (fun g53 => ?_) (fun g53 => ?_)
              · refine aw_iload_n d_M_current_58 rfl ?_
                refine aw_if_ne (tgt := 69) d_M_current_59 rfl (fun g59 => ?_) (fun g59 => ?_)
                · refine aw_iload_n d_M_current_69 rfl ?_
                  refine aw_iconst (v := 1) d_M_current_70 (by decide) ?_
                  refine aw_icmp_ne (tgt := 83) d_M_current_71 rfl (fun g71 => ?_) (fun g71 => ?_)
                  · refine aw_aload_n d_M_current_83 rfl ?_
                    refine mm_getr (t := 61) f_M_53 d_M_current_84 (by decide) rfl rfl rfl ?_
                    refine aw_iload_n d_M_current_87 rfl ?_
                    obtain ⟨t, ht, rfl⟩ := nI_ix (x := n) (n := sc) (by grind [cdv]) (by rw [← hC.sc]; grind [cdv]) (by have := hC.s5; omega)
                    have ht5 : t < 5 := by have := hC.s5; omega
                    refine mm_iald rfl d_M_current_88 (by decide) rfl (by omega) (by decide) ?_
                    have hpl : plc (ow_u M 48 0 0 61 t) := hC.ofS ht5
                    refine aw_istore d_M_current_89 (by decide) ?_
                    refine aw_iload d_M_current_91 rfl ?_
                    refine aw_if_ge (tgt := 100) d_M_current_93 rfl (fun g93 => ?_) (fun g93 => ?_)
                    · obtain ⟨p, hp, ep⟩ := plc_ge hpl (by grind [cdv])
                      have e2 := congrArg Int32.toNatClampNeg ep
                      rw [nI_clamp (by omega)] at e2
                      refine aw_aload_n d_M_current_100 rfl ?_
                      refine mm_getr (t := 54) f_M_29 d_M_current_101 (by decide) rfl rfl rfl ?_
                      refine aw_iload d_M_current_104 rfl ?_
                      refine mm_iald ep d_M_current_106 (by decide) rfl (by omega) (by decide) ?_
                      refine aw_iret d_M_current_107 rfl rfl ?_
                      first
                        | exact q_val (hq.1 (by grind [cdv])) (by unfold mky; first | exact (if_pos g93).symm | (rw [if_neg (by exact Int32.not_lt.mpr g93)]; exact congrArg (M 54) e2.symm))
                        | exact q_val (hq.2.1 (by grind [cdv]) t ht rfl) (by unfold mky; first | exact (if_pos g93).symm | (rw [if_neg (by exact Int32.not_lt.mpr g93)]; exact congrArg (M 54) e2.symm))
                        | exact q_val (hq.2.2.1 (by grind [cdv]) t ht rfl) (by unfold mky; first | exact (if_pos g93).symm | (rw [if_neg (by exact Int32.not_lt.mpr g93)]; exact congrArg (M 54) e2.symm))
                        | exact q_val (hq.1 (by grind [cdv])) (by unfold mky; rw [if_pos (by grind [cdv])])
                        | exact q_val (hq.2.1 (by grind [cdv]) t ht rfl) (by unfold mky; rw [if_pos (by grind [cdv])])
                        | exact q_val (hq.2.2.1 (by grind [cdv]) t ht rfl) (by unfold mky; rw [if_pos (by grind [cdv])])
                    · refine aw_iconst (v := 0) d_M_current_96 (by decide) ?_
                      refine aw_goto (tgt := 107) d_M_current_97 rfl ?_
                      refine aw_iret d_M_current_107 rfl rfl ?_
                      first
                        | exact q_val (hq.1 (by grind [cdv])) (by unfold mky; first | exact (if_pos g93).symm | (rw [if_neg (by exact Int32.not_lt.mpr g93)]; exact congrArg (M 54) e2.symm))
                        | exact q_val (hq.2.1 (by grind [cdv]) t ht rfl) (by unfold mky; first | exact (if_pos g93).symm | (rw [if_neg (by exact Int32.not_lt.mpr g93)]; exact congrArg (M 54) e2.symm))
                        | exact q_val (hq.2.2.1 (by grind [cdv]) t ht rfl) (by unfold mky; first | exact (if_pos g93).symm | (rw [if_neg (by exact Int32.not_lt.mpr g93)]; exact congrArg (M 54) e2.symm))
                        | exact q_val (hq.1 (by grind [cdv])) (by unfold mky; rw [if_pos (by grind [cdv])])
                        | exact q_val (hq.2.1 (by grind [cdv]) t ht rfl) (by unfold mky; rw [if_pos (by grind [cdv])])
                        | exact q_val (hq.2.2.1 (by grind [cdv]) t ht rfl) (by unfold mky; rw [if_pos (by grind [cdv])])
                  · refine aw_aload_n d_M_current_74 rfl ?_
                    refine mm_getr (t := 60) f_M_50 d_M_current_75 (by decide) rfl rfl rfl ?_
                    refine aw_iload_n d_M_current_78 rfl ?_
                    obtain ⟨t, ht, rfl⟩ := nI_ix (x := n) (n := tc) (by grind [cdv]) (by rw [← hC.tc]; grind [cdv]) (by have := hC.t4; omega)
                    have ht4 : t < 4 := by have := hC.t4; omega
                    refine mm_iald rfl d_M_current_79 (by decide) rfl (by omega) (by decide) ?_
                    have hpl : plc (ow_u M 48 0 0 60 t) := hC.ofT ht4
                    refine aw_goto (tgt := 89) d_M_current_80 rfl ?_
                    refine aw_istore d_M_current_89 (by decide) ?_
                    refine aw_iload d_M_current_91 rfl ?_
                    refine aw_if_ge (tgt := 100) d_M_current_93 rfl (fun g93 => ?_) (fun g93 => ?_)
                    · obtain ⟨p, hp, ep⟩ := plc_ge hpl (by grind [cdv])
                      have e2 := congrArg Int32.toNatClampNeg ep
                      rw [nI_clamp (by omega)] at e2
                      refine aw_aload_n d_M_current_100 rfl ?_
                      refine mm_getr (t := 54) f_M_29 d_M_current_101 (by decide) rfl rfl rfl ?_
                      refine aw_iload d_M_current_104 rfl ?_
                      refine mm_iald ep d_M_current_106 (by decide) rfl (by omega) (by decide) ?_
                      refine aw_iret d_M_current_107 rfl rfl ?_
                      first
                        | exact q_val (hq.1 (by grind [cdv])) (by unfold mky; first | exact (if_pos g93).symm | (rw [if_neg (by exact Int32.not_lt.mpr g93)]; exact congrArg (M 54) e2.symm))
                        | exact q_val (hq.2.1 (by grind [cdv]) t ht rfl) (by unfold mky; first | exact (if_pos g93).symm | (rw [if_neg (by exact Int32.not_lt.mpr g93)]; exact congrArg (M 54) e2.symm))
                        | exact q_val (hq.2.2.1 (by grind [cdv]) t ht rfl) (by unfold mky; first | exact (if_pos g93).symm | (rw [if_neg (by exact Int32.not_lt.mpr g93)]; exact congrArg (M 54) e2.symm))
                        | exact q_val (hq.1 (by grind [cdv])) (by unfold mky; rw [if_pos (by grind [cdv])])
                        | exact q_val (hq.2.1 (by grind [cdv]) t ht rfl) (by unfold mky; rw [if_pos (by grind [cdv])])
                        | exact q_val (hq.2.2.1 (by grind [cdv]) t ht rfl) (by unfold mky; rw [if_pos (by grind [cdv])])
                    · refine aw_iconst (v := 0) d_M_current_96 (by decide) ?_
                      refine aw_goto (tgt := 107) d_M_current_97 rfl ?_
                      refine aw_iret d_M_current_107 rfl rfl ?_
                      first
                        | exact q_val (hq.1 (by grind [cdv])) (by unfold mky; first | exact (if_pos g93).symm | (rw [if_neg (by exact Int32.not_lt.mpr g93)]; exact congrArg (M 54) e2.symm))
                        | exact q_val (hq.2.1 (by grind [cdv]) t ht rfl) (by unfold mky; first | exact (if_pos g93).symm | (rw [if_neg (by exact Int32.not_lt.mpr g93)]; exact congrArg (M 54) e2.symm))
                        | exact q_val (hq.2.2.1 (by grind [cdv]) t ht rfl) (by unfold mky; first | exact (if_pos g93).symm | (rw [if_neg (by exact Int32.not_lt.mpr g93)]; exact congrArg (M 54) e2.symm))
                        | exact q_val (hq.1 (by grind [cdv])) (by unfold mky; rw [if_pos (by grind [cdv])])
                        | exact q_val (hq.2.1 (by grind [cdv]) t ht rfl) (by unfold mky; rw [if_pos (by grind [cdv])])
                        | exact q_val (hq.2.2.1 (by grind [cdv]) t ht rfl) (by unfold mky; rw [if_pos (by grind [cdv])])
                · have hpl : plc (ow_u M 48 0 0 48 16) := hC.run
                  refine aw_aload_n d_M_current_62 rfl ?_
                  refine mm_geti f_M_47 d_M_current_63 (by decide) rfl rfl ?_
                  refine aw_goto (tgt := 89) d_M_current_66 rfl ?_
                  refine aw_istore d_M_current_89 (by decide) ?_
                  refine aw_iload d_M_current_91 rfl ?_
                  refine aw_if_ge (tgt := 100) d_M_current_93 rfl (fun g93 => ?_) (fun g93 => ?_)
                  · obtain ⟨p, hp, ep⟩ := plc_ge hpl (by grind [cdv])
                    have e2 := congrArg Int32.toNatClampNeg ep
                    rw [nI_clamp (by omega)] at e2
                    refine aw_aload_n d_M_current_100 rfl ?_
                    refine mm_getr (t := 54) f_M_29 d_M_current_101 (by decide) rfl rfl rfl ?_
                    refine aw_iload d_M_current_104 rfl ?_
                    refine mm_iald ep d_M_current_106 (by decide) rfl (by omega) (by decide) ?_
                    refine aw_iret d_M_current_107 rfl rfl ?_
                    first
                      | exact q_val (hq.1 (by grind [cdv])) (by unfold mky; first | exact (if_pos g93).symm | (rw [if_neg (by exact Int32.not_lt.mpr g93)]; exact congrArg (M 54) e2.symm))
                      | exact q_val (hq.2.1 (by grind [cdv]) t ht rfl) (by unfold mky; first | exact (if_pos g93).symm | (rw [if_neg (by exact Int32.not_lt.mpr g93)]; exact congrArg (M 54) e2.symm))
                      | exact q_val (hq.2.2.1 (by grind [cdv]) t ht rfl) (by unfold mky; first | exact (if_pos g93).symm | (rw [if_neg (by exact Int32.not_lt.mpr g93)]; exact congrArg (M 54) e2.symm))
                      | exact q_val (hq.1 (by grind [cdv])) (by unfold mky; rw [if_pos (by grind [cdv])])
                      | exact q_val (hq.2.1 (by grind [cdv]) t ht rfl) (by unfold mky; rw [if_pos (by grind [cdv])])
                      | exact q_val (hq.2.2.1 (by grind [cdv]) t ht rfl) (by unfold mky; rw [if_pos (by grind [cdv])])
                  · refine aw_iconst (v := 0) d_M_current_96 (by decide) ?_
                    refine aw_goto (tgt := 107) d_M_current_97 rfl ?_
                    refine aw_iret d_M_current_107 rfl rfl ?_
                    first
                      | exact q_val (hq.1 (by grind [cdv])) (by unfold mky; first | exact (if_pos g93).symm | (rw [if_neg (by exact Int32.not_lt.mpr g93)]; exact congrArg (M 54) e2.symm))
                      | exact q_val (hq.2.1 (by grind [cdv]) t ht rfl) (by unfold mky; first | exact (if_pos g93).symm | (rw [if_neg (by exact Int32.not_lt.mpr g93)]; exact congrArg (M 54) e2.symm))
                      | exact q_val (hq.2.2.1 (by grind [cdv]) t ht rfl) (by unfold mky; first | exact (if_pos g93).symm | (rw [if_neg (by exact Int32.not_lt.mpr g93)]; exact congrArg (M 54) e2.symm))
                      | exact q_val (hq.1 (by grind [cdv])) (by unfold mky; rw [if_pos (by grind [cdv])])
                      | exact q_val (hq.2.1 (by grind [cdv]) t ht rfl) (by unfold mky; rw [if_pos (by grind [cdv])])
                      | exact q_val (hq.2.2.1 (by grind [cdv]) t ht rfl) (by unfold mky; rw [if_pos (by grind [cdv])])
              · exact absurd g53 (by decide)
theorem t_M_get (hC : MI M tc sc) (hF : FCm M) {f : Int32} (hq : D_get M f (fun r M' => Q (.inl (some r)) (mm M' K b))) : MT l Y_M_get (0, 0) [.ref 48, .int f] (mm M K b) Q := by
  refine mt_of (k := 0) (by decide) cd_M_get.1 (by simp [Value.category]) rfl ?_
  refine aw_aload_n d_M_get_0 rfl ?_
  refine aw_aload_n d_M_get_1 rfl ?_
  refine mm_geti f_M_47 d_M_get_2 (by decide) rfl rfl ?_
  refine aw_if_ge (tgt := 12) d_M_get_5 rfl (fun g5 => ?_) (fun g5 => ?_)
  · obtain ⟨p, hp, ep⟩ := plc_ge (x := M 48 16) hC.run (by grind [cdv])
    obtain ⟨tt, htt, et⟩ := hC.ty hp
    have ec : (M 55 p).toNatClampNeg = tt := by rw [et, nI_clamp (by omega)]
    refine aw_iload_n d_M_get_12 rfl ?_
    refine aw_if_lt (tgt := 34) d_M_get_13 rfl (fun g13 => ?_) (fun g13 => ?_)
    · refine aw_iconst (v := 2) d_M_get_34 (by decide) ?_
      refine aw_goto (tgt := 39) d_M_get_35 rfl ?_
      refine mm_puti fw_M_84 d_M_get_39 (by decide) rfl rfl rfl rfl ?_
      refine aw_aload_n d_M_get_42 rfl ?_
      refine mm_geti f_M_84 d_M_get_43 (by decide) rfl rfl ?_
      rw [ow_u_self]
      refine aw_if_le (tgt := 53) d_M_get_46 rfl (fun g46 => ?_) (fun g46 => ?_)
      · exact absurd g46 (by decide)
      · refine aw_iconst (v := 0) d_M_get_49 (by decide) ?_
        refine aw_goto (tgt := 66) d_M_get_50 rfl ?_
        refine aw_iret d_M_get_66 rfl rfl ?_
        first
          | exact hq.1 hr1
          | exact (hq.2 p hp ep).1 (by rw [ec]; unfold HFm; grind [cdv])
          | exact (hq.2 p hp ep).2 n hn en (by rw [ec]; exact hf)
    · refine aw_iload_n d_M_get_16 rfl ?_
      refine aw_aload_n d_M_get_17 rfl ?_
      refine mm_getr (t := 49) f_M_7 d_M_get_18 (by decide) rfl rfl rfl ?_
      refine aw_aload_n d_M_get_21 rfl ?_
      refine mm_getr (t := 55) f_M_32 d_M_get_22 (by decide) rfl rfl rfl ?_
      refine aw_aload_n d_M_get_25 rfl ?_
      refine mm_geti f_M_47 d_M_get_26 (by decide) rfl rfl ?_
      refine mm_iald ep d_M_get_29 (by decide) rfl (by omega) (by decide) ?_
      refine mm_iald et d_M_get_30 (by decide) rfl (by omega) (by decide) ?_
      refine aw_icmp_lt (tgt := 38) d_M_get_31 rfl (fun g31 => ?_) (fun g31 => ?_)
      · have hf : HFm M tt f := by unfold HFm; grind [cdv]
        obtain ⟨n, hn, en⟩ := hf.ix hF htt
        refine aw_iconst (v := 0) d_M_get_38 (by decide) ?_
        refine mm_puti fw_M_84 d_M_get_39 (by decide) rfl rfl rfl rfl ?_
        refine aw_aload_n d_M_get_42 rfl ?_
        refine mm_geti f_M_84 d_M_get_43 (by decide) rfl rfl ?_
        rw [ow_u_self]
        refine aw_if_le (tgt := 53) d_M_get_46 rfl (fun g46 => ?_) (fun g46 => ?_)
        · refine aw_aload_n d_M_get_53 rfl ?_
          refine mm_getr (t := 56) f_M_35 d_M_get_54 (by decide) rfl rfl rfl ?_
          refine aw_iconst (v := 3) d_M_get_57 (by decide) ?_
          refine aw_aload_n d_M_get_58 rfl ?_
          refine mm_geti f_M_47 d_M_get_59 (by decide) rfl rfl ?_
          refine aw_imul d_M_get_62 ?_
          refine aw_iload_n d_M_get_63 rfl ?_
          refine aw_iadd d_M_get_64 ?_
          refine mm_iald (by rw [show ow_u M 48 0 0 48 16 = nI p from ep, en]; exact ix3 p n) d_M_get_65 (by decide) rfl (by omega) (by decide) ?_
          refine aw_iret d_M_get_66 rfl rfl ?_
          first
            | exact hq.1 hr1
            | exact (hq.2 p hp ep).1 (by rw [ec]; unfold HFm; grind [cdv])
            | exact (hq.2 p hp ep).2 n hn en (by rw [ec]; exact hf)
        · exact absurd g46 (by decide)
      · refine aw_iconst (v := 2) d_M_get_34 (by decide) ?_
        refine aw_goto (tgt := 39) d_M_get_35 rfl ?_
        refine mm_puti fw_M_84 d_M_get_39 (by decide) rfl rfl rfl rfl ?_
        refine aw_aload_n d_M_get_42 rfl ?_
        refine mm_geti f_M_84 d_M_get_43 (by decide) rfl rfl ?_
        rw [ow_u_self]
        refine aw_if_le (tgt := 53) d_M_get_46 rfl (fun g46 => ?_) (fun g46 => ?_)
        · exact absurd g46 (by decide)
        · refine aw_iconst (v := 0) d_M_get_49 (by decide) ?_
          refine aw_goto (tgt := 66) d_M_get_50 rfl ?_
          refine aw_iret d_M_get_66 rfl rfl ?_
          first
            | exact hq.1 hr1
            | exact (hq.2 p hp ep).1 (by rw [ec]; unfold HFm; grind [cdv])
            | exact (hq.2 p hp ep).2 n hn en (by rw [ec]; exact hf)
  · have hr1 : M 48 16 = -1 := by
      rcases hC.run with h | ⟨p, hp, h⟩
      · exact h
      · rw [h] at g5; have := nI_ge0 hp; grind [cdv]
    refine aw_iconst (v := 1) d_M_get_8 (by decide) ?_
    refine aw_goto (tgt := 39) d_M_get_9 rfl ?_
    refine mm_puti fw_M_84 d_M_get_39 (by decide) rfl rfl rfl rfl ?_
    refine aw_aload_n d_M_get_42 rfl ?_
    refine mm_geti f_M_84 d_M_get_43 (by decide) rfl rfl ?_
    rw [ow_u_self]
    refine aw_if_le (tgt := 53) d_M_get_46 rfl (fun g46 => ?_) (fun g46 => ?_)
    · exact absurd g46 (by decide)
    · refine aw_iconst (v := 0) d_M_get_49 (by decide) ?_
      refine aw_goto (tgt := 66) d_M_get_50 rfl ?_
      refine aw_iret d_M_get_66 rfl rfl ?_
      first
        | exact hq.1 hr1
        | exact (hq.2 p hp ep).1 (by rw [ec]; unfold HFm; grind [cdv])
        | exact (hq.2 p hp ep).2 n hn en (by rw [ec]; exact hf)
theorem t_M_connect (hC : MI M tc sc) {x : Int32} (hq : D_connect M sc x (fun M' => Q (.inl none) (mm M' K b))) : MT l Y_M_connect (4, 70) [.ref 48, .int x] (mm M K b) Q := by
  refine mt_of (k := 1) (by decide) cd_M_connect.1 (by simp [Value.category]) rfl ?_
  refine aw_aload_n d_M_connect_0 rfl ?_
  refine aw_aload_n d_M_connect_1 rfl ?_
  refine aw_iload_n d_M_connect_2 rfl ?_
  refine aw_cV1 (d' := (0, 0)) d_M_connect_3 lk_M_148 cd_M_isSet (Nat.le_of_ble_eq_true rfl) rfl rfl ⟨Nat.le_of_ble_eq_true rfl, Nat.le_of_ble_eq_true rfl⟩ (fun _ h => nomatch h) ?_
  refine t_M_isSet ?_
  refine ow_next_i ?_
  refine aw_if_ne (tgt := 13) d_M_connect_6 rfl (fun g6 => ?_) (fun g6 => ?_)
  · obtain ⟨s, hs, rfl⟩ := nI_ix (x := x) (n := sc) (by grind [cdv]) (by rw [← hC.sc]; grind [cdv]) (by have := hC.s5; omega)
    have hs5 : s < 5 := by have := hC.s5; omega
    refine aw_aload_n d_M_connect_13 rfl ?_
    refine mm_geti f_M_47 d_M_connect_14 (by decide) rfl rfl ?_
    refine aw_if_ge (tgt := 24) d_M_connect_17 rfl (fun g17 => ?_) (fun g17 => ?_)
    · obtain ⟨p, hp, ep⟩ := plc_ge (x := M 48 16) hC.run (by grind [cdv])
      obtain ⟨tt, htt, et⟩ := hC.ty hp
      have ec : (M 55 p).toNatClampNeg = tt := by rw [et, nI_clamp (by omega)]
      refine aw_aload_n d_M_connect_24 rfl ?_
      refine aw_iload_n d_M_connect_25 rfl ?_
      refine aw_cV1 (d' := (0, 0)) d_M_connect_26 lk_M_120 cd_M_currentOwner (Nat.le_of_ble_eq_true rfl) rfl rfl ⟨Nat.le_of_ble_eq_true rfl, Nat.le_of_ble_eq_true rfl⟩ (fun _ h => nomatch h) ?_
      refine t_M_currentOwner hC hs5 ?_
      refine ow_next_i ?_
      refine aw_if_ge (tgt := 36) d_M_connect_29 rfl (fun g29 => ?_) (fun g29 => ?_)
      · have hco : ¬ mco M s < 0 := by grind [cdv]
        refine aw_iconst (v := 0) d_M_connect_36 (by decide) ?_
        refine mm_puti fw_M_84 d_M_connect_37 (by decide) rfl rfl rfl rfl ?_
        refine aw_aload_n d_M_connect_40 rfl ?_
        refine mm_geti f_M_84 d_M_connect_41 (by decide) rfl rfl ?_
        rw [ow_u_self]
        refine aw_if_le (tgt := 48) d_M_connect_44 rfl (fun g44 => ?_) (fun g44 => ?_)
        · refine aw_aload_n d_M_connect_48 rfl ?_
          refine aw_iload_n d_M_connect_49 rfl ?_
          refine aw_cV1 (d' := (0, 0)) d_M_connect_50 lk_M_120 cd_M_currentOwner (Nat.le_of_ble_eq_true rfl) rfl rfl ⟨Nat.le_of_ble_eq_true rfl, Nat.le_of_ble_eq_true rfl⟩ (fun _ h => nomatch h) ?_
          refine t_M_currentOwner (hC.cd 0) hs5 ?_
          refine ow_next_i ?_
          refine aw_istore_n d_M_connect_53 (by decide) ?_
          refine aw_aload_n d_M_connect_54 rfl ?_
          refine aw_aload_n d_M_connect_55 rfl ?_
          refine mm_getr (t := 55) f_M_32 d_M_connect_56 (by decide) rfl rfl rfl ?_
          refine aw_aload_n d_M_connect_59 rfl ?_
          refine mm_geti f_M_47 d_M_connect_60 (by decide) rfl rfl ?_
          refine mm_iald (show ow_u M 48 0 0 48 16 = nI p from ep) d_M_connect_63 (by decide) rfl (by omega) (by decide) ?_
          refine aw_aload_n d_M_connect_64 rfl ?_
          refine mm_getr (t := 51) f_M_16 d_M_connect_65 (by decide) rfl rfl rfl ?_
          refine aw_iload_n d_M_connect_68 rfl ?_
          refine mm_iald rfl d_M_connect_69 (by decide) rfl (by omega) (by decide) ?_
          refine aw_icmp_ne (tgt := 112) d_M_connect_70 rfl (fun g70 => ?_) (fun g70 => ?_)
          · refine aw_iconst (v := 3) d_M_connect_112 (by decide) ?_
            refine aw_goto (tgt := 117) d_M_connect_113 rfl ?_
            refine mm_puti fw_M_84 d_M_connect_117 (by decide) rfl rfl rfl rfl ?_
            rw [ow_u_u]
            refine aw_aload_n d_M_connect_120 rfl ?_
            refine mm_geti f_M_84 d_M_connect_121 (by decide) rfl rfl ?_
            rw [ow_u_self]
            refine aw_if_ne (tgt := 146) d_M_connect_124 rfl (fun g124 => ?_) (fun g124 => ?_)
            · refine aw_vret d_M_connect_146 rfl ?_
              first
                | exact hfin.2
                | exact ((hq.2 s hs rfl).2 p hp ep).2.1 hco (by grind [cdv])
            · exact absurd g124 (by decide)
          · refine aw_aload_n d_M_connect_73 rfl ?_
            refine mm_getr (t := 57) f_M_38 d_M_connect_74 (by decide) rfl rfl rfl ?_
            refine aw_bipush (v := 24) d_M_connect_77 (by decide) ?_
            refine aw_iload_n d_M_connect_79 rfl ?_
            refine aw_imul d_M_connect_80 ?_
            refine aw_aload_n d_M_connect_81 rfl ?_
            refine mm_geti f_M_47 d_M_connect_82 (by decide) rfl rfl ?_
            refine aw_iadd d_M_connect_85 ?_
            refine mm_iald (by rw [show ow_u M 48 0 0 48 16 = nI p from ep]; exact ix24 s p) d_M_connect_86 (by decide) rfl (by omega) (by decide) ?_
            refine aw_if_ge (tgt := 112) d_M_connect_87 rfl (fun g87 => ?_) (fun g87 => ?_)
            · refine aw_iconst (v := 3) d_M_connect_112 (by decide) ?_
              refine aw_goto (tgt := 117) d_M_connect_113 rfl ?_
              refine mm_puti fw_M_84 d_M_connect_117 (by decide) rfl rfl rfl rfl ?_
              rw [ow_u_u]
              refine aw_aload_n d_M_connect_120 rfl ?_
              refine mm_geti f_M_84 d_M_connect_121 (by decide) rfl rfl ?_
              rw [ow_u_self]
              refine aw_if_ne (tgt := 146) d_M_connect_124 rfl (fun g124 => ?_) (fun g124 => ?_)
              · refine aw_vret d_M_connect_146 rfl ?_
                first
                  | exact hfin.2
                  | exact ((hq.2 s hs rfl).2 p hp ep).2.1 hco (by grind [cdv])
              · exact absurd g124 (by decide)
            · refine aw_aload_n d_M_connect_90 rfl ?_
              refine aw_iload_n d_M_connect_91 rfl ?_
              refine aw_iload_n d_M_connect_92 rfl ?_
              refine aw_aload_n d_M_connect_93 rfl ?_
              refine mm_geti f_M_47 d_M_connect_94 (by decide) rfl rfl ?_
              refine aw_aload_n d_M_connect_97 rfl ?_
              refine aw_iload_n d_M_connect_98 rfl ?_
              refine aw_aload_n d_M_connect_99 rfl ?_
              refine mm_geti f_M_47 d_M_connect_100 (by decide) rfl rfl ?_
              refine aw_cV2 (d' := (0, 0)) d_M_connect_103 lk_M_160 cd_M_valueIn (Nat.le_of_ble_eq_true rfl) rfl rfl ⟨Nat.le_of_ble_eq_true rfl, Nat.le_of_ble_eq_true rfl⟩ (fun _ h => nomatch h) ?_
              rw [show ow_u M 48 0 0 48 16 = nI p from ep]
              refine t_M_valueIn (hC.cd 0) hs5 hp ?_
              refine ow_next_i ?_
              refine aw_cV4 (d' := (0, 0)) d_M_connect_106 lk_M_124 cd_M_isRefused (Nat.le_of_ble_eq_true rfl) rfl rfl ⟨Nat.le_of_ble_eq_true rfl, Nat.le_of_ble_eq_true rfl⟩ (fun _ h => nomatch h) ?_
              refine t_M_isRefused (hC.cd 0) hs5 ?_
              refine ow_next_i ?_
              refine aw_if_eq (tgt := 116) d_M_connect_109 rfl (fun g109 => ?_) (fun g109 => ?_)
              · have hfin := ((hq.2 s hs rfl).2 p hp ep).2.2 hco (by grind [cdv]) (by grind [cdv]) (by grind [cdv])
                refine aw_iconst (v := 0) d_M_connect_116 (by decide) ?_
                refine mm_puti fw_M_84 d_M_connect_117 (by decide) rfl rfl rfl rfl ?_
                rw [ow_u_u]
                refine aw_aload_n d_M_connect_120 rfl ?_
                refine mm_geti f_M_84 d_M_connect_121 (by decide) rfl rfl ?_
                rw [ow_u_self]
                refine aw_if_ne (tgt := 146) d_M_connect_124 rfl (fun g124 => ?_) (fun g124 => ?_)
                · exact absurd g124 (by decide)
                · refine aw_aload_n d_M_connect_127 rfl ?_
                  refine aw_iload_n d_M_connect_128 rfl ?_
                  refine aw_iload_n d_M_connect_129 rfl ?_
                  refine aw_aload_n d_M_connect_130 rfl ?_
                  refine mm_geti f_M_47 d_M_connect_131 (by decide) rfl rfl ?_
                  refine aw_cV3 (d' := (3, 53)) d_M_connect_134 lk_M_131 cd_M_join (Nat.le_of_ble_eq_true rfl) rfl rfl ⟨Nat.le_of_ble_eq_true rfl, Nat.le_of_ble_eq_true rfl⟩ (fun _ h => nomatch h) ?_
                  rw [show ow_u M 48 0 0 48 16 = nI p from ep]
                  refine t_M_join (hC.cd 0) hs5 hp hfin.1 ?_
                  refine ow_next_v ?_
                  refine aw_aload_n d_M_connect_137 rfl ?_
                  refine aw_aload_n d_M_connect_138 rfl ?_
                  refine mm_geti f_M_47 d_M_connect_139 (by decide) rfl rfl ?_
                  refine aw_iconst (v := 0) d_M_connect_142 (by decide) ?_
                  refine aw_cV2 (d' := (0, 0)) d_M_connect_143 lk_M_135 cd_M_come (Nat.le_of_ble_eq_true rfl) rfl rfl ⟨Nat.le_of_ble_eq_true rfl, Nat.le_of_ble_eq_true rfl⟩ (fun _ h => nomatch h) ?_
                  rw [show mjn (ow_u M 48 0 0) s p (mco (ow_u M 48 0 0) s) 48 16 = nI p from by rw [mjn_ne (by decide) (by decide) (by decide)]; exact ep]
                  refine t_M_come ((hC.cd 0).jn hs5 hp (mco_plc (hC.cd 0) hs5) hfin.1) hp ?_
                  refine ow_next_v ?_
                  refine aw_vret d_M_connect_146 rfl ?_
                  first
                    | exact hfin.2
                    | exact ((hq.2 s hs rfl).2 p hp ep).2.1 hco (by grind [cdv])
              · refine aw_iconst (v := 3) d_M_connect_112 (by decide) ?_
                refine aw_goto (tgt := 117) d_M_connect_113 rfl ?_
                refine mm_puti fw_M_84 d_M_connect_117 (by decide) rfl rfl rfl rfl ?_
                rw [ow_u_u]
                refine aw_aload_n d_M_connect_120 rfl ?_
                refine mm_geti f_M_84 d_M_connect_121 (by decide) rfl rfl ?_
                rw [ow_u_self]
                refine aw_if_ne (tgt := 146) d_M_connect_124 rfl (fun g124 => ?_) (fun g124 => ?_)
                · refine aw_vret d_M_connect_146 rfl ?_
                  first
                    | exact hfin.2
                    | exact ((hq.2 s hs rfl).2 p hp ep).2.1 hco (by grind [cdv])
                · exact absurd g124 (by decide)
        · exact absurd g44 (by decide)
      · refine aw_iconst (v := 2) d_M_connect_32 (by decide) ?_
        refine aw_goto (tgt := 37) d_M_connect_33 rfl ?_
        refine mm_puti fw_M_84 d_M_connect_37 (by decide) rfl rfl rfl rfl ?_
        refine aw_aload_n d_M_connect_40 rfl ?_
        refine mm_geti f_M_84 d_M_connect_41 (by decide) rfl rfl ?_
        rw [ow_u_self]
        refine aw_if_le (tgt := 48) d_M_connect_44 rfl (fun g44 => ?_) (fun g44 => ?_)
        · exact absurd g44 (by decide)
        · refine aw_vret d_M_connect_47 rfl ?_
          first
            | exact hq.1 (by unfold HSm; grind [cdv])
            | exact (hq.2 s hs rfl).1 hr1
            | exact ((hq.2 s hs rfl).2 p hp ep).1 (by grind [cdv])
    · have hr1 : M 48 16 = -1 := by
        rcases hC.run with h | ⟨p, hp, h⟩
        · exact h
        · rw [h] at g17; have := nI_ge0 hp; grind [cdv]
      refine aw_iconst (v := 2) d_M_connect_20 (by decide) ?_
      refine aw_goto (tgt := 37) d_M_connect_21 rfl ?_
      refine mm_puti fw_M_84 d_M_connect_37 (by decide) rfl rfl rfl rfl ?_
      refine aw_aload_n d_M_connect_40 rfl ?_
      refine mm_geti f_M_84 d_M_connect_41 (by decide) rfl rfl ?_
      rw [ow_u_self]
      refine aw_if_le (tgt := 48) d_M_connect_44 rfl (fun g44 => ?_) (fun g44 => ?_)
      · exact absurd g44 (by decide)
      · refine aw_vret d_M_connect_47 rfl ?_
        first
          | exact hq.1 (by unfold HSm; grind [cdv])
          | exact (hq.2 s hs rfl).1 hr1
          | exact ((hq.2 s hs rfl).2 p hp ep).1 (by grind [cdv])
  · refine aw_iconst (v := 1) d_M_connect_9 (by decide) ?_
    refine aw_goto (tgt := 37) d_M_connect_10 rfl ?_
    refine mm_puti fw_M_84 d_M_connect_37 (by decide) rfl rfl rfl rfl ?_
    refine aw_aload_n d_M_connect_40 rfl ?_
    refine mm_geti f_M_84 d_M_connect_41 (by decide) rfl rfl ?_
    rw [ow_u_self]
    refine aw_if_le (tgt := 48) d_M_connect_44 rfl (fun g44 => ?_) (fun g44 => ?_)
    · exact absurd g44 (by decide)
    · refine aw_vret d_M_connect_47 rfl ?_
      first
        | exact hq.1 (by unfold HSm; grind [cdv])
        | exact (hq.2 s hs rfl).1 hr1
        | exact ((hq.2 s hs rfl).2 p hp ep).1 (by grind [cdv])
theorem t_M_reconnect (hC : MI M tc sc) {x : Int32} (hq : D_reconnect M sc x (fun M' => Q (.inl none) (mm M' K b))) : MT l Y_M_reconnect (4, 70) [.ref 48, .int x] (mm M K b) Q := by
  refine mt_of (k := 1) (by decide) cd_M_reconnect.1 (by simp [Value.category]) rfl ?_
  refine aw_aload_n d_M_reconnect_0 rfl ?_
  refine aw_aload_n d_M_reconnect_1 rfl ?_
  refine aw_iload_n d_M_reconnect_2 rfl ?_
  refine aw_cV1 (d' := (0, 0)) d_M_reconnect_3 lk_M_148 cd_M_isSet (Nat.le_of_ble_eq_true rfl) rfl rfl ⟨Nat.le_of_ble_eq_true rfl, Nat.le_of_ble_eq_true rfl⟩ (fun _ h => nomatch h) ?_
  refine t_M_isSet ?_
  refine ow_next_i ?_
  refine aw_if_ne (tgt := 13) d_M_reconnect_6 rfl (fun g6 => ?_) (fun g6 => ?_)
  · obtain ⟨s, hs, rfl⟩ := nI_ix (x := x) (n := sc) (by grind [cdv]) (by rw [← hC.sc]; grind [cdv]) (by have := hC.s5; omega)
    have hs5 : s < 5 := by have := hC.s5; omega
    refine aw_aload_n d_M_reconnect_13 rfl ?_
    refine mm_geti f_M_47 d_M_reconnect_14 (by decide) rfl rfl ?_
    refine aw_if_ge (tgt := 24) d_M_reconnect_17 rfl (fun g17 => ?_) (fun g17 => ?_)
    · obtain ⟨p, hp, ep⟩ := plc_ge (x := M 48 16) hC.run (by grind [cdv])
      obtain ⟨tt, htt, et⟩ := hC.ty hp
      have ec : (M 55 p).toNatClampNeg = tt := by rw [et, nI_clamp (by omega)]
      refine aw_aload_n d_M_reconnect_24 rfl ?_
      refine aw_iload_n d_M_reconnect_25 rfl ?_
      refine aw_cV1 (d' := (0, 0)) d_M_reconnect_26 lk_M_120 cd_M_currentOwner (Nat.le_of_ble_eq_true rfl) rfl rfl ⟨Nat.le_of_ble_eq_true rfl, Nat.le_of_ble_eq_true rfl⟩ (fun _ h => nomatch h) ?_
      refine t_M_currentOwner hC hs5 ?_
      refine ow_next_i ?_
      refine aw_if_ge (tgt := 36) d_M_reconnect_29 rfl (fun g29 => ?_) (fun g29 => ?_)
      · have hco : ¬ mco M s < 0 := by grind [cdv]
        refine aw_iconst (v := 0) d_M_reconnect_36 (by decide) ?_
        refine mm_puti fw_M_84 d_M_reconnect_37 (by decide) rfl rfl rfl rfl ?_
        refine aw_aload_n d_M_reconnect_40 rfl ?_
        refine mm_geti f_M_84 d_M_reconnect_41 (by decide) rfl rfl ?_
        rw [ow_u_self]
        refine aw_if_le (tgt := 48) d_M_reconnect_44 rfl (fun g44 => ?_) (fun g44 => ?_)
        · refine aw_aload_n d_M_reconnect_48 rfl ?_
          refine aw_iload_n d_M_reconnect_49 rfl ?_
          refine aw_cV1 (d' := (0, 0)) d_M_reconnect_50 lk_M_120 cd_M_currentOwner (Nat.le_of_ble_eq_true rfl) rfl rfl ⟨Nat.le_of_ble_eq_true rfl, Nat.le_of_ble_eq_true rfl⟩ (fun _ h => nomatch h) ?_
          refine t_M_currentOwner (hC.cd 0) hs5 ?_
          refine ow_next_i ?_
          refine aw_istore_n d_M_reconnect_53 (by decide) ?_
          refine aw_aload_n d_M_reconnect_54 rfl ?_
          refine aw_aload_n d_M_reconnect_55 rfl ?_
          refine mm_getr (t := 57) f_M_38 d_M_reconnect_56 (by decide) rfl rfl rfl ?_
          refine aw_bipush (v := 24) d_M_reconnect_59 (by decide) ?_
          refine aw_iload_n d_M_reconnect_61 rfl ?_
          refine aw_imul d_M_reconnect_62 ?_
          refine aw_aload_n d_M_reconnect_63 rfl ?_
          refine mm_geti f_M_47 d_M_reconnect_64 (by decide) rfl rfl ?_
          refine aw_iadd d_M_reconnect_67 ?_
          refine mm_iald (by rw [show ow_u M 48 0 0 48 16 = nI p from ep]; exact ix24 s p) d_M_reconnect_68 (by decide) rfl (by omega) (by decide) ?_
          refine aw_if_lt (tgt := 105) d_M_reconnect_69 rfl (fun g69 => ?_) (fun g69 => ?_)
          · refine aw_iconst (v := 3) d_M_reconnect_105 (by decide) ?_
            refine aw_goto (tgt := 110) d_M_reconnect_106 rfl ?_
            refine mm_puti fw_M_84 d_M_reconnect_110 (by decide) rfl rfl rfl rfl ?_
            rw [ow_u_u]
            refine aw_aload_n d_M_reconnect_113 rfl ?_
            refine mm_geti f_M_84 d_M_reconnect_114 (by decide) rfl rfl ?_
            rw [ow_u_self]
            refine aw_if_ne (tgt := 148) d_M_reconnect_117 rfl (fun g117 => ?_) (fun g117 => ?_)
            · refine aw_vret d_M_reconnect_148 rfl ?_
              first
                | exact hfin.2.2
                | exact ((hq.2 s hs rfl).2 p hp ep).2.1 hco (by grind [cdv])
            · exact absurd g117 (by decide)
          · refine aw_aload_n d_M_reconnect_72 rfl ?_
            refine mm_getr (t := 53) f_M_22 d_M_reconnect_73 (by decide) rfl rfl rfl ?_
            refine aw_iload_n d_M_reconnect_76 rfl ?_
            refine mm_iald rfl d_M_reconnect_77 (by decide) rfl (by omega) (by decide) ?_
            refine aw_iconst (v := 3) d_M_reconnect_78 (by decide) ?_
            refine aw_irem d_M_reconnect_79 (by decide) ?_
            refine aw_if_eq (tgt := 105) d_M_reconnect_80 rfl (fun g80 => ?_) (fun g80 => ?_)
            · refine aw_iconst (v := 3) d_M_reconnect_105 (by decide) ?_
              refine aw_goto (tgt := 110) d_M_reconnect_106 rfl ?_
              refine mm_puti fw_M_84 d_M_reconnect_110 (by decide) rfl rfl rfl rfl ?_
              rw [ow_u_u]
              refine aw_aload_n d_M_reconnect_113 rfl ?_
              refine mm_geti f_M_84 d_M_reconnect_114 (by decide) rfl rfl ?_
              rw [ow_u_self]
              refine aw_if_ne (tgt := 148) d_M_reconnect_117 rfl (fun g117 => ?_) (fun g117 => ?_)
              · refine aw_vret d_M_reconnect_148 rfl ?_
                first
                  | exact hfin.2.2
                  | exact ((hq.2 s hs rfl).2 p hp ep).2.1 hco (by grind [cdv])
              · exact absurd g117 (by decide)
            · refine aw_aload_n d_M_reconnect_83 rfl ?_
              refine aw_iload_n d_M_reconnect_84 rfl ?_
              refine aw_iload_n d_M_reconnect_85 rfl ?_
              refine aw_aload_n d_M_reconnect_86 rfl ?_
              refine mm_geti f_M_47 d_M_reconnect_87 (by decide) rfl rfl ?_
              refine aw_aload_n d_M_reconnect_90 rfl ?_
              refine aw_iload_n d_M_reconnect_91 rfl ?_
              refine aw_aload_n d_M_reconnect_92 rfl ?_
              refine mm_geti f_M_47 d_M_reconnect_93 (by decide) rfl rfl ?_
              refine aw_cV2 (d' := (0, 0)) d_M_reconnect_96 lk_M_160 cd_M_valueIn (Nat.le_of_ble_eq_true rfl) rfl rfl ⟨Nat.le_of_ble_eq_true rfl, Nat.le_of_ble_eq_true rfl⟩ (fun _ h => nomatch h) ?_
              rw [show ow_u M 48 0 0 48 16 = nI p from ep]
              refine t_M_valueIn (hC.cd 0) hs5 hp ?_
              refine ow_next_i ?_
              refine aw_cV4 (d' := (0, 0)) d_M_reconnect_99 lk_M_124 cd_M_isRefused (Nat.le_of_ble_eq_true rfl) rfl rfl ⟨Nat.le_of_ble_eq_true rfl, Nat.le_of_ble_eq_true rfl⟩ (fun _ h => nomatch h) ?_
              refine t_M_isRefused (hC.cd 0) hs5 ?_
              refine ow_next_i ?_
              refine aw_if_eq (tgt := 109) d_M_reconnect_102 rfl (fun g102 => ?_) (fun g102 => ?_)
              · have hfin := ((hq.2 s hs rfl).2 p hp ep).2.2 hco (by grind [cdv]) (by grind [cdv]) (by grind [cdv])
                have hC2 := (hC.cd 0).lv hs5 hp hfin.1
                refine aw_iconst (v := 0) d_M_reconnect_109 (by decide) ?_
                refine mm_puti fw_M_84 d_M_reconnect_110 (by decide) rfl rfl rfl rfl ?_
                rw [ow_u_u]
                refine aw_aload_n d_M_reconnect_113 rfl ?_
                refine mm_geti f_M_84 d_M_reconnect_114 (by decide) rfl rfl ?_
                rw [ow_u_self]
                refine aw_if_ne (tgt := 148) d_M_reconnect_117 rfl (fun g117 => ?_) (fun g117 => ?_)
                · exact absurd g117 (by decide)
                · refine aw_aload_n d_M_reconnect_120 rfl ?_
                  refine aw_iload_n d_M_reconnect_121 rfl ?_
                  refine aw_aload_n d_M_reconnect_122 rfl ?_
                  refine mm_geti f_M_47 d_M_reconnect_123 (by decide) rfl rfl ?_
                  refine aw_cV2 (d' := (1, 16)) d_M_reconnect_126 lk_M_157 cd_M_leave (Nat.le_of_ble_eq_true rfl) rfl rfl ⟨Nat.le_of_ble_eq_true rfl, Nat.le_of_ble_eq_true rfl⟩ (fun _ h => nomatch h) ?_
                  rw [show ow_u M 48 0 0 48 16 = nI p from ep]
                  refine t_M_leave hs5 hp hfin.1 ?_
                  refine ow_next_v ?_
                  refine aw_aload_n d_M_reconnect_129 rfl ?_
                  refine aw_iload_n d_M_reconnect_130 rfl ?_
                  refine aw_iload_n d_M_reconnect_131 rfl ?_
                  refine aw_aload_n d_M_reconnect_132 rfl ?_
                  refine mm_geti f_M_47 d_M_reconnect_133 (by decide) rfl rfl ?_
                  refine aw_cV3 (d' := (3, 53)) d_M_reconnect_136 lk_M_131 cd_M_join (Nat.le_of_ble_eq_true rfl) rfl rfl ⟨Nat.le_of_ble_eq_true rfl, Nat.le_of_ble_eq_true rfl⟩ (fun _ h => nomatch h) ?_
                  rw [show mlv (ow_u M 48 0 0) s p 48 16 = nI p from by rw [mlv_ne (by decide) (by decide) (by decide)]; exact ep]
                  refine t_M_join hC2 hs5 hp hfin.2.1 ?_
                  refine ow_next_v ?_
                  refine aw_aload_n d_M_reconnect_139 rfl ?_
                  refine aw_aload_n d_M_reconnect_140 rfl ?_
                  refine mm_geti f_M_47 d_M_reconnect_141 (by decide) rfl rfl ?_
                  refine aw_iconst (v := 0) d_M_reconnect_144 (by decide) ?_
                  refine aw_cV2 (d' := (0, 0)) d_M_reconnect_145 lk_M_135 cd_M_come (Nat.le_of_ble_eq_true rfl) rfl rfl ⟨Nat.le_of_ble_eq_true rfl, Nat.le_of_ble_eq_true rfl⟩ (fun _ h => nomatch h) ?_
                  rw [show mjn (mlv (ow_u M 48 0 0) s p) s p (mco (ow_u M 48 0 0) s) 48 16 = nI p from by rw [mjn_ne (by decide) (by decide) (by decide), mlv_ne (by decide) (by decide) (by decide)]; exact ep]
                  refine t_M_come (hC2.jn hs5 hp (mco_plc (hC.cd 0) hs5) hfin.2.1) hp ?_
                  refine ow_next_v ?_
                  refine aw_vret d_M_reconnect_148 rfl ?_
                  first
                    | exact hfin.2.2
                    | exact ((hq.2 s hs rfl).2 p hp ep).2.1 hco (by grind [cdv])
              · refine aw_iconst (v := 3) d_M_reconnect_105 (by decide) ?_
                refine aw_goto (tgt := 110) d_M_reconnect_106 rfl ?_
                refine mm_puti fw_M_84 d_M_reconnect_110 (by decide) rfl rfl rfl rfl ?_
                rw [ow_u_u]
                refine aw_aload_n d_M_reconnect_113 rfl ?_
                refine mm_geti f_M_84 d_M_reconnect_114 (by decide) rfl rfl ?_
                rw [ow_u_self]
                refine aw_if_ne (tgt := 148) d_M_reconnect_117 rfl (fun g117 => ?_) (fun g117 => ?_)
                · refine aw_vret d_M_reconnect_148 rfl ?_
                  first
                    | exact hfin.2.2
                    | exact ((hq.2 s hs rfl).2 p hp ep).2.1 hco (by grind [cdv])
                · exact absurd g117 (by decide)
        · exact absurd g44 (by decide)
      · refine aw_iconst (v := 2) d_M_reconnect_32 (by decide) ?_
        refine aw_goto (tgt := 37) d_M_reconnect_33 rfl ?_
        refine mm_puti fw_M_84 d_M_reconnect_37 (by decide) rfl rfl rfl rfl ?_
        refine aw_aload_n d_M_reconnect_40 rfl ?_
        refine mm_geti f_M_84 d_M_reconnect_41 (by decide) rfl rfl ?_
        rw [ow_u_self]
        refine aw_if_le (tgt := 48) d_M_reconnect_44 rfl (fun g44 => ?_) (fun g44 => ?_)
        · exact absurd g44 (by decide)
        · refine aw_vret d_M_reconnect_47 rfl ?_
          first
            | exact hq.1 (by unfold HSm; grind [cdv])
            | exact (hq.2 s hs rfl).1 hr1
            | exact ((hq.2 s hs rfl).2 p hp ep).1 (by grind [cdv])
    · have hr1 : M 48 16 = -1 := by
        rcases hC.run with h | ⟨p, hp, h⟩
        · exact h
        · rw [h] at g17; have := nI_ge0 hp; grind [cdv]
      refine aw_iconst (v := 2) d_M_reconnect_20 (by decide) ?_
      refine aw_goto (tgt := 37) d_M_reconnect_21 rfl ?_
      refine mm_puti fw_M_84 d_M_reconnect_37 (by decide) rfl rfl rfl rfl ?_
      refine aw_aload_n d_M_reconnect_40 rfl ?_
      refine mm_geti f_M_84 d_M_reconnect_41 (by decide) rfl rfl ?_
      rw [ow_u_self]
      refine aw_if_le (tgt := 48) d_M_reconnect_44 rfl (fun g44 => ?_) (fun g44 => ?_)
      · exact absurd g44 (by decide)
      · refine aw_vret d_M_reconnect_47 rfl ?_
        first
          | exact hq.1 (by unfold HSm; grind [cdv])
          | exact (hq.2 s hs rfl).1 hr1
          | exact ((hq.2 s hs rfl).2 p hp ep).1 (by grind [cdv])
  · refine aw_iconst (v := 1) d_M_reconnect_9 (by decide) ?_
    refine aw_goto (tgt := 37) d_M_reconnect_10 rfl ?_
    refine mm_puti fw_M_84 d_M_reconnect_37 (by decide) rfl rfl rfl rfl ?_
    refine aw_aload_n d_M_reconnect_40 rfl ?_
    refine mm_geti f_M_84 d_M_reconnect_41 (by decide) rfl rfl ?_
    rw [ow_u_self]
    refine aw_if_le (tgt := 48) d_M_reconnect_44 rfl (fun g44 => ?_) (fun g44 => ?_)
    · exact absurd g44 (by decide)
    · refine aw_vret d_M_reconnect_47 rfl ?_
      first
        | exact hq.1 (by unfold HSm; grind [cdv])
        | exact (hq.2 s hs rfl).1 hr1
        | exact ((hq.2 s hs rfl).2 p hp ep).1 (by grind [cdv])
theorem t_M_disconnect (hC : MI M tc sc) {x : Int32} (hq : D_disconnect M sc x (fun M' => Q (.inl none) (mm M' K b))) : MT l Y_M_disconnect (2, 32) [.ref 48, .int x] (mm M K b) Q := by
  refine mt_of (k := 2) (by decide) cd_M_disconnect.1 (by simp [Value.category]) rfl ?_
  refine aw_aload_n d_M_disconnect_0 rfl ?_
  refine aw_aload_n d_M_disconnect_1 rfl ?_
  refine aw_iload_n d_M_disconnect_2 rfl ?_
  refine aw_cV1 (d' := (0, 0)) d_M_disconnect_3 lk_M_148 cd_M_isSet (Nat.le_of_ble_eq_true rfl) rfl rfl ⟨Nat.le_of_ble_eq_true rfl, Nat.le_of_ble_eq_true rfl⟩ (fun _ h => nomatch h) ?_
  refine t_M_isSet ?_
  refine ow_next_i ?_
  refine aw_if_ne (tgt := 13) d_M_disconnect_6 rfl (fun g6 => ?_) (fun g6 => ?_)
  · obtain ⟨s, hs, rfl⟩ := nI_ix (x := x) (n := sc) (by grind [cdv]) (by rw [← hC.sc]; grind [cdv]) (by have := hC.s5; omega)
    have hs5 : s < 5 := by have := hC.s5; omega
    refine aw_aload_n d_M_disconnect_13 rfl ?_
    refine mm_geti f_M_47 d_M_disconnect_14 (by decide) rfl rfl ?_
    refine aw_if_ge (tgt := 24) d_M_disconnect_17 rfl (fun g17 => ?_) (fun g17 => ?_)
    · obtain ⟨p, hp, ep⟩ := plc_ge (x := M 48 16) hC.run (by grind [cdv])
      obtain ⟨tt, htt, et⟩ := hC.ty hp
      have ec : (M 55 p).toNatClampNeg = tt := by rw [et, nI_clamp (by omega)]
      refine aw_aload_n d_M_disconnect_24 rfl ?_
      refine mm_getr (t := 57) f_M_38 d_M_disconnect_25 (by decide) rfl rfl rfl ?_
      refine aw_bipush (v := 24) d_M_disconnect_28 (by decide) ?_
      refine aw_iload_n d_M_disconnect_30 rfl ?_
      refine aw_imul d_M_disconnect_31 ?_
      refine aw_aload_n d_M_disconnect_32 rfl ?_
      refine mm_geti f_M_47 d_M_disconnect_33 (by decide) rfl rfl ?_
      refine aw_iadd d_M_disconnect_36 ?_
      refine mm_iald (by rw [ep]; exact ix24 s p) d_M_disconnect_37 (by decide) rfl (by omega) (by decide) ?_
      refine aw_if_lt (tgt := 53) d_M_disconnect_38 rfl (fun g38 => ?_) (fun g38 => ?_)
      · refine aw_iconst (v := 3) d_M_disconnect_53 (by decide) ?_
        refine aw_goto (tgt := 58) d_M_disconnect_54 rfl ?_
        refine mm_puti fw_M_84 d_M_disconnect_58 (by decide) rfl rfl rfl rfl ?_
        refine aw_aload_n d_M_disconnect_61 rfl ?_
        refine mm_geti f_M_84 d_M_disconnect_62 (by decide) rfl rfl ?_
        rw [ow_u_self]
        refine aw_if_le (tgt := 69) d_M_disconnect_65 rfl (fun g65 => ?_) (fun g65 => ?_)
        · exact absurd g65 (by decide)
        · refine aw_vret d_M_disconnect_68 rfl ?_
          first
            | exact hq.1 (by unfold HSm; grind [cdv])
            | exact (hq.2 s hs rfl).1 hr1
            | exact ((hq.2 s hs rfl).2 p hp ep).1 (by grind [cdv])
      · refine aw_aload_n d_M_disconnect_41 rfl ?_
        refine mm_getr (t := 53) f_M_22 d_M_disconnect_42 (by decide) rfl rfl rfl ?_
        refine aw_iload_n d_M_disconnect_45 rfl ?_
        refine mm_iald rfl d_M_disconnect_46 (by decide) rfl (by omega) (by decide) ?_
        refine aw_iconst (v := 3) d_M_disconnect_47 (by decide) ?_
        refine aw_irem d_M_disconnect_48 (by decide) ?_
        refine aw_iconst (v := 2) d_M_disconnect_49 (by decide) ?_
        refine aw_icmp_eq (tgt := 57) d_M_disconnect_50 rfl (fun g50 => ?_) (fun g50 => ?_)
        · have hfin := ((hq.2 s hs rfl).2 p hp ep).2 (by grind [cdv]) (by grind [cdv])
          have hln := (hC.cd 0).ln hs5
          have hCd := hC.cd 0
          refine aw_iconst (v := 0) d_M_disconnect_57 (by decide) ?_
          refine mm_puti fw_M_84 d_M_disconnect_58 (by decide) rfl rfl rfl rfl ?_
          refine aw_aload_n d_M_disconnect_61 rfl ?_
          refine mm_geti f_M_84 d_M_disconnect_62 (by decide) rfl rfl ?_
          rw [ow_u_self]
          refine aw_if_le (tgt := 69) d_M_disconnect_65 rfl (fun g65 => ?_) (fun g65 => ?_)
          · refine aw_aload_n d_M_disconnect_69 rfl ?_
            refine mm_getr (t := 61) f_M_53 d_M_disconnect_70 (by decide) rfl rfl rfl ?_
            refine aw_iload_n d_M_disconnect_73 rfl ?_
            refine mm_iald rfl d_M_disconnect_74 (by decide) rfl (by omega) (by decide) ?_
            refine aw_aload_n d_M_disconnect_75 rfl ?_
            refine mm_geti f_M_47 d_M_disconnect_76 (by decide) rfl rfl ?_
            rw [show ow_u M 48 0 0 48 16 = nI p from ep]
            refine aw_icmp_ne (tgt := 131) d_M_disconnect_79 rfl (fun g79 => ?_) (fun g79 => ?_)
            · rw [show mdi (ow_u M 48 0 0) s p = ow_u M 48 0 0 from by unfold mdi; rw [if_neg g79]] at hfin
              refine aw_aload_n d_M_disconnect_131 rfl ?_
              refine aw_iload_n d_M_disconnect_132 rfl ?_
              refine aw_aload_n d_M_disconnect_133 rfl ?_
              refine mm_geti f_M_47 d_M_disconnect_134 (by decide) rfl rfl ?_
              refine aw_cV2 (d' := (1, 16)) d_M_disconnect_137 lk_M_157 cd_M_leave (Nat.le_of_ble_eq_true rfl) rfl rfl ⟨Nat.le_of_ble_eq_true rfl, Nat.le_of_ble_eq_true rfl⟩ (fun _ h => nomatch h) ?_
              first
                | rw [show ow_u M 48 0 0 48 16 = nI p from ep]
                | rw [show ow_u (ow_u M 48 0 0) 61 s (ow_u M 48 0 0 57 (24 * s + p)) 48 16 = nI p from ep]
                | rw [u61_run (M := ow_u M 48 0 0) (show ow_u M 48 0 0 48 16 = nI p from ep)]
              refine t_M_leave hs5 hp hfin.1 ?_
              refine ow_next_v ?_
              refine aw_vret d_M_disconnect_140 rfl ?_
              exact hfin.2
            · rw [show mdi (ow_u M 48 0 0) s p = ow_u (ow_u M 48 0 0) 61 s (mhv (ow_u M 48 0 0) s p) from by unfold mdi; rw [if_pos (by grind [cdv])]] at hfin
              refine aw_aload_n d_M_disconnect_82 rfl ?_
              refine mm_getr (t := 57) f_M_38 d_M_disconnect_83 (by decide) rfl rfl rfl ?_
              refine aw_bipush (v := 24) d_M_disconnect_86 (by decide) ?_
              refine aw_iload_n d_M_disconnect_88 rfl ?_
              refine aw_imul d_M_disconnect_89 ?_
              refine aw_aload_n d_M_disconnect_90 rfl ?_
              refine mm_geti f_M_47 d_M_disconnect_91 (by decide) rfl rfl ?_
              refine aw_iadd d_M_disconnect_94 ?_
              refine mm_iald (by rw [show ow_u M 48 0 0 48 16 = nI p from ep]; exact ix24 s p) d_M_disconnect_95 (by decide) rfl (by omega) (by decide) ?_
              refine aw_istore_n d_M_disconnect_96 (by decide) ?_
              refine aw_aload_n d_M_disconnect_97 rfl ?_
              refine aw_iload_n d_M_disconnect_98 rfl ?_
              refine aw_iload_n d_M_disconnect_99 rfl ?_
              refine aw_aload_n d_M_disconnect_100 rfl ?_
              refine aw_iload_n d_M_disconnect_101 rfl ?_
              refine aw_aload_n d_M_disconnect_102 rfl ?_
              refine mm_geti f_M_47 d_M_disconnect_103 (by decide) rfl rfl ?_
              refine aw_cV2 (d' := (0, 0)) d_M_disconnect_106 lk_M_109 cd_M_placeOf (Nat.le_of_ble_eq_true rfl) rfl rfl ⟨Nat.le_of_ble_eq_true rfl, Nat.le_of_ble_eq_true rfl⟩ (fun _ h => nomatch h) ?_
              rw [show ow_u M 48 0 0 48 16 = nI p from ep]
              refine t_M_placeOf hs5 hln.2 hln.1 ?_
              refine ow_next_i ?_
              refine aw_iconst (v := 1) d_M_disconnect_109 (by decide) ?_
              refine aw_isub d_M_disconnect_110 ?_
              refine aw_iconst (v := -1) d_M_disconnect_111 (by decide) ?_
              refine aw_cV4 (d' := (0, 0)) d_M_disconnect_112 lk_M_105 cd_M_nextIn (Nat.le_of_ble_eq_true rfl) rfl rfl ⟨Nat.le_of_ble_eq_true rfl, Nat.le_of_ble_eq_true rfl⟩ (fun _ h => nomatch h) ?_
              refine t_M_nextInB hCd hs5 hln.2 hln.1 (mpo_b hln.1).1 (mpo_b hln.1).2.1 ?_
              refine ow_next_i ?_
              refine aw_istore_n d_M_disconnect_115 (by decide) ?_
              refine aw_aload_n d_M_disconnect_116 rfl ?_
              refine mm_getr (t := 61) f_M_53 d_M_disconnect_117 (by decide) rfl rfl rfl ?_
              refine aw_iload_n d_M_disconnect_120 rfl ?_
              refine aw_iload_n d_M_disconnect_121 rfl ?_
              refine aw_if_ge (tgt := 129) d_M_disconnect_122 rfl (fun g122 => ?_) (fun g122 => ?_)
              · rw [show mhv (ow_u M 48 0 0) s p = mbf (ow_u M 48 0 0) s p from by unfold mhv; exact if_neg (Int32.not_lt.mpr (by grind [mbf, cdv]))] at hfin
                refine aw_iload_n d_M_disconnect_129 rfl ?_
                refine mm_iast rfl d_M_disconnect_130 (by decide) rfl (by omega) (by decide) ?_
                refine aw_aload_n d_M_disconnect_131 rfl ?_
                refine aw_iload_n d_M_disconnect_132 rfl ?_
                refine aw_aload_n d_M_disconnect_133 rfl ?_
                refine mm_geti f_M_47 d_M_disconnect_134 (by decide) rfl rfl ?_
                refine aw_cV2 (d' := (1, 16)) d_M_disconnect_137 lk_M_157 cd_M_leave (Nat.le_of_ble_eq_true rfl) rfl rfl ⟨Nat.le_of_ble_eq_true rfl, Nat.le_of_ble_eq_true rfl⟩ (fun _ h => nomatch h) ?_
                first
                  | rw [show ow_u M 48 0 0 48 16 = nI p from ep]
                  | rw [show ow_u (ow_u M 48 0 0) 61 s (ow_u M 48 0 0 57 (24 * s + p)) 48 16 = nI p from ep]
                  | rw [u61_run (M := ow_u M 48 0 0) (show ow_u M 48 0 0 48 16 = nI p from ep)]
                refine t_M_leave hs5 hp hfin.1 ?_
                refine ow_next_v ?_
                refine aw_vret d_M_disconnect_140 rfl ?_
                exact hfin.2
              · rw [show mhv (ow_u M 48 0 0) s p = ow_u M 48 0 0 57 (24 * s + p) from by unfold mhv; exact if_pos (by grind [mbf, cdv])] at hfin
                refine aw_iload_n d_M_disconnect_125 rfl ?_
                refine aw_goto (tgt := 130) d_M_disconnect_126 rfl ?_
                refine mm_iast rfl d_M_disconnect_130 (by decide) rfl (by omega) (by decide) ?_
                refine aw_aload_n d_M_disconnect_131 rfl ?_
                refine aw_iload_n d_M_disconnect_132 rfl ?_
                refine aw_aload_n d_M_disconnect_133 rfl ?_
                refine mm_geti f_M_47 d_M_disconnect_134 (by decide) rfl rfl ?_
                refine aw_cV2 (d' := (1, 16)) d_M_disconnect_137 lk_M_157 cd_M_leave (Nat.le_of_ble_eq_true rfl) rfl rfl ⟨Nat.le_of_ble_eq_true rfl, Nat.le_of_ble_eq_true rfl⟩ (fun _ h => nomatch h) ?_
                first
                  | rw [show ow_u M 48 0 0 48 16 = nI p from ep]
                  | rw [show ow_u (ow_u M 48 0 0) 61 s (ow_u M 48 0 0 57 (24 * s + p)) 48 16 = nI p from ep]
                  | rw [u61_run (M := ow_u M 48 0 0) (show ow_u M 48 0 0 48 16 = nI p from ep)]
                refine t_M_leave hs5 hp hfin.1 ?_
                refine ow_next_v ?_
                refine aw_vret d_M_disconnect_140 rfl ?_
                exact hfin.2
          · exact absurd g65 (by decide)
        · refine aw_iconst (v := 3) d_M_disconnect_53 (by decide) ?_
          refine aw_goto (tgt := 58) d_M_disconnect_54 rfl ?_
          refine mm_puti fw_M_84 d_M_disconnect_58 (by decide) rfl rfl rfl rfl ?_
          refine aw_aload_n d_M_disconnect_61 rfl ?_
          refine mm_geti f_M_84 d_M_disconnect_62 (by decide) rfl rfl ?_
          rw [ow_u_self]
          refine aw_if_le (tgt := 69) d_M_disconnect_65 rfl (fun g65 => ?_) (fun g65 => ?_)
          · exact absurd g65 (by decide)
          · refine aw_vret d_M_disconnect_68 rfl ?_
            first
              | exact hq.1 (by unfold HSm; grind [cdv])
              | exact (hq.2 s hs rfl).1 hr1
              | exact ((hq.2 s hs rfl).2 p hp ep).1 (by grind [cdv])
    · have hr1 : M 48 16 = -1 := by
        rcases hC.run with h | ⟨p, hp, h⟩
        · exact h
        · rw [h] at g17; have := nI_ge0 hp; grind [cdv]
      refine aw_iconst (v := 2) d_M_disconnect_20 (by decide) ?_
      refine aw_goto (tgt := 58) d_M_disconnect_21 rfl ?_
      refine mm_puti fw_M_84 d_M_disconnect_58 (by decide) rfl rfl rfl rfl ?_
      refine aw_aload_n d_M_disconnect_61 rfl ?_
      refine mm_geti f_M_84 d_M_disconnect_62 (by decide) rfl rfl ?_
      rw [ow_u_self]
      refine aw_if_le (tgt := 69) d_M_disconnect_65 rfl (fun g65 => ?_) (fun g65 => ?_)
      · exact absurd g65 (by decide)
      · refine aw_vret d_M_disconnect_68 rfl ?_
        first
          | exact hq.1 (by unfold HSm; grind [cdv])
          | exact (hq.2 s hs rfl).1 hr1
          | exact ((hq.2 s hs rfl).2 p hp ep).1 (by grind [cdv])
  · refine aw_iconst (v := 1) d_M_disconnect_9 (by decide) ?_
    refine aw_goto (tgt := 58) d_M_disconnect_10 rfl ?_
    refine mm_puti fw_M_84 d_M_disconnect_58 (by decide) rfl rfl rfl rfl ?_
    refine aw_aload_n d_M_disconnect_61 rfl ?_
    refine mm_geti f_M_84 d_M_disconnect_62 (by decide) rfl rfl ?_
    rw [ow_u_self]
    refine aw_if_le (tgt := 69) d_M_disconnect_65 rfl (fun g65 => ?_) (fun g65 => ?_)
    · exact absurd g65 (by decide)
    · refine aw_vret d_M_disconnect_68 rfl ?_
      first
        | exact hq.1 (by unfold HSm; grind [cdv])
        | exact (hq.2 s hs rfl).1 hr1
        | exact ((hq.2 s hs rfl).2 p hp ep).1 (by grind [cdv])
theorem t_M_members (hC : MI M tc sc) {x : Int32} (hq : D_members M sc x (fun r M' => Q (.inl (some r)) (mm M' K b))) : MT l Y_M_members (1, 15) [.ref 48, .int x] (mm M K b) Q := by
  refine mt_of (k := 3) (by decide) cd_M_members.1 (by simp [Value.category]) rfl ?_
  have lp : ∀ s, s < sc → s < 5 → Q (.inl (some (msz (ow_u M 48 0 0) s (mco (ow_u M 48 0 0) s)))) (mm (ow_u M 48 0 0) K b) → ∀ i, i ≤ 24 → AW l Y_M_members none (1, 15) Q 49 [some (.ref 48), some (.int (nI s)), some (.int (mco (ow_u M 48 0 0) s)), some (.int (nI (cn (fun p => ow_u M 48 0 0 57 (24 * s + p) == mco (ow_u M 48 0 0) s) i))), some (.int (nI i))] [] (mm (ow_u M 48 0 0) K b) := by
    intro s hs hs5 hq
    refine loop_dn 24 (fun i hi ih => ?_)
    refine aw_iload d_M_members_49 rfl ?_
    refine aw_bipush (v := 24) d_M_members_51 (by decide) ?_
    refine aw_icmp_ge (tgt := 86) d_M_members_53 rfl (fun g53 => ?_) (fun g53 => ?_)
    · have hi2 := ge_n (n := 24) rfl hi (by omega) g53
      subst hi2
      refine aw_iload_n d_M_members_86 rfl ?_
      refine aw_iret d_M_members_87 rfl rfl ?_
      exact hq
    · have hi2 := lt_n (n := 24) rfl hi (by omega) g53
      refine aw_iload_n d_M_members_56 rfl ?_
      refine aw_aload_n d_M_members_57 rfl ?_
      refine mm_getr (t := 57) f_M_38 d_M_members_58 (by decide) rfl rfl rfl ?_
      refine aw_bipush (v := 24) d_M_members_61 (by decide) ?_
      refine aw_iload_n d_M_members_63 rfl ?_
      refine aw_imul d_M_members_64 ?_
      refine aw_iload d_M_members_65 rfl ?_
      refine aw_iadd d_M_members_67 ?_
      refine mm_iald (ix24 s i) d_M_members_68 (by decide) rfl (by omega) (by decide) ?_
      refine aw_iload_n d_M_members_69 rfl ?_
      refine aw_icmp_ne (tgt := 77) d_M_members_70 rfl (fun g70 => ?_) (fun g70 => ?_)
      · refine aw_iconst (v := 0) d_M_members_77 (by decide) ?_
        refine aw_iadd d_M_members_78 ?_
        first | rw [← nI_succ] | rw [Int32.add_zero]
        refine aw_istore_n d_M_members_79 (by decide) ?_
        refine aw_iinc (v := nI (i + 1)) d_M_members_80 rfl (nI_succ i).symm (by decide) ?_
        refine aw_goto (tgt := 49) d_M_members_83 rfl ?_
        first
          | (rw [show cn (fun p => ow_u M 48 0 0 57 (24 * s + p) == mco (ow_u M 48 0 0) s) (i + 1) = cn (fun p => ow_u M 48 0 0 57 (24 * s + p) == mco (ow_u M 48 0 0) s) i + 1 from by simp only [cn]; rw [if_pos (by grind [cdv])]] at ih; exact ih hi2)
          | (rw [show cn (fun p => ow_u M 48 0 0 57 (24 * s + p) == mco (ow_u M 48 0 0) s) (i + 1) = cn (fun p => ow_u M 48 0 0 57 (24 * s + p) == mco (ow_u M 48 0 0) s) i from by simp only [cn]; rw [if_neg (by grind [cdv])]; rfl] at ih; exact ih hi2)
      · refine aw_iconst (v := 1) d_M_members_73 (by decide) ?_
        refine aw_goto (tgt := 78) d_M_members_74 rfl ?_
        refine aw_iadd d_M_members_78 ?_
        first | rw [← nI_succ] | rw [Int32.add_zero]
        refine aw_istore_n d_M_members_79 (by decide) ?_
        refine aw_iinc (v := nI (i + 1)) d_M_members_80 rfl (nI_succ i).symm (by decide) ?_
        refine aw_goto (tgt := 49) d_M_members_83 rfl ?_
        first
          | (rw [show cn (fun p => ow_u M 48 0 0 57 (24 * s + p) == mco (ow_u M 48 0 0) s) (i + 1) = cn (fun p => ow_u M 48 0 0 57 (24 * s + p) == mco (ow_u M 48 0 0) s) i + 1 from by simp only [cn]; rw [if_pos (by grind [cdv])]] at ih; exact ih hi2)
          | (rw [show cn (fun p => ow_u M 48 0 0 57 (24 * s + p) == mco (ow_u M 48 0 0) s) (i + 1) = cn (fun p => ow_u M 48 0 0 57 (24 * s + p) == mco (ow_u M 48 0 0) s) i from by simp only [cn]; rw [if_neg (by grind [cdv])]; rfl] at ih; exact ih hi2)
  refine aw_aload_n d_M_members_0 rfl ?_
  refine aw_aload_n d_M_members_1 rfl ?_
  refine aw_iload_n d_M_members_2 rfl ?_
  refine aw_cV1 (d' := (0, 0)) d_M_members_3 lk_M_148 cd_M_isSet (Nat.le_of_ble_eq_true rfl) rfl rfl ⟨Nat.le_of_ble_eq_true rfl, Nat.le_of_ble_eq_true rfl⟩ (fun _ h => nomatch h) ?_
  refine t_M_isSet ?_
  refine ow_next_i ?_
  refine aw_if_ne (tgt := 13) d_M_members_6 rfl (fun g6 => ?_) (fun g6 => ?_)
  · obtain ⟨s, hs, rfl⟩ := nI_ix (x := x) (n := sc) (by grind [cdv]) (by rw [← hC.sc]; grind [cdv]) (by have := hC.s5; omega)
    have hs5 : s < 5 := by have := hC.s5; omega
    refine aw_aload_n d_M_members_13 rfl ?_
    refine aw_iload_n d_M_members_14 rfl ?_
    refine aw_cV1 (d' := (0, 0)) d_M_members_15 lk_M_120 cd_M_currentOwner (Nat.le_of_ble_eq_true rfl) rfl rfl ⟨Nat.le_of_ble_eq_true rfl, Nat.le_of_ble_eq_true rfl⟩ (fun _ h => nomatch h) ?_
    refine t_M_currentOwner hC hs5 ?_
    refine ow_next_i ?_
    refine aw_if_ge (tgt := 25) d_M_members_18 rfl (fun g18 => ?_) (fun g18 => ?_)
    · have hco : ¬ mco M s < 0 := by grind [cdv]
      refine aw_iconst (v := 0) d_M_members_25 (by decide) ?_
      refine mm_puti fw_M_84 d_M_members_26 (by decide) rfl rfl rfl rfl ?_
      refine aw_aload_n d_M_members_29 rfl ?_
      refine mm_geti f_M_84 d_M_members_30 (by decide) rfl rfl ?_
      rw [ow_u_self]
      refine aw_if_le (tgt := 38) d_M_members_33 rfl (fun g33 => ?_) (fun g33 => ?_)
      · refine aw_aload_n d_M_members_38 rfl ?_
        refine aw_iload_n d_M_members_39 rfl ?_
        refine aw_cV1 (d' := (0, 0)) d_M_members_40 lk_M_120 cd_M_currentOwner (Nat.le_of_ble_eq_true rfl) rfl rfl ⟨Nat.le_of_ble_eq_true rfl, Nat.le_of_ble_eq_true rfl⟩ (fun _ h => nomatch h) ?_
        refine t_M_currentOwner (hC.cd 0) hs5 ?_
        refine ow_next_i ?_
        refine aw_istore_n d_M_members_43 (by decide) ?_
        refine aw_iconst (v := 0) d_M_members_44 (by decide) ?_
        refine aw_istore_n d_M_members_45 (by decide) ?_
        refine aw_iconst (v := 0) d_M_members_46 (by decide) ?_
        refine aw_istore d_M_members_47 (by decide) ?_
        exact lp s hs hs5 ((hq.2 s hs rfl).2 hco) 0 (by omega)
      · exact absurd g33 (by decide)
    · refine aw_iconst (v := 2) d_M_members_21 (by decide) ?_
      refine aw_goto (tgt := 26) d_M_members_22 rfl ?_
      refine mm_puti fw_M_84 d_M_members_26 (by decide) rfl rfl rfl rfl ?_
      refine aw_aload_n d_M_members_29 rfl ?_
      refine mm_geti f_M_84 d_M_members_30 (by decide) rfl rfl ?_
      rw [ow_u_self]
      refine aw_if_le (tgt := 38) d_M_members_33 rfl (fun g33 => ?_) (fun g33 => ?_)
      · exact absurd g33 (by decide)
      · refine aw_iconst (v := 0) d_M_members_36 (by decide) ?_
        refine aw_iret d_M_members_37 rfl rfl ?_
        first
          | exact hq.1 (by unfold HSm; grind [cdv])
          | exact (hq.2 s hs rfl).1 (by grind [cdv])
  · refine aw_iconst (v := 1) d_M_members_9 (by decide) ?_
    refine aw_goto (tgt := 26) d_M_members_10 rfl ?_
    refine mm_puti fw_M_84 d_M_members_26 (by decide) rfl rfl rfl rfl ?_
    refine aw_aload_n d_M_members_29 rfl ?_
    refine mm_geti f_M_84 d_M_members_30 (by decide) rfl rfl ?_
    rw [ow_u_self]
    refine aw_if_le (tgt := 38) d_M_members_33 rfl (fun g33 => ?_) (fun g33 => ?_)
    · exact absurd g33 (by decide)
    · refine aw_iconst (v := 0) d_M_members_36 (by decide) ?_
      refine aw_iret d_M_members_37 rfl rfl ?_
      first
        | exact hq.1 (by unfold HSm; grind [cdv])
        | exact (hq.2 s hs rfl).1 (by grind [cdv])
theorem t_M_owner (hC : MI M tc sc) {x y : Int32} (hq : D_owner M sc x y (fun r M' => Q (.inl (some r)) (mm M' K b))) : MT l Y_M_owner (1, 17) [.ref 48, .int x, .int y] (mm M K b) Q := by
  refine mt_of (k := 1) (by decide) cd_M_owner.1 (by simp [Value.category]) rfl ?_
  refine aw_aload_n d_M_owner_0 rfl ?_
  refine aw_aload_n d_M_owner_1 rfl ?_
  refine aw_iload_n d_M_owner_2 rfl ?_
  refine aw_cV1 (d' := (0, 0)) d_M_owner_3 lk_M_148 cd_M_isSet (Nat.le_of_ble_eq_true rfl) rfl rfl ⟨Nat.le_of_ble_eq_true rfl, Nat.le_of_ble_eq_true rfl⟩ (fun _ h => nomatch h) ?_
  refine t_M_isSet ?_
  refine ow_next_i ?_
  refine aw_if_ne (tgt := 13) d_M_owner_6 rfl (fun g6 => ?_) (fun g6 => ?_)
  · obtain ⟨s, hs, rfl⟩ := nI_ix (x := x) (n := sc) (by grind [cdv]) (by rw [← hC.sc]; grind [cdv]) (by have := hC.s5; omega)
    have hs5 : s < 5 := by have := hC.s5; omega
    refine aw_aload_n d_M_owner_13 rfl ?_
    refine aw_iload_n d_M_owner_14 rfl ?_
    refine aw_cV1 (d' := (0, 0)) d_M_owner_15 lk_M_139 cd_M_recordWith (Nat.le_of_ble_eq_true rfl) rfl rfl ⟨Nat.le_of_ble_eq_true rfl, Nat.le_of_ble_eq_true rfl⟩ (fun _ h => nomatch h) ?_
    refine t_M_recordWith ?_
    refine ow_next_i ?_
    refine aw_if_ge (tgt := 25) d_M_owner_18 rfl (fun g18 => ?_) (fun g18 => ?_)
    · obtain ⟨p, hp, ep⟩ := plc_ge (mrw_plc M y (Nat.le_refl 24)) (by grind [cdv])
      refine aw_iconst (v := 0) d_M_owner_25 (by decide) ?_
      refine mm_puti fw_M_84 d_M_owner_26 (by decide) rfl rfl rfl rfl ?_
      refine aw_aload_n d_M_owner_29 rfl ?_
      refine mm_geti f_M_84 d_M_owner_30 (by decide) rfl rfl ?_
      rw [ow_u_self]
      refine aw_if_le (tgt := 38) d_M_owner_33 rfl (fun g33 => ?_) (fun g33 => ?_)
      · refine aw_aload_n d_M_owner_38 rfl ?_
        refine mm_getr (t := 57) f_M_38 d_M_owner_39 (by decide) rfl rfl rfl ?_
        refine aw_bipush (v := 24) d_M_owner_42 (by decide) ?_
        refine aw_iload_n d_M_owner_44 rfl ?_
        refine aw_imul d_M_owner_45 ?_
        refine aw_aload_n d_M_owner_46 rfl ?_
        refine aw_iload_n d_M_owner_47 rfl ?_
        refine aw_cV1 (d' := (0, 0)) d_M_owner_48 lk_M_139 cd_M_recordWith (Nat.le_of_ble_eq_true rfl) rfl rfl ⟨Nat.le_of_ble_eq_true rfl, Nat.le_of_ble_eq_true rfl⟩ (fun _ h => nomatch h) ?_
        refine t_M_recordWith ?_
        rw [mrw_c (M := M) (N := ow_u M 48 0 0) rfl, ep]
        refine ow_next_i ?_
        refine aw_iadd d_M_owner_51 ?_
        refine mm_iald (ix24 s p) d_M_owner_52 (by decide) rfl (by omega) (by decide) ?_
        have hpl : plc (ow_u M 48 0 0 57 (24 * s + p)) := hC.own (by omega)
        refine aw_istore_n d_M_owner_53 (by decide) ?_
        refine aw_iload_n d_M_owner_54 rfl ?_
        refine aw_if_ge (tgt := 62) d_M_owner_55 rfl (fun g55 => ?_) (fun g55 => ?_)
        · obtain ⟨p2, hp2, ep2⟩ := plc_ge hpl (by grind [cdv])
          have e2 := congrArg Int32.toNatClampNeg ep2
          rw [nI_clamp (by omega)] at e2
          refine aw_aload_n d_M_owner_62 rfl ?_
          refine mm_getr (t := 54) f_M_29 d_M_owner_63 (by decide) rfl rfl rfl ?_
          refine aw_iload_n d_M_owner_66 rfl ?_
          refine mm_iald ep2 d_M_owner_67 (by decide) rfl (by omega) (by decide) ?_
          refine aw_iret d_M_owner_68 rfl rfl ?_
          exact q_val ((hq.2 s hs rfl).2 p hp ep) (by unfold mky; first | (rw [if_neg (by exact Int32.not_lt.mpr g55)]; exact congrArg (M 54) e2.symm) | rw [if_pos (by grind [cdv])])
        · refine aw_iconst (v := 0) d_M_owner_58 (by decide) ?_
          refine aw_goto (tgt := 68) d_M_owner_59 rfl ?_
          refine aw_iret d_M_owner_68 rfl rfl ?_
          exact q_val ((hq.2 s hs rfl).2 p hp ep) (by unfold mky; first | (rw [if_neg (by exact Int32.not_lt.mpr g55)]; exact congrArg (M 54) e2.symm) | rw [if_pos (by grind [cdv])])
      · exact absurd g33 (by decide)
    · have hx1 : mrw M y 24 = -1 := by
        rcases mrw_plc M y (Nat.le_refl 24) with h | ⟨p, hp, h⟩
        · exact h
        · rw [h] at g18; have := nI_ge0 hp; grind [cdv]
      refine aw_iconst (v := 2) d_M_owner_21 (by decide) ?_
      refine aw_goto (tgt := 26) d_M_owner_22 rfl ?_
      refine mm_puti fw_M_84 d_M_owner_26 (by decide) rfl rfl rfl rfl ?_
      refine aw_aload_n d_M_owner_29 rfl ?_
      refine mm_geti f_M_84 d_M_owner_30 (by decide) rfl rfl ?_
      rw [ow_u_self]
      refine aw_if_le (tgt := 38) d_M_owner_33 rfl (fun g33 => ?_) (fun g33 => ?_)
      · exact absurd g33 (by decide)
      · refine aw_iconst (v := 0) d_M_owner_36 (by decide) ?_
        refine aw_iret d_M_owner_37 rfl rfl ?_
        first
          | exact hq.1 (by unfold HSm; grind [cdv])
          | exact (hq.2 s hs rfl).1 hx1
  · refine aw_iconst (v := 1) d_M_owner_9 (by decide) ?_
    refine aw_goto (tgt := 26) d_M_owner_10 rfl ?_
    refine mm_puti fw_M_84 d_M_owner_26 (by decide) rfl rfl rfl rfl ?_
    refine aw_aload_n d_M_owner_29 rfl ?_
    refine mm_geti f_M_84 d_M_owner_30 (by decide) rfl rfl ?_
    rw [ow_u_self]
    refine aw_if_le (tgt := 38) d_M_owner_33 rfl (fun g33 => ?_) (fun g33 => ?_)
    · exact absurd g33 (by decide)
    · refine aw_iconst (v := 0) d_M_owner_36 (by decide) ?_
      refine aw_iret d_M_owner_37 rfl rfl ?_
      first
        | exact hq.1 (by unfold HSm; grind [cdv])
        | exact (hq.2 s hs rfl).1 hx1
/-- M_forget -/
theorem t_M_forget (hq : Q (.inl none) (mm (fgM M) K b)) : MT l Y_M_forget (0, 0) [.ref 48] (mm M K b) Q := by
  refine mt_of (k := 1) (by decide) cd_M_forget.1 (by simp [Value.category]) rfl ?_
  refine aw_aload_n d_M_forget_0 rfl ?_
  refine aw_iconst (v := -1) d_M_forget_1 (by decide) ?_
  refine mm_puti fw_M_47 d_M_forget_2 (by decide) rfl rfl rfl rfl ?_
  refine aw_iconst (v := 0) d_M_forget_5 (by decide) ?_
  refine aw_istore_n d_M_forget_6 (by decide) ?_
  refine aw_iload_n d_M_forget_7 rfl ?_
  refine aw_iconst (v := 4) d_M_forget_8 (by decide) ?_
  refine aw_icmp_ge (tgt := 25) d_M_forget_9 rfl (fun g9 => ?_) (fun g9 => ?_)
  · exact absurd g9 (by decide)
  · refine aw_aload_n d_M_forget_12 rfl ?_
    refine mm_getr (t := 60) f_M_50 d_M_forget_13 (by decide) rfl rfl rfl ?_
    refine aw_iload_n d_M_forget_16 rfl ?_
    refine aw_iconst (v := -1) d_M_forget_17 (by decide) ?_
    refine mm_iast (show (0 : Int32) = nI 0 from rfl) d_M_forget_18 (by decide) rfl (by decide) (by decide) ?_
    refine aw_iinc (v := 1) d_M_forget_19 rfl (by decide) (by decide) ?_
    refine aw_goto (tgt := 7) d_M_forget_22 rfl ?_
    refine aw_iload_n d_M_forget_7 rfl ?_
    refine aw_iconst (v := 4) d_M_forget_8 (by decide) ?_
    refine aw_icmp_ge (tgt := 25) d_M_forget_9 rfl (fun g9 => ?_) (fun g9 => ?_)
    · exact absurd g9 (by decide)
    · refine aw_aload_n d_M_forget_12 rfl ?_
      refine mm_getr (t := 60) f_M_50 d_M_forget_13 (by decide) rfl rfl rfl ?_
      refine aw_iload_n d_M_forget_16 rfl ?_
      refine aw_iconst (v := -1) d_M_forget_17 (by decide) ?_
      refine mm_iast (show (1 : Int32) = nI 1 from rfl) d_M_forget_18 (by decide) rfl (by decide) (by decide) ?_
      refine aw_iinc (v := 2) d_M_forget_19 rfl (by decide) (by decide) ?_
      refine aw_goto (tgt := 7) d_M_forget_22 rfl ?_
      refine aw_iload_n d_M_forget_7 rfl ?_
      refine aw_iconst (v := 4) d_M_forget_8 (by decide) ?_
      refine aw_icmp_ge (tgt := 25) d_M_forget_9 rfl (fun g9 => ?_) (fun g9 => ?_)
      · exact absurd g9 (by decide)
      · refine aw_aload_n d_M_forget_12 rfl ?_
        refine mm_getr (t := 60) f_M_50 d_M_forget_13 (by decide) rfl rfl rfl ?_
        refine aw_iload_n d_M_forget_16 rfl ?_
        refine aw_iconst (v := -1) d_M_forget_17 (by decide) ?_
        refine mm_iast (show (2 : Int32) = nI 2 from rfl) d_M_forget_18 (by decide) rfl (by decide) (by decide) ?_
        refine aw_iinc (v := 3) d_M_forget_19 rfl (by decide) (by decide) ?_
        refine aw_goto (tgt := 7) d_M_forget_22 rfl ?_
        refine aw_iload_n d_M_forget_7 rfl ?_
        refine aw_iconst (v := 4) d_M_forget_8 (by decide) ?_
        refine aw_icmp_ge (tgt := 25) d_M_forget_9 rfl (fun g9 => ?_) (fun g9 => ?_)
        · exact absurd g9 (by decide)
        · refine aw_aload_n d_M_forget_12 rfl ?_
          refine mm_getr (t := 60) f_M_50 d_M_forget_13 (by decide) rfl rfl rfl ?_
          refine aw_iload_n d_M_forget_16 rfl ?_
          refine aw_iconst (v := -1) d_M_forget_17 (by decide) ?_
          refine mm_iast (show (3 : Int32) = nI 3 from rfl) d_M_forget_18 (by decide) rfl (by decide) (by decide) ?_
          refine aw_iinc (v := 4) d_M_forget_19 rfl (by decide) (by decide) ?_
          refine aw_goto (tgt := 7) d_M_forget_22 rfl ?_
          refine aw_iload_n d_M_forget_7 rfl ?_
          refine aw_iconst (v := 4) d_M_forget_8 (by decide) ?_
          refine aw_icmp_ge (tgt := 25) d_M_forget_9 rfl (fun g9 => ?_) (fun g9 => ?_)
          · refine aw_iconst (v := 0) d_M_forget_25 (by decide) ?_
            refine aw_istore_n d_M_forget_26 (by decide) ?_
            refine aw_iload_n d_M_forget_27 rfl ?_
            refine aw_iconst (v := 5) d_M_forget_28 (by decide) ?_
            refine aw_icmp_ge (tgt := 45) d_M_forget_29 rfl (fun g29 => ?_) (fun g29 => ?_)
            · exact absurd g29 (by decide)
            · refine aw_aload_n d_M_forget_32 rfl ?_
              refine mm_getr (t := 61) f_M_53 d_M_forget_33 (by decide) rfl rfl rfl ?_
              refine aw_iload_n d_M_forget_36 rfl ?_
              refine aw_iconst (v := -1) d_M_forget_37 (by decide) ?_
              refine mm_iast (show (0 : Int32) = nI 0 from rfl) d_M_forget_38 (by decide) rfl (by decide) (by decide) ?_
              refine aw_iinc (v := 1) d_M_forget_39 rfl (by decide) (by decide) ?_
              refine aw_goto (tgt := 27) d_M_forget_42 rfl ?_
              refine aw_iload_n d_M_forget_27 rfl ?_
              refine aw_iconst (v := 5) d_M_forget_28 (by decide) ?_
              refine aw_icmp_ge (tgt := 45) d_M_forget_29 rfl (fun g29 => ?_) (fun g29 => ?_)
              · exact absurd g29 (by decide)
              · refine aw_aload_n d_M_forget_32 rfl ?_
                refine mm_getr (t := 61) f_M_53 d_M_forget_33 (by decide) rfl rfl rfl ?_
                refine aw_iload_n d_M_forget_36 rfl ?_
                refine aw_iconst (v := -1) d_M_forget_37 (by decide) ?_
                refine mm_iast (show (1 : Int32) = nI 1 from rfl) d_M_forget_38 (by decide) rfl (by decide) (by decide) ?_
                refine aw_iinc (v := 2) d_M_forget_39 rfl (by decide) (by decide) ?_
                refine aw_goto (tgt := 27) d_M_forget_42 rfl ?_
                refine aw_iload_n d_M_forget_27 rfl ?_
                refine aw_iconst (v := 5) d_M_forget_28 (by decide) ?_
                refine aw_icmp_ge (tgt := 45) d_M_forget_29 rfl (fun g29 => ?_) (fun g29 => ?_)
                · exact absurd g29 (by decide)
                · refine aw_aload_n d_M_forget_32 rfl ?_
                  refine mm_getr (t := 61) f_M_53 d_M_forget_33 (by decide) rfl rfl rfl ?_
                  refine aw_iload_n d_M_forget_36 rfl ?_
                  refine aw_iconst (v := -1) d_M_forget_37 (by decide) ?_
                  refine mm_iast (show (2 : Int32) = nI 2 from rfl) d_M_forget_38 (by decide) rfl (by decide) (by decide) ?_
                  refine aw_iinc (v := 3) d_M_forget_39 rfl (by decide) (by decide) ?_
                  refine aw_goto (tgt := 27) d_M_forget_42 rfl ?_
                  refine aw_iload_n d_M_forget_27 rfl ?_
                  refine aw_iconst (v := 5) d_M_forget_28 (by decide) ?_
                  refine aw_icmp_ge (tgt := 45) d_M_forget_29 rfl (fun g29 => ?_) (fun g29 => ?_)
                  · exact absurd g29 (by decide)
                  · refine aw_aload_n d_M_forget_32 rfl ?_
                    refine mm_getr (t := 61) f_M_53 d_M_forget_33 (by decide) rfl rfl rfl ?_
                    refine aw_iload_n d_M_forget_36 rfl ?_
                    refine aw_iconst (v := -1) d_M_forget_37 (by decide) ?_
                    refine mm_iast (show (3 : Int32) = nI 3 from rfl) d_M_forget_38 (by decide) rfl (by decide) (by decide) ?_
                    refine aw_iinc (v := 4) d_M_forget_39 rfl (by decide) (by decide) ?_
                    refine aw_goto (tgt := 27) d_M_forget_42 rfl ?_
                    refine aw_iload_n d_M_forget_27 rfl ?_
                    refine aw_iconst (v := 5) d_M_forget_28 (by decide) ?_
                    refine aw_icmp_ge (tgt := 45) d_M_forget_29 rfl (fun g29 => ?_) (fun g29 => ?_)
                    · exact absurd g29 (by decide)
                    · refine aw_aload_n d_M_forget_32 rfl ?_
                      refine mm_getr (t := 61) f_M_53 d_M_forget_33 (by decide) rfl rfl rfl ?_
                      refine aw_iload_n d_M_forget_36 rfl ?_
                      refine aw_iconst (v := -1) d_M_forget_37 (by decide) ?_
                      refine mm_iast (show (4 : Int32) = nI 4 from rfl) d_M_forget_38 (by decide) rfl (by decide) (by decide) ?_
                      refine aw_iinc (v := 5) d_M_forget_39 rfl (by decide) (by decide) ?_
                      refine aw_goto (tgt := 27) d_M_forget_42 rfl ?_
                      refine aw_iload_n d_M_forget_27 rfl ?_
                      refine aw_iconst (v := 5) d_M_forget_28 (by decide) ?_
                      refine aw_icmp_ge (tgt := 45) d_M_forget_29 rfl (fun g29 => ?_) (fun g29 => ?_)
                      · refine aw_vret d_M_forget_45 rfl ?_
                        exact hq
                      · exact absurd g29 (by decide)
          · exact absurd g9 (by decide)
/-- M_count -/
theorem t_M_count (hq : Q (.inl (some (nI (cn (fun r => decide (0 < ow_u M 48 0 0 54 r)) 24)))) (mm (ow_u M 48 0 0) K b)) : MT l Y_M_count (1, 14) [.ref 48] (mm M K b) Q := by
  refine mt_of (k := 0) (by decide) cd_M_count.1 (by simp [Value.category]) rfl ?_
  refine aw_aload_n d_M_count_0 rfl ?_
  refine aw_iconst (v := 0) d_M_count_1 (by decide) ?_
  refine mm_puti fw_M_84 d_M_count_2 (by decide) rfl rfl rfl rfl ?_
  refine aw_aload_n d_M_count_5 rfl ?_
  refine aw_cV0 (d' := (0, 0)) d_M_count_6 lk_M_184 cd_M_records (Nat.le_of_ble_eq_true rfl) rfl rfl ⟨Nat.le_of_ble_eq_true rfl, Nat.le_of_ble_eq_true rfl⟩ (fun _ h => nomatch h) ?_
  refine t_M_records ?_
  refine ow_next_i ?_
  refine aw_iret d_M_count_9 rfl rfl ?_
  exact hq
theorem t_M_keep (hq : Q (.inl (some (nI (cn (fun r => decide (0 < (mkp M) 54 r)) 24)))) (mm ((mkp M)) K b)) : MT l Y_M_keep (1, 14) [.ref 48] (mm M K b) Q := by
  refine mt_of (k := 1) (by decide) cd_M_keep.1 (by simp [Value.category]) rfl ?_
  have l4 : ∀ i, i ≤ 5 → AW l Y_M_keep none (1, 14) Q 117 [some (.ref 48), some (.int (nI i))] [] (mm (cpI (cpI (cpI (cpI (cpI (cpI (ow_u (ow_u M 48 0 0) 48 20 (M 48 9)) 54 63 24) 55 64 24) 56 65 72) 57 66 120) 58 67 120) 59 68 i) K b) := by
    refine loop_dn 5 (fun i hi ih => ?_)
    refine aw_iload_n d_M_keep_117 rfl ?_
    refine aw_iconst (v := 5) d_M_keep_118 (by decide) ?_
    refine aw_icmp_ge (tgt := 140) d_M_keep_119 rfl (fun g119 => ?_) (fun g119 => ?_)
    · have hi2 := ge_n (n := 5) rfl hi (by omega) g119
      subst hi2
      refine aw_aload_n d_M_keep_140 rfl ?_
      refine aw_cV0 (d' := (0, 0)) d_M_keep_141 lk_M_184 cd_M_records (Nat.le_of_ble_eq_true rfl) rfl rfl ⟨Nat.le_of_ble_eq_true rfl, Nat.le_of_ble_eq_true rfl⟩ (fun _ h => nomatch h) ?_
      refine t_M_records ?_
      refine ow_next_i ?_
      refine aw_iret d_M_keep_144 rfl rfl ?_
      exact hq
    · have hi2 := lt_n (n := 5) rfl hi (by omega) g119
      refine aw_aload_n d_M_keep_122 rfl ?_
      refine mm_getr (t := 68) f_M_78 d_M_keep_123 (by decide) rfl rfl rfl ?_
      refine aw_iload_n d_M_keep_126 rfl ?_
      refine aw_aload_n d_M_keep_127 rfl ?_
      refine mm_getr (t := 59) f_M_44 d_M_keep_128 (by decide) rfl rfl rfl ?_
      refine aw_iload_n d_M_keep_131 rfl ?_
      refine mm_iald rfl d_M_keep_132 (by decide) rfl (by omega) (by decide) ?_
      rw [cpI_ne (by decide)]
      refine mm_iast rfl d_M_keep_133 (by decide) rfl (by omega) (by decide) ?_
      refine aw_iinc (v := nI (i + 1)) d_M_keep_134 rfl (nI_succ i).symm (by decide) ?_
      refine aw_goto (tgt := 117) d_M_keep_137 rfl ?_
      have hst := cpI_st (M := (cpI (cpI (cpI (cpI (cpI (ow_u (ow_u M 48 0 0) 48 20 (M 48 9)) 54 63 24) 55 64 24) 56 65 72) 57 66 120) 58 67 120)) (c0 := 59) (c := 68) (i := i) (by decide)
      have h9 := ih hi2
      rw [← hst] at h9
      exact h9
  have l3 : ∀ i, i ≤ 120 → AW l Y_M_keep none (1, 14) Q 79 [some (.ref 48), some (.int (nI i))] [] (mm (cpI (cpI (cpI (cpI (cpI (ow_u (ow_u M 48 0 0) 48 20 (M 48 9)) 54 63 24) 55 64 24) 56 65 72) 57 66 i) 58 67 i) K b) := by
    refine loop_dn 120 (fun i hi ih => ?_)
    refine aw_iload_n d_M_keep_79 rfl ?_
    refine aw_bipush (v := 120) d_M_keep_80 (by decide) ?_
    refine aw_icmp_ge (tgt := 115) d_M_keep_82 rfl (fun g82 => ?_) (fun g82 => ?_)
    · have hi2 := ge_n (n := 120) rfl hi (by omega) g82
      subst hi2
      refine aw_iconst (v := 0) d_M_keep_115 (by decide) ?_
      refine aw_istore_n d_M_keep_116 (by decide) ?_
      have h := l4 0 (by omega)
      rw [cpI_0] at h
      exact h
    · have hi2 := lt_n (n := 120) rfl hi (by omega) g82
      refine aw_aload_n d_M_keep_85 rfl ?_
      refine mm_getr (t := 66) f_M_72 d_M_keep_86 (by decide) rfl rfl rfl ?_
      refine aw_iload_n d_M_keep_89 rfl ?_
      refine aw_aload_n d_M_keep_90 rfl ?_
      refine mm_getr (t := 57) f_M_38 d_M_keep_91 (by decide) rfl rfl rfl ?_
      refine aw_iload_n d_M_keep_94 rfl ?_
      refine mm_iald rfl d_M_keep_95 (by decide) rfl (by omega) (by decide) ?_
      rw [cpI_ne (by decide), cpI_ne (by decide)]
      refine mm_iast rfl d_M_keep_96 (by decide) rfl (by omega) (by decide) ?_
      refine aw_aload_n d_M_keep_97 rfl ?_
      refine mm_getr (t := 67) f_M_75 d_M_keep_98 (by decide) rfl rfl rfl ?_
      refine aw_iload_n d_M_keep_101 rfl ?_
      refine aw_aload_n d_M_keep_102 rfl ?_
      refine mm_getr (t := 58) f_M_41 d_M_keep_103 (by decide) rfl rfl rfl ?_
      refine aw_iload_n d_M_keep_106 rfl ?_
      refine mm_iald rfl d_M_keep_107 (by decide) rfl (by omega) (by decide) ?_
      rw [ow_u_ne (by decide), cpI_ne (by decide), cpI_ne (by decide)]
      refine mm_iast rfl d_M_keep_108 (by decide) rfl (by omega) (by decide) ?_
      refine aw_iinc (v := nI (i + 1)) d_M_keep_109 rfl (nI_succ i).symm (by decide) ?_
      refine aw_goto (tgt := 79) d_M_keep_112 rfl ?_
      have hst := cpI_st2 (M := (cpI (cpI (cpI (ow_u (ow_u M 48 0 0) 48 20 (M 48 9)) 54 63 24) 55 64 24) 56 65 72)) (c0 := 57) (c := 66) (d0 := 58) (d := 67) (i := i) (by decide) (by decide) (by decide) (by decide) (by decide)
      have h9 := ih hi2
      rw [← hst] at h9
      exact h9
  have l2 : ∀ i, i ≤ 72 → AW l Y_M_keep none (1, 14) Q 53 [some (.ref 48), some (.int (nI i))] [] (mm (cpI (cpI (cpI (ow_u (ow_u M 48 0 0) 48 20 (M 48 9)) 54 63 24) 55 64 24) 56 65 i) K b) := by
    refine loop_dn 72 (fun i hi ih => ?_)
    refine aw_iload_n d_M_keep_53 rfl ?_
    refine aw_bipush (v := 72) d_M_keep_54 (by decide) ?_
    refine aw_icmp_ge (tgt := 77) d_M_keep_56 rfl (fun g56 => ?_) (fun g56 => ?_)
    · have hi2 := ge_n (n := 72) rfl hi (by omega) g56
      subst hi2
      refine aw_iconst (v := 0) d_M_keep_77 (by decide) ?_
      refine aw_istore_n d_M_keep_78 (by decide) ?_
      have h := l3 0 (by omega)
      rw [cpI_0, cpI_0] at h
      exact h
    · have hi2 := lt_n (n := 72) rfl hi (by omega) g56
      refine aw_aload_n d_M_keep_59 rfl ?_
      refine mm_getr (t := 65) f_M_69 d_M_keep_60 (by decide) rfl rfl rfl ?_
      refine aw_iload_n d_M_keep_63 rfl ?_
      refine aw_aload_n d_M_keep_64 rfl ?_
      refine mm_getr (t := 56) f_M_35 d_M_keep_65 (by decide) rfl rfl rfl ?_
      refine aw_iload_n d_M_keep_68 rfl ?_
      refine mm_iald rfl d_M_keep_69 (by decide) rfl (by omega) (by decide) ?_
      rw [cpI_ne (by decide)]
      refine mm_iast rfl d_M_keep_70 (by decide) rfl (by omega) (by decide) ?_
      refine aw_iinc (v := nI (i + 1)) d_M_keep_71 rfl (nI_succ i).symm (by decide) ?_
      refine aw_goto (tgt := 53) d_M_keep_74 rfl ?_
      have hst := cpI_st (M := (cpI (cpI (ow_u (ow_u M 48 0 0) 48 20 (M 48 9)) 54 63 24) 55 64 24)) (c0 := 56) (c := 65) (i := i) (by decide)
      have h9 := ih hi2
      rw [← hst] at h9
      exact h9
  have l1 : ∀ i, i ≤ 24 → AW l Y_M_keep none (1, 14) Q 15 [some (.ref 48), some (.int (nI i))] [] (mm (cpI (cpI (ow_u (ow_u M 48 0 0) 48 20 (M 48 9)) 54 63 i) 55 64 i) K b) := by
    refine loop_dn 24 (fun i hi ih => ?_)
    refine aw_iload_n d_M_keep_15 rfl ?_
    refine aw_bipush (v := 24) d_M_keep_16 (by decide) ?_
    refine aw_icmp_ge (tgt := 51) d_M_keep_18 rfl (fun g18 => ?_) (fun g18 => ?_)
    · have hi2 := ge_n (n := 24) rfl hi (by omega) g18
      subst hi2
      refine aw_iconst (v := 0) d_M_keep_51 (by decide) ?_
      refine aw_istore_n d_M_keep_52 (by decide) ?_
      have h := l2 0 (by omega)
      rw [cpI_0] at h
      exact h
    · have hi2 := lt_n (n := 24) rfl hi (by omega) g18
      refine aw_aload_n d_M_keep_21 rfl ?_
      refine mm_getr (t := 63) f_M_63 d_M_keep_22 (by decide) rfl rfl rfl ?_
      refine aw_iload_n d_M_keep_25 rfl ?_
      refine aw_aload_n d_M_keep_26 rfl ?_
      refine mm_getr (t := 54) f_M_29 d_M_keep_27 (by decide) rfl rfl rfl ?_
      refine aw_iload_n d_M_keep_30 rfl ?_
      refine mm_iald rfl d_M_keep_31 (by decide) rfl (by omega) (by decide) ?_
      rw [cpI_ne (by decide), cpI_ne (by decide)]
      refine mm_iast rfl d_M_keep_32 (by decide) rfl (by omega) (by decide) ?_
      refine aw_aload_n d_M_keep_33 rfl ?_
      refine mm_getr (t := 64) f_M_66 d_M_keep_34 (by decide) rfl rfl rfl ?_
      refine aw_iload_n d_M_keep_37 rfl ?_
      refine aw_aload_n d_M_keep_38 rfl ?_
      refine mm_getr (t := 55) f_M_32 d_M_keep_39 (by decide) rfl rfl rfl ?_
      refine aw_iload_n d_M_keep_42 rfl ?_
      refine mm_iald rfl d_M_keep_43 (by decide) rfl (by omega) (by decide) ?_
      rw [ow_u_ne (by decide), cpI_ne (by decide), cpI_ne (by decide)]
      refine mm_iast rfl d_M_keep_44 (by decide) rfl (by omega) (by decide) ?_
      refine aw_iinc (v := nI (i + 1)) d_M_keep_45 rfl (nI_succ i).symm (by decide) ?_
      refine aw_goto (tgt := 15) d_M_keep_48 rfl ?_
      have hst := cpI_st2 (M := (ow_u (ow_u M 48 0 0) 48 20 (M 48 9))) (c0 := 54) (c := 63) (d0 := 55) (d := 64) (i := i) (by decide) (by decide) (by decide) (by decide) (by decide)
      have h9 := ih hi2
      rw [← hst] at h9
      exact h9
  refine aw_aload_n d_M_keep_0 rfl ?_
  refine aw_iconst (v := 0) d_M_keep_1 (by decide) ?_
  refine mm_puti fw_M_84 d_M_keep_2 (by decide) rfl rfl rfl rfl ?_
  refine aw_aload_n d_M_keep_5 rfl ?_
  refine aw_aload_n d_M_keep_6 rfl ?_
  refine mm_geti f_M_25 d_M_keep_7 (by decide) rfl rfl ?_
  refine mm_puti fw_M_60 d_M_keep_10 (by decide) rfl rfl rfl rfl ?_
  refine aw_iconst (v := 0) d_M_keep_13 (by decide) ?_
  refine aw_istore_n d_M_keep_14 (by decide) ?_
  have h := l1 0 (by omega)
  rw [cpI_0, cpI_0] at h
  exact h
theorem t_M_rollBack (hq : Q (.inl (some (nI (cn (fun r => decide (0 < (fgM (mrb M)) 54 r)) 24)))) (mm ((fgM (mrb M))) K b)) : MT l Y_M_rollBack (1, 14) [.ref 48] (mm M K b) Q := by
  refine mt_of (k := 1) (by decide) cd_M_rollBack.1 (by simp [Value.category]) rfl ?_
  have l4 : ∀ i, i ≤ 5 → AW l Y_M_rollBack none (1, 14) Q 117 [some (.ref 48), some (.int (nI i))] [] (mm (cpI (cpI (cpI (cpI (cpI (cpI (ow_u (ow_u M 48 0 0) 48 9 (M 48 20)) 63 54 24) 64 55 24) 65 56 72) 66 57 120) 67 58 120) 68 59 i) K b) := by
    refine loop_dn 5 (fun i hi ih => ?_)
    refine aw_iload_n d_M_rollBack_117 rfl ?_
    refine aw_iconst (v := 5) d_M_rollBack_118 (by decide) ?_
    refine aw_icmp_ge (tgt := 140) d_M_rollBack_119 rfl (fun g119 => ?_) (fun g119 => ?_)
    · have hi2 := ge_n (n := 5) rfl hi (by omega) g119
      subst hi2
      refine aw_aload_n d_M_rollBack_140 rfl ?_
      refine aw_cV0 (d' := (0, 0)) d_M_rollBack_141 lk_M_81 cd_M_forget (Nat.le_of_ble_eq_true rfl) rfl rfl ⟨Nat.le_of_ble_eq_true rfl, Nat.le_of_ble_eq_true rfl⟩ (fun _ h => nomatch h) ?_
      refine t_M_forget ?_
      refine ow_next_v ?_
      refine aw_aload_n d_M_rollBack_144 rfl ?_
      refine aw_cV0 (d' := (0, 0)) d_M_rollBack_145 lk_M_184 cd_M_records (Nat.le_of_ble_eq_true rfl) rfl rfl ⟨Nat.le_of_ble_eq_true rfl, Nat.le_of_ble_eq_true rfl⟩ (fun _ h => nomatch h) ?_
      refine t_M_records ?_
      refine ow_next_i ?_
      refine aw_iret d_M_rollBack_148 rfl rfl ?_
      exact hq
    · have hi2 := lt_n (n := 5) rfl hi (by omega) g119
      refine aw_aload_n d_M_rollBack_122 rfl ?_
      refine mm_getr (t := 59) f_M_44 d_M_rollBack_123 (by decide) rfl rfl rfl ?_
      refine aw_iload_n d_M_rollBack_126 rfl ?_
      refine aw_aload_n d_M_rollBack_127 rfl ?_
      refine mm_getr (t := 68) f_M_78 d_M_rollBack_128 (by decide) rfl rfl rfl ?_
      refine aw_iload_n d_M_rollBack_131 rfl ?_
      refine mm_iald rfl d_M_rollBack_132 (by decide) rfl (by omega) (by decide) ?_
      rw [cpI_ne (by decide)]
      refine mm_iast rfl d_M_rollBack_133 (by decide) rfl (by omega) (by decide) ?_
      refine aw_iinc (v := nI (i + 1)) d_M_rollBack_134 rfl (nI_succ i).symm (by decide) ?_
      refine aw_goto (tgt := 117) d_M_rollBack_137 rfl ?_
      have hst := cpI_st (M := (cpI (cpI (cpI (cpI (cpI (ow_u (ow_u M 48 0 0) 48 9 (M 48 20)) 63 54 24) 64 55 24) 65 56 72) 66 57 120) 67 58 120)) (c0 := 68) (c := 59) (i := i) (by decide)
      have h9 := ih hi2
      rw [← hst] at h9
      exact h9
  have l3 : ∀ i, i ≤ 120 → AW l Y_M_rollBack none (1, 14) Q 79 [some (.ref 48), some (.int (nI i))] [] (mm (cpI (cpI (cpI (cpI (cpI (ow_u (ow_u M 48 0 0) 48 9 (M 48 20)) 63 54 24) 64 55 24) 65 56 72) 66 57 i) 67 58 i) K b) := by
    refine loop_dn 120 (fun i hi ih => ?_)
    refine aw_iload_n d_M_rollBack_79 rfl ?_
    refine aw_bipush (v := 120) d_M_rollBack_80 (by decide) ?_
    refine aw_icmp_ge (tgt := 115) d_M_rollBack_82 rfl (fun g82 => ?_) (fun g82 => ?_)
    · have hi2 := ge_n (n := 120) rfl hi (by omega) g82
      subst hi2
      refine aw_iconst (v := 0) d_M_rollBack_115 (by decide) ?_
      refine aw_istore_n d_M_rollBack_116 (by decide) ?_
      have h := l4 0 (by omega)
      rw [cpI_0] at h
      exact h
    · have hi2 := lt_n (n := 120) rfl hi (by omega) g82
      refine aw_aload_n d_M_rollBack_85 rfl ?_
      refine mm_getr (t := 57) f_M_38 d_M_rollBack_86 (by decide) rfl rfl rfl ?_
      refine aw_iload_n d_M_rollBack_89 rfl ?_
      refine aw_aload_n d_M_rollBack_90 rfl ?_
      refine mm_getr (t := 66) f_M_72 d_M_rollBack_91 (by decide) rfl rfl rfl ?_
      refine aw_iload_n d_M_rollBack_94 rfl ?_
      refine mm_iald rfl d_M_rollBack_95 (by decide) rfl (by omega) (by decide) ?_
      rw [cpI_ne (by decide), cpI_ne (by decide)]
      refine mm_iast rfl d_M_rollBack_96 (by decide) rfl (by omega) (by decide) ?_
      refine aw_aload_n d_M_rollBack_97 rfl ?_
      refine mm_getr (t := 58) f_M_41 d_M_rollBack_98 (by decide) rfl rfl rfl ?_
      refine aw_iload_n d_M_rollBack_101 rfl ?_
      refine aw_aload_n d_M_rollBack_102 rfl ?_
      refine mm_getr (t := 67) f_M_75 d_M_rollBack_103 (by decide) rfl rfl rfl ?_
      refine aw_iload_n d_M_rollBack_106 rfl ?_
      refine mm_iald rfl d_M_rollBack_107 (by decide) rfl (by omega) (by decide) ?_
      rw [ow_u_ne (by decide), cpI_ne (by decide), cpI_ne (by decide)]
      refine mm_iast rfl d_M_rollBack_108 (by decide) rfl (by omega) (by decide) ?_
      refine aw_iinc (v := nI (i + 1)) d_M_rollBack_109 rfl (nI_succ i).symm (by decide) ?_
      refine aw_goto (tgt := 79) d_M_rollBack_112 rfl ?_
      have hst := cpI_st2 (M := (cpI (cpI (cpI (ow_u (ow_u M 48 0 0) 48 9 (M 48 20)) 63 54 24) 64 55 24) 65 56 72)) (c0 := 66) (c := 57) (d0 := 67) (d := 58) (i := i) (by decide) (by decide) (by decide) (by decide) (by decide)
      have h9 := ih hi2
      rw [← hst] at h9
      exact h9
  have l2 : ∀ i, i ≤ 72 → AW l Y_M_rollBack none (1, 14) Q 53 [some (.ref 48), some (.int (nI i))] [] (mm (cpI (cpI (cpI (ow_u (ow_u M 48 0 0) 48 9 (M 48 20)) 63 54 24) 64 55 24) 65 56 i) K b) := by
    refine loop_dn 72 (fun i hi ih => ?_)
    refine aw_iload_n d_M_rollBack_53 rfl ?_
    refine aw_bipush (v := 72) d_M_rollBack_54 (by decide) ?_
    refine aw_icmp_ge (tgt := 77) d_M_rollBack_56 rfl (fun g56 => ?_) (fun g56 => ?_)
    · have hi2 := ge_n (n := 72) rfl hi (by omega) g56
      subst hi2
      refine aw_iconst (v := 0) d_M_rollBack_77 (by decide) ?_
      refine aw_istore_n d_M_rollBack_78 (by decide) ?_
      have h := l3 0 (by omega)
      rw [cpI_0, cpI_0] at h
      exact h
    · have hi2 := lt_n (n := 72) rfl hi (by omega) g56
      refine aw_aload_n d_M_rollBack_59 rfl ?_
      refine mm_getr (t := 56) f_M_35 d_M_rollBack_60 (by decide) rfl rfl rfl ?_
      refine aw_iload_n d_M_rollBack_63 rfl ?_
      refine aw_aload_n d_M_rollBack_64 rfl ?_
      refine mm_getr (t := 65) f_M_69 d_M_rollBack_65 (by decide) rfl rfl rfl ?_
      refine aw_iload_n d_M_rollBack_68 rfl ?_
      refine mm_iald rfl d_M_rollBack_69 (by decide) rfl (by omega) (by decide) ?_
      rw [cpI_ne (by decide)]
      refine mm_iast rfl d_M_rollBack_70 (by decide) rfl (by omega) (by decide) ?_
      refine aw_iinc (v := nI (i + 1)) d_M_rollBack_71 rfl (nI_succ i).symm (by decide) ?_
      refine aw_goto (tgt := 53) d_M_rollBack_74 rfl ?_
      have hst := cpI_st (M := (cpI (cpI (ow_u (ow_u M 48 0 0) 48 9 (M 48 20)) 63 54 24) 64 55 24)) (c0 := 65) (c := 56) (i := i) (by decide)
      have h9 := ih hi2
      rw [← hst] at h9
      exact h9
  have l1 : ∀ i, i ≤ 24 → AW l Y_M_rollBack none (1, 14) Q 15 [some (.ref 48), some (.int (nI i))] [] (mm (cpI (cpI (ow_u (ow_u M 48 0 0) 48 9 (M 48 20)) 63 54 i) 64 55 i) K b) := by
    refine loop_dn 24 (fun i hi ih => ?_)
    refine aw_iload_n d_M_rollBack_15 rfl ?_
    refine aw_bipush (v := 24) d_M_rollBack_16 (by decide) ?_
    refine aw_icmp_ge (tgt := 51) d_M_rollBack_18 rfl (fun g18 => ?_) (fun g18 => ?_)
    · have hi2 := ge_n (n := 24) rfl hi (by omega) g18
      subst hi2
      refine aw_iconst (v := 0) d_M_rollBack_51 (by decide) ?_
      refine aw_istore_n d_M_rollBack_52 (by decide) ?_
      have h := l2 0 (by omega)
      rw [cpI_0] at h
      exact h
    · have hi2 := lt_n (n := 24) rfl hi (by omega) g18
      refine aw_aload_n d_M_rollBack_21 rfl ?_
      refine mm_getr (t := 54) f_M_29 d_M_rollBack_22 (by decide) rfl rfl rfl ?_
      refine aw_iload_n d_M_rollBack_25 rfl ?_
      refine aw_aload_n d_M_rollBack_26 rfl ?_
      refine mm_getr (t := 63) f_M_63 d_M_rollBack_27 (by decide) rfl rfl rfl ?_
      refine aw_iload_n d_M_rollBack_30 rfl ?_
      refine mm_iald rfl d_M_rollBack_31 (by decide) rfl (by omega) (by decide) ?_
      rw [cpI_ne (by decide), cpI_ne (by decide)]
      refine mm_iast rfl d_M_rollBack_32 (by decide) rfl (by omega) (by decide) ?_
      refine aw_aload_n d_M_rollBack_33 rfl ?_
      refine mm_getr (t := 55) f_M_32 d_M_rollBack_34 (by decide) rfl rfl rfl ?_
      refine aw_iload_n d_M_rollBack_37 rfl ?_
      refine aw_aload_n d_M_rollBack_38 rfl ?_
      refine mm_getr (t := 64) f_M_66 d_M_rollBack_39 (by decide) rfl rfl rfl ?_
      refine aw_iload_n d_M_rollBack_42 rfl ?_
      refine mm_iald rfl d_M_rollBack_43 (by decide) rfl (by omega) (by decide) ?_
      rw [ow_u_ne (by decide), cpI_ne (by decide), cpI_ne (by decide)]
      refine mm_iast rfl d_M_rollBack_44 (by decide) rfl (by omega) (by decide) ?_
      refine aw_iinc (v := nI (i + 1)) d_M_rollBack_45 rfl (nI_succ i).symm (by decide) ?_
      refine aw_goto (tgt := 15) d_M_rollBack_48 rfl ?_
      have hst := cpI_st2 (M := (ow_u (ow_u M 48 0 0) 48 9 (M 48 20))) (c0 := 63) (c := 54) (d0 := 64) (d := 55) (i := i) (by decide) (by decide) (by decide) (by decide) (by decide)
      have h9 := ih hi2
      rw [← hst] at h9
      exact h9
  refine aw_aload_n d_M_rollBack_0 rfl ?_
  refine aw_iconst (v := 0) d_M_rollBack_1 (by decide) ?_
  refine mm_puti fw_M_84 d_M_rollBack_2 (by decide) rfl rfl rfl rfl ?_
  refine aw_aload_n d_M_rollBack_5 rfl ?_
  refine aw_aload_n d_M_rollBack_6 rfl ?_
  refine mm_geti f_M_60 d_M_rollBack_7 (by decide) rfl rfl ?_
  refine mm_puti fw_M_25 d_M_rollBack_10 (by decide) rfl rfl rfl rfl ?_
  refine aw_iconst (v := 0) d_M_rollBack_13 (by decide) ?_
  refine aw_istore_n d_M_rollBack_14 (by decide) ?_
  have h := l1 0 (by omega)
  rw [cpI_0, cpI_0] at h
  exact h
end TMod3
