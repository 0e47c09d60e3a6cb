/-! a ring joined, a ring left: the sorted ones stay sorted -/
def JN (A B : ow_A) (tc sc k : Nat) : Prop :=
  (PR A B tc sc) ∧
  (BN A B tc sc k) ∧
  (BR (KA A) (KB B) tc sc k) ∧
  (SR A B tc sc)
theorem JN.p {A B : ow_A} {tc sc k : Nat} (h : JN A B tc sc k) : PR A B tc sc := h.1
theorem JN.n {A B : ow_A} {tc sc k : Nat} (h : JN A B tc sc k) : BN A B tc sc k := h.2.1
theorem JN.kb {A B : ow_A} {tc sc k : Nat} (h : JN A B tc sc k) : BR (KA A) (KB B) tc sc k := h.2.2.1
theorem JN.s {A B : ow_A} {tc sc k : Nat} (h : JN A B tc sc k) : SR A B tc sc := h.2.2.2
def SO1 (A B : ow_A) (s : Nat) : Prop := 10 ≤ A 5 s → SRT (A (15 + s)) (A (11 + sfv A s)) (lsB B s) (mln B s)
def SOx (A B : ow_A) (s p : Nat) : Prop := 10 ≤ A 5 s → ∀ i j, i < j → j < mln B s → ¬ lsB B s i = p → ¬ lsB B s j = p → A (15 + s) (lsB B s i) = A (15 + s) (lsB B s j) → A (11 + sfv A s) (lsB B s i) ≤ A (11 + sfv A s) (lsB B s j)
section Join
variable {A A' B B' : ow_A} {k tc sc s p w : Nat}
theorem PR.sf (h : PR A B tc sc) (hs : s < 5) (h10 : 10 ≤ A 5 s) : s < sc ∧ sfv A s < 3 ∧ nI (sfv A s) < A 2 (A 4 s).toNatClampNeg := by
  rcases h.oo s hs with h1 | ⟨h1, _, _, f, h3, h4, h5⟩
  · exact absurd (Int32.le_trans h10 h1.2) (by decide)
  · have : sfv A s = f := by unfold sfv; rw [h4, nI_clamp (by omega)]
    rw [this]; exact ⟨h1, h3, h5⟩
theorem J2.jn (h : J2 A B tc sc k) : JN A B tc sc k := ⟨h.p, h.b.bn, h.kb, h.s⟩
theorem JN.j2 (h : JN A B tc sc k) (so : ∀ s, s < sc → SO1 A B s) : J2 A B tc sc k := ⟨h.p, h.n.br (fun s hs _ _ h10 => so s hs h10), h.kb, h.s⟩
theorem J2.so1 (h : J2 A B tc sc k) (hs : s < sc) : SO1 A B s := fun h10 => by
  have := h.p.s5
  exact h.b.so s hs (by omega) (h.p.sf (by omega) h10).2.1 h10
theorem SO1.x (h : SO1 A B s) : SOx A B s p := fun h10 i j h1 h2 _ _ he => h h10 i j h1 h2 he
theorem SO1.congr (h : SO1 A B s) (hn : mln B s ≤ 24) (e5 : A' 5 = A 5) (eo : A' (15 + s) = A (15 + s)) (ev : 10 ≤ A 5 s → A' (11 + sfv A s) = A (11 + sfv A s)) (en : mln B' s = mln B s) (el : ∀ j, j < 24 → lsB B' s j = lsB B s j) : SO1 A' B' s := by
  intro h10
  rw [e5] at h10
  have es : sfv A' s = sfv A s := by unfold sfv; rw [e5]
  intro i j hij hj he
  rw [en] at hj
  rw [es, eo, ev h10, el i (by omega), el j (by omega)] at *
  exact h h10 i j hij hj he
theorem SOx.congr (h : SOx A B s p) (hn : mln B s ≤ 24) (e5 : A' 5 = A 5) (eo : A' (15 + s) = A (15 + s)) (ev : 10 ≤ A 5 s → A' (11 + sfv A s) = A (11 + sfv A s)) (en : mln B' s = mln B s) (el : ∀ j, j < 24 → lsB B' s j = lsB B s j) : SOx A' B' s p := by
  intro h10
  rw [e5] at h10
  have es : sfv A' s = sfv A s := by unfold sfv; rw [e5]
  intro i j hij hj n1 n2 he
  rw [en] at hj
  rw [el i (by omega)] at n1 he ⊢
  rw [el j (by omega)] at n2 he ⊢
  rw [eo] at he
  rw [es, ev h10]
  exact h h10 i j hij hj n1 n2 he
theorem BN.val (h : BN A B tc sc k) (hP : PR A B tc sc) (hs : s < 5) (h10 : 10 ≤ A 5 s) {q : Nat} (hq : q < 24) (ha : ¬ A 8 q = 0) (ht : A 9 q = A 4 s) : A (11 + sfv A s) q = B 56 (3 * q + sfv A s) :=
  h.fd q hq ha _ (hP.sf hs h10).2.1 (by rw [ht]; exact (hP.sf hs h10).2.2)
theorem join_ok (h : BN A B tc sc k) (hP : PR A B tc sc) (hs5 : s < 5) (hsc : s < sc) (so : SO1 A B s) (su : A 47 s = B 61 s) (pl : plc (A 47 s)) (hp : p < 24) (hm : A (15 + s) p = -1) (hal : ¬ A 8 p = 0) (hty : A 9 p = A 4 s) (hw : w < 24) (hwa : ¬ A 8 w = 0) (hwt : A 9 w = A 3 s) :
    JnOK B s p (nI w) ∧ BN (jonM A s p (nI w)) (mjn B s p (nI w)) tc sc k ∧ SO1 (jonM A s p (nI w)) (mjn B s p (nI w)) s ∧
    ∀ s', s' < 5 → s' ≠ s → mln (mjn B s p (nI w)) s' = mln B s' ∧ ∀ j, j < 24 → lsB (mjn B s p (nI w)) s' j = lsB B s' j := by
  have hr := h.rg s hs5
  obtain ⟨a, ha, h1, h2, h3⟩ := place h hs5 hp hw su pl (hP.od s hs5) (hP.ord s hs5) (fun h10 q hq he => by
    rcases he with he | he
    · rcases h.wv s hs5 q hq with e | ⟨_, e1, e2, _⟩
      · rw [e] at he; exact absurd he.symm (nI_m1 (by omega))
      · exact h.val hP hs5 h10 hq e1 e2
    · subst he; exact h.val hP hs5 h10 hp hal hty) so
  obtain ⟨j1, j2, ⟨l0, l1, l2, l3⟩, j4⟩ := h.join hs5 hsc hp hm hal hty hw hwa hwt ha h1 h2
  refine ⟨j1, j2, ?_, j4⟩
  have hta : ∀ c, c ≠ 15 + s → c ≠ 21 + s → jonM A s p (nI w) c = A c := fun c h1 h2 => putM_ne h1 h2
  intro h10
  rw [hta 5 (by omega) (by omega)] at h10
  have hf := (hP.sf hs5 h10).2.1
  have es : sfv (jonM A s p (nI w)) s = sfv A s := by unfold sfv; rw [hta 5 (by omega) (by omega)]
  rw [es, hta (11 + sfv A s) (by omega) (by omega), l0]
  obtain ⟨c1, c2⟩ := h3 h10
  exact SRT.ins (so h10) (fun j hj e => (hr.2.1 j hj).2 (by rw [e]; exact hm)) ha (by unfold jonM; rw [put_own, if_pos rfl]) (fun q hq => by unfold jonM; rw [put_own, if_neg hq]) l1 l2 l3 c1 c2
theorem leave_ok (h : BN A B tc sc k) (hP : PR A B tc sc) (hs5 : s < 5) (so : SOx A B s p) (hp : p < 24) (hm : ¬ A (15 + s) p = -1) :
    LvOK B s p ∧ BN (takM A s p) (mlv B s p) tc sc k ∧ SO1 (takM A s p) (mlv B s p) s ∧
    ∀ s', s' < 5 → s' ≠ s → mln (mlv B s p) s' = mln B s' ∧ ∀ j, j < 24 → lsB (mlv B s p) s' j = lsB B s' j := by
  have hr := h.rg s hs5
  obtain ⟨j1, j2, ⟨a, ha, ea, l0, l1, l3⟩, j4⟩ := h.leave hs5 hp hm
  refine ⟨j1, j2, ?_, j4⟩
  have hta : ∀ c, c ≠ 15 + s → c ≠ 21 + s → takM A s p c = A c := fun c h1 h2 => takM_ne h1 h2
  intro h10
  rw [hta 5 (by omega) (by omega)] at h10
  have hf := (hP.sf hs5 h10).2.1
  have es : sfv (takM A s p) s = sfv A s := by unfold sfv; rw [hta 5 (by omega) (by omega)]
  rw [es, hta (11 + sfv A s) (by omega) (by omega), l0]
  exact SRT.rem (p := p) (so h10) (fun j hj hne e => hne (hr.2.2.1 j a hj ha (by rw [e, ea]))) ha (fun q hq => by rw [tak_own hm, if_neg hq]) l1 l3
theorem SR.own (h : SR A B tc sc) (e : ∀ c, c = 3 ∨ c = 8 ∨ c = 9 ∨ (45 ≤ c ∧ c < 48) → A' c = A c) (eo : ∀ s, s < 5 → ∀ q, q < 24 → ¬ A (15 + s) q = -1 → ¬ A' (15 + s) q = -1) : SR A' B tc sc := by
  have e3 := e 3 (by omega); have e8 := e 8 (by omega); have e9 := e 9 (by omega); have e45 := e 45 (by omega); have e46 := e 46 (by omega); have e47 := e 47 (by omega)
  obtain ⟨h1, h2, h3, h4, h5, h6⟩ := h
  refine ⟨by rw [e45]; exact h1, by rw [e45, e8]; exact h2, by rw [e46]; exact h3, by rw [e46, e8]; exact h4, by rw [e47]; exact h5, ?_⟩
  intro s hs; rw [e47, e8, e9, e3]
  rcases h6 s hs with q | ⟨q1, p, q2, q3, q4, q5⟩
  · exact Or.inl q
  · exact Or.inr ⟨q1, p, q2, q3, q4, q5.imp id (eo s hs p q2)⟩
theorem SR.pl (h : SR A B tc sc) (hs : s < 5) : plc (A 47 s) := by
  rcases h.sl s hs with e | ⟨_, c, h1, h2, _⟩
  · exact Or.inl e
  · exact Or.inr ⟨c, h1, h2⟩
theorem JN.join (h : JN A B tc sc k) (hs5 : s < 5) (hsc : s < sc) (so : SO1 A B s) (hp : p < 24) (hm : A (15 + s) p = -1) (hal : ¬ A 8 p = 0) (hty : A 9 p = A 4 s) (hw : w < 24) (hwa : ¬ A 8 w = 0) (hwt : A 9 w = A 3 s) :
    JnOK B s p (nI w) ∧ JN (jonM A s p (nI w)) (mjn B s p (nI w)) tc sc k ∧ SO1 (jonM A s p (nI w)) (mjn B s p (nI w)) s ∧
    ∀ s', s' < 5 → s' ≠ s → mln (mjn B s p (nI w)) s' = mln B s' ∧ ∀ j, j < 24 → lsB (mjn B s p (nI w)) s' j = lsB B s' j := by
  obtain ⟨j1, j2, j3, j4⟩ := join_ok h.n h.p hs5 hsc so (h.s.su s hs5) (h.s.pl hs5) hp hm hal hty hw hwa hwt
  have hta : ∀ c, c ≠ 15 + s → c ≠ 21 + s → jonM A s p (nI w) c = A c := fun c h1 h2 => putM_ne h1 h2
  have htb : ∀ c, c ≠ 57 → c ≠ 58 → c ≠ 59 → mjn B s p (nI w) c = B c := fun c h1 h2 h3 => mjn_ne h1 h2 h3
  have e48 := htb 48 (by decide) (by decide) (by decide)
  refine ⟨j1, ⟨(h.p.congrA (fun c hc => hta c (by omega) (by omega))).congrB ⟨by rw [e48], by rw [e48], by rw [e48]⟩ (fun c h1 h2 => htb c (by omega) (by omega) (by omega)), j2,
    (h.kb.keptA (fun c hc => hta c (by omega) (by omega))).keptB (by rw [e48]) (fun c h1 h2 => htb c (by omega) (by omega) (by omega)), ?_⟩, j3, j4⟩
  refine (h.s.own (fun c hc => hta c (by omega) (by omega)) (fun s' hs' q hq hne => ?_)).congrB (by rw [e48]) (htb 60 (by decide) (by decide) (by decide)) (htb 61 (by decide) (by decide) (by decide))
  by_cases e : s' = s
  · subst e; unfold jonM; rw [put_own]
    by_cases e2 : q = p
    · rw [if_pos e2]; exact nI_m1 (by omega)
    · rw [if_neg e2]; exact hne
  · rw [hta _ (by omega) (by omega)]; exact hne
theorem JN.rejoin (h : JN A B tc sc k) (hs5 : s < 5) (hsc : s < sc) (so : SOx A B s p) (hp : p < 24) (hm : ¬ A (15 + s) p = -1) (hw : w < 24) (hwa : ¬ A 8 w = 0) (hwt : A 9 w = A 3 s) :
    LvOK B s p ∧ JnOK (mlv B s p) s p (nI w) ∧ JN (jonM (takM A s p) s p (nI w)) (mjn (mlv B s p) s p (nI w)) tc sc k ∧ SO1 (jonM (takM A s p) s p (nI w)) (mjn (mlv B s p) s p (nI w)) s ∧
    ∀ s', s' < 5 → s' ≠ s → mln (mjn (mlv B s p) s p (nI w)) s' = mln B s' ∧ ∀ j, j < 24 → lsB (mjn (mlv B s p) s p (nI w)) s' j = lsB B s' j := by
  obtain ⟨i1, i2, i3, i4⟩ := leave_ok h.n h.p hs5 so hp hm
  have hta1 : ∀ c, c ≠ 15 + s → c ≠ 21 + s → takM A s p c = A c := fun c h1 h2 => takM_ne h1 h2
  have htb1 : ∀ c, c ≠ 57 → c ≠ 58 → c ≠ 59 → mlv B s p c = B c := fun c h1 h2 h3 => mlv_ne h1 h2 h3
  have e48 := htb1 48 (by decide) (by decide) (by decide)
  have hP1 : PR (takM A s p) (mlv B s p) tc sc := (h.p.congrA (fun c hc => hta1 c (by omega) (by omega))).congrB ⟨by rw [e48], by rw [e48], by rw [e48]⟩ (fun c h1 h2 => htb1 c (by omega) (by omega) (by omega))
  obtain ⟨m1, m2, m3, m4⟩ := (h.n.wv s hs5 p hp).resolve_left hm
  obtain ⟨j1, j2, j3, j4⟩ := join_ok i2 hP1 hs5 hsc i3 (by rw [hta1 47 (by omega) (by omega), htb1 61 (by decide) (by decide) (by decide)]; exact h.s.su s hs5) (by rw [hta1 47 (by omega) (by omega)]; exact h.s.pl hs5) hp (by rw [tak_own hm, if_pos rfl]) (by rw [hta1 8 (by omega) (by omega)]; exact m2) (by rw [hta1 9 (by omega) (by omega), hta1 4 (by omega) (by omega)]; exact m3) hw (by rw [hta1 8 (by omega) (by omega)]; exact hwa) (by rw [hta1 9 (by omega) (by omega), hta1 3 (by omega) (by omega)]; exact hwt)
  have hta : ∀ c, c ≠ 15 + s → c ≠ 21 + s → jonM (takM A s p) s p (nI w) c = A c := fun c h1 h2 => (putM_ne h1 h2).trans (hta1 c h1 h2)
  have htb : ∀ c, c ≠ 57 → c ≠ 58 → c ≠ 59 → mjn (mlv B s p) s p (nI w) c = B c := fun c h1 h2 h3 => (mjn_ne h1 h2 h3).trans (htb1 c h1 h2 h3)
  have f48 := htb 48 (by decide) (by decide) (by decide)
  refine ⟨i1, j1, ⟨(h.p.congrA (fun c hc => hta c (by omega) (by omega))).congrB ⟨by rw [f48], by rw [f48], by rw [f48]⟩ (fun c h1 h2 => htb c (by omega) (by omega) (by omega)), j2,
    (h.kb.keptA (fun c hc => hta c (by omega) (by omega))).keptB (by rw [f48]) (fun c h1 h2 => htb c (by omega) (by omega) (by omega)), ?_⟩, j3, fun s' hs' hne => ⟨(j4 s' hs' hne).1.trans (i4 s' hs' hne).1, fun j hj => ((j4 s' hs' hne).2 j hj).trans ((i4 s' hs' hne).2 j hj)⟩⟩
  refine (h.s.own (fun c hc => hta c (by omega) (by omega)) (fun s' hs' q hq hne => ?_)).congrB (by rw [f48]) (htb 60 (by decide) (by decide) (by decide)) (htb 61 (by decide) (by decide) (by decide))
  by_cases e : s' = s
  · subst e; unfold jonM; rw [put_own]
    by_cases e2 : q = p
    · rw [if_pos e2]; exact nI_m1 (by omega)
    · rw [if_neg e2, tak_own hm, if_neg e2]; exact hne
  · rw [hta _ (by omega) (by omega)]; exact hne
/-- one set has changed, the others stay sorted -/
theorem JN.others (h : J2 A B tc sc k) (h' : JN A' B' tc sc k) (so : SO1 A' B' s) (hta : ∀ c, c ≠ 15 + s → c ≠ 21 + s → c < 26 → A' c = A c) (ho : ∀ s', s' < 5 → s' ≠ s → mln B' s' = mln B s' ∧ ∀ j, j < 24 → lsB B' s' j = lsB B s' j) : J2 A' B' tc sc k := by
  have h5 := h.p.s5
  refine h'.j2 (fun s' hs' => ?_)
  by_cases e : s' = s
  · subst e; exact so
  · exact (h.so1 hs').congr ((h.b.rg s' (by omega)).1) (hta 5 (by omega) (by omega) (by omega)) (hta _ (by omega) (by omega) (by omega)) (fun h10 => by have := (h.p.sf (by omega) h10).2.1; exact hta _ (by omega) (by omega) (by omega)) (ho s' (by omega) e).1 (ho s' (by omega) e).2
theorem J2.join (h : J2 A B tc sc k) (hsc : s < sc) (hp : p < 24) (hm : A (15 + s) p = -1) (hal : ¬ A 8 p = 0) (hty : A 9 p = A 4 s) (hw : w < 24) (hwa : ¬ A 8 w = 0) (hwt : A 9 w = A 3 s) :
    JnOK B s p (nI w) ∧ J2 (jonM A s p (nI w)) (mjn B s p (nI w)) tc sc k := by
  have h5 := h.p.s5
  obtain ⟨j1, j2, j3, j4⟩ := h.jn.join (by omega) hsc (h.so1 hsc) hp hm hal hty hw hwa hwt
  exact ⟨j1, JN.others h j2 j3 (fun c h1 h2 _ => putM_ne h1 h2) j4⟩
theorem J2.rejoin (h : J2 A B tc sc k) (hsc : s < sc) (hp : p < 24) (hm : ¬ A (15 + s) p = -1) (hw : w < 24) (hwa : ¬ A 8 w = 0) (hwt : A 9 w = A 3 s) :
    LvOK B s p ∧ JnOK (mlv B s p) s p (nI w) ∧ J2 (jonM (takM A s p) s p (nI w)) (mjn (mlv B s p) s p (nI w)) tc sc k := by
  have h5 := h.p.s5
  obtain ⟨j0, j1, j2, j3, j4⟩ := h.jn.rejoin (by omega) hsc (h.so1 hsc).x hp hm hw hwa hwt
  exact ⟨j0, j1, JN.others h j2 j3 (fun c h1 h2 _ => (putM_ne h1 h2).trans (takM_ne h1 h2)) j4⟩
/-- the current owner of a set lives and is of the owner's type -/
theorem J2.owner (h : J2 A B tc sc k) (hs : s < 5) (hc : ¬ co A s = -1) : ∃ w, w < 24 ∧ co A s = nI w ∧ ¬ A 8 w = 0 ∧ A 9 w = A 3 s := by
  obtain ⟨hsc, c, hc24, ec, ecl, hal, h1 | h1⟩ := h.cur hs (fun e => hc ((h.co1 hs).mpr e))
  · exact ⟨c, hc24, h1.2.1, hal, h1.1⟩
  · obtain ⟨_, _, _, o, q2, q3, q4, q5⟩ := h.b.mem hs hc24 h1.2.1
    exact ⟨o, q2, by rw [h1.2.2.1]; exact q3, q4, q5⟩
/-- the refusal of an equal -/
theorem mRf_iff {o r v : Int32} : ∀ n, mRf B s o r v n = true ↔ 30 ≤ B 52 s ∧ ∃ q, q < n ∧ 0 < B 54 q ∧ ¬ nI q = r ∧ B 57 (24 * s + q) = o ∧ B 56 (3 * q + sfm B s) = v := by
  intro n
  induction n with
  | zero => simp [mRf]
  | succ n ih =>
    simp only [mRf, Bool.or_eq_true, ih, decide_eq_true_eq]
    constructor
    · rintro (⟨h1, q, h2, h3⟩ | ⟨h1, h2⟩)
      · exact ⟨h1, q, by omega, h3⟩
      · exact ⟨h1, n, by omega, h2⟩
    · rintro ⟨h1, q, h2, h3⟩
      by_cases e : q = n
      · subst e; exact Or.inr ⟨h1, h3⟩
      · exact Or.inl ⟨h1, q, by omega, h3⟩
theorem BN.alive (h : BN A B tc sc k) (hk : k < 1000) {p : Nat} (hp : p < 24) : 0 < B 54 p ↔ ¬ A 8 p = 0 := by
  rw [← h.ky p hp]
  obtain ⟨m, _, m2, _, _, m5⟩ := h.nk
  obtain ⟨j, hj, ej⟩ := m5 p hp
  rw [ej]
  constructor
  · intro g e; rw [e] at g; exact absurd g (by decide)
  · intro hne
    have hj0 : 0 < j := by
      rcases Nat.eq_zero_or_pos j with e | e
      · subst e; exact absurd rfl hne
      · exact e
    exact (nI_ltI (a := 0) (by decide) (by omega)).mpr hj0
theorem le30 {x : Int32} (h : 30 ≤ x) : 10 ≤ x := Int32.le_trans (by decide) h
theorem rf_ne (h : BN A B tc sc k) (hP : PR A B tc sc) (hk : k < 1000) (hs : s < 5) {o r v : Int32} (ho : ¬ o = -1) : mRf B s o r v 24 = true ↔ NE A s r o v := by
  rw [mRf_iff]
  unfold NE
  rw [← hP.od s hs]
  have hsf : sfm B s = sfv A s := by unfold sfm sfv; rw [hP.od s hs]
  rw [hsf]
  constructor
  · rintro ⟨h1, q, h2, h3, h4, h5, h6⟩
    rw [← h.ow s hs q h2] at h5
    rcases h.wv s hs q h2 with e | ⟨_, e1, e2, _⟩
    · rw [e] at h5; exact absurd h5.symm ho
    · exact ⟨h1, q, h2, h4, h5, by rw [h.val hP hs (le30 h1) h2 e1 e2]; exact h6⟩
  · rintro ⟨h1, q, h2, h4, h5, h6⟩
    rcases h.wv s hs q h2 with e | ⟨_, e1, e2, _⟩
    · rw [e] at h5; exact absurd h5.symm ho
    · exact ⟨h1, q, h2, (h.alive hk h2).mpr e1, h4, by rw [← h.ow s hs q h2]; exact h5, by rw [← h.val hP hs (le30 h1) h2 e1 e2]; exact h6⟩
theorem rf_p (h : BN A B tc sc k) (hP : PR A B tc sc) (hk : k < 1000) (hs : s < 5) {o : Int32} (ho : ¬ o = -1) (hv : 10 ≤ A 5 s → A (11 + sfv A s) p = B 56 (3 * p + sfv A s)) : mRf B s o (nI p) (mvl B s p) 24 = true ↔ NE A s (nI p) o (A (11 + sfv A s) p) := by
  rw [rf_ne h hP hk hs ho]
  by_cases g : 30 ≤ A 5 s
  · have hsf : sfm B s = sfv A s := by unfold sfm sfv; rw [hP.od s hs]
    have : mvl B s p = A (11 + sfv A s) p := by
      unfold mvl; rw [← hP.od s hs, if_neg (Int32.not_lt.mpr (le30 g)), hsf, hv (le30 g)]
    rw [this]
  · exact ⟨fun q => absurd q.1 g, fun q => absurd q.1 g⟩
theorem bf_of {b : Bool} {P : Prop} (h : b = true ↔ P) : b = false ↔ ¬ P := by
  rw [← h]; exact (Bool.not_eq_true b).symm ▸ Iff.rfl
end Join
