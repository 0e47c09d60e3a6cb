/-! the calls that change little -/
section Easy
variable {A A' B B' : ow_A} {k : Nat}
theorem RK.congr {own own' pos pos' : Nat → Int32} {ls ls' : Nat → Nat} {n : Nat} (h : RK own pos ls n) (e1 : ∀ p, p < 24 → own' p = own p) (e2 : ∀ p, p < 24 → pos' p = pos p) (e3 : ∀ j, j < n → ls' j = ls j) : RK own' pos' ls' n := by
  obtain ⟨h1, h2, h3, h4, h5, h6⟩ := h
  refine ⟨h1, ?_, ?_, ?_, ?_, ?_⟩
  · intro j hj; rw [e3 j hj, e1 _ (h2 j hj).1]; exact h2 j hj
  · intro i j hi hj he; rw [e3 i hi, e3 j hj] at he; exact h3 i j hi hj he
  · intro p hp hne; rw [e1 p hp] at hne
    obtain ⟨j, hj, ej⟩ := h4 p hp hne
    exact ⟨j, hj, by rw [e3 j hj]; exact ej⟩
  · intro j hj
    rw [e3 j hj, e2 _ (h2 j hj).1, e1 _ (h2 j hj).1, h5 j hj]
    congr 1
    exact (cn_congr j (fun i hi => by rw [e3 i (by omega), e1 _ (h2 i (by omega)).1])).symm
  · intro p hp he; rw [e1 p hp] at he; rw [e2 p hp]; exact h6 p hp he
theorem SRT.congr {own own' val val' : Nat → Int32} {ls ls' : Nat → Nat} {n : Nat} (h : SRT own val ls n) (hl : ∀ j, j < n → ls j < 24) (e1 : ∀ p, p < 24 → own' p = own p) (e2 : ∀ p, p < 24 → val' p = val p) (e3 : ∀ j, j < n → ls' j = ls j) : SRT own' val' ls' n := by
  intro i j hij hj he
  rw [e3 i (by omega), e3 j hj] at he ⊢
  rw [e1 _ (hl i (by omega)), e1 _ (hl j hj)] at he
  rw [e2 _ (hl i (by omega)), e2 _ (hl j hj)]
  exact h i j hij hj he
theorem BR.congrP {tc sc : Nat} (h : BR A B tc sc k) (a2 : ∀ t, t < 4 → A' 2 t = A 2 t) (a3 : ∀ s, s < 5 → A' 3 s = A 3 s ∧ A' 4 s = A 4 s ∧ A' 5 s = A 5 s) (a7 : A' 7 0 = A 7 0 ∧ A' 7 1 = A 7 1) (a8 : ∀ p, p < 24 → A' 8 p = A 8 p ∧ A' 9 p = A 9 p) (af : ∀ f, f < 3 → ∀ p, p < 24 → A' (11 + f) p = A (11 + f) p) (ao : ∀ s, s < 5 → ∀ p, p < 24 → A' (15 + s) p = A (15 + s) p ∧ A' (21 + s) p = A (21 + s) p)
    (b9 : B' 48 9 = B 48 9) (b4 : ∀ p, p < 24 → B' 54 p = B 54 p ∧ B' 55 p = B 55 p) (b6 : ∀ j, j < 72 → B' 56 j = B 56 j) (b7 : ∀ j, j < 120 → B' 57 j = B 57 j ∧ B' 58 j = B 58 j) (b10 : ∀ s, s < 5 → B' 59 s = B 59 s) : BR A' B' tc sc k := by
  obtain ⟨h1, h2, h3, h4, h5, h6, h7, h8, h9, h10, ⟨m, m1, m2, m3, m4, m5⟩, h12, h13⟩ := h
  have el : ∀ s, s < 5 → mln B' s = mln B s := fun s hs => by unfold mln; rw [b10 s hs]
  have hn : ∀ s, s < 5 → mln B s ≤ 24 := fun s hs => (h9 s hs).1
  have es : ∀ s, s < 5 → ∀ j, j < mln B s → lsB B' s j = lsB B s j := fun s hs j hj => by
    have := hn s hs
    unfold lsB; rw [(b7 (24 * s + j) (by omega)).2]
  refine ⟨?_, ?_, ?_, ?_, ?_, ?_, ?_, ?_, ?_, ?_, ?_, ?_, ?_⟩
  · intro p hp; rw [(a8 p hp).1, (b4 p hp).1]; exact h1 p hp
  · intro p hp; rw [(a8 p hp).2, (b4 p hp).2]; exact h2 p hp
  · intro p hp; rw [(a8 p hp).1, (a8 p hp).2]; exact h3 p hp
  · intro p hp hk f hf hl
    rw [(a8 p hp).1] at hk
    obtain ⟨t, ht, et, _⟩ := h3 p hp
    have ec : (A 9 p).toNatClampNeg = t := by rw [et, nI_clamp (by omega)]
    rw [(a8 p hp).2, ec, a2 t ht] at hl
    rw [af f hf p hp, b6 _ (by omega)]
    exact h4 p hp hk f hf (by rw [ec]; exact hl)
  · intro s hs p hp; rw [(ao s hs p hp).1, (b7 _ (by omega)).1]; exact h5 s hs p hp
  · intro s hs p hp
    rw [(ao s hs p hp).1, (a8 p hp).1, (a8 p hp).2, (a3 s hs).2.1, (a3 s hs).1]
    rcases h6 s hs p hp with q | ⟨q1, q2, q3, o, q4, q5, q6, q7⟩
    · exact Or.inl q
    · exact Or.inr ⟨q1, q2, q3, o, q4, q5, by rw [(a8 o q4).1]; exact q6, by rw [(a8 o q4).2]; exact q7⟩
  · intro j hj; rw [(b7 j hj).2]; exact h7 j hj
  · intro s hs; rw [b10 s hs]; exact h8 s hs
  · intro s hs; rw [el s hs]; exact (h9 s hs).congr (fun p hp => (ao s hs p hp).1) (fun p hp => (ao s hs p hp).2) (es s hs)
  · intro s hs hs5 hf ho
    have ef : sfv A' s = sfv A s := by unfold sfv; rw [(a3 s hs5).2.2]
    rw [ef] at hf ⊢
    rw [(a3 s hs5).2.2] at ho
    rw [el s hs5]
    exact (h10 s hs hs5 hf ho).congr (fun j hj => ((h9 s hs5).2.1 j hj).1) (fun p hp => (ao s hs5 p hp).1) (fun p hp => af _ hf p hp) (es s hs5)
  · exact ⟨m, m1, m2, by rw [a7.2]; exact m3, by rw [b9]; exact m4, fun p hp => by rw [(a8 p hp).1]; exact m5 p hp⟩
  · intro p q hp hq; rw [(a8 p hp).1, (a8 q hq).1]; exact h12 p q hp hq
  · rw [a7.1, h13]; congr 1; exact cn_congr 24 (fun p hp => by rw [(b4 p hp).1])
theorem J2.hs {tc sc : Nat} (h : J2 A B tc sc k) (x : Int32) : HSm B x ↔ HS A x := by unfold HSm HS; rw [h.p.b2, h.p.a2]
theorem J2.ht {tc sc : Nat} (h : J2 A B tc sc k) (x : Int32) : HTm B x ↔ HT A x := by unfold HTm HT; rw [h.p.b1, h.p.a1]
theorem hs_of {tc sc s : Nat} (h : J2 A B tc sc k) (hs : s < sc) : HS A (nI s) := by
  unfold HS; rw [h.p.a2]
  have h5 := h.p.s5
  exact ⟨nI_ge0 (by omega), (nI_ltI (by omega) (by omega)).mpr hs⟩
theorem ht_of {tc sc t : Nat} (h : J2 A B tc sc k) (ht : t < tc) : HT A (nI t) := by
  unfold HT; rw [h.p.a1]
  have h5 := h.p.t4
  exact ⟨nI_ge0 (by omega), (nI_ltI (by omega) (by omega)).mpr ht⟩
theorem plc_m1 {x : Int32} (h : plc x) : x < 0 ↔ x = -1 := by
  rcases h with e | ⟨p, hp, e⟩
  · subst e; exact ⟨fun _ => rfl, fun _ => by decide⟩
  · subst e; exact ⟨fun g => absurd g (Int32.not_lt.mpr (nI_ge0 hp)), fun g => absurd g (nI_m1 (by omega))⟩
theorem plc_0 {x : Int32} (h : plc x) : 0 ≤ x ↔ ¬ x = -1 := by
  rw [← plc_m1 h]; exact Int32.not_lt.symm
theorem J2.coo {tc sc s : Nat} (h : J2 A B tc sc k) (hs : s < 5) : mco B s = co A s := by
  unfold mco co
  rw [← h.s.su s hs]
  rcases h.ci.ofS hs with e | ⟨p, hp, e⟩
  · rw [if_pos (Or.inl (by rw [e]; decide)), if_pos (Or.inl e)]
  · have ec : (A 47 s).toNatClampNeg = p := by rw [e, nI_clamp (by omega)]
    rw [ec, ← h.b.ty p hp, ← h.p.ot s hs, ← h.b.ow s hs p hp]
    by_cases g : A 9 p = A 3 s
    · rw [if_pos (Or.inr g), if_pos (Or.inr g)]
    · rw [if_neg (fun q => q.elim (fun q => absurd q (by rw [e]; exact Int32.not_lt.mpr (nI_ge0 hp))) g), if_neg (fun q => q.elim (fun q => absurd q (by rw [e]; exact nI_m1 (by omega))) g)]
theorem J2.ky {tc sc : Nat} (h : J2 A B tc sc k) {x : Int32} (hx : plc x) : mky B x = kyA A x := by
  unfold mky kyA
  rcases hx with e | ⟨p, hp, e⟩
  · subst e; rw [if_pos (by decide), if_pos rfl]
  · subst e
    rw [if_neg (Int32.not_lt.mpr (nI_ge0 hp)), if_neg (nI_m1 (by omega)), nI_clamp (by omega), h.b.ky p hp]
theorem mrw_no {x : Int32} : ∀ n, (∀ j, j < n → ¬ (0 < x ∧ B 54 j = x)) → mrw B x n = -1 := by
  intro n
  induction n with
  | zero => intro _; rfl
  | succ n ih => intro h; simp only [mrw]; rw [if_neg (h n (by omega)), ih (fun j hj => h j (by omega))]
theorem mrw_is {x : Int32} {p : Nat} (h0 : 0 < x) (hp : B 54 p = x) : ∀ n, p < n → (∀ j, j < n → B 54 j = x → j = p) → mrw B x n = nI p := by
  intro n
  induction n with
  | zero => intro h; omega
  | succ n ih =>
    intro hn hu
    simp only [mrw]
    by_cases e : p = n
    · subst e; rw [if_pos ⟨h0, hp⟩]
    · rw [if_neg (fun q => e (hu n (by omega) q.2).symm), ih (by omega) (fun j hj => hu j (by omega))]
theorem BR.kpos {tc sc : Nat} (h : BR A B tc sc k) (hk : k < 1000) {p : Nat} (hp : p < 24) : 0 ≤ A 8 p ∧ (¬ A 8 p = 0 → 0 < A 8 p) := by
  obtain ⟨m, _, m2, _, _, m5⟩ := h.nk
  obtain ⟨j, hj, ej⟩ := m5 p hp
  have h0 : 0 ≤ nI j := Int32.not_lt.mp (nI_pos (by omega))
  rw [ej]
  refine ⟨h0, fun hne => ?_⟩
  have hj0 : 0 < j := by
    rcases Nat.eq_zero_or_pos j with e | e
    · subst e; exact absurd rfl hne
    · exact e
  exact (nI_ltI (a := 0) (by decide) (by omega)).mpr hj0
theorem BR.alive {tc sc : Nat} (h : BR A B tc sc k) (hk : k < 1000) {p : Nat} (hp : p < 24) : 0 < B 54 p ↔ ¬ A 8 p = 0 := by
  rw [← h.ky p hp]
  constructor
  · intro g e; rw [e] at g; exact absurd g (by decide)
  · exact (h.kpos hk hp).2
theorem BR.rw_none {tc sc : Nat} (h : BR A B tc sc k) {x : Int32} (hn : ∀ j, j < 24 → ¬ KEY A x j) : mrw B x 24 = -1 :=
  mrw_no 24 (fun j hj ⟨q1, q2⟩ => hn j hj ⟨by
    rw [h.ky j hj, q2]; intro e; rw [e] at q1; exact absurd q1 (by decide), by rw [h.ky j hj, q2]⟩)
theorem BR.rw_some {tc sc : Nat} (h : BR A B tc sc k) (hk : k < 1000) {x : Int32} {p : Nat} (hp : p < 24) (hx : KEY A x p) : mrw B x 24 = nI p := by
  refine mrw_is ?_ (by rw [← h.ky p hp, hx.2]) 24 hp ?_
  · rw [← hx.2]; exact (h.kpos hk hp).2 hx.1
  · intro j hj e
    rw [← h.ky j hj] at e
    exact (h.kd p j hp hj (by rw [hx.2, e]) hx.1).symm
/-- coming to a record -/
theorem comS_47 {p : Nat} {stay t : Int32} : ∀ i s, comS A p stay t i 47 s = if s < i ∧ (A 3 s = t ∨ ¬ A (15 + s) p = -1) ∧ ¬ (0 ≤ nI s ∧ ¬ (stay >>> (nI s &&& 31)) &&& 1 = 0) then nI p else A 47 s := by
  intro i
  induction i with
  | zero => intro s; rw [if_neg (by omega)]; rfl
  | succ i ih =>
    intro s
    simp only [comS]
    by_cases e : s = i
    · subst e
      split
      · rename_i g; rw [ow_u_self, if_pos ⟨by omega, g⟩]
      · rename_i g; rw [ih, if_neg (by omega), if_neg (fun q => g q.2)]
    · have : (s < i + 1) ↔ (s < i) := by omega
      simp only [this]
      split
      · rw [ow_u_at e]; exact ih s
      · exact ih s
theorem mcS_61 {r : Nat} {stay : Int32} : ∀ i s, mcS B r stay i 61 s = if s < i ∧ (B 55 r = B 50 s ∨ 0 ≤ B 57 (24 * s + r)) ∧ (stay >>> (nI s &&& 31)) &&& 1 = 0 then nI r else B 61 s := by
  intro i
  induction i with
  | zero => intro s; rw [if_neg (by omega)]; rfl
  | succ i ih =>
    intro s
    simp only [mcS]
    by_cases e : s = i
    · subst e
      rw [ow_u_self, ih, if_neg (show ¬ (s < s ∧ _) by omega)]
      split
      · rename_i g; rw [if_pos ⟨by omega, g⟩]
      · rename_i g; rw [if_neg (fun q => g q.2)]
    · have : (s < i + 1) ↔ (s < i) := by omega
      simp only [this]; rw [ow_u_at e]; exact ih s
theorem mcm_ne {p sc c : Nat} {st : Int32} (h : c ≠ 48) (h2 : c ≠ 60) (h3 : c ≠ 61) : mcm B p st sc c = B c := by
  unfold mcm; rw [mcS_ne h3, ow_u_ne h2, ow_u_ne h]
theorem mcm_48 {p sc j : Nat} {st : Int32} (h : j ≠ 16) : mcm B p st sc 48 j = B 48 j := by
  unfold mcm; rw [mcS_ne (by decide), ow_u_ne (by decide), ow_u_at h]
theorem J2.come {tc sc : Nat} (h : J2 A B tc sc k) {p : Nat} (hp : p < 24) (ha : ¬ A 8 p = 0) (st : Int32) : J2 (comM A p st sc) (mcm B p st sc) tc sc k := by
  have ea : ∀ c, c ≠ 45 → c ≠ 46 → c ≠ 47 → comM A p st sc c = A c := fun c h1 h2 h3 => comM_ne h1 h2 h3
  have eb : ∀ c, c ≠ 48 → c ≠ 60 → c ≠ 61 → mcm B p st sc c = B c := fun c h1 h2 h3 => mcm_ne h1 h2 h3
  obtain ⟨t, ht, et, htc⟩ := h.b.tv p hp
  have ec : (A 9 p).toNatClampNeg = t := by rw [et, nI_clamp (by omega)]
  have ec2 : (B 55 p).toNatClampNeg = t := by rw [← h.b.ty p hp, ec]
  refine ⟨(h.p.congrA (fun c hc => ea c (by omega) (by omega) (by omega))).congrB ⟨mcm_48 (by decide), mcm_48 (by decide), mcm_48 (by decide)⟩ (fun c h1 h2 => eb c (by omega) (by omega) (by omega)),
    (h.b.congrA (fun c h1 h2 _ _ _ _ => ea c (by omega) (by omega) (by omega))).congrB (mcm_48 (by decide)) (fun c h1 h2 => eb c (by omega) (by omega) (by omega)),
    (h.kb.keptA (fun c hc => ea c (by omega) (by omega) (by omega))).keptB (mcm_48 (by decide)) (fun c h1 h2 => eb c (by omega) (by omega) (by omega)), ?_⟩
  have e8 : comM A p st sc 8 = A 8 := ea 8 (by decide) (by decide) (by decide)
  have e45 : comM A p st sc 45 0 = nI p := by
    unfold comM; rw [comS_ne (by decide), ow_u_ne (by decide), ow_u_self]
  have e46 : ∀ t', comM A p st sc 46 t' = if t' = t then nI p else A 46 t' := by
    intro t'
    unfold comM; rw [comS_ne (by decide), ec]
    by_cases e : t' = t
    · subst e; rw [ow_u_self, if_pos rfl]
    · rw [ow_u_at e, if_neg e, ow_u_ne (by decide)]
  have e60 : ∀ t', mcm B p st sc 60 t' = if t' = t then nI p else B 60 t' := by
    intro t'
    unfold mcm; rw [mcS_ne (by decide), ec2]
    by_cases e : t' = t
    · subst e; rw [ow_u_self, if_pos rfl]
    · rw [ow_u_at e, if_neg e, ow_u_ne (by decide)]
  have e47 : ∀ s, s < 5 → comM A p st sc 47 s = if s < sc ∧ (A 3 s = A 9 p ∨ ¬ A (15 + s) p = -1) ∧ (st >>> (nI s &&& 31)) &&& 1 = 0 then nI p else A 47 s := by
    intro s hs
    unfold comM
    rw [comS_47, ow_u_ne (by decide), ow_u_ne (by decide), ow_u_ne (by omega), ow_u_ne (by omega), ow_u_ne (by decide), ow_u_ne (by decide)]
    have : (¬ (0 ≤ nI s ∧ ¬ (st >>> (nI s &&& 31)) &&& 1 = 0)) ↔ (st >>> (nI s &&& 31)) &&& 1 = 0 := by
      constructor
      · intro g; exact Decidable.byContradiction (fun q => g ⟨nI_ge0 (by omega), q⟩)
      · intro g q; exact q.2 g
    simp only [this]
  have e61 : ∀ s, s < 5 → mcm B p st sc 61 s = if s < sc ∧ (A 3 s = A 9 p ∨ ¬ A (15 + s) p = -1) ∧ (st >>> (nI s &&& 31)) &&& 1 = 0 then nI p else B 61 s := by
    intro s hs
    unfold mcm
    rw [mcS_61, ow_u_ne (by decide), ow_u_ne (by decide), ow_u_ne (by decide), ow_u_ne (by decide), ow_u_ne (by decide), ow_u_ne (by decide), ow_u_ne (by decide), ow_u_ne (by decide)]
    have g1 : (B 55 p = B 50 s) ↔ (A 3 s = A 9 p) := by
      rw [← h.b.ty p hp, ← h.p.ot s hs]; exact ⟨fun e => e.symm, fun e => e.symm⟩
    have g2 : (0 ≤ B 57 (24 * s + p)) ↔ ¬ A (15 + s) p = -1 := by
      rw [← h.b.ow s hs p hp]; exact plc_0 (h.ci.own hs hp)
    simp only [g1, g2]
  refine ⟨?_, ?_, ?_, ?_, ?_, ?_⟩
  · rw [e45]; unfold mcm; rw [mcS_ne (by decide), ow_u_ne (by decide), ow_u_self]
  · exact Or.inr ⟨p, hp, e45, by rw [e8]; exact ha⟩
  · intro t' ht'; rw [e46, e60, h.s.tu t' ht']
  · intro t' ht'
    rw [e46]
    split
    · rename_i e; subst e; exact Or.inr ⟨htc ha, p, hp, rfl, by rw [e8]; exact ha⟩
    · rw [e8]; exact h.s.tl t' ht'
  · intro s hs; rw [e47 s hs, e61 s hs, h.s.su s hs]
  · intro s hs
    rw [e47 s hs, e8, ea 9 (by decide) (by decide) (by decide), ea 3 (by decide) (by decide) (by decide), ea (15 + s) (by omega) (by omega) (by omega)]
    split
    · rename_i g; exact Or.inr ⟨g.1, p, hp, rfl, ha, g.2.1.imp (fun e => e.symm) id⟩
    · exact h.s.sl s hs
theorem J2.hf {tc sc : Nat} (h : J2 A B tc sc k) {p : Nat} (hp : p < 24) (ha : ¬ A 8 p = 0) (f : Int32) : HFm B (B 55 p).toNatClampNeg f ↔ HF A (A 9 p) f := by
  obtain ⟨t, ht, et, htc⟩ := h.b.tv p hp
  have ec : (A 9 p).toNatClampNeg = t := by rw [et, nI_clamp (by omega)]
  have h1 := ht_of h (htc ha)
  unfold HFm HF
  rw [← h.b.ty p hp, ec, ← h.p.fc t ht, et]
  exact ⟨fun g => ⟨h1.1, h1.2, g.1, g.2⟩, fun g => ⟨g.2.2.1, g.2.2.2⟩⟩
theorem comM_hi {p sc c : Nat} {st : Int32} (h : 48 ≤ c) : comM A p st sc c = A c := comM_ne (by omega) (by omega) (by omega)
theorem mcm_lo {p sc c : Nat} {st : Int32} (h : c < 48) : mcm B p st sc c = B c := mcm_ne (by omega) (by omega) (by omega)
theorem cd_lo {c : Nat} {x : Int32} (h : c < 48) : ow_u B 48 0 x c = B c := ow_u_ne (by omega)
/-- come to an existing one, or to none: both sides -/
theorem J2.comeTo {tc sc : Nat} (h : J2 A B tc sc k) {x : Int32} (ho : ∀ p, p < 24 → x = nI p → ¬ A 8 p = 0) : (x = -1 → D_comeTo B sc x (fun _ M2 => M2 48 0 = 2 ∧ ∀ c, c < 48 → M2 c = B c) ∧ J2 A (ow_u B 48 0 2) tc sc k) := by
  intro e
  refine ⟨⟨fun _ => ⟨ow_u_self, fun c hc => cd_lo hc⟩, fun p hp e2 => ?_⟩, h.cd⟩
  rw [e] at e2; exact absurd e2.symm (nI_m1 (by omega))
end Easy
theorem HX_find_ok : HX_find JJ := by
  intro k M x y hk ⟨tc, sc, h⟩
  refine ⟨tc, sc, h.ci, ?_, ?_⟩
  · intro hn
    refine ⟨h.mi, ?_, ?_⟩
    · intro _; exact ⟨ow_u_self, JJ.of (h.cd).up (fun c hc => cd_lo hc)⟩
    · intro p hp e; rw [h.b.rw_none hn] at e; exact absurd e.symm (nI_m1 (by omega))
  · intro p hp hK _
    have h' : J2 M (comM M p y sc) tc sc k := h.congrB (fun c hc => comM_hi hc)
    refine ⟨h'.mi, ?_, ?_⟩
    · intro e; rw [h'.b.rw_some (by omega) hp hK] at e; exact absurd e (nI_m1 (by omega))
    · intro q hq e
      rw [h'.b.rw_some (by omega) hp hK] at e
      have epq := nI_inj hp hq e
      subst epq
      refine ⟨?_, JJ.of ((h'.cd (x := 0)).come hp hK.1 y).up (fun c hc => ?_)⟩
      · rw [mcm_48 (by decide), ow_u_self]
      · rw [mcm_lo hc, cd_lo hc]
theorem HX_current_ok : HX_current JJ := by
  intro k M x y hk ⟨tc, sc, h⟩
  have hh : (x = 0 ∨ (x = 1 ∧ HTm M y) ∨ (x = 2 ∧ HSm M y)) ↔ (x = 0 ∨ (x = 1 ∧ HT M y) ∨ (x = 2 ∧ HS M y)) := by rw [h.ht, h.hs]
  have fin : JJ (k + 1) (ow_u M 48 0 0) := JJ.of (h.cd).up (fun c hc => cd_lo hc)
  refine ⟨tc, sc, h.ci, ?_, ?_, ?_, ?_⟩
  · intro hx
    refine ⟨h.mi, fun _ => ⟨ow_u_self, ?_, fin⟩, fun e => ?_, fun e => ?_, fun e => ?_⟩
    · rw [← h.s.ru]; exact h.ky h.ci.run
    · rw [hx] at e; exact absurd e (by decide)
    · rw [hx] at e; exact absurd e (by decide)
    · exact absurd (Or.inl hx) e
  · intro hx t ht et
    refine ⟨h.mi, fun e => ?_, fun _ t' ht' et' => ⟨ow_u_self, ?_, fin⟩, fun e => ?_, fun e => ?_⟩
    · rw [hx] at e; exact absurd e (by decide)
    · have h4 := h.p.t4
      have ett := nI_inj (by omega) (by omega) (et.symm.trans et')
      subst ett
      rw [← h.s.tu t (by omega)]; exact h.ky (h.ci.ofT (by omega))
    · rw [hx] at e; exact absurd e (by decide)
    · exact absurd (hh.mpr (Or.inr (Or.inl ⟨hx, by rw [et]; exact ht_of h ht⟩))) e
  · intro hx t ht et
    refine ⟨h.mi, fun e => ?_, fun e => ?_, fun _ t' ht' et' => ⟨ow_u_self, ?_, fin⟩, fun e => ?_⟩
    · rw [hx] at e; exact absurd e (by decide)
    · rw [hx] at e; exact absurd e (by decide)
    · have h5 := h.p.s5
      have ett := nI_inj (by omega) (by omega) (et.symm.trans et')
      subst ett
      rw [← h.s.su t (by omega)]; exact h.ky (h.ci.ofS (by omega))
    · exact absurd (hh.mpr (Or.inr (Or.inr ⟨hx, by rw [et]; exact hs_of h ht⟩))) e
  · intro hx
    refine ⟨h.mi, fun e => ?_, fun e t ht et => ?_, fun e t ht et => ?_, fun _ => ⟨ow_u_self, JJ.of (h.cd).up (fun c hc => cd_lo hc)⟩⟩
    · exact absurd (Or.inl e) hx
    · exact absurd (Or.inr (Or.inl ⟨e, by rw [et]; exact ht_of h ht⟩)) hx
    · exact absurd (Or.inr (Or.inr ⟨e, by rw [et]; exact hs_of h ht⟩)) hx
theorem HX_get_ok : HX_get JJ := by
  intro k M x hk ⟨tc, sc, h⟩
  refine ⟨tc, sc, h.ci, h.fc, ?_, ?_⟩
  · intro e
    refine ⟨h.mi, h.fcm, fun _ => ⟨ow_u_self, JJ.of (h.cd).up (fun c hc => cd_lo hc)⟩, fun p hp ep => ?_⟩
    rw [← h.s.ru, e] at ep; exact absurd ep.symm (nI_m1 (by omega))
  · intro p hp ep
    have ha : ¬ M 8 p = 0 := by
      rcases h.s.rl with e | ⟨q, hq, eq, hk⟩
      · rw [e] at ep; exact absurd ep.symm (nI_m1 (by omega))
      · rw [ep] at eq; rw [nI_inj hp hq eq]; exact hk
    have hrun : ∀ q, q < 24 → M 48 16 = nI q → q = p := fun q hq eq => by
      rw [← h.s.ru, ep] at eq; exact (nI_inj hp hq eq).symm
    refine ⟨?_, ?_⟩
    · intro hf
      refine ⟨h.mi, h.fcm, fun e => ?_, fun q hq eq => ?_⟩
      · rw [← h.s.ru, ep] at e; exact absurd e (nI_m1 (by omega))
      · have := hrun q hq eq; subst this
        refine ⟨fun _ => ⟨ow_u_self, JJ.of (h.cd).up (fun c hc => cd_lo hc)⟩, fun n hn en g => ?_⟩
        exact absurd ((h.hf hp ha x).mp g) hf
    · intro n hn en hf
      refine ⟨h.mi, h.fcm, fun e => ?_, fun q hq eq => ?_⟩
      · rw [← h.s.ru, ep] at e; exact absurd e (nI_m1 (by omega))
      · have := hrun q hq eq; subst this
        refine ⟨fun g => absurd ((h.hf hp ha x).mpr hf) g, fun n' hn' en' g => ⟨ow_u_self, ?_, JJ.of (h.cd).up (fun c hc => cd_lo hc)⟩⟩
        have e2 := nI_inj (by omega) (by omega) (en.symm.trans en')
        subst e2
        exact (h.b.fd q hp ha n hn (by rw [← en]; exact hf.2.2.2)).symm
theorem HX_members_ok : HX_members JJ := by
  intro k M x hk ⟨tc, sc, h⟩
  have h5 := h.p.s5
  refine ⟨tc, sc, h.ci, ?_, ?_⟩
  · intro hS
    refine ⟨h.mi, fun _ => ⟨ow_u_self, JJ.of (h.cd).up (fun c hc => cd_lo hc)⟩, fun s hs es => ?_⟩
    exact absurd (by rw [es]; exact hs_of h hs) hS
  · intro s hs es
    have hm := h.coo (s := s) (by omega)
    have hpl := co_plc h.ci (s := s) (by omega)
    have huniq : ∀ s', s' < sc → x = nI s' → s' = s := fun s' hs' es' => (nI_inj (by omega) (by omega) (es.symm.trans es')).symm
    refine ⟨?_, ?_⟩
    · intro hc
      refine ⟨h.mi, fun g => absurd ((h.hs x).mpr (by rw [es]; exact hs_of h hs)) g, fun s' hs' es' => ?_⟩
      have := huniq s' hs' es'; subst this
      refine ⟨fun _ => ⟨ow_u_self, JJ.of (h.cd).up (fun c hc => cd_lo hc)⟩, fun g => ?_⟩
      rw [hm, hc] at g; exact absurd (by decide) g
    · intro hc
      refine ⟨h.mi, fun g => absurd ((h.hs x).mpr (by rw [es]; exact hs_of h hs)) g, fun s' hs' es' => ?_⟩
      have := huniq s' hs' es'; subst this
      refine ⟨fun g => ?_, fun _ => ⟨ow_u_self, ?_, JJ.of (h.cd).up (fun c hc => cd_lo hc)⟩⟩
      · rw [hm, plc_m1 hpl] at g; exact absurd g hc
      · have hm2 := (h.cd (x := 0)).coo (s := s') (by omega)
        unfold msz szr
        rw [hm2]
        congr 1
        exact cn_congr 24 (fun p hp => by rw [(h.cd (x := 0)).b.ow s' (by omega) p hp])
theorem HX_owner_ok : HX_owner JJ := by
  intro k M x y hk ⟨tc, sc, h⟩
  have h5 := h.p.s5
  refine ⟨tc, sc, h.ci, ?_, ?_⟩
  · intro hS
    refine ⟨h.mi, fun _ => ⟨ow_u_self, JJ.of (h.cd).up (fun c hc => cd_lo hc)⟩, fun s hs es => ?_⟩
    exact absurd (by rw [es]; exact hs_of h hs) hS
  · intro s hs es
    have huniq : ∀ s', s' < sc → x = nI s' → s' = s := fun s' hs' es' => (nI_inj (by omega) (by omega) (es.symm.trans es')).symm
    refine ⟨?_, ?_⟩
    · intro hn
      refine ⟨h.mi, fun g => absurd ((h.hs x).mpr (by rw [es]; exact hs_of h hs)) g, fun s' hs' es' => ?_⟩
      refine ⟨fun _ => ⟨ow_u_self, JJ.of (h.cd).up (fun c hc => cd_lo hc)⟩, fun p hp e => ?_⟩
      rw [h.b.rw_none hn] at e; exact absurd e.symm (nI_m1 (by omega))
    · intro p hp hK _
      refine ⟨h.mi, fun g => absurd ((h.hs x).mpr (by rw [es]; exact hs_of h hs)) g, fun s' hs' es' => ?_⟩
      have := huniq s' hs' es'; subst this
      refine ⟨fun e => ?_, fun q hq e => ⟨ow_u_self, ?_, JJ.of (h.cd).up (fun c hc => cd_lo hc)⟩⟩
      · rw [h.b.rw_some (by omega) hp hK] at e; exact absurd e (nI_m1 (by omega))
      · rw [h.b.rw_some (by omega) hp hK] at e
        have := nI_inj hp hq e; subst this
        rw [← h.b.ow s' (by omega) p hp]; exact h.ky (h.ci.own (by omega) hp)
