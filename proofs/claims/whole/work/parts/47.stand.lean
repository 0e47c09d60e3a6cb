/-! stepping back from those that go; leaving a ring; disconnect -/
section Stand
variable {A A' B B' : ow_A} {k tc sc s p : Nat} {g o : Int32}
theorem ow_u_id {c j : Nat} {x : Int32} (h : A c j = x) : ow_u A c j x = A := by
  funext a b
  by_cases e : a = c
  · subst e
    by_cases e2 : b = j
    · subst e2; rw [ow_u_self, h]
    · rw [ow_u_at e2]
  · rw [ow_u_ne e]
/-- the walk down, on both sides -/
theorem walk (h : BR A B tc sc k) (hs : s < 5) (ho : ¬ o = -1) (hz : ∀ q, q < 24 → (B 62 q = 0 ↔ bt g q = false)) : ∀ a, a ≤ mln B s →
    (wlk A s o g (rk (A (15 + s)) (lsB B s) o a) = 0 ∧ mhw B s o a = -1) ∨ ∃ j, j < a ∧ A (15 + s) (lsB B s j) = o ∧ bt g (lsB B s j) = false ∧ wlk A s o g (rk (A (15 + s)) (lsB B s) o a) = rk (A (15 + s)) (lsB B s) o j + 1 ∧ mhw B s o a = nI (lsB B s j) := by
  have hr := h.rg s hs
  have hn := hr.1
  intro a
  induction a with
  | zero => intro _; exact Or.inl ⟨rfl, rfl⟩
  | succ a ih =>
    intro ha
    have ih := ih (by omega)
    have hl := h.lk hs (show a < 24 by omega)
    simp only [mhw]
    rw [h.lo hs (show a < 24 by omega), hl.1, nI_clamp (by omega)]
    have up : ∀ {P : Nat → Prop}, (∃ j, j < a ∧ P j) → ∃ j, j < a + 1 ∧ P j := fun ⟨j, h1, h2⟩ => ⟨j, by omega, h2⟩
    by_cases e : A (15 + s) (lsB B s a) = o
    · rw [rk_s1 e]
      simp only [wlk]
      rw [mat_rk hr ho (show a < mln B s by omega) e]
      by_cases g1 : bt g (lsB B s a) = true
      · rw [if_pos ((hb_n hl.2).mpr g1), if_neg (fun z => by rw [(hz _ hl.2).mp z.2] at g1; exact absurd g1 (by decide))]
        exact ih.imp id up
      · have g2 : bt g (lsB B s a) = false := by simpa using g1
        rw [if_neg (fun z => g1 ((hb_n hl.2).mp z)), if_pos ⟨e, (hz _ hl.2).mpr g2⟩]
        exact Or.inr ⟨a, by omega, e, g2, rfl, rfl⟩
    · rw [rk_s0 e, if_neg (fun z => e z.1)]
      exact ih.imp id up
/-- where a set stands without those that go -/
theorem J2.stand (h : J2 A B tc sc k) (hs : s < 5) (hz : ∀ q, q < 24 → (B 62 q = 0 ↔ bt g q = false)) : sbk A s g 47 s = mhe B s ∧
    (mhe B s = -1 ∨ (s < sc ∧ ∃ c, c < 24 ∧ mhe B s = nI c ∧ ¬ A 8 c = 0 ∧ bt g c = false ∧ (A 9 c = A 3 s ∨ (¬ A (15 + s) c = -1 ∧ ∀ w, w < 24 → A (15 + s) c = nI w → bt g w = false)))) := by
  have h61 := h.s.su s hs
  by_cases hc : A 47 s = -1
  · have e1 : sbk A s g 47 s = -1 := by unfold sbk; rw [if_pos ((h.co1 hs).mpr hc)]; exact hc
    have e2 : mhe B s = -1 := by
      unfold mhe; rw [← h61, hc, if_pos (Or.inl (by decide)), if_neg (fun z => absurd z.1 (by decide))]
    exact ⟨by rw [e1, e2], Or.inl e2⟩
  have hc1 : ¬ co A s = -1 := fun e => hc ((h.co1 hs).mp e)
  have zt : ∀ q, q < 24 → bt g q = true → ¬ B 62 q = 0 := fun q hq hb z => by rw [(hz q hq).mp z] at hb; exact absurd hb (by decide)
  obtain ⟨hsc, c, hc24, ec, ecl, hal, h1 | h1⟩ := h.cur hs hc
  · obtain ⟨q1, q2, q3, q4⟩ := h1
    have eB : B 55 c = B 50 s := by rw [← h.b.ty c hc24, ← h.p.ot s hs]; exact q1
    have e2 : mhe B s = if bt g c = true then -1 else nI c := by
      unfold mhe; rw [← h61, ec, nI_clamp (by omega), if_pos (Or.inr eB)]
      by_cases g1 : bt g c = true
      · rw [if_pos ⟨nI_ge0 hc24, zt c hc24 g1⟩, if_pos g1]
      · rw [if_neg (fun z => z.2 ((hz c hc24).mpr (by simpa using g1))), if_neg g1]
    have e1 : sbk A s g 47 s = if bt g c = true then -1 else nI c := by
      unfold sbk; rw [if_neg hc1, q2]
      by_cases g1 : bt g c = true
      · rw [if_pos ((hb_n hc24).mpr g1), if_pos g1, ow_u_self]
      · rw [if_neg (fun z => g1 ((hb_n hc24).mp z)), if_neg g1, ow_u_self]
        have : cpn A s = 0 := by unfold cpn; rw [ecl, q4]; decide
        rw [this]; rfl
    refine ⟨by rw [e1, e2], ?_⟩
    by_cases g1 : bt g c = true
    · left; rw [e2, if_pos g1]
    · right; exact ⟨hsc, c, hc24, by rw [e2, if_neg g1], hal, by simpa using g1, Or.inl q1⟩
  · obtain ⟨q1, q2, q3, q4, i, hi, ei, hpos, hmp⟩ := h1
    obtain ⟨_, _, _, w, hw, ew, hwa, hwt⟩ := h.b.mem hs hc24 q2
    have hn := (h.b.rg s hs).1
    have hno : ¬ nI w = -1 := nI_m1 (by omega)
    have ecw : co A s = nI w := q3.trans ew
    have eB : ¬ (nI c < 0 ∨ B 55 c = B 50 s) := by
      rintro (z | z)
      · exact nI_pos (by omega) z
      · rw [← h.b.ty c hc24, ← h.p.ot s hs] at z; exact q1 z
    have e57 : B 57 (24 * s + c) = nI w := by rw [← h.b.ow s hs c hc24]; exact ew
    have e2 : mhe B s = if bt g w = true then -1 else if mhw B s (nI w) (i + 1) < 0 then nI w else mhw B s (nI w) (i + 1) := by
      unfold mhe; rw [← h61, ec, nI_clamp (by omega), if_neg eB, e57, nI_clamp (by omega), hmp, nI_clamp (by omega)]
      by_cases g1 : bt g w = true
      · rw [if_pos (zt w hw g1), if_pos g1]
      · rw [if_neg (fun z => z ((hz w hw).mpr (by simpa using g1))), if_neg g1]
    have ecp : cpn A s = rk (A (15 + s)) (lsB B s) (nI w) (i + 1) := by
      unfold cpn; rw [ecl, hpos, ← nI_succ, nI_clamp (by have := rk_sm (own := A (15 + s)) (ls := lsB B s) (o := A (15 + s) c) (a := i) (by omega); have := rk_24 (own := A (15 + s)) (ls := lsB B s) (o := A (15 + s) c) (n := i) (by omega); omega), ew, rk_s1 (by rw [ei]; exact ew)]
    have e1 : sbk A s g 47 s = if bt g w = true then -1 else sbv A s (nI w) (wlk A s (nI w) g (rk (A (15 + s)) (lsB B s) (nI w) (i + 1))) := by
      unfold sbk; rw [if_neg hc1, ecw, ecp]
      by_cases g1 : bt g w = true
      · rw [if_pos ((hb_n hw).mpr g1), if_pos g1, ow_u_self]
      · rw [if_neg (fun z => g1 ((hb_n hw).mp z)), if_neg g1, ow_u_self]
    by_cases g1 : bt g w = true
    · rw [e1, e2, if_pos g1, if_pos g1]; exact ⟨rfl, Or.inl rfl⟩
    · rw [if_neg g1] at e1 e2
      have g2 : bt g w = false := by simpa using g1
      rcases walk h.b hs hno hz (i + 1) (by omega) with ⟨w1, w2⟩ | ⟨j, hj, w1, w2, w3, w4⟩
      · rw [w1] at e1
        rw [w2, if_pos (by decide)] at e2
        refine ⟨by rw [e1, e2]; rfl, Or.inr ⟨hsc, w, hw, e2, hwa, g2, Or.inl hwt⟩⟩
      · have hlj := h.b.lk hs (show j < 24 by omega)
        rw [w3] at e1
        rw [w4, if_neg (nI_pos (by omega))] at e2
        refine ⟨?_, Or.inr ⟨hsc, lsB B s j, hlj.2, e2, ?_, w2, Or.inr ⟨by rw [w1]; exact hno, fun w' hw' e => ?_⟩⟩⟩
        · rw [e1, e2]; unfold sbv; rw [if_neg (by omega)]
          exact mat_rk (h.b.rg s hs) hno (by omega) w1
        · exact (h.b.mem hs hlj.2 (by rw [w1]; exact hno)).2.1
        · rw [w1] at e; rw [← nI_inj hw hw' e]; exact g2
/-- a set's current record, put on both sides -/
theorem J2.put47 (h : J2 A B tc sc k) (hs : s < 5) {x : Int32} (hx : x = -1 ∨ (s < sc ∧ ∃ c, c < 24 ∧ x = nI c ∧ ¬ A 8 c = 0 ∧ (A 9 c = A 3 s ∨ ¬ A (15 + s) c = -1))) : J2 (ow_u A 47 s x) (ow_u B 61 s x) tc sc k := by
  have ea : ∀ c, c ≠ 47 → ow_u A 47 s x c = A c := fun c hc => ow_u_ne hc
  have eb : ∀ c, c ≠ 61 → ow_u B 61 s x c = B c := fun c hc => ow_u_ne hc
  have e48 := eb 48 (by decide)
  refine ⟨(h.p.congrA (fun c hc => ea c (by omega))).congrB ⟨by rw [e48], by rw [e48], by rw [e48]⟩ (fun c h1 h2 => eb c (by omega)),
    (h.b.congrA (fun c h1 h2 _ _ _ _ => ea c (by omega))).congrB (by rw [e48]) (fun c h1 h2 => eb c (by omega)),
    (h.kb.keptA (fun c hc => ea c (by omega))).keptB (by rw [e48]) (fun c h1 h2 => eb c (by omega)), ?_⟩
  obtain ⟨h1, h2, h3, h4, h5, h6⟩ := h.s
  refine ⟨by rw [ea 45 (by decide), e48]; exact h1, by rw [ea 45 (by decide), ea 8 (by decide)]; exact h2, by rw [ea 46 (by decide), eb 60 (by decide)]; exact h3, by rw [ea 46 (by decide), ea 8 (by decide)]; exact h4, fun s' hs' => ?_, fun s' hs' => ?_⟩
  · by_cases e : s' = s
    · subst e; rw [ow_u_self, ow_u_self]
    · rw [ow_u_at e, ow_u_at e]; exact h5 s' hs'
  · rw [ea 8 (by decide), ea 9 (by decide), ea 3 (by decide), ea (15 + s') (by omega)]
    by_cases e : s' = s
    · subst e; rw [ow_u_self]; exact hx
    · rw [ow_u_at e]; exact h6 s' hs'
theorem J2.leave (h : J2 A B tc sc k) (hs5 : s < 5) (hp : p < 24) (hm : ¬ A (15 + s) p = -1) (h47 : ¬ A 47 s = nI p) : LvOK B s p ∧ J2 (takM A s p) (mlv B s p) tc sc k := by
  have hsc := (h.b.mem hs5 hp hm).1
  obtain ⟨j1, j2, j3, j4⟩ := leave_ok h.b.bn h.p hs5 (h.so1 hsc).x hp hm
  have hta : ∀ c, c ≠ 15 + s → c ≠ 21 + s → takM A s p c = A c := fun c h1 h2 => takM_ne h1 h2
  have htb : ∀ c, c ≠ 57 → c ≠ 58 → c ≠ 59 → mlv B s p c = B c := fun c h1 h2 h3 => mlv_ne h1 h2 h3
  have e48 := htb 48 (by decide) (by decide) (by decide)
  refine ⟨j1, JN.others h ⟨(h.p.congrA (fun c hc => hta c (by omega) (by omega))).congrB ⟨by rw [e48], by rw [e48], by rw [e48]⟩ (fun c h1 h2 => htb c (by omega) (by omega) (by omega)), j2,
    (h.kb.keptA (fun c hc => hta c (by omega) (by omega))).keptB (by rw [e48]) (fun c h1 h2 => htb c (by omega) (by omega) (by omega)), ?_⟩ j3 (fun c h1 h2 _ => hta c h1 h2) j4⟩
  have t3 := hta 3 (by omega) (by omega); have t8 := hta 8 (by omega) (by omega); have t9 := hta 9 (by omega) (by omega); have t45 := hta 45 (by omega) (by omega); have t46 := hta 46 (by omega) (by omega); have t47 := hta 47 (by omega) (by omega)
  obtain ⟨h1, h2, h3, h4, h5, h6⟩ := h.s
  refine SR.congrB (B := B) ⟨by rw [t45]; exact h1, by rw [t45, t8]; exact h2, by rw [t46]; exact h3, by rw [t46, t8]; exact h4, by rw [t47]; exact h5, fun s' hs' => ?_⟩ (by rw [e48]) (htb 60 (by decide) (by decide) (by decide)) (htb 61 (by decide) (by decide) (by decide))
  rw [t47, t8, t9, t3]
  by_cases e : s' = s
  · subst e
    rcases h6 s' hs' with q | ⟨q1, c, q2, q3, q4, q5⟩
    · exact Or.inl q
    · refine Or.inr ⟨q1, c, q2, q3, q4, q5.imp id (fun q6 => ?_)⟩
      rw [tak_own hm, if_neg (fun z => h47 (by rw [q3, z]))]; exact q6
  · rw [hta (15 + s') (by omega) (by omega)]; exact h6 s' hs'
/-- only p goes: the model's words for it -/
theorem mhw_one {i : Nat} (hz : ∀ q, q < 24 → (B 62 q = 0 ↔ ¬ q = p)) (hl : ∀ j, j < i → (B 58 (24 * s + j)).toNatClampNeg < 24 ∧ ¬ (B 58 (24 * s + j)).toNatClampNeg = p) : mhw B s o i = mnb B s o i := by
  induction i with
  | zero => rfl
  | succ i ih =>
    simp only [mhw, mnb]
    rw [ih (fun j hj => hl j (by omega))]
    have := hl i (by omega)
    have e := (hz _ this.1).mpr this.2
    simp only [e, and_true]
theorem J2.z62 (h : J2 A B tc sc k) (G : Nat → Int32) : J2 A (gM B G) tc sc k := by
  have eb : ∀ c, c ≠ 62 → gM B G c = B c := fun c hc => gM_ne hc
  have e48 := eb 48 (by decide)
  exact ⟨h.p.congrB ⟨by rw [e48], by rw [e48], by rw [e48]⟩ (fun c h1 h2 => eb c (by omega)), h.b.congrB (by rw [e48]) (fun c h1 h2 => eb c (by omega)), h.kb.keptB (by rw [e48]) (fun c h1 h2 => eb c (by omega)), h.s.congrB (by rw [e48]) (eb 60 (by decide)) (eb 61 (by decide))⟩
theorem mnb_c {M M' : ow_A} (e7 : M' 57 = M 57) (e8 : M' 58 = M 58) : ∀ n, mnb M' s o n = mnb M s o n := by
  intro n
  induction n with
  | zero => rfl
  | succ n ih => simp only [mnb]; rw [e7, e8, ih]
theorem J2.disc (h : J2 A B tc sc k) (hs : s < 5) (hp : p < 24) (hm : ¬ A (15 + s) p = -1) : sbk A s ((1 : Int32) <<< (nI p &&& 31)) = (if A 47 s = nI p then ow_u A 47 s (mhv B s p) else A) ∧
    (A 47 s = nI p → ¬ mhv B s p = nI p ∧ s < sc ∧ ∃ c, c < 24 ∧ mhv B s p = nI c ∧ ¬ A 8 c = 0 ∧ (A 9 c = A 3 s ∨ ¬ A (15 + s) c = -1)) := by
  obtain ⟨hsc, hal, hty, w, hw, ew, hwa, hwt⟩ := h.b.mem hs hp hm
  have hr := h.b.rg s hs
  have hn := hr.1
  have h' := h.z62 (fun q => if q = p then 1 else 0)
  have hz : ∀ q, q < 24 → (gM B (fun q => if q = p then 1 else 0) 62 q = 0 ↔ bt ((1 : Int32) <<< (nI p &&& 31)) q = false) := fun q hq => by
    rw [gM_at, bt_one hp]
    by_cases e : q = p
    · simp [e]
    · simp [e]
  obtain ⟨st1, st2⟩ := h'.stand hs hz
  have nz : bt ((1 : Int32) <<< (nI p &&& 31)) w = false := by
    rw [bt_one hp]
    have : w ≠ p := fun e => h.ne34 hsc (by rw [← hwt, e, hty])
    simp [this]
  have bf : ∀ c, bt ((1 : Int32) <<< (nI p &&& 31)) c = false → ¬ c = p := fun c hb e => by rw [bt_one hp, e] at hb; simp at hb
  -- the whole memory out of the one cell
  have form : ∀ x, sbk A s ((1 : Int32) <<< (nI p &&& 31)) 47 s = x → sbk A s ((1 : Int32) <<< (nI p &&& 31)) = ow_u A 47 s x := by
    intro x hx
    funext a b
    by_cases e : a = 47
    · subst e
      by_cases e2 : b = s
      · subst e2; rw [hx, ow_u_self]
      · rw [sbk_47 e2, ow_u_at e2]
    · rw [sbk_ne e, ow_u_ne e]
  by_cases e47 : A 47 s = nI p
  · -- p is the current one
    have h61 : B 61 s = nI p := by rw [← h.s.su s hs]; exact e47
    obtain ⟨a, ha, ea⟩ := hr.2.2.2.1 p hp hm
    have hmp : mpo B s (nI p) (mln B s) = nI a := by rw [← ea]; exact h.b.mpoo hs ha
    have e57 : B 57 (24 * s + p) = nI w := by rw [← h.b.ow s hs p hp]; exact ew
    have key : mhe (gM B (fun q => if q = p then 1 else 0)) s = mhv B s p := by
      have hmp' : mpo (gM B (fun q => if q = p then 1 else 0)) s (nI p) (mln (gM B (fun q => if q = p then 1 else 0)) s) = nI a := by
        have := h'.b.mpoo hs (i := a) (by rw [mln_c (gM_ne (by decide))]; exact ha)
        rw [lsB_c (gM_ne (by decide)), ea] at this; exact this
      have hls : ∀ j, j < 24 → (gM B (fun q => if q = p then 1 else 0) 58 (24 * s + j)).toNatClampNeg = lsB B s j := fun j hj => by rw [gM_ne (by decide)]; rfl
      unfold mhe mhv mbf
      rw [gM_ne (c := 61) (by decide), gM_ne (c := 55) (by decide), gM_ne (c := 50) (by decide), gM_ne (c := 57) (by decide), h61, nI_clamp (by omega), e57, nI_clamp (by omega)]
      rw [if_neg (fun z => z.elim (nI_pos (by omega)) (fun z => h.ne34 hsc (by rw [h.p.ot s hs, ← z, ← h.b.ty p hp]; exact hty))), if_neg (fun z => z ((hz w hw).mpr nz)), hmp', hmp, nI_clamp (by omega)]
      have e1 : mhw (gM B (fun q => if q = p then 1 else 0)) s (nI w) (a + 1) = mnb B s (nI w) a := by
        simp only [mhw]
        rw [hls a (by omega), ea, if_neg (fun z => by rw [gM_at] at z; simp at z)]
        rw [mhw_one (p := p) (fun q hq => by rw [gM_at]; by_cases e : q = p <;> simp [e]) (fun j hj => ?_)]
        · exact mnb_c (gM_ne (by decide)) (gM_ne (by decide)) a
        · rw [hls j (by omega)]
          refine ⟨(h.b.lk hs (by omega)).2, fun e => ?_⟩
          have := hr.2.2.1 j a (by omega) ha (by rw [e, ea]); omega
      rw [e1]
    rw [if_pos e47, form _ (st1.trans key)]
    refine ⟨rfl, fun _ => ?_⟩
    rw [key] at st2
    rcases st2 with q | ⟨q1, c, q2, q3, q4, q5, q6⟩
    · exfalso
      unfold mhv mbf at q
      rw [e57] at q
      by_cases z : mnb B s (nI w) (mpo B s (nI p) (mln B s)).toNatClampNeg < 0
      · rw [if_pos z] at q; exact nI_m1 (by omega) q
      · rw [if_neg z] at q; rw [q] at z; exact z (by decide)
    · exact ⟨by rw [q3]; exact fun e => bf c q5 (nI_inj q2 hp e), q1, c, q2, q3, q4, q6.imp id (fun q => q.1)⟩
  · rw [if_neg e47]
    refine ⟨?_, fun e => absurd e e47⟩
    -- another is: it stays
    have keep : sbk A s ((1 : Int32) <<< (nI p &&& 31)) 47 s = A 47 s := by
      by_cases hc : A 47 s = -1
      · unfold sbk; rw [if_pos ((h.co1 hs).mpr hc)]
      have hc1 : ¬ co A s = -1 := fun e => hc ((h.co1 hs).mp e)
      obtain ⟨_, c, hc24, ec, ecl, hcal, h1 | h1⟩ := h.cur hs hc
      · obtain ⟨q1, q2, q3, q4⟩ := h1
        have hcp : c ≠ p := fun e => e47 (by rw [ec, e])
        unfold sbk; rw [if_neg hc1, q2, if_neg (fun z => by rw [hb_n hc24, bt_one hp] at z; simp [hcp] at z), ow_u_self]
        have : cpn A s = 0 := by unfold cpn; rw [ecl, q4]; decide
        rw [this]; exact ec.symm
      · obtain ⟨q1, q2, q3, q4, i, hi, ei, hpos, hmp⟩ := h1
        have hcp : c ≠ p := fun e => e47 (by rw [ec, e])
        obtain ⟨_, _, _, v, hv, ev, _, hvt⟩ := h.b.mem hs hc24 q2
        have hvp : v ≠ p := fun e => h.ne34 hsc (by rw [← hvt, e, hty])
        have ecp : cpn A s = rk (A (15 + s)) (lsB B s) (nI v) i + 1 := by
          have := rk_24 (own := A (15 + s)) (ls := lsB B s) (o := A (15 + s) c) (n := i) (by omega)
          unfold cpn; rw [ecl, hpos, ← nI_succ, nI_clamp (by omega), ev]
        unfold sbk; rw [if_neg hc1, q3.trans ev, if_neg (fun z => by rw [hb_n hv, bt_one hp] at z; simp [hvp] at z), ow_u_self, ecp]
        simp only [wlk]
        have hmat := mat_rk hr (o := nI v) (nI_m1 (by omega)) hi (by rw [ei]; exact ev)
        rw [hmat, ei, if_neg (fun z => by rw [hb_n hc24, bt_one hp] at z; simp [hcp] at z)]
        unfold sbv; rw [if_neg (by omega)]
        show mat A s (nI v) (nI (rk (A (15 + s)) (lsB B s) (nI v) i)) 24 = A 47 s
        rw [hmat, ei, ec]
    rw [form _ keep]; exact ow_u_id rfl
end Stand
