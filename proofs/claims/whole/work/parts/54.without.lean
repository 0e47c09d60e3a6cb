/-! nobody stands on one that goes -/
section Without
variable {A A' B B' : ow_A} {k tc sc s p : Nat} {m g o x : Int32}
theorem stT_46 {t : Nat} : ∀ n, stT A g n 46 t = if t < n ∧ (0 ≤ A 46 t ∧ ¬ (g >>> (A 46 t &&& 31)) &&& 1 = 0) then -1 else A 46 t := by
  intro n
  induction n with
  | zero => rw [if_neg (fun z => absurd z.1 (by omega))]; rfl
  | succ n ih =>
    simp only [stT]
    have ihn : stT A g n 46 n = A 46 n := by
      clear ih
      have : ∀ j, j ≤ n → stT A g j 46 n = A 46 n := by
        intro j
        induction j with
        | zero => intro _; rfl
        | succ j ihj =>
          intro hj
          simp only [stT]; split
          · rw [ow_u_at (by omega)]; exact ihj (by omega)
          · exact ihj (by omega)
      exact this n (Nat.le_refl _)
    rw [ihn]
    by_cases e : t = n
    · subst e
      by_cases q : 0 ≤ A 46 t ∧ ¬ (g >>> (A 46 t &&& 31)) &&& 1 = 0
      · rw [if_pos q, if_pos ⟨by omega, q⟩, ow_u_self]
      · rw [if_neg q, if_neg (fun z => q z.2), ihn]
    · have e2 : (t < n + 1 ∧ (0 ≤ A 46 t ∧ ¬ (g >>> (A 46 t &&& 31)) &&& 1 = 0)) ↔ (t < n ∧ (0 ≤ A 46 t ∧ ¬ (g >>> (A 46 t &&& 31)) &&& 1 = 0)) := ⟨fun z => ⟨by omega, z.2⟩, fun z => ⟨by omega, z.2⟩⟩
      rw [ite_congr (propext e2) (fun _ => rfl) (fun _ => rfl), ← ih]
      split
      · rw [ow_u_at e]
      · rfl
theorem mtT_60 {t : Nat} : ∀ n, mtT B n 60 t = if t < n ∧ (0 ≤ B 60 t ∧ ¬ B 62 (B 60 t).toNatClampNeg = 0) then -1 else B 60 t := by
  intro n
  induction n with
  | zero => rw [if_neg (fun z => absurd z.1 (by omega))]; rfl
  | succ n ih =>
    simp only [mtT]
    have ihn : mtT B n 60 n = B 60 n := by
      clear ih
      have : ∀ j, j ≤ n → mtT B j 60 n = B 60 n := by
        intro j
        induction j with
        | zero => intro _; rfl
        | succ j ihj => intro hj; simp only [mtT]; rw [ow_u_at (by omega)]; exact ihj (by omega)
      exact this n (Nat.le_refl _)
    rw [ihn]
    by_cases e : t = n
    · subst e
      rw [ow_u_self]
      by_cases q : 0 ≤ B 60 t ∧ ¬ B 62 (B 60 t).toNatClampNeg = 0
      · rw [if_pos q, if_pos ⟨by omega, q⟩]
      · rw [if_neg q, if_neg (fun z => q z.2)]
    · have e2 : (t < n + 1 ∧ (0 ≤ B 60 t ∧ ¬ B 62 (B 60 t).toNatClampNeg = 0)) ↔ (t < n ∧ (0 ≤ B 60 t ∧ ¬ B 62 (B 60 t).toNatClampNeg = 0)) := ⟨fun z => ⟨by omega, z.2⟩, fun z => ⟨by omega, z.2⟩⟩
      rw [ow_u_at e, ih, ite_congr (propext e2) (fun _ => rfl) (fun _ => rfl)]
theorem mat_c (e1 : A' (15 + s) = A (15 + s)) (e2 : A' (21 + s) = A (21 + s)) : ∀ n, mat A' s o x n = mat A s o x n := by
  intro n
  induction n with
  | zero => rfl
  | succ n ih => simp only [mat]; rw [e1, e2, ih]
theorem wlk_c (e1 : A' (15 + s) = A (15 + s)) (e2 : A' (21 + s) = A (21 + s)) : ∀ n, wlk A' s o g n = wlk A s o g n := by
  intro n
  induction n with
  | zero => rfl
  | succ n ih => simp only [wlk]; rw [mat_c e1 e2, ih]
theorem sbk_c (e0 : A' 47 s = A 47 s) (e9 : A' 9 = A 9) (e3 : A' 3 = A 3) (e1 : A' (15 + s) = A (15 + s)) (e2 : A' (21 + s) = A (21 + s)) : sbk A' s g 47 s = sbk A s g 47 s := by
  have ec : co A' s = co A s := by unfold co; rw [e0, e9, e3, e1]
  have ep : cpn A' s = cpn A s := by unfold cpn; rw [e0, e2]
  unfold sbk
  rw [ec, ep]
  split
  · exact e0
  · split
    · rw [ow_u_self, ow_u_self]
    · rw [ow_u_self, ow_u_self, wlk_c e1 e2]; unfold sbv; rw [mat_c e1 e2]
theorem stS_at (hs : s < 5) : ∀ n, n ≤ 5 → stS A g n 47 s = if s < n then sbk A s g 47 s else A 47 s := by
  intro n
  induction n with
  | zero => intro _; rw [if_neg (by omega)]; rfl
  | succ n ih =>
    intro hn
    have ih := ih (by omega)
    simp only [stS]
    by_cases e : s = n
    · subst e
      rw [if_pos (by omega)]
      exact sbk_c (stS_47 (Nat.le_refl _)) (stS_ne (by decide)) (stS_ne (by decide)) (stS_ne (by omega)) (stS_ne (by omega))
    · rw [sbk_47 e, ih]
      by_cases q : s < n
      · rw [if_pos q, if_pos (by omega)]
      · rw [if_neg q, if_neg (by omega)]
theorem mpo_c (e : B' 58 = B 58) : ∀ n, mpo B' s x n = mpo B s x n := by
  intro n
  induction n with
  | zero => rfl
  | succ n ih => simp only [mpo]; rw [e, ih]
theorem mhw_c (e7 : B' 57 = B 57) (e8 : B' 58 = B 58) (e2 : B' 62 = B 62) : ∀ n, mhw B' s o n = mhw B s o n := by
  intro n
  induction n with
  | zero => rfl
  | succ n ih => simp only [mhw]; rw [e7, e8, e2, ih]
theorem mhe_c (e0 : B' 61 s = B 61 s) (e5 : B' 55 = B 55) (e1 : B' 50 = B 50) (e2 : B' 62 = B 62) (e7 : B' 57 = B 57) (e8 : B' 58 = B 58) (e9 : B' 59 = B 59) : mhe B' s = mhe B s := by
  unfold mhe; rw [e0, e5, e1, e2, e7, mpo_c e8, mln_c e9, mhw_c e7 e8 e2]
theorem mhS_at : ∀ n, mhS B n 61 s = if s < n then mhe B s else B 61 s := by
  intro n
  induction n with
  | zero => rw [if_neg (by omega)]; rfl
  | succ n ih =>
    simp only [mhS]
    by_cases e : s = n
    · subst e
      rw [ow_u_self, if_pos (by omega)]
      exact mhe_c (mhS_61 (Nat.le_refl _)) (mhS_ne (by decide)) (mhS_ne (by decide)) (mhS_ne (by decide)) (mhS_ne (by decide)) (mhS_ne (by decide)) (mhS_ne (by decide))
    · rw [ow_u_at e, ih]
      by_cases q : s < n
      · rw [if_pos q, if_pos (by omega)]
      · rw [if_neg q, if_neg (by omega)]
theorem stW_ne {c : Nat} (h1 : c ≠ 45) (h2 : c ≠ 46) (h3 : c ≠ 47) : stW A g tc sc c = A c := by
  unfold stW; rw [stS_ne h3, stT_ne h2, stR_ne h1]
theorem esM_ne {c : Nat} (h1 : c ≠ 48) (h2 : c ≠ 60) (h3 : c ≠ 61) : esM B tc sc c = B c := by
  unfold esM; rw [ow_u_ne h1, mtT_ne h2, mhS_ne h3]
theorem esM_48 {j : Nat} (h : j ≠ 16) : esM B tc sc 48 j = B 48 j := by
  unfold esM; rw [ow_u_at h, mtT_ne (by decide), mhS_ne (by decide)]
theorem J2.without (h : J2 A B tc sc k) (hz : ∀ q, q < 24 → (B 62 q = 0 ↔ bt g q = false)) (hp : p < 24) (e45 : A 45 0 = nI p) (hbp : bt g p = true) : J2 (stW A g tc sc) (esM B tc sc) tc sc k ∧ stW A g tc sc 45 0 = -1 ∧
    (∀ t, t < 4 → stW A g tc sc 46 t = -1 ∨ ∃ c, c < 24 ∧ stW A g tc sc 46 t = nI c ∧ bt g c = false) ∧
    (∀ s, s < 5 → stW A g tc sc 47 s = -1 ∨ ∃ c, c < 24 ∧ stW A g tc sc 47 s = nI c ∧ bt g c = false ∧ (A 9 c = A 3 s ∨ ∀ w, w < 24 → A (15 + s) c = nI w → bt g w = false)) := by
  have h5 := h.p.s5
  have h4 := h.p.t4
  have ea : ∀ c, c ≠ 45 → c ≠ 46 → c ≠ 47 → stW A g tc sc c = A c := fun c h1 h2 h3 => stW_ne h1 h2 h3
  have eb : ∀ c, c ≠ 48 → c ≠ 60 → c ≠ 61 → esM B tc sc c = B c := fun c h1 h2 h3 => esM_ne h1 h2 h3
  have a45 : stW A g tc sc 45 0 = -1 := by
    unfold stW; rw [stS_ne (by decide), stT_ne (by decide)]
    unfold stR; rw [e45, if_pos ((hb_n hp).mpr hbp), ow_u_self]
  have b16 : esM B tc sc 48 16 = -1 := by unfold esM; rw [ow_u_self]
  have zt : ∀ q, q < 24 → (¬ B 62 q = 0 ↔ bt g q = true) := fun q hq => by rw [hz q hq]; simp
  have a46 : ∀ t, t < 4 → (stW A g tc sc 46 t = esM B tc sc 60 t ∧ (stW A g tc sc 46 t = -1 ∨ (t < tc ∧ ∃ c, c < 24 ∧ stW A g tc sc 46 t = nI c ∧ ¬ A 8 c = 0 ∧ bt g c = false))) := by
    intro t ht
    have e1 : stW A g tc sc 46 t = if t < tc ∧ (0 ≤ A 46 t ∧ ¬ (g >>> (A 46 t &&& 31)) &&& 1 = 0) then -1 else A 46 t := by
      unfold stW; rw [stS_ne (by decide), stT_46, stR_ne (by decide)]
    have e2 : esM B tc sc 60 t = if t < tc ∧ (0 ≤ A 46 t ∧ ¬ B 62 (A 46 t).toNatClampNeg = 0) then -1 else A 46 t := by
      unfold esM; rw [ow_u_ne (by decide), mtT_60, mhS_ne (by decide), mhS_ne (by decide), ← h.s.tu t ht]
    rw [e1, e2]
    rcases h.s.tl t ht with e | ⟨q0, c, q1, q2, q3⟩
    · rw [e, if_neg (fun z => absurd z.2.1 (by decide)), if_neg (fun z => absurd z.2.1 (by decide))]; exact ⟨rfl, Or.inl rfl⟩
    · rw [q2, nI_clamp (by omega)]
      by_cases b : bt g c = true
      · rw [if_pos ⟨q0, (hb_n q1).mpr b⟩, if_pos ⟨q0, nI_ge0 q1, (zt c q1).mpr b⟩]; exact ⟨rfl, Or.inl rfl⟩
      · rw [if_neg (fun z => b ((hb_n q1).mp z.2)), if_neg (fun z => b ((zt c q1).mp z.2.2))]
        exact ⟨rfl, Or.inr ⟨q0, c, q1, rfl, q3, by simpa using b⟩⟩
  have a47 : ∀ s, s < 5 → (stW A g tc sc 47 s = esM B tc sc 61 s ∧ (stW A g tc sc 47 s = -1 ∨ (s < sc ∧ ∃ c, c < 24 ∧ stW A g tc sc 47 s = nI c ∧ ¬ A 8 c = 0 ∧ bt g c = false ∧ (A 9 c = A 3 s ∨ (¬ A (15 + s) c = -1 ∧ ∀ w, w < 24 → A (15 + s) c = nI w → bt g w = false))))) := by
    intro s hs
    have cR : ∀ c, c ≠ 45 → c ≠ 46 → stT (stR A g) g tc c = A c := fun c h1 h2 => by rw [stT_ne h2, stR_ne h1]
    have e1 : stW A g tc sc 47 s = if s < sc then sbk A s g 47 s else A 47 s := by
      unfold stW; rw [stS_at hs sc h5, cR 47 (by decide) (by decide)]
      rw [sbk_c (by rw [cR 47 (by decide) (by decide)]) (cR 9 (by decide) (by decide)) (cR 3 (by decide) (by decide)) (cR (15 + s) (by omega) (by omega)) (cR (21 + s) (by omega) (by omega))]
    have e2 : esM B tc sc 61 s = if s < sc then mhe B s else B 61 s := by
      unfold esM; rw [ow_u_ne (by decide), mtT_ne (by decide), mhS_at]
    rw [e1, e2]
    by_cases q : s < sc
    · rw [if_pos q, if_pos q]
      obtain ⟨s1, s2⟩ := h.stand hs hz
      rw [s1]; exact ⟨rfl, s2⟩
    · rw [if_neg q, if_neg q]
      refine ⟨h.s.su s hs, Or.inl ?_⟩
      rcases h.s.sl s hs with e | e
      · exact e
      · exact absurd e.1 q
  have x8 := ea 8 (by decide) (by decide) (by decide); have x9 := ea 9 (by decide) (by decide) (by decide); have x3 := ea 3 (by decide) (by decide) (by decide)
  refine ⟨⟨(h.p.congrA (fun c hc => ea c (by omega) (by omega) (by omega))).congrB ⟨esM_48 (by decide), esM_48 (by decide), esM_48 (by decide)⟩ (fun c h1 h2 => eb c (by omega) (by omega) (by omega)),
    (h.b.congrA (fun c h1 h2 _ _ _ _ => ea c (by omega) (by omega) (by omega))).congrB (esM_48 (by decide)) (fun c h1 h2 => eb c (by omega) (by omega) (by omega)),
    (h.kb.keptA (fun c hc => ea c (by omega) (by omega) (by omega))).keptB (esM_48 (by decide)) (fun c h1 h2 => eb c (by omega) (by omega) (by omega)), ?_⟩, a45, fun t ht => ?_, fun s hs => ?_⟩
  · refine ⟨by rw [a45, b16], Or.inl a45, fun t ht => (a46 t ht).1, fun t ht => ?_, fun s hs => (a47 s hs).1, fun s hs => ?_⟩
    · rw [x8]; exact (a46 t ht).2.imp id (fun ⟨q0, c, q1, q2, q3, _⟩ => ⟨q0, c, q1, q2, q3⟩)
    · rw [x8, x9, x3, ea (15 + s) (by omega) (by omega) (by omega)]
      exact (a47 s hs).2.imp id (fun ⟨q0, c, q1, q2, q3, _, q5⟩ => ⟨q0, c, q1, q2, q3, q5.imp id (fun z => z.1)⟩)
  · exact (a46 t ht).2.imp id (fun ⟨_, c, q1, q2, _, q4⟩ => ⟨c, q1, q2, q4⟩)
  · exact (a47 s hs).2.imp id (fun ⟨_, c, q1, q2, _, q4, q5⟩ => ⟨c, q1, q2, q4, q5.imp id (fun z => z.2)⟩)
end Without
