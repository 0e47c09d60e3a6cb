/-! the start -/
theorem br_start {A B : ow_A} (h1 : ∀ p, p < 24 → A 8 p = 0 ∧ B 54 p = 0 ∧ A 9 p = 0 ∧ B 55 p = 0) (h2 : ∀ s, s < 5 → ∀ p, p < 24 → A (15 + s) p = -1 ∧ A (21 + s) p = -1 ∧ B 57 (24 * s + p) = -1) (h3 : ∀ j, j < 120 → B 58 j = 0) (h4 : ∀ s, s < 5 → B 59 s = 0) (h5 : A 7 1 = 1 ∧ B 48 9 = 1 ∧ A 7 0 = 0) : BR A B 0 0 0 := by
  have hn : ∀ s, s < 5 → mln B s = 0 := fun s hs => by unfold mln; rw [h4 s hs]; decide
  refine ⟨fun p hp => by rw [(h1 p hp).1, (h1 p hp).2.1], fun p hp => by rw [(h1 p hp).2.2.1, (h1 p hp).2.2.2], fun p hp => ⟨0, by decide, (h1 p hp).2.2.1, fun z => absurd (h1 p hp).1 z⟩, fun p hp z => absurd (h1 p hp).1 z, fun s hs p hp => by rw [(h2 s hs p hp).1, (h2 s hs p hp).2.2], fun s hs p hp => Or.inl (h2 s hs p hp).1, fun j hj => ⟨0, by decide, h3 j hj⟩, fun s hs => ⟨0, by decide, h4 s hs⟩, fun s hs => ?_, fun s hs => by omega, ⟨1, by decide, by decide, h5.1, h5.2.1, fun p hp => ⟨0, by decide, (h1 p hp).1⟩⟩, fun p q hp _ _ z => absurd (h1 p hp).1 z, ?_⟩
  · rw [hn s hs]
    exact ⟨by decide, fun k hk => by omega, fun i j hi => by omega, fun p hp z => absurd (h2 s hs p hp).1 z, fun k hk => by omega, fun p hp _ => (h2 s hs p hp).2.1⟩
  · rw [h5.2.2, cn_zero (fun r hr => by rw [(h1 r hr).2.1]; rfl)]; rfl
theorem Mst_8 : ∀ p, p < 24 → Mst 8 p = 0 ∧ Mst 54 p = 0 ∧ Mst 9 p = 0 ∧ Mst 55 p = 0 := by decide +kernel
theorem Mst_27 : ∀ p, p < 24 → KA Mst 8 p = 0 ∧ KB Mst 54 p = 0 ∧ KA Mst 9 p = 0 ∧ KB Mst 55 p = 0 := by decide +kernel
theorem Mst_15 : ∀ s, s < 5 → ∀ p, p < 24 → Mst (15 + s) p = -1 ∧ Mst (21 + s) p = -1 ∧ Mst 57 (24 * s + p) = -1 := by decide +kernel
theorem Mst_34 : ∀ s, s < 5 → ∀ p, p < 24 → KA Mst (15 + s) p = -1 ∧ KA Mst (21 + s) p = -1 ∧ KB Mst 57 (24 * s + p) = -1 := by decide +kernel
theorem Mst_58 : (∀ j, j < 120 → Mst 58 j = 0) ∧ (∀ j, j < 120 → KB Mst 58 j = 0) ∧ (∀ s, s < 5 → Mst 59 s = 0) ∧ ∀ s, s < 5 → KB Mst 59 s = 0 := by decide +kernel
theorem Mst_7 : (Mst 7 1 = 1 ∧ Mst 48 9 = 1 ∧ Mst 7 0 = 0) ∧ KA Mst 7 1 = 1 ∧ KB Mst 48 9 = 1 ∧ KA Mst 7 0 = 0 := by decide +kernel
theorem Mst_1 : Mst 1 0 = 0 ∧ Mst 48 1 = 0 ∧ Mst 1 1 = 0 ∧ Mst 48 3 = 0 ∧ Mst 0 4 = Mst 48 8 := by decide +kernel
theorem Mst_2 : (∀ t, t < 4 → Mst 2 t = 0 ∧ Mst 49 t = 0 ∧ Mst 46 t = -1 ∧ Mst 60 t = -1) ∧ ∀ s, s < 5 → Mst 3 s = 0 ∧ Mst 50 s = 0 ∧ Mst 4 s = 0 ∧ Mst 51 s = 0 ∧ Mst 5 s = 0 ∧ Mst 52 s = 0 ∧ Mst 6 s = 0 ∧ Mst 53 s = 0 ∧ Mst 47 s = -1 ∧ Mst 61 s = -1 := by decide +kernel
theorem Mst_45 : Mst 45 0 = -1 ∧ Mst 48 16 = -1 := by decide +kernel
theorem JJ_0 : JJ 0 Mst := by
  obtain ⟨t2, s2⟩ := Mst_2
  refine ⟨0, 0, ⟨by decide, by decide, Mst_1.1, Mst_1.2.1, Mst_1.2.2.1, Mst_1.2.2.2.1, fun t ht => by rw [(t2 t ht).1, (t2 t ht).2.1], fun t ht => by rw [(t2 t ht).1]; decide, fun s hs => ?_, fun s hs => ?_, fun s hs => ?_, fun s hs => ?_, fun s hs => by omega, fun s hs => ?_, fun s hs => ?_, Mst_1.2.2.2.2⟩,
    br_start Mst_8 Mst_15 Mst_58.1 Mst_58.2.2.1 Mst_7.1, br_start Mst_27 Mst_34 Mst_58.2.1 Mst_58.2.2.2 Mst_7.2, ⟨by rw [Mst_45.1, Mst_45.2], Or.inl Mst_45.1, fun t ht => by rw [(t2 t ht).2.2.1, (t2 t ht).2.2.2], fun t ht => Or.inl (t2 t ht).2.2.1, fun s hs => ?_, fun s hs => ?_⟩⟩
  all_goals obtain ⟨a1, a2, a3, a4, a5, a6, a7, a8, a9, a10⟩ := s2 s hs
  · rw [a1, a2]
  · rw [a3, a4]
  · rw [a5, a6]
  · rw [a7, a8]
  · rw [a7]; decide
  · rw [a5]; exact Or.inl (by decide)
  · rw [a9, a10]
  · exact Or.inl a9
