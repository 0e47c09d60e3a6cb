/-! keep, rollBack -/
section Keep2
variable {A B : ow_A} {k : Nat}
theorem kp_all {p : Nat} (hp : p < 24) : (cp_keep A 27 p = A 8 p ∧ cp_keep A 28 p = A 9 p) ∧ (cp_keep A 30 p = A 11 p ∧ cp_keep A 31 p = A 12 p ∧ cp_keep A 32 p = A 13 p) ∧ (cp_keep A 34 p = A 15 p ∧ cp_keep A 35 p = A 16 p ∧ cp_keep A 36 p = A 17 p ∧ cp_keep A 37 p = A 18 p ∧ cp_keep A 38 p = A 19 p) ∧ (cp_keep A 40 p = A 21 p ∧ cp_keep A 41 p = A 22 p ∧ cp_keep A 42 p = A 23 p ∧ cp_keep A 43 p = A 24 p ∧ cp_keep A 44 p = A 25 p) := by
  refine ⟨⟨?_, ?_⟩, ⟨?_, ?_, ?_⟩, ⟨?_, ?_, ?_, ?_, ?_⟩, ⟨?_, ?_, ?_, ?_, ?_⟩⟩ <;>
    (unfold cp_keep
     repeat rw [ow_cp_ne (by omega)]
     rw [ow_cp_at hp]
     repeat rw [ow_cp_ne (by omega)]
     rw [ow_u_ne (by decide), ow_u_ne (by decide)])
theorem bk_all {p : Nat} (hp : p < 24) : (cp_back A 8 p = A 27 p ∧ cp_back A 9 p = A 28 p) ∧ (cp_back A 11 p = A 30 p ∧ cp_back A 12 p = A 31 p ∧ cp_back A 13 p = A 32 p) ∧ (cp_back A 15 p = A 34 p ∧ cp_back A 16 p = A 35 p ∧ cp_back A 17 p = A 36 p ∧ cp_back A 18 p = A 37 p ∧ cp_back A 19 p = A 38 p) ∧ (cp_back A 21 p = A 40 p ∧ cp_back A 22 p = A 41 p ∧ cp_back A 23 p = A 42 p ∧ cp_back A 24 p = A 43 p ∧ cp_back A 25 p = A 44 p) := by
  refine ⟨⟨?_, ?_⟩, ⟨?_, ?_, ?_⟩, ⟨?_, ?_, ?_, ?_, ?_⟩, ⟨?_, ?_, ?_, ?_, ?_⟩⟩ <;>
    (unfold cp_back
     repeat rw [ow_cp_ne (by omega)]
     rw [ow_cp_at hp]
     repeat rw [ow_cp_ne (by omega)]
     rw [ow_u_ne (by decide), ow_u_ne (by decide)])
theorem kp_f {f p : Nat} (hf : f < 3) (hp : p < 24) : cp_keep A (30 + f) p = A (11 + f) p := by
  obtain ⟨_, ⟨h1, h2, h3⟩, _⟩ := kp_all (A := A) hp
  rcases (show f = 0 ∨ f = 1 ∨ f = 2 by omega) with rfl | rfl | rfl
  · exact h1
  · exact h2
  · exact h3
theorem kp_o {s p : Nat} (hs : s < 5) (hp : p < 24) : cp_keep A (34 + s) p = A (15 + s) p ∧ cp_keep A (40 + s) p = A (21 + s) p := by
  obtain ⟨_, _, ⟨h1, h2, h3, h4, h5⟩, ⟨g1, g2, g3, g4, g5⟩⟩ := kp_all (A := A) hp
  rcases (show s = 0 ∨ s = 1 ∨ s = 2 ∨ s = 3 ∨ s = 4 by omega) with rfl | rfl | rfl | rfl | rfl
  · exact ⟨h1, g1⟩
  · exact ⟨h2, g2⟩
  · exact ⟨h3, g3⟩
  · exact ⟨h4, g4⟩
  · exact ⟨h5, g5⟩
theorem bk_f {f p : Nat} (hf : f < 3) (hp : p < 24) : cp_back A (11 + f) p = A (30 + f) p := by
  obtain ⟨_, ⟨h1, h2, h3⟩, _⟩ := bk_all (A := A) hp
  rcases (show f = 0 ∨ f = 1 ∨ f = 2 by omega) with rfl | rfl | rfl
  · exact h1
  · exact h2
  · exact h3
theorem bk_o {s p : Nat} (hs : s < 5) (hp : p < 24) : cp_back A (15 + s) p = A (34 + s) p ∧ cp_back A (21 + s) p = A (40 + s) p := by
  obtain ⟨_, _, ⟨h1, h2, h3, h4, h5⟩, ⟨g1, g2, g3, g4, g5⟩⟩ := bk_all (A := A) hp
  rcases (show s = 0 ∨ s = 1 ∨ s = 2 ∨ s = 3 ∨ s = 4 by omega) with rfl | rfl | rfl | rfl | rfl
  · exact ⟨h1, g1⟩
  · exact ⟨h2, g2⟩
  · exact ⟨h3, g3⟩
  · exact ⟨h4, g4⟩
  · exact ⟨h5, g5⟩
theorem KA_hi {c : Nat} (h1 : 7 ≤ c) (h2 : c < 26) : KA A c = A (c + 19) := by unfold KA; rw [if_pos ⟨h1, h2⟩]
theorem KA_lo {c : Nat} (h : c < 7 ∨ 26 ≤ c) : KA A c = A c := by unfold KA; rw [if_neg (by omega)]
theorem cpI_at {c0 c i j : Nat} (h : j < i) : cpI A c0 c i c j = A c0 j := by rw [cpI_eq, if_pos h]
theorem mkp_ne {c : Nat} (h : c ≠ 48) (h2 : c < 63 ∨ 68 < c) : mkp B c = B c := by
  unfold mkp
  repeat rw [cpI_ne (by omega)]
  rw [ow_u_ne h, ow_u_ne h]
theorem mkp_48 {j : Nat} (h : j ≠ 0) (h2 : j ≠ 20) : mkp B 48 j = B 48 j := by
  unfold mkp
  repeat rw [cpI_ne (by omega)]
  rw [ow_u_at h2, ow_u_at h]
theorem mkp_20 : mkp B 48 20 = B 48 9 := by
  unfold mkp
  repeat rw [cpI_ne (by omega)]
  rw [ow_u_self]
theorem mkp_c : (∀ j, j < 24 → mkp B 63 j = B 54 j ∧ mkp B 64 j = B 55 j) ∧ (∀ j, j < 72 → mkp B 65 j = B 56 j) ∧ (∀ j, j < 120 → mkp B 66 j = B 57 j ∧ mkp B 67 j = B 58 j) ∧ (∀ j, j < 5 → mkp B 68 j = B 59 j) := by
  refine ⟨fun j hj => ⟨?_, ?_⟩, fun j hj => ?_, fun j hj => ⟨?_, ?_⟩, fun j hj => ?_⟩ <;>
    (unfold mkp
     repeat rw [cpI_ne (by omega)]
     rw [cpI_at hj]
     repeat rw [cpI_ne (by omega)]
     rw [ow_u_ne (by decide), ow_u_ne (by decide)])
theorem mrb_ne {c : Nat} (h : c ≠ 48) (h2 : c < 54 ∨ 59 < c) : mrb B c = B c := by
  unfold mrb
  repeat rw [cpI_ne (by omega)]
  rw [ow_u_ne h, ow_u_ne h]
theorem mrb_48 {j : Nat} (h : j ≠ 0) (h2 : j ≠ 9) : mrb B 48 j = B 48 j := by
  unfold mrb
  repeat rw [cpI_ne (by omega)]
  rw [ow_u_at h2, ow_u_at h]
theorem mrb_9 : mrb B 48 9 = B 48 20 := by
  unfold mrb
  repeat rw [cpI_ne (by omega)]
  rw [ow_u_self]
theorem mrb_c : (∀ j, j < 24 → mrb B 54 j = B 63 j ∧ mrb B 55 j = B 64 j) ∧ (∀ j, j < 72 → mrb B 56 j = B 65 j) ∧ (∀ j, j < 120 → mrb B 57 j = B 66 j ∧ mrb B 58 j = B 67 j) ∧ (∀ j, j < 5 → mrb B 59 j = B 68 j) := by
  refine ⟨fun j hj => ⟨?_, ?_⟩, fun j hj => ?_, fun j hj => ⟨?_, ?_⟩, fun j hj => ?_⟩ <;>
    (unfold mrb
     repeat rw [cpI_ne (by omega)]
     rw [cpI_at hj]
     repeat rw [cpI_ne (by omega)]
     rw [ow_u_ne (by decide), ow_u_ne (by decide)])
theorem clS_ne {c : Nat} (h : c < 45 ∨ 47 < c) : clS A c = A c := by
  unfold clS
  repeat rw [ow_u_ne (by omega)]
theorem fgM_ne {c : Nat} (h : c ≠ 48) (h2 : c < 60 ∨ 61 < c) : fgM B c = B c := by
  unfold fgM
  repeat rw [ow_u_ne (by omega)]
theorem fgM_48 {j : Nat} (h : j ≠ 16) : fgM B 48 j = B 48 j := by
  unfold fgM
  repeat rw [ow_u_ne (by omega)]
  rw [ow_u_at h]
theorem clS_s : clS A 45 0 = -1 ∧ (∀ t, t < 4 → clS A 46 t = -1) ∧ ∀ s, s < 5 → clS A 47 s = -1 := by
  refine ⟨rfl, fun t ht => ?_, fun s hs => ?_⟩
  · rcases (show t = 0 ∨ t = 1 ∨ t = 2 ∨ t = 3 by omega) with rfl | rfl | rfl | rfl <;> rfl
  · rcases (show s = 0 ∨ s = 1 ∨ s = 2 ∨ s = 3 ∨ s = 4 by omega) with rfl | rfl | rfl | rfl | rfl <;> rfl
theorem fgM_s : fgM B 48 16 = -1 ∧ (∀ t, t < 4 → fgM B 60 t = -1) ∧ ∀ s, s < 5 → fgM B 61 s = -1 := by
  refine ⟨rfl, fun t ht => ?_, fun s hs => ?_⟩
  · rcases (show t = 0 ∨ t = 1 ∨ t = 2 ∨ t = 3 by omega) with rfl | rfl | rfl | rfl <;> rfl
  · rcases (show s = 0 ∨ s = 1 ∨ s = 2 ∨ s = 3 ∨ s = 4 by omega) with rfl | rfl | rfl | rfl | rfl <;> rfl
theorem J2.keep {tc sc : Nat} (h : J2 A B tc sc k) : J2 (cp_keep A) (mkp B) tc sc k := by
  have ea : ∀ c, c < 26 ∨ 44 < c → cp_keep A c = A c := fun c hc => kp_lo hc
  have eb : ∀ c, c ≠ 48 → c < 63 ∨ 68 < c → mkp B c = B c := fun c h1 h2 => mkp_ne h1 h2
  refine ⟨(h.p.congrA (fun c hc => ea c (by omega))).congrB ⟨mkp_48 (by decide) (by decide), mkp_48 (by decide) (by decide), mkp_48 (by decide) (by decide)⟩ (fun c h1 h2 => eb c (by omega) (by omega)),
    (h.b.congrA (fun c h1 h2 _ _ _ _ => ea c (by omega))).congrB (mkp_48 (by decide) (by decide)) (fun c h1 h2 => eb c (by omega) (by omega)), ?_,
    (h.s.congrA (fun c hc => ea c (by omega))).congrB (mkp_48 (by decide) (by decide)) (eb 60 (by decide) (by decide)) (eb 61 (by decide) (by decide))⟩
  obtain ⟨k1, k2, k3, k4⟩ := mkp_c (B := B)
  refine h.b.congrP ?_ ?_ ?_ ?_ ?_ ?_ ?_ ?_ ?_ ?_ ?_
  · intro t ht; rw [KA_lo (by omega), ea 2 (by omega)]
  · intro s hs; rw [KA_lo (by omega), KA_lo (by omega), KA_lo (by omega), ea 3 (by omega), ea 4 (by omega), ea 5 (by omega)]; exact ⟨rfl, rfl, rfl⟩
  · rw [KA_hi (by decide) (by decide)]; exact kp_26
  · intro p hp; rw [KA_hi (by decide) (by decide), KA_hi (by decide) (by decide)]; exact (kp_all hp).1
  · intro f hf p hp; rw [KA_hi (by omega) (by omega), show 11 + f + 19 = 30 + f by omega]; exact kp_f hf hp
  · intro s hs p hp; rw [KA_hi (by omega) (by omega), KA_hi (by omega) (by omega), show 15 + s + 19 = 34 + s by omega, show 21 + s + 19 = 40 + s by omega]; exact kp_o hs hp
  · show KB (mkp B) 48 9 = B 48 9
    unfold KB; rw [if_pos ⟨rfl, rfl⟩]; exact mkp_20
  · intro p hp; rw [KB_at (by decide) (by decide), KB_at (by decide) (by decide)]; exact k1 p hp
  · intro j hj; rw [KB_at (by decide) (by decide)]; exact k2 j hj
  · intro j hj; rw [KB_at (by decide) (by decide), KB_at (by decide) (by decide)]; exact k3 j hj
  · intro s hs; rw [KB_at (by decide) (by decide)]; exact k4 s hs
theorem J2.back {tc sc : Nat} (h : J2 A B tc sc k) : J2 (clS (cp_back A)) (fgM (mrb B)) tc sc k := by
  have ea : ∀ c, c < 7 ∨ (25 < c ∧ c < 45) → clS (cp_back A) c = A c := fun c hc => by rw [clS_ne (by omega), bk_lo (by omega)]
  have ec : ∀ c, c < 45 → clS (cp_back A) c = cp_back A c := fun c hc => clS_ne (by omega)
  have eb : ∀ c, c ≠ 48 → c < 54 ∨ 61 < c → fgM (mrb B) c = B c := fun c h1 h2 => by rw [fgM_ne h1 (by omega), mrb_ne h1 (by omega)]
  have ed : ∀ c, 54 ≤ c → c ≤ 59 → fgM (mrb B) c = mrb B c := fun c h1 h2 => fgM_ne (by omega) (by omega)
  have e48 : ∀ j, j ≠ 0 → j ≠ 9 → j ≠ 16 → fgM (mrb B) 48 j = B 48 j := fun j h1 h2 h3 => by rw [fgM_48 h3, mrb_48 h1 h2]
  obtain ⟨k1, k2, k3, k4⟩ := mrb_c (B := B)
  refine ⟨(h.p.congrA (fun c hc => ea c (by omega))).congrB ⟨e48 1 (by decide) (by decide) (by decide), e48 3 (by decide) (by decide) (by decide), e48 8 (by decide) (by decide) (by decide)⟩ (fun c h1 h2 => eb c (by omega) (by omega)), ?_,
    (h.kb.keptA (fun c hc => ea c (by omega))).keptB (e48 20 (by decide) (by decide) (by decide)) (fun c h1 h2 => eb c (by omega) (by omega)), ?_⟩
  · refine h.kb.congrP ?_ ?_ ?_ ?_ ?_ ?_ ?_ ?_ ?_ ?_ ?_
    · intro t ht; rw [KA_lo (by omega), ea 2 (by omega)]
    · intro s hs; rw [KA_lo (by omega), KA_lo (by omega), KA_lo (by omega), ea 3 (by omega), ea 4 (by omega), ea 5 (by omega)]; exact ⟨rfl, rfl, rfl⟩
    · rw [KA_hi (by decide) (by decide), ec 7 (by decide)]; exact bk_7
    · intro p hp; rw [KA_hi (by decide) (by decide), KA_hi (by decide) (by decide), ec 8 (by decide), ec 9 (by decide)]; exact (bk_all hp).1
    · intro f hf p hp; rw [KA_hi (by omega) (by omega), show 11 + f + 19 = 30 + f by omega, ec _ (by omega)]; exact bk_f hf hp
    · intro s hs p hp; rw [KA_hi (by omega) (by omega), KA_hi (by omega) (by omega), show 15 + s + 19 = 34 + s by omega, show 21 + s + 19 = 40 + s by omega, ec _ (by omega), ec _ (by omega)]; exact bk_o hs hp
    · show fgM (mrb B) 48 9 = KB B 48 9
      unfold KB; rw [if_pos ⟨rfl, rfl⟩, fgM_48 (by decide)]; exact mrb_9
    · intro p hp; rw [KB_at (by decide) (by decide), KB_at (by decide) (by decide), ed 54 (by decide) (by decide), ed 55 (by decide) (by decide)]; exact k1 p hp
    · intro j hj; rw [KB_at (by decide) (by decide), ed 56 (by decide) (by decide)]; exact k2 j hj
    · intro j hj; rw [KB_at (by decide) (by decide), KB_at (by decide) (by decide), ed 57 (by decide) (by decide), ed 58 (by decide) (by decide)]; exact k3 j hj
    · intro s hs; rw [KB_at (by decide) (by decide), ed 59 (by decide) (by decide)]; exact k4 s hs
  · obtain ⟨c1, c2, c3⟩ := clS_s (A := cp_back A)
    obtain ⟨f1, f2, f3⟩ := fgM_s (B := mrb B)
    exact ⟨by rw [c1, f1], Or.inl c1, fun t ht => by rw [c2 t ht, f2 t ht], fun t ht => Or.inl (c2 t ht), fun s hs => by rw [c3 s hs, f3 s hs], fun s hs => Or.inl (c3 s hs)⟩
end Keep2
theorem HX_keep_ok : HX_keep JJ := by
  intro k M hk ⟨tc, sc, h⟩
  have h' : J2 M (cp_keep M) tc sc k := h.congrB (fun c hc => kp_lo (by omega))
  refine ⟨?_, JJ.of h'.keep.up (fun c hc => mkp_ne (by omega) (by omega))⟩
  rw [h.b.ct]
  exact congrArg nI (cn_congr 24 (fun p hp => by rw [mkp_ne (by decide) (by decide), kp_lo (by decide)]))
theorem HX_rollBack_ok : HX_rollBack JJ := by
  intro k M hk ⟨tc, sc, h⟩
  have h' : J2 M (clS (cp_back M)) tc sc k := h.congrB (fun c hc => by rw [clS_ne (by omega), bk_lo (by omega)])
  refine ⟨?_, JJ.of h'.back.up (fun c hc => by rw [fgM_ne (by omega) (by omega), mrb_ne (by omega) (by omega)])⟩
  have hc := h.kb.ct
  rw [KA_hi (by decide) (by decide)] at hc
  rw [hc]
  refine congrArg nI (cn_congr 24 (fun p hp => ?_))
  rw [KB_at (by decide) (by decide), fgM_ne (by decide) (by decide), (mrb_c.1 p hp).1, clS_ne (by decide), bk_lo (by decide)]
