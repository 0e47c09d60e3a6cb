/-! the system once it stands: 70 cells, references fixed; what varies are the ints M, the long K in out, the makings b that are still paid for -/
def ow_rF (c j : Nat) : Option Nat :=
  if c = 0 then (if j < 4 then some (([1, 7, 26, 45] : List Nat).getD j 0) else none)
  else if c = 1 then (if 2 ≤ j ∧ j < 7 then some j else none)
  else if c = 7 then (if 2 ≤ j ∧ j < 7 then some (([8, 9, 10, 14, 20] : List Nat).getD (j - 2) 0) else none)
  else if c = 10 then (if j < 3 then some (11 + j) else none)
  else if c = 14 then (if j < 5 then some (15 + j) else none)
  else if c = 20 then (if j < 5 then some (21 + j) else none)
  else if c = 26 then (if 2 ≤ j ∧ j < 7 then some (([27, 28, 29, 33, 39] : List Nat).getD (j - 2) 0) else none)
  else if c = 29 then (if j < 3 then some (30 + j) else none)
  else if c = 33 then (if j < 5 then some (34 + j) else none)
  else if c = 39 then (if j < 5 then some (40 + j) else none)
  else if c = 45 then (if 1 ≤ j ∧ j < 3 then some (45 + j) else none)
  else if c = 48 then ((([none, none, some 49, none, some 50, some 51, some 52, some 53, none, none, some 54, some 55, some 56, some 57, some 58, some 59, none, some 60, some 61, some 62, none, some 63, some 64, some 65, some 66, some 67, some 68] : List (Option Nat))[j]?).join)
  else none
def ow_lF (K : Int64) : Nat → Nat → Int64 := fun c => if c = 69 then vp_updL (fun _ => 0) 0 K else fun _ => 0
abbrev mm (M : Nat → Nat → Int32) (K : Int64) (b : Nat) : ow_M := (70, ow_rF, M, ow_lF K, b)
theorem ow_lF_up (K x : Int64) : ow_ul (ow_lF K) 69 0 x = ow_lF x := by
  funext c
  by_cases h : c = 69
  · subst h
    funext j
    by_cases hj : j = 0
    · subst hj; simp [ow_ul, ow_lF, vp_updL]
    · simp [ow_ul, ow_lF, vp_updL, hj]
  · simp [ow_ul, ow_lF, h]
theorem ow_lF_at (K : Int64) : ow_lF K 69 0 = K := by simp [ow_lF, vp_updL]
theorem kd_own {s : Nat} (h : s < 5) : ow_kd (15 + s) = (1, 24) := by
  rcases (show s = 0 ∨ s = 1 ∨ s = 2 ∨ s = 3 ∨ s = 4 by omega) with rfl | rfl | rfl | rfl | rfl <;> rfl
theorem kd_pos {s : Nat} (h : s < 5) : ow_kd (21 + s) = (1, 24) := by
  rcases (show s = 0 ∨ s = 1 ∨ s = 2 ∨ s = 3 ∨ s = 4 by omega) with rfl | rfl | rfl | rfl | rfl <;> rfl
theorem kd_fld {f : Nat} (h : f < 3) : ow_kd (11 + f) = (1, 24) := by
  rcases (show f = 0 ∨ f = 1 ∨ f = 2 by omega) with rfl | rfl | rfl <;> rfl
theorem rF_own {s : Nat} (h : s < 5) : ow_rF 14 s = some (15 + s) := by simp [ow_rF, h]
theorem rF_pos {s : Nat} (h : s < 5) : ow_rF 20 s = some (21 + s) := by simp [ow_rF, h]
theorem rF_fld {f : Nat} (h : f < 3) : ow_rF 10 f = some (11 + f) := by simp [ow_rF, h]
section MmRules
variable {l : Launch} {Y : ow_Y} {sc : Option (Nat × (Nat → Int32))} {d : Nat × Nat} {Q : ow_R → ow_M → Prop} {pc : Nat} {L : List (Option Value)} {S : List Value} {M : Nat → Nat → Int32} {K : Int64} {b : Nat}
theorem mm_geti {index ci k a : Nat} (hF : ow_F Y.1.cls index ci k) (hdg : decode Y.2.1 pc = .ok (.getfield index, 3)) (ha : a < 70) (hk : ow_kd a = (0, ci)) (hr : ow_isr ci k = false) (kk : AW l Y sc d Q (pc + 3) L (.int (M a k) :: S) (mm M K b)) : AW l Y sc d Q pc L (.ref a :: S) (mm M K b) := aw_geti hF hdg ha hk hr kk
theorem mm_getr {index ci k a t : Nat} (hF : ow_F Y.1.cls index ci k) (hdg : decode Y.2.1 pc = .ok (.getfield index, 3)) (ha : a < 70) (hk : ow_kd a = (0, ci)) (hr : ow_isr ci k = true) (ht : ow_rF a k = some t) (kk : AW l Y sc d Q (pc + 3) L (.ref t :: S) (mm M K b)) : AW l Y sc d Q pc L (.ref a :: S) (mm M K b) := aw_getr hF hdg ha hk hr ht kk
theorem mm_iald {a n j : Nat} {i : Int32} (hi : i = nI j) (hdg : decode Y.2.1 pc = .ok (.iaload, 1)) (ha : a < 70) (hk : ow_kd a = (1, n)) (hj : j < n) (hn : n < 2 ^ 31) (kk : AW l Y sc d Q (pc + 1) L (.int (M a j) :: S) (mm M K b)) : AW l Y sc d Q pc L (.int i :: .ref a :: S) (mm M K b) := by
  subst hi
  refine aw_iald hdg ha hk (vp_in_nI hj hn) ?_
  rw [nI_clamp (by omega)]
  exact kk
theorem mm_zald {a n j : Nat} {i : Int32} (hi : i = nI j) (hdg : decode Y.2.1 pc = .ok (.baload, 1)) (ha : a < 70) (hk : ow_kd a = (2, n)) (hj : j < n) (hn : n < 2 ^ 31) (kk : AW l Y sc d Q (pc + 1) L (.int (M a j) :: S) (mm M K b)) : AW l Y sc d Q pc L (.int i :: .ref a :: S) (mm M K b) := by
  subst hi
  refine aw_zald hdg ha hk (vp_in_nI hj hn) ?_
  rw [nI_clamp (by omega)]
  exact kk
theorem mm_aald {a n j t : Nat} {i : Int32} (hi : i = nI j) (hdg : decode Y.2.1 pc = .ok (.aaload, 1)) (ha : a < 70) (hk : ow_kd a = (4, n)) (hj : j < n) (hn : n < 2 ^ 31) (ht : ow_rF a j = some t) (kk : AW l Y sc d Q (pc + 1) L (.ref t :: S) (mm M K b)) : AW l Y sc d Q pc L (.int i :: .ref a :: S) (mm M K b) := by
  subst hi
  refine aw_aald hdg ha hk (vp_in_nI hj hn) (t := t) ?_ kk
  rw [nI_clamp (by omega)]
  exact ht
theorem mm_iast {a n j : Nat} {i x : Int32} (hi : i = nI j) (hdg : decode Y.2.1 pc = .ok (.iastore, 1)) (ha : a < 70) (hk : ow_kd a = (1, n)) (hj : j < n) (hn : n < 2 ^ 31) (kk : AW l Y sc d Q (pc + 1) L S (mm (ow_u M a j x) K b)) : AW l Y sc d Q pc L (.int x :: .int i :: .ref a :: S) (mm M K b) := by
  subst hi
  refine aw_iast hdg ha hk (vp_in_nI hj hn) ?_
  rw [nI_clamp (by omega)]
  exact kk
theorem mm_zast {a n j : Nat} {i x : Int32} (hi : i = nI j) (hdg : decode Y.2.1 pc = .ok (.bastore, 1)) (ha : a < 70) (hk : ow_kd a = (2, n)) (hj : j < n) (hn : n < 2 ^ 31) (hx : x = 0 ∨ x = 1) (kk : AW l Y sc d Q (pc + 1) L S (mm (ow_u M a j x) K b)) : AW l Y sc d Q pc L (.int x :: .int i :: .ref a :: S) (mm M K b) := by
  subst hi
  refine aw_zast hdg ha hk (vp_in_nI hj hn) hx ?_
  rw [nI_clamp (by omega)]
  exact kk
theorem mm_puti {index ci k a : Nat} {x : Int32} {ty : FieldType} (hF : ow_Fw Y.1.cls index ci k false ty) (hdg : decode Y.2.1 pc = .ok (.putfield index, 3)) (ha : a < 70) (hk : ow_kd a = (0, ci)) (hr : ow_isr ci k = false) (hn : narrow ty (.int x) = .int x) (hf : fits ty (.int x) = true) (kk : AW l Y sc d Q (pc + 3) L S (mm (ow_u M a k x) K b)) : AW l Y sc d Q pc L (.int x :: .ref a :: S) (mm M K b) := aw_puti hF hdg ha hk hr hn hf kk
theorem mm_last {x : Int64} (hdg : decode Y.2.1 pc = .ok (.lastore, 1)) (kk : AW l Y sc d Q (pc + 1) L S (mm M x b)) : AW l Y sc d Q pc L (.long x :: .int 0 :: .ref 69 :: S) (mm M K b) := by
  refine aw_last (n := 1) hdg (show (69 : Nat) < 70 by decide) rfl (vp_in_nI (n := 0) (by decide) (by decide)) ?_
  have : ow_ul (ow_lF K) 69 (0 : Int32).toNatClampNeg x = ow_lF x := ow_lF_up K x
  show AW l Y sc d Q (pc + 1) L S (70, ow_rF, M, ow_ul (ow_lF K) 69 (0 : Int32).toNatClampNeg x, b)
  rw [this]
  exact kk
theorem mm_lald (hdg : decode Y.2.1 pc = .ok (.laload, 1)) (kk : AW l Y sc d Q (pc + 1) L (.long K :: S) (mm M K b)) : AW l Y sc d Q pc L (.int 0 :: .ref 69 :: S) (mm M K b) := by
  refine aw_lald (n := 1) hdg (show (69 : Nat) < 70 by decide) rfl (vp_in_nI (n := 0) (by decide) (by decide)) ?_
  show AW l Y sc d Q (pc + 1) L (.long (ow_lF K 69 (0 : Int32).toNatClampNeg) :: S) (mm M K b)
  have : ow_lF K 69 (0 : Int32).toNatClampNeg = K := ow_lF_at K
  rw [this]
  exact kk
end MmRules
/-- Plan.hasType -/
theorem t_P_hasType {l : Launch} {Q : ow_R → ow_M → Prop} {M : Nat → Nat → Int32} {K : Int64} {b : Nat} {t : Int32} (hq : Q (.inl (some (if 0 ≤ t ∧ t < M 1 0 then 1 else 0))) (mm M K b)) : MT l Y_P_hasType (0, 0) [.ref 1, .int t] (mm M K b) Q := by
  refine mt_of (k := 0) (by decide) cd_P_hasType.1 (by simp [Value.category]) rfl ?_
  refine aw_iload_n d_P_hasType_0 rfl ?_
  refine aw_if_lt (tgt := 16) d_P_hasType_1 rfl (fun h1 => ?_) (fun h1 => ?_)
  · refine aw_iconst d_P_hasType_16 rfl ?_
    refine aw_iret d_P_hasType_17 rfl rfl ?_
    rw [if_neg (fun h => by have := Int32.not_lt.mpr h.1; exact this h1)] at hq
    exact hq
  · refine aw_iload_n d_P_hasType_4 rfl ?_
    refine aw_aload_n d_P_hasType_5 rfl ?_
    refine mm_geti f_P_9 d_P_hasType_6 (by decide) rfl rfl ?_
    refine aw_icmp_ge (tgt := 16) d_P_hasType_9 rfl (fun h2 => ?_) (fun h2 => ?_)
    · refine aw_iconst d_P_hasType_16 rfl ?_
      refine aw_iret d_P_hasType_17 rfl rfl ?_
      rw [if_neg (fun h => Int32.not_lt.mpr h2 h.2)] at hq
      exact hq
    · refine aw_iconst d_P_hasType_12 rfl ?_
      refine aw_goto (tgt := 17) d_P_hasType_13 rfl ?_
      refine aw_iret d_P_hasType_17 rfl rfl ?_
      rw [if_pos ⟨Int32.not_lt.mp h1, Int32.not_le.mp h2⟩] at hq
      exact hq
