/-! the constructors -/
section GuRules
variable {l : Launch} {Y : ow_Y} {sc : Option (Nat × (Nat → Int32))} {d : Nat × Nat} {Q : ow_R → ow_M → Prop} {pc : Nat} {L : List (Option Value)} {S : List Value} {n : Nat} {R : Nat → Nat → Option Nat} {M : Nat → Nat → Int32} {G : Nat → Nat → Int64} {b : Nat}
theorem gu_getr {index ci k a t : Nat} (hF : ow_F Y.1.cls index ci k) (hdg : decode Y.2.1 pc = .ok (.getfield index, 3)) (ha : a < n) (hk : ow_kd a = (0, ci)) (hr : ow_isr ci k = true) (ht : R a k = some t) (kk : AW l Y sc d Q (pc + 3) L (.ref t :: S) (n, R, M, G, b)) : AW l Y sc d Q pc L (.ref a :: S) (n, R, M, G, b) := aw_getr hF hdg ha hk hr ht kk
theorem gu_iast {a N j : Nat} {i x : Int32} (hi : i = nI j) (hdg : decode Y.2.1 pc = .ok (.iastore, 1)) (ha : a < n) (hk : ow_kd a = (1, N)) (hj : j < N) (hn : N < 2 ^ 31) (kk : AW l Y sc d Q (pc + 1) L S (n, R, ow_u M a j x, G, b)) : AW l Y sc d Q pc L (.int x :: .int i :: .ref a :: S) (n, R, M, G, b) := by
  subst hi
  refine aw_iast hdg ha hk (vp_in_nI hj hn) ?_
  rw [nI_clamp (by omega)]
  exact kk
theorem gu_aald {a N j t : Nat} {i : Int32} (hi : i = nI j) (hdg : decode Y.2.1 pc = .ok (.aaload, 1)) (ha : a < n) (hk : ow_kd a = (4, N)) (hj : j < N) (hn : N < 2 ^ 31) (ht : R a j = some t) (kk : AW l Y sc d Q (pc + 1) L (.ref t :: S) (n, R, M, G, b)) : AW l Y sc d Q pc L (.int i :: .ref a :: S) (n, R, M, G, b) := by
  subst hi
  refine aw_aald hdg ha hk (vp_in_nI hj hn) (t := t) ?_ kk
  rw [nI_clamp (by omega)]
  exact ht
theorem gu_puti {index ci k a : Nat} {x : Int32} {ty : FieldType} (hF : ow_Fw Y.1.cls index ci k false ty) (hdg : decode Y.2.1 pc = .ok (.putfield index, 3)) (ha : a < n) (hk : ow_kd a = (0, ci)) (hr : ow_isr ci k = false) (hn : narrow ty (.int x) = .int x) (hf : fits ty (.int x) = true) (kk : AW l Y sc d Q (pc + 3) L S (n, R, ow_u M a k x, G, b)) : AW l Y sc d Q pc L (.int x :: .ref a :: S) (n, R, M, G, b) := aw_puti hF hdg ha hk hr hn hf kk
theorem gu_putr {index ci k a t : Nat} {ty : FieldType} (hF : ow_Fw Y.1.cls index ci k true ty) (hin : Y.1.name = "<init>") (hdg : decode Y.2.1 pc = .ok (.putfield index, 3)) (ha : a < n) (hk : ow_kd a = (0, ci)) (hr : ow_isr ci k = true) (hn : ∀ x, narrow ty (.ref x) = .ref x) (hf : ∀ x, fits ty (.ref x) = true) (kk : AW l Y sc d Q (pc + 3) L S (n, ow_ur R a k (some t), M, G, b)) : AW l Y sc d Q pc L (.ref t :: .ref a :: S) (n, R, M, G, b) := aw_putr hF hin hdg ha hk hr hn hf kk
theorem gu_newi {N : Nat} {i : Int32} (hi : i = nI N) (harr : Cond.arrayClass .int ∈ ow_ws) (hdg : decode Y.2.1 pc = .ok (.newarray .int, 2)) (hk : ow_kd n = (1, N)) (hN : N ≤ 128) (kk : AW l Y sc d Q (pc + 2) L (.ref n :: S) (n + 1, R, M, G, b)) : AW l Y sc d Q pc L (.int i :: S) (n, R, M, G, b + 1) := by
  subst hi
  exact aw_newi (k := 1) harr hdg hk (by omega) (by decide) (by decide) rfl kk
theorem gu_newz {N : Nat} {i : Int32} (hi : i = nI N) (harr : Cond.arrayClass .boolean ∈ ow_ws) (hdg : decode Y.2.1 pc = .ok (.newarray .boolean, 2)) (hk : ow_kd n = (2, N)) (hN : N ≤ 128) (kk : AW l Y sc d Q (pc + 2) L (.ref n :: S) (n + 1, R, M, G, b)) : AW l Y sc d Q pc L (.int i :: S) (n, R, M, G, b + 1) := by
  subst hi
  exact aw_newz (k := 1) harr hdg hk (by omega) (by decide) (by decide) rfl kk
theorem gu_newl {N : Nat} {i : Int32} (hi : i = nI N) (harr : Cond.arrayClass .long ∈ ow_ws) (hdg : decode Y.2.1 pc = .ok (.newarray .long, 2)) (hk : ow_kd n = (3, N)) (hN : N ≤ 128) (kk : AW l Y sc d Q (pc + 2) L (.ref n :: S) (n + 1, R, M, G, b)) : AW l Y sc d Q pc L (.int i :: S) (n, R, M, G, b + 1) := by
  subst hi
  exact aw_newl (k := 1) harr hdg hk (by omega) (by decide) (by decide) rfl kk
theorem gu_rows {index N : Nat} {i : Int32} (hi : i = nI N) (hcl : Cond.classLink Y.1.cls index "[[I" ∈ ow_ws) (harr : Cond.arrayClass .int ∈ ow_ws) (hdg : decode Y.2.1 pc = .ok (.multianewarray index 2, 4)) (hk : ow_kd n = (4, N)) (hr : ∀ i, i < N → ow_kd (n + 1 + i) = (1, 24)) (hN : N ≤ 5) (kk : AW l Y sc d Q (pc + 4) L (.ref n :: S) (n + 1 + N, ow_um R n N, M, G, b)) : AW l Y sc d Q pc L (.int 24 :: .int i :: S) (n, R, M, G, b + 1) := by
  subst hi
  exact aw_rows (N := N) (K := 24) (k := 1) hcl harr hdg hk hr (by omega) (by decide) rfl (by omega) (by omega) kk
theorem gu_new {index ci : Nat} (hN : ow_N Y.1.cls index ci) (hdg : decode Y.2.1 pc = .ok (.new index, 3)) (hk : ow_kd n = (0, ci)) (hnf : ow_nf ci ≤ 128) (kk : AW l Y sc d Q (pc + 3) L (.ref n :: S) (n + 1, R, M, G, b)) : AW l Y sc d Q pc L S (n, R, M, G, b + 1) := aw_new hN hdg hk hnf rfl kk
end GuRules
theorem lkN_R_9 : Cond.instanceMethod Y_P_init.1 ∈ ow_ws ∧ Y_P_init.1.name = "<init>" := ⟨tb1 25 rfl rfl, rfl⟩
section TCtor
variable {l : Launch} {Q : ow_R → ow_M → Prop} {M : Nat → Nat → Int32} {G : Nat → Nat → Int64} {b n : Nat} {R : Nat → Nat → Option Nat}
theorem t_S_clearG (hn : 48 ≤ n) (h1 : R 45 1 = some 46) (h2 : R 45 2 = some 47) (hq : Q (.inl none) (n, R, (ow_u (ow_u (ow_u (ow_u (ow_u (ow_u (ow_u (ow_u (ow_u (ow_u M 45 0 (-1)) 46 0 (-1)) 46 1 (-1)) 46 2 (-1)) 46 3 (-1)) 47 0 (-1)) 47 1 (-1)) 47 2 (-1)) 47 3 (-1)) 47 4 (-1)), G, b)) : MT l Y_S_clear (0, 0) [.ref 45] (n, R, M, G, b) Q := by
  refine mt_of (k := 1) (by decide) cd_S_clear.1 (by simp [Value.category]) rfl ?_
  refine aw_aload_n d_S_clear_0 rfl ?_
  refine aw_iconst (v := -1) d_S_clear_1 (by decide) ?_
  refine gu_puti fw_S_9 d_S_clear_2 (by omega) rfl rfl rfl rfl ?_
  refine aw_iconst (v := 0) d_S_clear_5 (by decide) ?_
  refine aw_istore_n d_S_clear_6 (by decide) ?_
  refine aw_iload_n d_S_clear_7 rfl ?_
  refine aw_iconst (v := 4) d_S_clear_8 (by decide) ?_
  refine aw_icmp_ge (tgt := 25) d_S_clear_9 rfl (fun h => absurd h (by decide)) (fun _ => ?_)
  refine aw_aload_n d_S_clear_12 rfl ?_
  refine gu_getr (t := 46) f_S_15 d_S_clear_13 (by omega) rfl rfl h1 ?_
  refine aw_iload_n d_S_clear_16 rfl ?_
  refine aw_iconst (v := -1) d_S_clear_17 (by decide) ?_
  refine gu_iast (j := 0) rfl d_S_clear_18 (by omega) rfl (by decide) (by decide) ?_
  refine aw_iinc (v := 1) d_S_clear_19 rfl (by decide) (by decide) ?_
  refine aw_goto (tgt := 7) d_S_clear_22 rfl ?_
  refine aw_iload_n d_S_clear_7 rfl ?_
  refine aw_iconst (v := 4) d_S_clear_8 (by decide) ?_
  refine aw_icmp_ge (tgt := 25) d_S_clear_9 rfl (fun h => absurd h (by decide)) (fun _ => ?_)
  refine aw_aload_n d_S_clear_12 rfl ?_
  refine gu_getr (t := 46) f_S_15 d_S_clear_13 (by omega) rfl rfl h1 ?_
  refine aw_iload_n d_S_clear_16 rfl ?_
  refine aw_iconst (v := -1) d_S_clear_17 (by decide) ?_
  refine gu_iast (j := 1) rfl d_S_clear_18 (by omega) rfl (by decide) (by decide) ?_
  refine aw_iinc (v := 2) d_S_clear_19 rfl (by decide) (by decide) ?_
  refine aw_goto (tgt := 7) d_S_clear_22 rfl ?_
  refine aw_iload_n d_S_clear_7 rfl ?_
  refine aw_iconst (v := 4) d_S_clear_8 (by decide) ?_
  refine aw_icmp_ge (tgt := 25) d_S_clear_9 rfl (fun h => absurd h (by decide)) (fun _ => ?_)
  refine aw_aload_n d_S_clear_12 rfl ?_
  refine gu_getr (t := 46) f_S_15 d_S_clear_13 (by omega) rfl rfl h1 ?_
  refine aw_iload_n d_S_clear_16 rfl ?_
  refine aw_iconst (v := -1) d_S_clear_17 (by decide) ?_
  refine gu_iast (j := 2) rfl d_S_clear_18 (by omega) rfl (by decide) (by decide) ?_
  refine aw_iinc (v := 3) d_S_clear_19 rfl (by decide) (by decide) ?_
  refine aw_goto (tgt := 7) d_S_clear_22 rfl ?_
  refine aw_iload_n d_S_clear_7 rfl ?_
  refine aw_iconst (v := 4) d_S_clear_8 (by decide) ?_
  refine aw_icmp_ge (tgt := 25) d_S_clear_9 rfl (fun h => absurd h (by decide)) (fun _ => ?_)
  refine aw_aload_n d_S_clear_12 rfl ?_
  refine gu_getr (t := 46) f_S_15 d_S_clear_13 (by omega) rfl rfl h1 ?_
  refine aw_iload_n d_S_clear_16 rfl ?_
  refine aw_iconst (v := -1) d_S_clear_17 (by decide) ?_
  refine gu_iast (j := 3) rfl d_S_clear_18 (by omega) rfl (by decide) (by decide) ?_
  refine aw_iinc (v := 4) d_S_clear_19 rfl (by decide) (by decide) ?_
  refine aw_goto (tgt := 7) d_S_clear_22 rfl ?_
  refine aw_iload_n d_S_clear_7 rfl ?_
  refine aw_iconst (v := 4) d_S_clear_8 (by decide) ?_
  refine aw_icmp_ge (tgt := 25) d_S_clear_9 rfl (fun _ => ?_) (fun h => absurd (by decide) h)
  refine aw_iconst (v := 0) d_S_clear_25 (by decide) ?_
  refine aw_istore_n d_S_clear_26 (by decide) ?_
  refine aw_iload_n d_S_clear_27 rfl ?_
  refine aw_iconst (v := 5) d_S_clear_28 (by decide) ?_
  refine aw_icmp_ge (tgt := 45) d_S_clear_29 rfl (fun h => absurd h (by decide)) (fun _ => ?_)
  refine aw_aload_n d_S_clear_32 rfl ?_
  refine gu_getr (t := 47) f_S_19 d_S_clear_33 (by omega) rfl rfl h2 ?_
  refine aw_iload_n d_S_clear_36 rfl ?_
  refine aw_iconst (v := -1) d_S_clear_37 (by decide) ?_
  refine gu_iast (j := 0) rfl d_S_clear_38 (by omega) rfl (by decide) (by decide) ?_
  refine aw_iinc (v := 1) d_S_clear_39 rfl (by decide) (by decide) ?_
  refine aw_goto (tgt := 27) d_S_clear_42 rfl ?_
  refine aw_iload_n d_S_clear_27 rfl ?_
  refine aw_iconst (v := 5) d_S_clear_28 (by decide) ?_
  refine aw_icmp_ge (tgt := 45) d_S_clear_29 rfl (fun h => absurd h (by decide)) (fun _ => ?_)
  refine aw_aload_n d_S_clear_32 rfl ?_
  refine gu_getr (t := 47) f_S_19 d_S_clear_33 (by omega) rfl rfl h2 ?_
  refine aw_iload_n d_S_clear_36 rfl ?_
  refine aw_iconst (v := -1) d_S_clear_37 (by decide) ?_
  refine gu_iast (j := 1) rfl d_S_clear_38 (by omega) rfl (by decide) (by decide) ?_
  refine aw_iinc (v := 2) d_S_clear_39 rfl (by decide) (by decide) ?_
  refine aw_goto (tgt := 27) d_S_clear_42 rfl ?_
  refine aw_iload_n d_S_clear_27 rfl ?_
  refine aw_iconst (v := 5) d_S_clear_28 (by decide) ?_
  refine aw_icmp_ge (tgt := 45) d_S_clear_29 rfl (fun h => absurd h (by decide)) (fun _ => ?_)
  refine aw_aload_n d_S_clear_32 rfl ?_
  refine gu_getr (t := 47) f_S_19 d_S_clear_33 (by omega) rfl rfl h2 ?_
  refine aw_iload_n d_S_clear_36 rfl ?_
  refine aw_iconst (v := -1) d_S_clear_37 (by decide) ?_
  refine gu_iast (j := 2) rfl d_S_clear_38 (by omega) rfl (by decide) (by decide) ?_
  refine aw_iinc (v := 3) d_S_clear_39 rfl (by decide) (by decide) ?_
  refine aw_goto (tgt := 27) d_S_clear_42 rfl ?_
  refine aw_iload_n d_S_clear_27 rfl ?_
  refine aw_iconst (v := 5) d_S_clear_28 (by decide) ?_
  refine aw_icmp_ge (tgt := 45) d_S_clear_29 rfl (fun h => absurd h (by decide)) (fun _ => ?_)
  refine aw_aload_n d_S_clear_32 rfl ?_
  refine gu_getr (t := 47) f_S_19 d_S_clear_33 (by omega) rfl rfl h2 ?_
  refine aw_iload_n d_S_clear_36 rfl ?_
  refine aw_iconst (v := -1) d_S_clear_37 (by decide) ?_
  refine gu_iast (j := 3) rfl d_S_clear_38 (by omega) rfl (by decide) (by decide) ?_
  refine aw_iinc (v := 4) d_S_clear_39 rfl (by decide) (by decide) ?_
  refine aw_goto (tgt := 27) d_S_clear_42 rfl ?_
  refine aw_iload_n d_S_clear_27 rfl ?_
  refine aw_iconst (v := 5) d_S_clear_28 (by decide) ?_
  refine aw_icmp_ge (tgt := 45) d_S_clear_29 rfl (fun h => absurd h (by decide)) (fun _ => ?_)
  refine aw_aload_n d_S_clear_32 rfl ?_
  refine gu_getr (t := 47) f_S_19 d_S_clear_33 (by omega) rfl rfl h2 ?_
  refine aw_iload_n d_S_clear_36 rfl ?_
  refine aw_iconst (v := -1) d_S_clear_37 (by decide) ?_
  refine gu_iast (j := 4) rfl d_S_clear_38 (by omega) rfl (by decide) (by decide) ?_
  refine aw_iinc (v := 5) d_S_clear_39 rfl (by decide) (by decide) ?_
  refine aw_goto (tgt := 27) d_S_clear_42 rfl ?_
  refine aw_iload_n d_S_clear_27 rfl ?_
  refine aw_iconst (v := 5) d_S_clear_28 (by decide) ?_
  refine aw_icmp_ge (tgt := 45) d_S_clear_29 rfl (fun _ => ?_) (fun h => absurd (by decide) h)
  refine aw_vret d_S_clear_45 rfl ?_
  exact hq
theorem t_M_forgetG (hn : 69 ≤ n) (h1 : R 48 17 = some 60) (h2 : R 48 18 = some 61) (hq : Q (.inl none) (n, R, (ow_u (ow_u (ow_u (ow_u (ow_u (ow_u (ow_u (ow_u (ow_u (ow_u M 48 16 (-1)) 60 0 (-1)) 60 1 (-1)) 60 2 (-1)) 60 3 (-1)) 61 0 (-1)) 61 1 (-1)) 61 2 (-1)) 61 3 (-1)) 61 4 (-1)), G, b)) : MT l Y_M_forget (0, 0) [.ref 48] (n, R, M, G, b) Q := by
  refine mt_of (k := 1) (by decide) cd_M_forget.1 (by simp [Value.category]) rfl ?_
  refine aw_aload_n d_M_forget_0 rfl ?_
  refine aw_iconst (v := -1) d_M_forget_1 (by decide) ?_
  refine gu_puti fw_M_47 d_M_forget_2 (by omega) rfl rfl rfl rfl ?_
  refine aw_iconst (v := 0) d_M_forget_5 (by decide) ?_
  refine aw_istore_n d_M_forget_6 (by decide) ?_
  refine aw_iload_n d_M_forget_7 rfl ?_
  refine aw_iconst (v := 4) d_M_forget_8 (by decide) ?_
  refine aw_icmp_ge (tgt := 25) d_M_forget_9 rfl (fun h => absurd h (by decide)) (fun _ => ?_)
  refine aw_aload_n d_M_forget_12 rfl ?_
  refine gu_getr (t := 60) f_M_50 d_M_forget_13 (by omega) rfl rfl h1 ?_
  refine aw_iload_n d_M_forget_16 rfl ?_
  refine aw_iconst (v := -1) d_M_forget_17 (by decide) ?_
  refine gu_iast (j := 0) rfl d_M_forget_18 (by omega) rfl (by decide) (by decide) ?_
  refine aw_iinc (v := 1) d_M_forget_19 rfl (by decide) (by decide) ?_
  refine aw_goto (tgt := 7) d_M_forget_22 rfl ?_
  refine aw_iload_n d_M_forget_7 rfl ?_
  refine aw_iconst (v := 4) d_M_forget_8 (by decide) ?_
  refine aw_icmp_ge (tgt := 25) d_M_forget_9 rfl (fun h => absurd h (by decide)) (fun _ => ?_)
  refine aw_aload_n d_M_forget_12 rfl ?_
  refine gu_getr (t := 60) f_M_50 d_M_forget_13 (by omega) rfl rfl h1 ?_
  refine aw_iload_n d_M_forget_16 rfl ?_
  refine aw_iconst (v := -1) d_M_forget_17 (by decide) ?_
  refine gu_iast (j := 1) rfl d_M_forget_18 (by omega) rfl (by decide) (by decide) ?_
  refine aw_iinc (v := 2) d_M_forget_19 rfl (by decide) (by decide) ?_
  refine aw_goto (tgt := 7) d_M_forget_22 rfl ?_
  refine aw_iload_n d_M_forget_7 rfl ?_
  refine aw_iconst (v := 4) d_M_forget_8 (by decide) ?_
  refine aw_icmp_ge (tgt := 25) d_M_forget_9 rfl (fun h => absurd h (by decide)) (fun _ => ?_)
  refine aw_aload_n d_M_forget_12 rfl ?_
  refine gu_getr (t := 60) f_M_50 d_M_forget_13 (by omega) rfl rfl h1 ?_
  refine aw_iload_n d_M_forget_16 rfl ?_
  refine aw_iconst (v := -1) d_M_forget_17 (by decide) ?_
  refine gu_iast (j := 2) rfl d_M_forget_18 (by omega) rfl (by decide) (by decide) ?_
  refine aw_iinc (v := 3) d_M_forget_19 rfl (by decide) (by decide) ?_
  refine aw_goto (tgt := 7) d_M_forget_22 rfl ?_
  refine aw_iload_n d_M_forget_7 rfl ?_
  refine aw_iconst (v := 4) d_M_forget_8 (by decide) ?_
  refine aw_icmp_ge (tgt := 25) d_M_forget_9 rfl (fun h => absurd h (by decide)) (fun _ => ?_)
  refine aw_aload_n d_M_forget_12 rfl ?_
  refine gu_getr (t := 60) f_M_50 d_M_forget_13 (by omega) rfl rfl h1 ?_
  refine aw_iload_n d_M_forget_16 rfl ?_
  refine aw_iconst (v := -1) d_M_forget_17 (by decide) ?_
  refine gu_iast (j := 3) rfl d_M_forget_18 (by omega) rfl (by decide) (by decide) ?_
  refine aw_iinc (v := 4) d_M_forget_19 rfl (by decide) (by decide) ?_
  refine aw_goto (tgt := 7) d_M_forget_22 rfl ?_
  refine aw_iload_n d_M_forget_7 rfl ?_
  refine aw_iconst (v := 4) d_M_forget_8 (by decide) ?_
  refine aw_icmp_ge (tgt := 25) d_M_forget_9 rfl (fun _ => ?_) (fun h => absurd (by decide) h)
  refine aw_iconst (v := 0) d_M_forget_25 (by decide) ?_
  refine aw_istore_n d_M_forget_26 (by decide) ?_
  refine aw_iload_n d_M_forget_27 rfl ?_
  refine aw_iconst (v := 5) d_M_forget_28 (by decide) ?_
  refine aw_icmp_ge (tgt := 45) d_M_forget_29 rfl (fun h => absurd h (by decide)) (fun _ => ?_)
  refine aw_aload_n d_M_forget_32 rfl ?_
  refine gu_getr (t := 61) f_M_53 d_M_forget_33 (by omega) rfl rfl h2 ?_
  refine aw_iload_n d_M_forget_36 rfl ?_
  refine aw_iconst (v := -1) d_M_forget_37 (by decide) ?_
  refine gu_iast (j := 0) rfl d_M_forget_38 (by omega) rfl (by decide) (by decide) ?_
  refine aw_iinc (v := 1) d_M_forget_39 rfl (by decide) (by decide) ?_
  refine aw_goto (tgt := 27) d_M_forget_42 rfl ?_
  refine aw_iload_n d_M_forget_27 rfl ?_
  refine aw_iconst (v := 5) d_M_forget_28 (by decide) ?_
  refine aw_icmp_ge (tgt := 45) d_M_forget_29 rfl (fun h => absurd h (by decide)) (fun _ => ?_)
  refine aw_aload_n d_M_forget_32 rfl ?_
  refine gu_getr (t := 61) f_M_53 d_M_forget_33 (by omega) rfl rfl h2 ?_
  refine aw_iload_n d_M_forget_36 rfl ?_
  refine aw_iconst (v := -1) d_M_forget_37 (by decide) ?_
  refine gu_iast (j := 1) rfl d_M_forget_38 (by omega) rfl (by decide) (by decide) ?_
  refine aw_iinc (v := 2) d_M_forget_39 rfl (by decide) (by decide) ?_
  refine aw_goto (tgt := 27) d_M_forget_42 rfl ?_
  refine aw_iload_n d_M_forget_27 rfl ?_
  refine aw_iconst (v := 5) d_M_forget_28 (by decide) ?_
  refine aw_icmp_ge (tgt := 45) d_M_forget_29 rfl (fun h => absurd h (by decide)) (fun _ => ?_)
  refine aw_aload_n d_M_forget_32 rfl ?_
  refine gu_getr (t := 61) f_M_53 d_M_forget_33 (by omega) rfl rfl h2 ?_
  refine aw_iload_n d_M_forget_36 rfl ?_
  refine aw_iconst (v := -1) d_M_forget_37 (by decide) ?_
  refine gu_iast (j := 2) rfl d_M_forget_38 (by omega) rfl (by decide) (by decide) ?_
  refine aw_iinc (v := 3) d_M_forget_39 rfl (by decide) (by decide) ?_
  refine aw_goto (tgt := 27) d_M_forget_42 rfl ?_
  refine aw_iload_n d_M_forget_27 rfl ?_
  refine aw_iconst (v := 5) d_M_forget_28 (by decide) ?_
  refine aw_icmp_ge (tgt := 45) d_M_forget_29 rfl (fun h => absurd h (by decide)) (fun _ => ?_)
  refine aw_aload_n d_M_forget_32 rfl ?_
  refine gu_getr (t := 61) f_M_53 d_M_forget_33 (by omega) rfl rfl h2 ?_
  refine aw_iload_n d_M_forget_36 rfl ?_
  refine aw_iconst (v := -1) d_M_forget_37 (by decide) ?_
  refine gu_iast (j := 3) rfl d_M_forget_38 (by omega) rfl (by decide) (by decide) ?_
  refine aw_iinc (v := 4) d_M_forget_39 rfl (by decide) (by decide) ?_
  refine aw_goto (tgt := 27) d_M_forget_42 rfl ?_
  refine aw_iload_n d_M_forget_27 rfl ?_
  refine aw_iconst (v := 5) d_M_forget_28 (by decide) ?_
  refine aw_icmp_ge (tgt := 45) d_M_forget_29 rfl (fun h => absurd h (by decide)) (fun _ => ?_)
  refine aw_aload_n d_M_forget_32 rfl ?_
  refine gu_getr (t := 61) f_M_53 d_M_forget_33 (by omega) rfl rfl h2 ?_
  refine aw_iload_n d_M_forget_36 rfl ?_
  refine aw_iconst (v := -1) d_M_forget_37 (by decide) ?_
  refine gu_iast (j := 4) rfl d_M_forget_38 (by omega) rfl (by decide) (by decide) ?_
  refine aw_iinc (v := 5) d_M_forget_39 rfl (by decide) (by decide) ?_
  refine aw_goto (tgt := 27) d_M_forget_42 rfl ?_
  refine aw_iload_n d_M_forget_27 rfl ?_
  refine aw_iconst (v := 5) d_M_forget_28 (by decide) ?_
  refine aw_icmp_ge (tgt := 45) d_M_forget_29 rfl (fun _ => ?_) (fun h => absurd (by decide) h)
  refine aw_vret d_M_forget_45 rfl ?_
  exact hq
theorem t_P_init (hq : Q (.inl none) (7, (ow_ur (ow_ur (ow_ur (ow_ur (ow_ur R 1 2 (some 2)) 1 3 (some 3)) 1 4 (some 4)) 1 5 (some 5)) 1 6 (some 6)), ow_u (ow_u M 1 0 0) 1 1 0, G, b)) : MT l Y_P_init (1, 12) [.ref 1] (2, R, M, G, b + 5) Q := by
  refine mt_of (k := 0) (by decide) cd_P_init.1 (by simp [Value.category]) rfl ?_
  refine aw_aload_n d_P_init_0 rfl ?_
  refine aw_objInit ob_P_3 ob_i ob_c d_P_init_1 ⟨Nat.le_of_ble_eq_true rfl, Nat.le_of_ble_eq_true rfl⟩ ?_
  refine aw_aload_n d_P_init_4 rfl ?_
  refine aw_iconst (v := 0) d_P_init_5 (by decide) ?_
  refine gu_puti fw_P_9 d_P_init_6 (by decide) rfl rfl rfl rfl ?_
  refine aw_aload_n d_P_init_9 rfl ?_
  refine aw_iconst (v := 0) d_P_init_10 (by decide) ?_
  refine gu_puti fw_P_15 d_P_init_11 (by decide) rfl rfl rfl rfl ?_
  refine aw_aload_n d_P_init_14 rfl ?_
  refine aw_iconst (v := 4) d_P_init_15 (by decide) ?_
  refine gu_newi (N := 4) rfl ar_int d_P_init_16 rfl (by decide) ?_
  refine gu_putr fw_P_18 rfl d_P_init_18 (by decide) rfl rfl (fun _ => rfl) (fun _ => rfl) ?_
  refine aw_aload_n d_P_init_21 rfl ?_
  refine aw_iconst (v := 5) d_P_init_22 (by decide) ?_
  refine gu_newi (N := 5) rfl ar_int d_P_init_23 rfl (by decide) ?_
  refine gu_putr fw_P_22 rfl d_P_init_25 (by decide) rfl rfl (fun _ => rfl) (fun _ => rfl) ?_
  refine aw_aload_n d_P_init_28 rfl ?_
  refine aw_iconst (v := 5) d_P_init_29 (by decide) ?_
  refine gu_newi (N := 5) rfl ar_int d_P_init_30 rfl (by decide) ?_
  refine gu_putr fw_P_25 rfl d_P_init_32 (by decide) rfl rfl (fun _ => rfl) (fun _ => rfl) ?_
  refine aw_aload_n d_P_init_35 rfl ?_
  refine aw_iconst (v := 5) d_P_init_36 (by decide) ?_
  refine gu_newi (N := 5) rfl ar_int d_P_init_37 rfl (by decide) ?_
  refine gu_putr fw_P_28 rfl d_P_init_39 (by decide) rfl rfl (fun _ => rfl) (fun _ => rfl) ?_
  refine aw_aload_n d_P_init_42 rfl ?_
  refine aw_iconst (v := 5) d_P_init_43 (by decide) ?_
  refine gu_newi (N := 5) rfl ar_int d_P_init_44 rfl (by decide) ?_
  refine gu_putr fw_P_31 rfl d_P_init_46 (by decide) rfl rfl (fun _ => rfl) (fun _ => rfl) ?_
  refine aw_vret d_P_init_49 rfl ?_
  exact hq
def bR7 (R : Nat → Nat → Option Nat) : Nat → Nat → Option Nat := (ow_ur (ow_um (ow_ur (ow_um (ow_ur (ow_um (ow_ur (ow_ur R 7 2 (some 8)) 7 3 (some 9)) 10 3) 7 4 (some 10)) 14 5) 7 5 (some 14)) 20 5) 7 6 (some 20))
def bF7 (M : Nat → Nat → Int32) (i j : Nat) : Nat → Nat → Int32 := fun c p => if p < 24 ∧ ((15 ≤ c ∧ c < 20 ∧ (c < 15 + i ∨ (c = 15 + i ∧ p < j))) ∨ (21 ≤ c ∧ c < 26 ∧ (c < 21 + i ∨ (c = 21 + i ∧ p < j)))) then -1 else M c p
theorem bF7_0 : bF7 M 0 0 = M := by funext c p; unfold bF7; rw [if_neg (by omega)]
theorem bF7_n {i : Nat} : bF7 M i 24 = bF7 M (i + 1) 0 := by
  funext c p; unfold bF7
  by_cases h : p < 24 ∧ ((15 ≤ c ∧ c < 20 ∧ (c < 15 + i ∨ (c = 15 + i ∧ p < 24))) ∨ (21 ≤ c ∧ c < 26 ∧ (c < 21 + i ∨ (c = 21 + i ∧ p < 24))))
  · rw [if_pos h, if_pos (by omega)]
  · rw [if_neg h, if_neg (by omega)]
theorem bF7_st {i j : Nat} (hi : i < 5) (hj : j < 24) : ow_u (ow_u (bF7 M i j) (15 + i) j (-1)) (21 + i) j (-1) = bF7 M i (j + 1) := by
  funext c p
  by_cases e1 : c = 21 + i
  · subst e1; rw [ow_u_eq]
    by_cases e : p = j
    · subst e; simp only [upd, if_true]; unfold bF7; rw [if_pos (by omega)]
    · simp only [upd, if_neg e]; rw [ow_u_ne (by omega)]; unfold bF7
      by_cases h : p < 24 ∧ p < j
      · rw [if_pos (by omega), if_pos (by omega)]
      · rw [if_neg (by omega), if_neg (by omega)]
  · rw [ow_u_ne e1]
    by_cases e2 : c = 15 + i
    · subst e2; rw [ow_u_eq]
      by_cases e : p = j
      · subst e; simp only [upd, if_true]; unfold bF7; rw [if_pos (by omega)]
      · simp only [upd, if_neg e]; unfold bF7
        by_cases h : p < 24 ∧ p < j
        · rw [if_pos (by omega), if_pos (by omega)]
        · rw [if_neg (by omega), if_neg (by omega)]
    · rw [ow_u_ne e2]; unfold bF7
      by_cases h : p < 24 ∧ ((15 ≤ c ∧ c < 15 + i) ∨ (21 ≤ c ∧ c < 21 + i))
      · rw [if_pos (by omega), if_pos (by omega)]
      · rw [if_neg (by omega), if_neg (by omega)]
theorem kd_r7 {i : Nat} (h : i < 5) : ow_kd (15 + i) = (1, 24) ∧ ow_kd (21 + i) = (1, 24) := by
  rcases (show i = 0 ∨ i = 1 ∨ i = 2 ∨ i = 3 ∨ i = 4 by omega) with rfl | rfl | rfl | rfl | rfl <;> exact ⟨rfl, rfl⟩
theorem t_B_init7 (hq : Q (.inl none) (26, bR7 R, bF7 (ow_u (ow_u M 7 0 0) 7 1 1) 5 0, G, b)) : MT l Y_B_init (1, 12) [.ref 7] (8, R, M, G, b + 5) Q := by
  refine mt_of (k := 2) (by decide) cd_B_init.1 (by simp [Value.category]) rfl ?_
  have ls : ∀ i, i ≤ 5 → ∀ w2 : Option Value, AW l Y_B_init none (1, 12) Q 65 [some (.ref 7), some (.int (nI i)), w2] [] (26, bR7 R, bF7 (ow_u (ow_u M 7 0 0) 7 1 1) i 0, G, b) := by
    refine loop_dn 5 (fun i hi ih => ?_)
    intro w2
    have lr : i < 5 → ∀ j, j ≤ 24 → AW l Y_B_init none (1, 12) Q 72 [some (.ref 7), some (.int (nI i)), some (.int (nI j))] [] (26, bR7 R, bF7 (ow_u (ow_u M 7 0 0) 7 1 1) i j, G, b) := by
      intro hi2
      refine loop_dn 24 (fun j hj ihj => ?_)
      refine aw_iload_n d_B_init_72 rfl ?_
      refine aw_bipush (v := 24) d_B_init_73 (by decide) ?_
      refine aw_icmp_ge (tgt := 102) d_B_init_75 rfl (fun g75 => ?_) (fun g75 => ?_)
      · have hj2 := ge_n (n := 24) rfl hj (by omega) g75
        subst hj2
        refine aw_iinc (v := nI (i + 1)) d_B_init_102 rfl (nI_succ i).symm (by decide) ?_
        refine aw_goto (tgt := 65) d_B_init_105 rfl ?_
        have h := ih hi2 (some (.int (nI 24)))
        rw [← bF7_n] at h
        exact h
      · have hj2 := lt_n (n := 24) rfl hj (by omega) g75
        refine aw_aload_n d_B_init_78 rfl ?_
        refine gu_getr (t := 14) f_B_30 d_B_init_79 (by decide) rfl rfl (by simp [bR7, ow_ur, ow_um, va_up]) ?_
        refine aw_iload_n d_B_init_82 rfl ?_
        refine gu_aald (t := 15 + i) rfl d_B_init_83 (by decide) rfl (by omega) (by decide) (by simp [bR7, ow_ur, ow_um, va_up, hi2]) ?_
        refine aw_iload_n d_B_init_84 rfl ?_
        refine aw_iconst (v := -1) d_B_init_85 (by decide) ?_
        refine gu_iast rfl d_B_init_86 (by omega) (kd_r7 hi2).1 (by omega) (by decide) ?_
        refine aw_aload_n d_B_init_87 rfl ?_
        refine gu_getr (t := 20) f_B_33 d_B_init_88 (by decide) rfl rfl (by simp [bR7, ow_ur, ow_um, va_up]) ?_
        refine aw_iload_n d_B_init_91 rfl ?_
        refine gu_aald (t := 21 + i) rfl d_B_init_92 (by decide) rfl (by omega) (by decide) (by simp [bR7, ow_ur, ow_um, va_up, hi2]) ?_
        refine aw_iload_n d_B_init_93 rfl ?_
        refine aw_iconst (v := -1) d_B_init_94 (by decide) ?_
        refine gu_iast rfl d_B_init_95 (by omega) (kd_r7 hi2).2 (by omega) (by decide) ?_
        refine aw_iinc (v := nI (j + 1)) d_B_init_96 rfl (nI_succ j).symm (by decide) ?_
        refine aw_goto (tgt := 72) d_B_init_99 rfl ?_
        rw [bF7_st hi2 hj2]
        exact ihj hj2
    refine aw_iload_n d_B_init_65 rfl ?_
    refine aw_iconst (v := 5) d_B_init_66 (by decide) ?_
    refine aw_icmp_ge (tgt := 108) d_B_init_67 rfl (fun g67 => ?_) (fun g67 => ?_)
    · have hi2 := ge_n (n := 5) rfl hi (by omega) g67
      subst hi2
      refine aw_vret d_B_init_108 rfl ?_
      exact hq
    · have hi2 := lt_n (n := 5) rfl hi (by omega) g67
      refine aw_iconst (v := 0) d_B_init_70 (by decide) ?_
      refine aw_istore_n d_B_init_71 (by decide) ?_
      exact lr hi2 0 (by omega)
  refine aw_aload_n d_B_init_0 rfl ?_
  refine aw_objInit ob_B_3 ob_i ob_c d_B_init_1 ⟨Nat.le_of_ble_eq_true rfl, Nat.le_of_ble_eq_true rfl⟩ ?_
  refine aw_aload_n d_B_init_4 rfl ?_
  refine aw_iconst (v := 0) d_B_init_5 (by decide) ?_
  refine gu_puti fw_B_9 d_B_init_6 (by decide) rfl rfl rfl rfl ?_
  refine aw_aload_n d_B_init_9 rfl ?_
  refine aw_iconst (v := 1) d_B_init_10 (by decide) ?_
  refine gu_puti fw_B_15 d_B_init_11 (by decide) rfl rfl rfl rfl ?_
  refine aw_aload_n d_B_init_14 rfl ?_
  refine aw_bipush (v := 24) d_B_init_15 (by decide) ?_
  refine gu_newi (N := 24) rfl ar_int d_B_init_17 rfl (by decide) ?_
  refine gu_putr fw_B_18 rfl d_B_init_19 (by decide) rfl rfl (fun _ => rfl) (fun _ => rfl) ?_
  refine aw_aload_n d_B_init_22 rfl ?_
  refine aw_bipush (v := 24) d_B_init_23 (by decide) ?_
  refine gu_newi (N := 24) rfl ar_int d_B_init_25 rfl (by decide) ?_
  refine gu_putr fw_B_22 rfl d_B_init_27 (by decide) rfl rfl (fun _ => rfl) (fun _ => rfl) ?_
  refine aw_aload_n d_B_init_30 rfl ?_
  refine aw_iconst (v := 3) d_B_init_31 (by decide) ?_
  refine aw_bipush (v := 24) d_B_init_32 (by decide) ?_
  refine gu_rows (N := 3) rfl rw_B_25 ar_int d_B_init_34 rfl (by decide) (by decide) ?_
  refine gu_putr fw_B_27 rfl d_B_init_38 (by decide) rfl rfl (fun _ => rfl) (fun _ => rfl) ?_
  refine aw_aload_n d_B_init_41 rfl ?_
  refine aw_iconst (v := 5) d_B_init_42 (by decide) ?_
  refine aw_bipush (v := 24) d_B_init_43 (by decide) ?_
  refine gu_rows (N := 5) rfl rw_B_25 ar_int d_B_init_45 rfl (by decide) (by decide) ?_
  refine gu_putr fw_B_30 rfl d_B_init_49 (by decide) rfl rfl (fun _ => rfl) (fun _ => rfl) ?_
  refine aw_aload_n d_B_init_52 rfl ?_
  refine aw_iconst (v := 5) d_B_init_53 (by decide) ?_
  refine aw_bipush (v := 24) d_B_init_54 (by decide) ?_
  refine gu_rows (N := 5) rfl rw_B_25 ar_int d_B_init_56 rfl (by decide) (by decide) ?_
  refine gu_putr fw_B_33 rfl d_B_init_60 (by decide) rfl rfl (fun _ => rfl) (fun _ => rfl) ?_
  refine aw_iconst (v := 0) d_B_init_63 (by decide) ?_
  refine aw_istore_n d_B_init_64 (by decide) ?_
  have h := ls 0 (by omega) none
  rw [bF7_0] at h
  exact h
def bR26 (R : Nat → Nat → Option Nat) : Nat → Nat → Option Nat := (ow_ur (ow_um (ow_ur (ow_um (ow_ur (ow_um (ow_ur (ow_ur R 26 2 (some 27)) 26 3 (some 28)) 29 3) 26 4 (some 29)) 33 5) 26 5 (some 33)) 39 5) 26 6 (some 39))
def bF26 (M : Nat → Nat → Int32) (i j : Nat) : Nat → Nat → Int32 := fun c p => if p < 24 ∧ ((34 ≤ c ∧ c < 39 ∧ (c < 34 + i ∨ (c = 34 + i ∧ p < j))) ∨ (40 ≤ c ∧ c < 45 ∧ (c < 40 + i ∨ (c = 40 + i ∧ p < j)))) then -1 else M c p
theorem bF26_0 : bF26 M 0 0 = M := by funext c p; unfold bF26; rw [if_neg (by omega)]
theorem bF26_n {i : Nat} : bF26 M i 24 = bF26 M (i + 1) 0 := by
  funext c p; unfold bF26
  by_cases h : p < 24 ∧ ((34 ≤ c ∧ c < 39 ∧ (c < 34 + i ∨ (c = 34 + i ∧ p < 24))) ∨ (40 ≤ c ∧ c < 45 ∧ (c < 40 + i ∨ (c = 40 + i ∧ p < 24))))
  · rw [if_pos h, if_pos (by omega)]
  · rw [if_neg h, if_neg (by omega)]
theorem bF26_st {i j : Nat} (hi : i < 5) (hj : j < 24) : ow_u (ow_u (bF26 M i j) (34 + i) j (-1)) (40 + i) j (-1) = bF26 M i (j + 1) := by
  funext c p
  by_cases e1 : c = 40 + i
  · subst e1; rw [ow_u_eq]
    by_cases e : p = j
    · subst e; simp only [upd, if_true]; unfold bF26; rw [if_pos (by omega)]
    · simp only [upd, if_neg e]; rw [ow_u_ne (by omega)]; unfold bF26
      by_cases h : p < 24 ∧ p < j
      · rw [if_pos (by omega), if_pos (by omega)]
      · rw [if_neg (by omega), if_neg (by omega)]
  · rw [ow_u_ne e1]
    by_cases e2 : c = 34 + i
    · subst e2; rw [ow_u_eq]
      by_cases e : p = j
      · subst e; simp only [upd, if_true]; unfold bF26; rw [if_pos (by omega)]
      · simp only [upd, if_neg e]; unfold bF26
        by_cases h : p < 24 ∧ p < j
        · rw [if_pos (by omega), if_pos (by omega)]
        · rw [if_neg (by omega), if_neg (by omega)]
    · rw [ow_u_ne e2]; unfold bF26
      by_cases h : p < 24 ∧ ((34 ≤ c ∧ c < 34 + i) ∨ (40 ≤ c ∧ c < 40 + i))
      · rw [if_pos (by omega), if_pos (by omega)]
      · rw [if_neg (by omega), if_neg (by omega)]
theorem kd_r26 {i : Nat} (h : i < 5) : ow_kd (34 + i) = (1, 24) ∧ ow_kd (40 + i) = (1, 24) := by
  rcases (show i = 0 ∨ i = 1 ∨ i = 2 ∨ i = 3 ∨ i = 4 by omega) with rfl | rfl | rfl | rfl | rfl <;> exact ⟨rfl, rfl⟩
theorem t_B_init26 (hq : Q (.inl none) (45, bR26 R, bF26 (ow_u (ow_u M 26 0 0) 26 1 1) 5 0, G, b)) : MT l Y_B_init (1, 12) [.ref 26] (27, R, M, G, b + 5) Q := by
  refine mt_of (k := 2) (by decide) cd_B_init.1 (by simp [Value.category]) rfl ?_
  have ls : ∀ i, i ≤ 5 → ∀ w2 : Option Value, AW l Y_B_init none (1, 12) Q 65 [some (.ref 26), some (.int (nI i)), w2] [] (45, bR26 R, bF26 (ow_u (ow_u M 26 0 0) 26 1 1) i 0, G, b) := by
    refine loop_dn 5 (fun i hi ih => ?_)
    intro w2
    have lr : i < 5 → ∀ j, j ≤ 24 → AW l Y_B_init none (1, 12) Q 72 [some (.ref 26), some (.int (nI i)), some (.int (nI j))] [] (45, bR26 R, bF26 (ow_u (ow_u M 26 0 0) 26 1 1) i j, G, b) := by
      intro hi2
      refine loop_dn 24 (fun j hj ihj => ?_)
      refine aw_iload_n d_B_init_72 rfl ?_
      refine aw_bipush (v := 24) d_B_init_73 (by decide) ?_
      refine aw_icmp_ge (tgt := 102) d_B_init_75 rfl (fun g75 => ?_) (fun g75 => ?_)
      · have hj2 := ge_n (n := 24) rfl hj (by omega) g75
        subst hj2
        refine aw_iinc (v := nI (i + 1)) d_B_init_102 rfl (nI_succ i).symm (by decide) ?_
        refine aw_goto (tgt := 65) d_B_init_105 rfl ?_
        have h := ih hi2 (some (.int (nI 24)))
        rw [← bF26_n] at h
        exact h
      · have hj2 := lt_n (n := 24) rfl hj (by omega) g75
        refine aw_aload_n d_B_init_78 rfl ?_
        refine gu_getr (t := 33) f_B_30 d_B_init_79 (by decide) rfl rfl (by simp [bR26, ow_ur, ow_um, va_up]) ?_
        refine aw_iload_n d_B_init_82 rfl ?_
        refine gu_aald (t := 34 + i) rfl d_B_init_83 (by decide) rfl (by omega) (by decide) (by simp [bR26, ow_ur, ow_um, va_up, hi2]) ?_
        refine aw_iload_n d_B_init_84 rfl ?_
        refine aw_iconst (v := -1) d_B_init_85 (by decide) ?_
        refine gu_iast rfl d_B_init_86 (by omega) (kd_r26 hi2).1 (by omega) (by decide) ?_
        refine aw_aload_n d_B_init_87 rfl ?_
        refine gu_getr (t := 39) f_B_33 d_B_init_88 (by decide) rfl rfl (by simp [bR26, ow_ur, ow_um, va_up]) ?_
        refine aw_iload_n d_B_init_91 rfl ?_
        refine gu_aald (t := 40 + i) rfl d_B_init_92 (by decide) rfl (by omega) (by decide) (by simp [bR26, ow_ur, ow_um, va_up, hi2]) ?_
        refine aw_iload_n d_B_init_93 rfl ?_
        refine aw_iconst (v := -1) d_B_init_94 (by decide) ?_
        refine gu_iast rfl d_B_init_95 (by omega) (kd_r26 hi2).2 (by omega) (by decide) ?_
        refine aw_iinc (v := nI (j + 1)) d_B_init_96 rfl (nI_succ j).symm (by decide) ?_
        refine aw_goto (tgt := 72) d_B_init_99 rfl ?_
        rw [bF26_st hi2 hj2]
        exact ihj hj2
    refine aw_iload_n d_B_init_65 rfl ?_
    refine aw_iconst (v := 5) d_B_init_66 (by decide) ?_
    refine aw_icmp_ge (tgt := 108) d_B_init_67 rfl (fun g67 => ?_) (fun g67 => ?_)
    · have hi2 := ge_n (n := 5) rfl hi (by omega) g67
      subst hi2
      refine aw_vret d_B_init_108 rfl ?_
      exact hq
    · have hi2 := lt_n (n := 5) rfl hi (by omega) g67
      refine aw_iconst (v := 0) d_B_init_70 (by decide) ?_
      refine aw_istore_n d_B_init_71 (by decide) ?_
      exact lr hi2 0 (by omega)
  refine aw_aload_n d_B_init_0 rfl ?_
  refine aw_objInit ob_B_3 ob_i ob_c d_B_init_1 ⟨Nat.le_of_ble_eq_true rfl, Nat.le_of_ble_eq_true rfl⟩ ?_
  refine aw_aload_n d_B_init_4 rfl ?_
  refine aw_iconst (v := 0) d_B_init_5 (by decide) ?_
  refine gu_puti fw_B_9 d_B_init_6 (by decide) rfl rfl rfl rfl ?_
  refine aw_aload_n d_B_init_9 rfl ?_
  refine aw_iconst (v := 1) d_B_init_10 (by decide) ?_
  refine gu_puti fw_B_15 d_B_init_11 (by decide) rfl rfl rfl rfl ?_
  refine aw_aload_n d_B_init_14 rfl ?_
  refine aw_bipush (v := 24) d_B_init_15 (by decide) ?_
  refine gu_newi (N := 24) rfl ar_int d_B_init_17 rfl (by decide) ?_
  refine gu_putr fw_B_18 rfl d_B_init_19 (by decide) rfl rfl (fun _ => rfl) (fun _ => rfl) ?_
  refine aw_aload_n d_B_init_22 rfl ?_
  refine aw_bipush (v := 24) d_B_init_23 (by decide) ?_
  refine gu_newi (N := 24) rfl ar_int d_B_init_25 rfl (by decide) ?_
  refine gu_putr fw_B_22 rfl d_B_init_27 (by decide) rfl rfl (fun _ => rfl) (fun _ => rfl) ?_
  refine aw_aload_n d_B_init_30 rfl ?_
  refine aw_iconst (v := 3) d_B_init_31 (by decide) ?_
  refine aw_bipush (v := 24) d_B_init_32 (by decide) ?_
  refine gu_rows (N := 3) rfl rw_B_25 ar_int d_B_init_34 rfl (by decide) (by decide) ?_
  refine gu_putr fw_B_27 rfl d_B_init_38 (by decide) rfl rfl (fun _ => rfl) (fun _ => rfl) ?_
  refine aw_aload_n d_B_init_41 rfl ?_
  refine aw_iconst (v := 5) d_B_init_42 (by decide) ?_
  refine aw_bipush (v := 24) d_B_init_43 (by decide) ?_
  refine gu_rows (N := 5) rfl rw_B_25 ar_int d_B_init_45 rfl (by decide) (by decide) ?_
  refine gu_putr fw_B_30 rfl d_B_init_49 (by decide) rfl rfl (fun _ => rfl) (fun _ => rfl) ?_
  refine aw_aload_n d_B_init_52 rfl ?_
  refine aw_iconst (v := 5) d_B_init_53 (by decide) ?_
  refine aw_bipush (v := 24) d_B_init_54 (by decide) ?_
  refine gu_rows (N := 5) rfl rw_B_25 ar_int d_B_init_56 rfl (by decide) (by decide) ?_
  refine gu_putr fw_B_33 rfl d_B_init_60 (by decide) rfl rfl (fun _ => rfl) (fun _ => rfl) ?_
  refine aw_iconst (v := 0) d_B_init_63 (by decide) ?_
  refine aw_istore_n d_B_init_64 (by decide) ?_
  have h := ls 0 (by omega) none
  rw [bF26_0] at h
  exact h
theorem t_S_init (hq : Q (.inl none) (48, (ow_ur (ow_ur R 45 1 (some 46)) 45 2 (some 47)), (ow_u (ow_u (ow_u (ow_u (ow_u (ow_u (ow_u (ow_u (ow_u (ow_u (ow_u M 45 0 (-1)) 45 0 (-1)) 46 0 (-1)) 46 1 (-1)) 46 2 (-1)) 46 3 (-1)) 47 0 (-1)) 47 1 (-1)) 47 2 (-1)) 47 3 (-1)) 47 4 (-1)), G, b)) : MT l Y_S_init (1, 13) [.ref 45] (46, R, M, G, b + 2) Q := by
  refine mt_of (k := 0) (by decide) cd_S_init.1 (by simp [Value.category]) rfl ?_
  refine aw_aload_n d_S_init_0 rfl ?_
  refine aw_objInit ob_S_3 ob_i ob_c d_S_init_1 ⟨Nat.le_of_ble_eq_true rfl, Nat.le_of_ble_eq_true rfl⟩ ?_
  refine aw_aload_n d_S_init_4 rfl ?_
  refine aw_iconst (v := -1) d_S_init_5 (by decide) ?_
  refine gu_puti fw_S_9 d_S_init_6 (by decide) rfl rfl rfl rfl ?_
  refine aw_aload_n d_S_init_9 rfl ?_
  refine aw_iconst (v := 4) d_S_init_10 (by decide) ?_
  refine gu_newi (N := 4) rfl ar_int d_S_init_11 rfl (by decide) ?_
  refine gu_putr fw_S_15 rfl d_S_init_13 (by decide) rfl rfl (fun _ => rfl) (fun _ => rfl) ?_
  refine aw_aload_n d_S_init_16 rfl ?_
  refine aw_iconst (v := 5) d_S_init_17 (by decide) ?_
  refine gu_newi (N := 5) rfl ar_int d_S_init_18 rfl (by decide) ?_
  refine gu_putr fw_S_19 rfl d_S_init_20 (by decide) rfl rfl (fun _ => rfl) (fun _ => rfl) ?_
  refine aw_aload_n d_S_init_23 rfl ?_
  refine aw_cV0 (d' := (0, 0)) d_S_init_24 lk_S_22 cd_S_clear (Nat.le_of_ble_eq_true rfl) rfl rfl ⟨Nat.le_of_ble_eq_true rfl, Nat.le_of_ble_eq_true rfl⟩ (fun _ h => nomatch h) ?_
  refine t_S_clearG (by decide) (by simp [ow_ur, va_up]) (by simp [ow_ur, va_up]) ?_
  refine ow_next_v ?_
  refine aw_vret d_S_init_27 rfl ?_
  exact hq
def mR0 (R : Nat → Nat → Option Nat) : Nat → Nat → Option Nat := (ow_ur (ow_ur (ow_ur (ow_ur (ow_ur (ow_ur (ow_ur (ow_ur (ow_ur (ow_ur (ow_ur (ow_ur (ow_ur (ow_ur (ow_ur (ow_ur (ow_ur (ow_ur (ow_ur (ow_ur R 48 2 (some 49)) 48 4 (some 50)) 48 5 (some 51)) 48 6 (some 52)) 48 7 (some 53)) 48 10 (some 54)) 48 11 (some 55)) 48 12 (some 56)) 48 13 (some 57)) 48 14 (some 58)) 48 15 (some 59)) 48 17 (some 60)) 48 18 (some 61)) 48 19 (some 62)) 48 21 (some 63)) 48 22 (some 64)) 48 23 (some 65)) 48 24 (some 66)) 48 25 (some 67)) 48 26 (some 68))
def mF (M : Nat → Nat → Int32) (i : Nat) : Nat → Nat → Int32 := fun c p => if (c = 57 ∨ c = 66) ∧ p < i then -1 else M c p
theorem mF_0 : mF M 0 = M := by funext c p; unfold mF; rw [if_neg (by omega)]
theorem mF_st {i : Nat} : ow_u (ow_u (mF M i) 57 i (-1)) 66 i (-1) = mF M (i + 1) := by
  funext c p
  by_cases e1 : c = 66
  · subst e1; rw [ow_u_eq]
    by_cases e : p = i
    · subst e; simp only [upd, if_true]; unfold mF; rw [if_pos (by omega)]
    · simp only [upd, if_neg e]; rw [ow_u_ne (by omega)]; unfold mF
      by_cases h : p < i
      · rw [if_pos (by omega), if_pos (by omega)]
      · rw [if_neg (by omega), if_neg (by omega)]
  · rw [ow_u_ne e1]
    by_cases e2 : c = 57
    · subst e2; rw [ow_u_eq]
      by_cases e : p = i
      · subst e; simp only [upd, if_true]; unfold mF; rw [if_pos (by omega)]
      · simp only [upd, if_neg e]; unfold mF
        by_cases h : p < i
        · rw [if_pos (by omega), if_pos (by omega)]
        · rw [if_neg (by omega), if_neg (by omega)]
    · rw [ow_u_ne e2]; unfold mF; rw [if_neg (by omega), if_neg (by omega)]
theorem t_M_init (hq : Q (.inl none) (69, mR0 R, (ow_u (ow_u (ow_u (ow_u (ow_u (ow_u (ow_u (ow_u (ow_u (ow_u (mF (ow_u (ow_u (ow_u M 48 9 1) 48 16 (-1)) 48 20 1) 120) 48 16 (-1)) 60 0 (-1)) 60 1 (-1)) 60 2 (-1)) 60 3 (-1)) 61 0 (-1)) 61 1 (-1)) 61 2 (-1)) 61 3 (-1)) 61 4 (-1)), G, b)) : MT l Y_M_init (1, 13) [.ref 48] (49, R, M, G, b + 20) Q := by
  refine mt_of (k := 1) (by decide) cd_M_init.1 (by simp [Value.category]) rfl ?_
  have lp : ∀ i, i ≤ 120 → AW l Y_M_init none (1, 13) Q 172 [some (.ref 48), some (.int (nI i))] [] (69, mR0 R, mF (ow_u (ow_u (ow_u M 48 9 1) 48 16 (-1)) 48 20 1) i, G, b) := by
    refine loop_dn 120 (fun i hi ih => ?_)
    refine aw_iload_n d_M_init_172 rfl ?_
    refine aw_bipush (v := 120) d_M_init_173 (by decide) ?_
    refine aw_icmp_ge (tgt := 198) d_M_init_175 rfl (fun g175 => ?_) (fun g175 => ?_)
    · have hi2 := ge_n (n := 120) rfl hi (by omega) g175
      subst hi2
      refine aw_aload_n d_M_init_198 rfl ?_
      refine aw_cV0 (d' := (0, 0)) d_M_init_199 lk_M_81 cd_M_forget (Nat.le_of_ble_eq_true rfl) rfl rfl ⟨Nat.le_of_ble_eq_true rfl, Nat.le_of_ble_eq_true rfl⟩ (fun _ h => nomatch h) ?_
      refine t_M_forgetG (by decide) (by simp [mR0, ow_ur, va_up]) (by simp [mR0, ow_ur, va_up]) ?_
      refine ow_next_v ?_
      refine aw_vret d_M_init_202 rfl ?_
      exact hq
    · have hi2 := lt_n (n := 120) rfl hi (by omega) g175
      refine aw_aload_n d_M_init_178 rfl ?_
      refine gu_getr (t := 57) f_M_38 d_M_init_179 (by decide) rfl rfl (by simp [mR0, ow_ur, va_up]) ?_
      refine aw_iload_n d_M_init_182 rfl ?_
      refine aw_iconst (v := -1) d_M_init_183 (by decide) ?_
      refine gu_iast rfl d_M_init_184 (by decide) rfl (by omega) (by decide) ?_
      refine aw_aload_n d_M_init_185 rfl ?_
      refine gu_getr (t := 66) f_M_72 d_M_init_186 (by decide) rfl rfl (by simp [mR0, ow_ur, va_up]) ?_
      refine aw_iload_n d_M_init_189 rfl ?_
      refine aw_iconst (v := -1) d_M_init_190 (by decide) ?_
      refine gu_iast rfl d_M_init_191 (by decide) rfl (by omega) (by decide) ?_
      refine aw_iinc (v := nI (i + 1)) d_M_init_192 rfl (nI_succ i).symm (by decide) ?_
      refine aw_goto (tgt := 172) d_M_init_195 rfl ?_
      rw [mF_st]
      exact ih hi2
  refine aw_aload_n d_M_init_0 rfl ?_
  refine aw_objInit ob_M_1 ob_i ob_c d_M_init_1 ⟨Nat.le_of_ble_eq_true rfl, Nat.le_of_ble_eq_true rfl⟩ ?_
  refine aw_aload_n d_M_init_4 rfl ?_
  refine aw_iconst (v := 4) d_M_init_5 (by decide) ?_
  refine gu_newi (N := 4) rfl ar_int d_M_init_6 rfl (by decide) ?_
  refine gu_putr fw_M_7 rfl d_M_init_8 (by decide) rfl rfl (fun _ => rfl) (fun _ => rfl) ?_
  refine aw_aload_n d_M_init_11 rfl ?_
  refine aw_iconst (v := 5) d_M_init_12 (by decide) ?_
  refine gu_newi (N := 5) rfl ar_int d_M_init_13 rfl (by decide) ?_
  refine gu_putr fw_M_13 rfl d_M_init_15 (by decide) rfl rfl (fun _ => rfl) (fun _ => rfl) ?_
  refine aw_aload_n d_M_init_18 rfl ?_
  refine aw_iconst (v := 5) d_M_init_19 (by decide) ?_
  refine gu_newi (N := 5) rfl ar_int d_M_init_20 rfl (by decide) ?_
  refine gu_putr fw_M_16 rfl d_M_init_22 (by decide) rfl rfl (fun _ => rfl) (fun _ => rfl) ?_
  refine aw_aload_n d_M_init_25 rfl ?_
  refine aw_iconst (v := 5) d_M_init_26 (by decide) ?_
  refine gu_newi (N := 5) rfl ar_int d_M_init_27 rfl (by decide) ?_
  refine gu_putr fw_M_19 rfl d_M_init_29 (by decide) rfl rfl (fun _ => rfl) (fun _ => rfl) ?_
  refine aw_aload_n d_M_init_32 rfl ?_
  refine aw_iconst (v := 5) d_M_init_33 (by decide) ?_
  refine gu_newi (N := 5) rfl ar_int d_M_init_34 rfl (by decide) ?_
  refine gu_putr fw_M_22 rfl d_M_init_36 (by decide) rfl rfl (fun _ => rfl) (fun _ => rfl) ?_
  refine aw_aload_n d_M_init_39 rfl ?_
  refine aw_iconst (v := 1) d_M_init_40 (by decide) ?_
  refine gu_puti fw_M_25 d_M_init_41 (by decide) rfl rfl rfl rfl ?_
  refine aw_aload_n d_M_init_44 rfl ?_
  refine aw_bipush (v := 24) d_M_init_45 (by decide) ?_
  refine gu_newi (N := 24) rfl ar_int d_M_init_47 rfl (by decide) ?_
  refine gu_putr fw_M_29 rfl d_M_init_49 (by decide) rfl rfl (fun _ => rfl) (fun _ => rfl) ?_
  refine aw_aload_n d_M_init_52 rfl ?_
  refine aw_bipush (v := 24) d_M_init_53 (by decide) ?_
  refine gu_newi (N := 24) rfl ar_int d_M_init_55 rfl (by decide) ?_
  refine gu_putr fw_M_32 rfl d_M_init_57 (by decide) rfl rfl (fun _ => rfl) (fun _ => rfl) ?_
  refine aw_aload_n d_M_init_60 rfl ?_
  refine aw_bipush (v := 72) d_M_init_61 (by decide) ?_
  refine gu_newi (N := 72) rfl ar_int d_M_init_63 rfl (by decide) ?_
  refine gu_putr fw_M_35 rfl d_M_init_65 (by decide) rfl rfl (fun _ => rfl) (fun _ => rfl) ?_
  refine aw_aload_n d_M_init_68 rfl ?_
  refine aw_bipush (v := 120) d_M_init_69 (by decide) ?_
  refine gu_newi (N := 120) rfl ar_int d_M_init_71 rfl (by decide) ?_
  refine gu_putr fw_M_38 rfl d_M_init_73 (by decide) rfl rfl (fun _ => rfl) (fun _ => rfl) ?_
  refine aw_aload_n d_M_init_76 rfl ?_
  refine aw_bipush (v := 120) d_M_init_77 (by decide) ?_
  refine gu_newi (N := 120) rfl ar_int d_M_init_79 rfl (by decide) ?_
  refine gu_putr fw_M_41 rfl d_M_init_81 (by decide) rfl rfl (fun _ => rfl) (fun _ => rfl) ?_
  refine aw_aload_n d_M_init_84 rfl ?_
  refine aw_iconst (v := 5) d_M_init_85 (by decide) ?_
  refine gu_newi (N := 5) rfl ar_int d_M_init_86 rfl (by decide) ?_
  refine gu_putr fw_M_44 rfl d_M_init_88 (by decide) rfl rfl (fun _ => rfl) (fun _ => rfl) ?_
  refine aw_aload_n d_M_init_91 rfl ?_
  refine aw_iconst (v := -1) d_M_init_92 (by decide) ?_
  refine gu_puti fw_M_47 d_M_init_93 (by decide) rfl rfl rfl rfl ?_
  refine aw_aload_n d_M_init_96 rfl ?_
  refine aw_iconst (v := 4) d_M_init_97 (by decide) ?_
  refine gu_newi (N := 4) rfl ar_int d_M_init_98 rfl (by decide) ?_
  refine gu_putr fw_M_50 rfl d_M_init_100 (by decide) rfl rfl (fun _ => rfl) (fun _ => rfl) ?_
  refine aw_aload_n d_M_init_103 rfl ?_
  refine aw_iconst (v := 5) d_M_init_104 (by decide) ?_
  refine gu_newi (N := 5) rfl ar_int d_M_init_105 rfl (by decide) ?_
  refine gu_putr fw_M_53 rfl d_M_init_107 (by decide) rfl rfl (fun _ => rfl) (fun _ => rfl) ?_
  refine aw_aload_n d_M_init_110 rfl ?_
  refine aw_bipush (v := 24) d_M_init_111 (by decide) ?_
  refine gu_newz (N := 24) rfl ar_boolean d_M_init_113 rfl (by decide) ?_
  refine gu_putr fw_M_56 rfl d_M_init_115 (by decide) rfl rfl (fun _ => rfl) (fun _ => rfl) ?_
  refine aw_aload_n d_M_init_118 rfl ?_
  refine aw_iconst (v := 1) d_M_init_119 (by decide) ?_
  refine gu_puti fw_M_60 d_M_init_120 (by decide) rfl rfl rfl rfl ?_
  refine aw_aload_n d_M_init_123 rfl ?_
  refine aw_bipush (v := 24) d_M_init_124 (by decide) ?_
  refine gu_newi (N := 24) rfl ar_int d_M_init_126 rfl (by decide) ?_
  refine gu_putr fw_M_63 rfl d_M_init_128 (by decide) rfl rfl (fun _ => rfl) (fun _ => rfl) ?_
  refine aw_aload_n d_M_init_131 rfl ?_
  refine aw_bipush (v := 24) d_M_init_132 (by decide) ?_
  refine gu_newi (N := 24) rfl ar_int d_M_init_134 rfl (by decide) ?_
  refine gu_putr fw_M_66 rfl d_M_init_136 (by decide) rfl rfl (fun _ => rfl) (fun _ => rfl) ?_
  refine aw_aload_n d_M_init_139 rfl ?_
  refine aw_bipush (v := 72) d_M_init_140 (by decide) ?_
  refine gu_newi (N := 72) rfl ar_int d_M_init_142 rfl (by decide) ?_
  refine gu_putr fw_M_69 rfl d_M_init_144 (by decide) rfl rfl (fun _ => rfl) (fun _ => rfl) ?_
  refine aw_aload_n d_M_init_147 rfl ?_
  refine aw_bipush (v := 120) d_M_init_148 (by decide) ?_
  refine gu_newi (N := 120) rfl ar_int d_M_init_150 rfl (by decide) ?_
  refine gu_putr fw_M_72 rfl d_M_init_152 (by decide) rfl rfl (fun _ => rfl) (fun _ => rfl) ?_
  refine aw_aload_n d_M_init_155 rfl ?_
  refine aw_bipush (v := 120) d_M_init_156 (by decide) ?_
  refine gu_newi (N := 120) rfl ar_int d_M_init_158 rfl (by decide) ?_
  refine gu_putr fw_M_75 rfl d_M_init_160 (by decide) rfl rfl (fun _ => rfl) (fun _ => rfl) ?_
  refine aw_aload_n d_M_init_163 rfl ?_
  refine aw_iconst (v := 5) d_M_init_164 (by decide) ?_
  refine gu_newi (N := 5) rfl ar_int d_M_init_165 rfl (by decide) ?_
  refine gu_putr fw_M_78 rfl d_M_init_167 (by decide) rfl rfl (fun _ => rfl) (fun _ => rfl) ?_
  refine aw_iconst (v := 0) d_M_init_170 (by decide) ?_
  refine aw_istore_n d_M_init_171 (by decide) ?_
  have h := lp 0 (by omega)
  rw [mF_0] at h
  exact h
def oR0 (R : Nat → Nat → Option Nat) : Nat → Nat → Option Nat := (ow_ur (ow_ur (ow_ur (ow_ur (bR26 (ow_ur (bR7 (ow_ur (ow_ur (ow_ur (ow_ur (ow_ur (ow_ur R 1 2 (some 2)) 1 3 (some 3)) 1 4 (some 4)) 1 5 (some 5)) 1 6 (some 6)) 0 0 (some 1))) 0 1 (some 7))) 0 2 (some 26)) 45 1 (some 46)) 45 2 (some 47)) 0 3 (some 45))
def oM0 (M : Nat → Nat → Int32) : Nat → Nat → Int32 := (ow_u (ow_u (ow_u (ow_u (ow_u (ow_u (ow_u (ow_u (ow_u (ow_u (ow_u (ow_u (bF26 (ow_u (ow_u (bF7 (ow_u (ow_u (ow_u (ow_u M 1 0 0) 1 1 0) 7 0 0) 7 1 1) 5 0) 26 0 0) 26 1 1) 5 0) 45 0 (-1)) 45 0 (-1)) 46 0 (-1)) 46 1 (-1)) 46 2 (-1)) 46 3 (-1)) 47 0 (-1)) 47 1 (-1)) 47 2 (-1)) 47 3 (-1)) 47 4 (-1)) 0 4 0)
theorem t_R_init (hq : Q (.inl none) (48, oR0 R, oM0 M, G, b)) : MT l Y_R_init (2, 28) [.ref 0] (1, R, M, G, b + 21) Q := by
  refine mt_of (k := 0) (by decide) cd_R_init.1 (by simp [Value.category]) rfl ?_
  refine aw_aload_n d_R_init_0 rfl ?_
  refine aw_objInit ob_R_1 ob_i ob_c d_R_init_1 ⟨Nat.le_of_ble_eq_true rfl, Nat.le_of_ble_eq_true rfl⟩ ?_
  refine aw_aload_n d_R_init_4 rfl ?_
  refine gu_new nw_R_7 d_R_init_5 rfl (by decide) ?_
  refine aw_dup d_R_init_8 rfl ?_
  refine aw_callIN (vs := []) (host := "OwnerRings") (d' := (1, 12)) d_R_init_9 rfl lkN_R_9 cd_P_init rfl (Nat.le_of_ble_eq_true rfl) rfl ⟨Nat.le_of_ble_eq_true rfl, Nat.le_of_ble_eq_true rfl⟩ (fun _ h => nomatch h) ?_
  refine t_P_init ?_
  refine ow_next_v ?_
  refine gu_putr fw_R_10 rfl d_R_init_12 (by decide) rfl rfl (fun _ => rfl) (fun _ => rfl) ?_
  refine aw_aload_n d_R_init_15 rfl ?_
  refine gu_new nw_R_16 d_R_init_16 rfl (by decide) ?_
  refine aw_dup d_R_init_19 rfl ?_
  refine aw_callI (vs := []) (d' := (1, 12)) d_R_init_20 lk_R_18 cd_B_init rfl (Nat.le_of_ble_eq_true rfl) rfl ⟨Nat.le_of_ble_eq_true rfl, Nat.le_of_ble_eq_true rfl⟩ (fun _ h => nomatch h) ?_
  refine t_B_init7 ?_
  refine ow_next_v ?_
  refine gu_putr fw_R_19 rfl d_R_init_23 (by decide) rfl rfl (fun _ => rfl) (fun _ => rfl) ?_
  refine aw_aload_n d_R_init_26 rfl ?_
  refine gu_new nw_R_16 d_R_init_27 rfl (by decide) ?_
  refine aw_dup d_R_init_30 rfl ?_
  refine aw_callI (vs := []) (d' := (1, 12)) d_R_init_31 lk_R_18 cd_B_init rfl (Nat.le_of_ble_eq_true rfl) rfl ⟨Nat.le_of_ble_eq_true rfl, Nat.le_of_ble_eq_true rfl⟩ (fun _ h => nomatch h) ?_
  refine t_B_init26 ?_
  refine ow_next_v ?_
  refine gu_putr fw_R_23 rfl d_R_init_34 (by decide) rfl rfl (fun _ => rfl) (fun _ => rfl) ?_
  refine aw_aload_n d_R_init_37 rfl ?_
  refine gu_new nw_R_26 d_R_init_38 rfl (by decide) ?_
  refine aw_dup d_R_init_41 rfl ?_
  refine aw_callI (vs := []) (d' := (1, 13)) d_R_init_42 lk_R_28 cd_S_init rfl (Nat.le_of_ble_eq_true rfl) rfl ⟨Nat.le_of_ble_eq_true rfl, Nat.le_of_ble_eq_true rfl⟩ (fun _ h => nomatch h) ?_
  refine t_S_init ?_
  refine ow_next_v ?_
  refine gu_putr fw_R_29 rfl d_R_init_45 (by decide) rfl rfl (fun _ => rfl) (fun _ => rfl) ?_
  refine aw_aload_n d_R_init_48 rfl ?_
  refine aw_iconst (v := 0) d_R_init_49 (by decide) ?_
  refine gu_puti fw_R_33 d_R_init_50 (by decide) rfl rfl rfl rfl ?_
  refine aw_vret d_R_init_53 rfl ?_
  exact hq
end TCtor
