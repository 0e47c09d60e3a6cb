/-! the model: joining, leaving, coming -/
theorem nIpred {n : Nat} (h : 0 < n) : nI n - 1 = nI (n - 1) := by
  obtain ⟨m, rfl⟩ : ∃ m, n = m + 1 := ⟨n - 1, by omega⟩
  rw [nI_succ]; exact Int32.add_sub_cancel _ _
def LvOK (M : Nat → Nat → Int32) (s r : Nat) : Prop := ∃ a n, n ≤ 24 ∧ M 59 s = nI n ∧ a < n ∧ mpo M s (nI r) n = nI a
def JnOK (M : Nat → Nat → Int32) (s r : Nat) (ow : Int32) : Prop := ∃ a n, n < 24 ∧ M 59 s = nI n ∧ a ≤ n ∧ mpf M s ow r = nI a
theorem mln_eq {M : Nat → Nat → Int32} {s n : Nat} (h : M 59 s = nI n) (hn : n ≤ 24) : mln M s = n := by unfold mln; rw [h, nI_clamp (by omega)]
theorem mjn_eq {M : Nat → Nat → Int32} {s r a n : Nat} {ow : Int32} (h : M 59 s = nI n) (hn : n ≤ 24) (ha : mpf M s ow r = nI a) (han : a ≤ n) : mjn M s r ow = mjF M s r ow a n := by
  unfold mjn; rw [mln_eq h hn, ha, nI_clamp (by omega)]
theorem mlv_eq {M : Nat → Nat → Int32} {s r a n : Nat} (h : M 59 s = nI n) (hn : n ≤ 24) (ha : mpo M s (nI r) n = nI a) (han : a < n) : mlv M s r = mlF M s r a n := by
  unfold mlv; rw [mln_eq h hn, ha, nI_clamp (by omega)]
theorem mjF_ne {M : Nat → Nat → Int32} {s r a n c : Nat} {ow : Int32} (h1 : c ≠ 57) (h2 : c ≠ 58) (h3 : c ≠ 59) : mjF M s r ow a n c = M c := by
  unfold mjF; rw [ow_u_ne h1, ow_u_ne h3, ow_u_ne h2, mshR_ne h2]
theorem mlF_ne {M : Nat → Nat → Int32} {s r a n c : Nat} (h1 : c ≠ 57) (h2 : c ≠ 58) (h3 : c ≠ 59) : mlF M s r a n c = M c := by
  unfold mlF; rw [ow_u_ne h1, mshL_ne h2, ow_u_ne h3]
theorem mjn_ne {M : Nat → Nat → Int32} {s r c : Nat} {ow : Int32} (h1 : c ≠ 57) (h2 : c ≠ 58) (h3 : c ≠ 59) : mjn M s r ow c = M c := mjF_ne h1 h2 h3
theorem mlv_ne {M : Nat → Nat → Int32} {s r c : Nat} (h1 : c ≠ 57) (h2 : c ≠ 58) (h3 : c ≠ 59) : mlv M s r c = M c := mlF_ne h1 h2 h3
section MIy
variable {M M' : Nat → Nat → Int32} {tc sc : Nat}
theorem MI.rows (h : MI M tc sc) (e : ∀ c, c ≠ 57 → c ≠ 58 → c ≠ 59 → M' c = M c) (e57 : ∀ k, k < 120 → plc (M' 57 k)) (e58 : ∀ k, k < 120 → ∃ p, p < 24 ∧ M' 58 k = nI p) (e59 : ∀ s, s < 5 → ∃ n, n ≤ 24 ∧ M' 59 s = nI n) : MI M' tc sc :=
  h.congr (by rw [e 48 (by decide) (by decide) (by decide)]) (by rw [e 48 (by decide) (by decide) (by decide)]) (by rw [e 48 (by decide) (by decide) (by decide)]; exact h.run) (fun t ht => by rw [e 60 (by decide) (by decide) (by decide)]; exact h.ofT ht) (fun s hs => by rw [e 61 (by decide) (by decide) (by decide)]; exact h.ofS hs) e57 (fun p hp => by rw [e 55 (by decide) (by decide) (by decide)]; exact h.ty hp) e58 e59 (e 52 (by decide) (by decide) (by decide))
theorem MI.jn (h : MI M tc sc) {s r : Nat} {ow : Int32} (hs : s < 5) (hr : r < 24) (ho : plc ow) (hj : JnOK M s r ow) : MI (mjn M s r ow) tc sc := by
  obtain ⟨a, n, hn, en, ha, ea⟩ := hj
  rw [mjn_eq en (by omega) ea ha]
  refine h.rows (fun c h1 h2 h3 => mjF_ne h1 h2 h3) ?_ ?_ ?_
  · intro k hk
    unfold mjF; rw [ow_u_eq]
    by_cases e : k = 24 * s + r
    · subst e; simp [upd]; exact ho
    · simp [upd, e]; rw [ow_u_ne (by decide), ow_u_ne (by decide), mshR_ne (by decide)]; exact h.own hk
  · intro k hk
    unfold mjF; rw [ow_u_ne (by decide), ow_u_ne (by decide), ow_u_eq]
    by_cases e : k = 24 * s + a
    · subst e; simp [upd]; exact ⟨r, hr, rfl⟩
    · simp only [upd, if_neg e]; unfold mshR; split
      · exact h.lst (by omega)
      · exact h.lst hk
  · intro s' hs'
    unfold mjF; rw [ow_u_ne (by decide), ow_u_eq]
    by_cases e : s' = s
    · subst e; simp [upd]; exact ⟨n + 1, by omega, by rw [en, nI_succ]⟩
    · simp [upd, e]; rw [ow_u_ne (by decide), mshR_ne (by decide)]; exact h.lgd hs'
theorem MI.lv (h : MI M tc sc) {s r : Nat} (hs : s < 5) (hr : r < 24) (hj : LvOK M s r) : MI (mlv M s r) tc sc := by
  obtain ⟨a, n, hn, en, ha, ea⟩ := hj
  rw [mlv_eq en hn ea ha]
  refine h.rows (fun c h1 h2 h3 => mlF_ne h1 h2 h3) ?_ ?_ ?_
  · intro k hk
    unfold mlF; rw [ow_u_eq]
    by_cases e : k = 24 * s + r
    · subst e; simp [upd]; exact Or.inl rfl
    · simp [upd, e]; rw [mshL_ne (by decide), ow_u_ne (by decide)]; exact h.own hk
  · intro k hk
    unfold mlF; rw [ow_u_ne (by decide)]; unfold mshL; split
    · rw [ow_u_ne (by decide)]; exact h.lst (by omega)
    · rw [ow_u_ne (by decide)]; exact h.lst hk
  · intro s' hs'
    unfold mlF; rw [ow_u_ne (by decide), mshL_ne (by decide), ow_u_eq]
    by_cases e : s' = s
    · subst e; simp [upd]; exact ⟨n - 1, by omega, by rw [en, nIpred (by omega)]⟩
    · simp [upd, e]; exact h.lgd hs'
end MIy
def obS (M : Nat → Nat → Int32) (t : Int32) (p : Nat) : Nat → Int32
  | 0 => 0
  | i + 1 => if M 51 i = t ∧ 2 < M 53 i then (if mco M i < 0 ∨ obS M t p i = 2 then 2 else if mRf M i (mco M i) (nI p) (mvl M i p) 24 = true then 3 else obS M t p i) else obS M t p i
def mbF (M : Nat → Nat → Int32) (s : Nat) : Nat := if M 61 s = mco M s then 0 else (mpo M s (M 61 s) (mln M s) + 1).toNatClampNeg
def mbB (M : Nat → Nat → Int32) (s : Nat) : Nat := if M 61 s = mco M s then mln M s else (mpo M s (M 61 s) (mln M s)).toNatClampNeg
def mbs (M : Nat → Nat → Int32) (s : Nat) : Int32 := if M 61 s < 0 then -1 else mnf M s (mco M s) (mln M s - mbF M s) (mbF M s)
def mbp (M : Nat → Nat → Int32) (s : Nat) : Int32 := if M 61 s < 0 then -1 else mnb M s (mco M s) (mbB M s)
theorem mpo_1 {M : Nat → Nat → Int32} {s n : Nat} {r : Int32} (hn : n ≤ 24) : (mpo M s r n + 1).toNatClampNeg ≤ n ∧ mpo M s r n + 1 = nI (mpo M s r n + 1).toNatClampNeg := by
  rcases mpo_in M s r n with e | ⟨k, hk, e⟩
  · rw [e]; exact ⟨Nat.zero_le _, rfl⟩
  · rw [e, ← nI_succ, nI_clamp (by omega)]; exact ⟨by omega, rfl⟩
theorem mpo_b {M : Nat → Nat → Int32} {s n : Nat} {r : Int32} (hn : n ≤ 24) : (mpo M s r n).toNatClampNeg ≤ n ∧ (mpo M s r n - 1 = pv (mpo M s r n).toNatClampNeg ∨ (mpo M s r n - 1 < 0 ∧ (mpo M s r n).toNatClampNeg = 0)) ∧ mpo M s r n + (-1) = mpo M s r n - 1 := by
  refine ⟨?_, ?_, (Int32.sub_eq_add_neg _ _).symm⟩
  · rcases mpo_in M s r n with e | ⟨k, hk, e⟩
    · rw [e]; exact Nat.zero_le _
    · rw [e, nI_clamp (by omega)]; omega
  · rcases mpo_in M s r n with e | ⟨k, hk, e⟩
    · rw [e]; exact Or.inr ⟨by decide, rfl⟩
    · rw [e, nI_clamp (by omega), pv_sub]; exact Or.inl rfl
theorem mbF_le {M : Nat → Nat → Int32} {s : Nat} (h : mln M s ≤ 24) : mbF M s ≤ mln M s := by
  unfold mbF; split
  · omega
  · exact (mpo_1 h).1
theorem mbB_le {M : Nat → Nat → Int32} {s : Nat} (h : mln M s ≤ 24) : mbB M s ≤ mln M s := by
  unfold mbB; split
  · omega
  · exact (mpo_b h).1
theorem mbs_plc {M : Nat → Nat → Int32} {tc sc s : Nat} (h : MI M tc sc) (hs : s < 5) : plc (mbs M s) := by
  unfold mbs; split
  · exact Or.inl rfl
  · exact mnf_plc h hs _ _ (by have := mbF_le (h.ln hs).1; have := (h.ln hs).1; omega)
theorem mbp_plc {M : Nat → Nat → Int32} {tc sc s : Nat} (h : MI M tc sc) (hs : s < 5) : plc (mbp M s) := by
  unfold mbp; split
  · exact Or.inl rfl
  · exact mnb_plc h hs _ (by have := mbB_le (h.ln hs).1; have := (h.ln hs).1; omega)
section TMod2
variable {l : Launch} {Q : ow_R → ow_M → Prop} {M : Nat → Nat → Int32} {K : Int64} {b : Nat} {tc sc : Nat}
theorem t_M_placeFor (hC : MI M tc sc) {s r : Nat} {ow : Int32} (hs : s < 5) (hr : r < 24) (hq : Q (.inl (some (mpf M s ow r))) (mm M K b)) : MT l Y_M_placeFor (2, 31) [.ref 48, .int (nI s), .int ow, .int (nI r)] (mm M K b) Q := by
  refine mt_of (k := 7) (by decide) cd_M_placeFor.1 (by simp [Value.category]) rfl ?_
  have hln := hC.ln hs
  have lp : 10 ≤ M 52 s → ∀ i, i ≤ mln M s → ∀ w6 w9 w10 : Option Value, mpv M s ow (M 56 (3 * r + sfm M s)) (mln M s - i) i = mpf M s ow r → AW l Y_M_placeFor none (2, 31) Q 155 [some (.ref 48), some (.int (nI s)), some (.int ow), some (.int (nI r)), some (.int (M 52 s)), some (.int (M 61 s)), w6, some (.int (M 56 (3 * r + sfm M s))), some (.int (nI i)), w9, w10] [] (mm M K b) := by
    intro h10
    have hsf := hC.sf hs h10
    refine loop_dn (mln M s) (fun i hi ih => ?_)
    intro w6 w9 w10 hR
    refine aw_iload d_M_placeFor_155 rfl ?_
    refine aw_aload_n d_M_placeFor_157 rfl ?_
    refine mm_getr (t := 59) f_M_44 d_M_placeFor_158 (by decide) rfl rfl rfl ?_
    refine aw_iload_n d_M_placeFor_161 rfl ?_
    refine mm_iald rfl d_M_placeFor_162 (by decide) rfl (by omega) (by decide) ?_
    refine aw_icmp_ge (tgt := 243) d_M_placeFor_163 rfl (fun g163 => ?_) (fun g163 => ?_)
    · have hi2 := ge_n (n := mln M s) hln.2 hi (by omega) g163
      refine aw_aload_n d_M_placeFor_243 rfl ?_
      refine mm_getr (t := 59) f_M_44 d_M_placeFor_244 (by decide) rfl rfl rfl ?_
      refine aw_iload_n d_M_placeFor_247 rfl ?_
      refine mm_iald rfl d_M_placeFor_248 (by decide) rfl (by omega) (by decide) ?_
      refine aw_iret d_M_placeFor_249 rfl rfl ?_
      rw [hi2, Nat.sub_self] at hR
      exact q_val hq hR
    · have hi2 := lt_n (n := mln M s) hln.2 hi (by omega) g163
      have hu : mln M s - i = (mln M s - (i + 1)) + 1 := by omega
      rw [hu] at hR
      simp only [mpv] at hR
      refine aw_aload_n d_M_placeFor_166 rfl ?_
      refine mm_getr (t := 58) f_M_41 d_M_placeFor_167 (by decide) rfl rfl rfl ?_
      refine aw_bipush (v := 24) d_M_placeFor_170 (by decide) ?_
      refine aw_iload_n d_M_placeFor_172 rfl ?_
      refine aw_imul d_M_placeFor_173 ?_
      refine aw_iload d_M_placeFor_174 rfl ?_
      refine aw_iadd d_M_placeFor_176 ?_
      refine mm_iald (ix24 s i) d_M_placeFor_177 (by decide) rfl (by omega) (by decide) ?_
      obtain ⟨p, hp, ep⟩ := hC.lst (k := 24 * s + i) (by omega)
      have e2 : (M 58 (24 * s + i)).toNatClampNeg = p := by rw [ep, nI_clamp (by omega)]
      rw [e2] at hR
      refine aw_istore d_M_placeFor_178 (by decide) ?_
      refine aw_aload_n d_M_placeFor_180 rfl ?_
      refine mm_getr (t := 56) f_M_35 d_M_placeFor_181 (by decide) rfl rfl rfl ?_
      refine aw_iconst (v := 3) d_M_placeFor_184 (by decide) ?_
      refine aw_iload d_M_placeFor_185 rfl ?_
      refine aw_imul d_M_placeFor_187 ?_
      refine aw_iload d_M_placeFor_188 rfl ?_
      refine aw_bipush (v := 10) d_M_placeFor_190 (by decide) ?_
      refine aw_irem d_M_placeFor_192 (by decide) ?_
      refine aw_iadd d_M_placeFor_193 ?_
      refine mm_iald (by rw [ep, hsf.2]; exact ix3 p (sfm M s)) d_M_placeFor_194 (by decide) rfl (by have := hsf.1; omega) (by decide) ?_
      refine aw_istore d_M_placeFor_195 (by decide) ?_
      refine aw_aload_n d_M_placeFor_197 rfl ?_
      refine mm_getr (t := 57) f_M_38 d_M_placeFor_198 (by decide) rfl rfl rfl ?_
      refine aw_bipush (v := 24) d_M_placeFor_201 (by decide) ?_
      refine aw_iload_n d_M_placeFor_203 rfl ?_
      refine aw_imul d_M_placeFor_204 ?_
      refine aw_iload d_M_placeFor_205 rfl ?_
      refine aw_iadd d_M_placeFor_207 ?_
      refine mm_iald (by rw [ep]; exact ix24 s p) d_M_placeFor_208 (by decide) rfl (by omega) (by decide) ?_
      refine aw_iload_n d_M_placeFor_209 rfl ?_
      refine aw_icmp_ne (tgt := 237) d_M_placeFor_210 rfl (fun g210 => ?_) (fun g210 => ?_)
      · refine aw_iinc (v := nI (i + 1)) d_M_placeFor_237 rfl (nI_succ i).symm (by decide) ?_
        refine aw_goto (tgt := 155) d_M_placeFor_240 rfl ?_
        rw [if_neg (by grind)] at hR
        exact ih hi2 _ _ _ hR
      · refine aw_iload d_M_placeFor_213 rfl ?_
        refine aw_iload d_M_placeFor_215 rfl ?_
        refine aw_icmp_gt (tgt := 234) d_M_placeFor_217 rfl (fun g217 => ?_) (fun g217 => ?_)
        · refine aw_iload d_M_placeFor_234 rfl ?_
          refine aw_iret d_M_placeFor_236 rfl rfl ?_
          rw [if_pos (by grind)] at hR
          exact q_val hq hR
        · refine aw_iload d_M_placeFor_220 rfl ?_
          refine aw_iload d_M_placeFor_222 rfl ?_
          refine aw_icmp_ne (tgt := 237) d_M_placeFor_224 rfl (fun g224 => ?_) (fun g224 => ?_)
          · refine aw_iinc (v := nI (i + 1)) d_M_placeFor_237 rfl (nI_succ i).symm (by decide) ?_
            refine aw_goto (tgt := 155) d_M_placeFor_240 rfl ?_
            rw [if_neg (by grind)] at hR
            exact ih hi2 _ _ _ hR
          · refine aw_iload d_M_placeFor_227 rfl ?_
            refine aw_bipush (v := 20) d_M_placeFor_229 (by decide) ?_
            refine aw_icmp_ge (tgt := 237) d_M_placeFor_231 rfl (fun g231 => ?_) (fun g231 => ?_)
            · refine aw_iinc (v := nI (i + 1)) d_M_placeFor_237 rfl (nI_succ i).symm (by decide) ?_
              refine aw_goto (tgt := 155) d_M_placeFor_240 rfl ?_
              rw [if_neg (by grind)] at hR
              exact ih hi2 _ _ _ hR
            · refine aw_iload d_M_placeFor_234 rfl ?_
              refine aw_iret d_M_placeFor_236 rfl rfl ?_
              rw [if_pos (by grind)] at hR
              exact q_val hq hR
  refine aw_aload_n d_M_placeFor_0 rfl ?_
  refine mm_getr (t := 52) f_M_19 d_M_placeFor_1 (by decide) rfl rfl rfl ?_
  refine aw_iload_n d_M_placeFor_4 rfl ?_
  refine mm_iald rfl d_M_placeFor_5 (by decide) rfl (by omega) (by decide) ?_
  refine aw_istore d_M_placeFor_6 (by decide) ?_
  refine aw_aload_n d_M_placeFor_8 rfl ?_
  refine mm_getr (t := 61) f_M_53 d_M_placeFor_9 (by decide) rfl rfl rfl ?_
  refine aw_iload_n d_M_placeFor_12 rfl ?_
  refine mm_iald rfl d_M_placeFor_13 (by decide) rfl (by omega) (by decide) ?_
  refine aw_istore d_M_placeFor_14 (by decide) ?_
  refine aw_iload d_M_placeFor_16 rfl ?_
  refine aw_if_lt (tgt := 41) d_M_placeFor_18 rfl (fun g18 => ?_) (fun g18 => ?_)
  · refine aw_iconst (v := 0) d_M_placeFor_41 (by decide) ?_
    refine aw_istore d_M_placeFor_42 (by decide) ?_
    refine aw_iload d_M_placeFor_44 rfl ?_
    refine aw_if_eq (tgt := 81) d_M_placeFor_46 rfl (fun g46 => ?_) (fun g46 => ?_)
    · refine aw_iload d_M_placeFor_81 rfl ?_
      refine aw_if_eq (tgt := 92) d_M_placeFor_83 rfl (fun g83 => ?_) (fun g83 => ?_)
      · refine aw_aload_n d_M_placeFor_92 rfl ?_
        refine aw_iload_n d_M_placeFor_93 rfl ?_
        refine aw_iload_n d_M_placeFor_94 rfl ?_
        refine aw_cV2 (d' := (1, 17)) d_M_placeFor_95 lk_M_113 cd_M_firstOf (Nat.le_of_ble_eq_true rfl) rfl rfl ⟨Nat.le_of_ble_eq_true rfl, Nat.le_of_ble_eq_true rfl⟩ (fun _ h => nomatch h) ?_
        refine t_M_firstOf hC hs hln.2 hln.1 ?_
        refine ow_next_i ?_
        refine aw_istore d_M_placeFor_98 (by decide) ?_
        refine aw_iload d_M_placeFor_100 rfl ?_
        refine aw_if_ge (tgt := 114) d_M_placeFor_102 rfl (fun g102 => ?_) (fun g102 => ?_)
        · refine aw_aload_n d_M_placeFor_114 rfl ?_
          refine aw_iload_n d_M_placeFor_115 rfl ?_
          refine aw_iload d_M_placeFor_116 rfl ?_
          refine aw_cV2 (d' := (0, 0)) d_M_placeFor_118 lk_M_109 cd_M_placeOf (Nat.le_of_ble_eq_true rfl) rfl rfl ⟨Nat.le_of_ble_eq_true rfl, Nat.le_of_ble_eq_true rfl⟩ (fun _ h => nomatch h) ?_
          refine t_M_placeOf hs hln.2 hln.1 ?_
          refine ow_next_i ?_
          refine aw_iret d_M_placeFor_121 rfl rfl ?_
          exact q_val hq (by unfold mpf; rw [if_neg (by grind), if_pos (by grind)]; first | (rw [if_pos (by grind)]; done) | (rw [if_neg (by grind)]; done))
        · refine aw_aload_n d_M_placeFor_105 rfl ?_
          refine mm_getr (t := 59) f_M_44 d_M_placeFor_106 (by decide) rfl rfl rfl ?_
          refine aw_iload_n d_M_placeFor_109 rfl ?_
          refine mm_iald rfl d_M_placeFor_110 (by decide) rfl (by omega) (by decide) ?_
          refine aw_goto (tgt := 121) d_M_placeFor_111 rfl ?_
          refine aw_iret d_M_placeFor_121 rfl rfl ?_
          exact q_val hq (by unfold mpf; rw [if_neg (by grind), if_pos (by grind)]; first | (rw [if_pos (by grind)]; done) | (rw [if_neg (by grind)]; done))
      · refine aw_iload d_M_placeFor_86 rfl ?_
        refine aw_iconst (v := 2) d_M_placeFor_88 (by decide) ?_
        refine aw_icmp_ne (tgt := 122) d_M_placeFor_89 rfl (fun g89 => ?_) (fun g89 => ?_)
        · refine aw_iload d_M_placeFor_122 rfl ?_
          refine aw_bipush (v := 10) d_M_placeFor_124 (by decide) ?_
          refine aw_icmp_ge (tgt := 136) d_M_placeFor_126 rfl (fun g126 => ?_) (fun g126 => ?_)
          · have h10 : 10 ≤ M 52 s := by grind
            have hsf := hC.sf hs h10
            refine aw_aload_n d_M_placeFor_136 rfl ?_
            refine mm_getr (t := 56) f_M_35 d_M_placeFor_137 (by decide) rfl rfl rfl ?_
            refine aw_iconst (v := 3) d_M_placeFor_140 (by decide) ?_
            refine aw_iload_n d_M_placeFor_141 rfl ?_
            refine aw_imul d_M_placeFor_142 ?_
            refine aw_iload d_M_placeFor_143 rfl ?_
            refine aw_bipush (v := 10) d_M_placeFor_145 (by decide) ?_
            refine aw_irem d_M_placeFor_147 (by decide) ?_
            refine aw_iadd d_M_placeFor_148 ?_
            refine mm_iald (by rw [hsf.2]; exact ix3 r (sfm M s)) d_M_placeFor_149 (by decide) rfl (by have := hsf.1; omega) (by decide) ?_
            refine aw_istore d_M_placeFor_150 (by decide) ?_
            refine aw_iconst (v := 0) d_M_placeFor_152 (by decide) ?_
            refine aw_istore d_M_placeFor_153 (by decide) ?_
            refine lp h10 0 (by omega) _ _ _ ?_
            unfold mpf; rw [if_neg (by grind), if_neg (by grind), if_neg (by grind)]; rfl
          · refine aw_aload_n d_M_placeFor_129 rfl ?_
            refine mm_getr (t := 59) f_M_44 d_M_placeFor_130 (by decide) rfl rfl rfl ?_
            refine aw_iload_n d_M_placeFor_133 rfl ?_
            refine mm_iald rfl d_M_placeFor_134 (by decide) rfl (by omega) (by decide) ?_
            refine aw_iret d_M_placeFor_135 rfl rfl ?_
            exact q_val hq (by unfold mpf; rw [if_neg (by grind), if_neg (by grind), if_pos (by grind)])
        · refine aw_aload_n d_M_placeFor_92 rfl ?_
          refine aw_iload_n d_M_placeFor_93 rfl ?_
          refine aw_iload_n d_M_placeFor_94 rfl ?_
          refine aw_cV2 (d' := (1, 17)) d_M_placeFor_95 lk_M_113 cd_M_firstOf (Nat.le_of_ble_eq_true rfl) rfl rfl ⟨Nat.le_of_ble_eq_true rfl, Nat.le_of_ble_eq_true rfl⟩ (fun _ h => nomatch h) ?_
          refine t_M_firstOf hC hs hln.2 hln.1 ?_
          refine ow_next_i ?_
          refine aw_istore d_M_placeFor_98 (by decide) ?_
          refine aw_iload d_M_placeFor_100 rfl ?_
          refine aw_if_ge (tgt := 114) d_M_placeFor_102 rfl (fun g102 => ?_) (fun g102 => ?_)
          · refine aw_aload_n d_M_placeFor_114 rfl ?_
            refine aw_iload_n d_M_placeFor_115 rfl ?_
            refine aw_iload d_M_placeFor_116 rfl ?_
            refine aw_cV2 (d' := (0, 0)) d_M_placeFor_118 lk_M_109 cd_M_placeOf (Nat.le_of_ble_eq_true rfl) rfl rfl ⟨Nat.le_of_ble_eq_true rfl, Nat.le_of_ble_eq_true rfl⟩ (fun _ h => nomatch h) ?_
            refine t_M_placeOf hs hln.2 hln.1 ?_
            refine ow_next_i ?_
            refine aw_iret d_M_placeFor_121 rfl rfl ?_
            exact q_val hq (by unfold mpf; rw [if_neg (by grind), if_pos (by grind)]; first | (rw [if_pos (by grind)]; done) | (rw [if_neg (by grind)]; done))
          · refine aw_aload_n d_M_placeFor_105 rfl ?_
            refine mm_getr (t := 59) f_M_44 d_M_placeFor_106 (by decide) rfl rfl rfl ?_
            refine aw_iload_n d_M_placeFor_109 rfl ?_
            refine mm_iald rfl d_M_placeFor_110 (by decide) rfl (by omega) (by decide) ?_
            refine aw_goto (tgt := 121) d_M_placeFor_111 rfl ?_
            refine aw_iret d_M_placeFor_121 rfl rfl ?_
            exact q_val hq (by unfold mpf; rw [if_neg (by grind), if_pos (by grind)]; first | (rw [if_pos (by grind)]; done) | (rw [if_neg (by grind)]; done))
    · exact absurd g46 (by decide)
  · obtain ⟨c, hc, ec⟩ := plc_ge (hC.ofS hs) g18
    have e2 : (M 61 s).toNatClampNeg = c := by rw [ec, nI_clamp (by omega)]
    refine aw_aload_n d_M_placeFor_21 rfl ?_
    refine mm_getr (t := 57) f_M_38 d_M_placeFor_22 (by decide) rfl rfl rfl ?_
    refine aw_bipush (v := 24) d_M_placeFor_25 (by decide) ?_
    refine aw_iload_n d_M_placeFor_27 rfl ?_
    refine aw_imul d_M_placeFor_28 ?_
    refine aw_iload d_M_placeFor_29 rfl ?_
    refine aw_iadd d_M_placeFor_31 ?_
    refine mm_iald (by rw [ec]; exact ix24 s c) d_M_placeFor_32 (by decide) rfl (by omega) (by decide) ?_
    refine aw_iload_n d_M_placeFor_33 rfl ?_
    refine aw_icmp_ne (tgt := 41) d_M_placeFor_34 rfl (fun g34 => ?_) (fun g34 => ?_)
    · refine aw_iconst (v := 0) d_M_placeFor_41 (by decide) ?_
      refine aw_istore d_M_placeFor_42 (by decide) ?_
      refine aw_iload d_M_placeFor_44 rfl ?_
      refine aw_if_eq (tgt := 81) d_M_placeFor_46 rfl (fun g46 => ?_) (fun g46 => ?_)
      · refine aw_iload d_M_placeFor_81 rfl ?_
        refine aw_if_eq (tgt := 92) d_M_placeFor_83 rfl (fun g83 => ?_) (fun g83 => ?_)
        · refine aw_aload_n d_M_placeFor_92 rfl ?_
          refine aw_iload_n d_M_placeFor_93 rfl ?_
          refine aw_iload_n d_M_placeFor_94 rfl ?_
          refine aw_cV2 (d' := (1, 17)) d_M_placeFor_95 lk_M_113 cd_M_firstOf (Nat.le_of_ble_eq_true rfl) rfl rfl ⟨Nat.le_of_ble_eq_true rfl, Nat.le_of_ble_eq_true rfl⟩ (fun _ h => nomatch h) ?_
          refine t_M_firstOf hC hs hln.2 hln.1 ?_
          refine ow_next_i ?_
          refine aw_istore d_M_placeFor_98 (by decide) ?_
          refine aw_iload d_M_placeFor_100 rfl ?_
          refine aw_if_ge (tgt := 114) d_M_placeFor_102 rfl (fun g102 => ?_) (fun g102 => ?_)
          · refine aw_aload_n d_M_placeFor_114 rfl ?_
            refine aw_iload_n d_M_placeFor_115 rfl ?_
            refine aw_iload d_M_placeFor_116 rfl ?_
            refine aw_cV2 (d' := (0, 0)) d_M_placeFor_118 lk_M_109 cd_M_placeOf (Nat.le_of_ble_eq_true rfl) rfl rfl ⟨Nat.le_of_ble_eq_true rfl, Nat.le_of_ble_eq_true rfl⟩ (fun _ h => nomatch h) ?_
            refine t_M_placeOf hs hln.2 hln.1 ?_
            refine ow_next_i ?_
            refine aw_iret d_M_placeFor_121 rfl rfl ?_
            exact q_val hq (by unfold mpf; rw [if_neg (by grind), if_pos (by grind)]; first | (rw [if_pos (by grind)]; done) | (rw [if_neg (by grind)]; done))
          · refine aw_aload_n d_M_placeFor_105 rfl ?_
            refine mm_getr (t := 59) f_M_44 d_M_placeFor_106 (by decide) rfl rfl rfl ?_
            refine aw_iload_n d_M_placeFor_109 rfl ?_
            refine mm_iald rfl d_M_placeFor_110 (by decide) rfl (by omega) (by decide) ?_
            refine aw_goto (tgt := 121) d_M_placeFor_111 rfl ?_
            refine aw_iret d_M_placeFor_121 rfl rfl ?_
            exact q_val hq (by unfold mpf; rw [if_neg (by grind), if_pos (by grind)]; first | (rw [if_pos (by grind)]; done) | (rw [if_neg (by grind)]; done))
        · refine aw_iload d_M_placeFor_86 rfl ?_
          refine aw_iconst (v := 2) d_M_placeFor_88 (by decide) ?_
          refine aw_icmp_ne (tgt := 122) d_M_placeFor_89 rfl (fun g89 => ?_) (fun g89 => ?_)
          · refine aw_iload d_M_placeFor_122 rfl ?_
            refine aw_bipush (v := 10) d_M_placeFor_124 (by decide) ?_
            refine aw_icmp_ge (tgt := 136) d_M_placeFor_126 rfl (fun g126 => ?_) (fun g126 => ?_)
            · have h10 : 10 ≤ M 52 s := by grind
              have hsf := hC.sf hs h10
              refine aw_aload_n d_M_placeFor_136 rfl ?_
              refine mm_getr (t := 56) f_M_35 d_M_placeFor_137 (by decide) rfl rfl rfl ?_
              refine aw_iconst (v := 3) d_M_placeFor_140 (by decide) ?_
              refine aw_iload_n d_M_placeFor_141 rfl ?_
              refine aw_imul d_M_placeFor_142 ?_
              refine aw_iload d_M_placeFor_143 rfl ?_
              refine aw_bipush (v := 10) d_M_placeFor_145 (by decide) ?_
              refine aw_irem d_M_placeFor_147 (by decide) ?_
              refine aw_iadd d_M_placeFor_148 ?_
              refine mm_iald (by rw [hsf.2]; exact ix3 r (sfm M s)) d_M_placeFor_149 (by decide) rfl (by have := hsf.1; omega) (by decide) ?_
              refine aw_istore d_M_placeFor_150 (by decide) ?_
              refine aw_iconst (v := 0) d_M_placeFor_152 (by decide) ?_
              refine aw_istore d_M_placeFor_153 (by decide) ?_
              refine lp h10 0 (by omega) _ _ _ ?_
              unfold mpf; rw [if_neg (by grind), if_neg (by grind), if_neg (by grind)]; rfl
            · refine aw_aload_n d_M_placeFor_129 rfl ?_
              refine mm_getr (t := 59) f_M_44 d_M_placeFor_130 (by decide) rfl rfl rfl ?_
              refine aw_iload_n d_M_placeFor_133 rfl ?_
              refine mm_iald rfl d_M_placeFor_134 (by decide) rfl (by omega) (by decide) ?_
              refine aw_iret d_M_placeFor_135 rfl rfl ?_
              exact q_val hq (by unfold mpf; rw [if_neg (by grind), if_neg (by grind), if_pos (by grind)])
          · refine aw_aload_n d_M_placeFor_92 rfl ?_
            refine aw_iload_n d_M_placeFor_93 rfl ?_
            refine aw_iload_n d_M_placeFor_94 rfl ?_
            refine aw_cV2 (d' := (1, 17)) d_M_placeFor_95 lk_M_113 cd_M_firstOf (Nat.le_of_ble_eq_true rfl) rfl rfl ⟨Nat.le_of_ble_eq_true rfl, Nat.le_of_ble_eq_true rfl⟩ (fun _ h => nomatch h) ?_
            refine t_M_firstOf hC hs hln.2 hln.1 ?_
            refine ow_next_i ?_
            refine aw_istore d_M_placeFor_98 (by decide) ?_
            refine aw_iload d_M_placeFor_100 rfl ?_
            refine aw_if_ge (tgt := 114) d_M_placeFor_102 rfl (fun g102 => ?_) (fun g102 => ?_)
            · refine aw_aload_n d_M_placeFor_114 rfl ?_
              refine aw_iload_n d_M_placeFor_115 rfl ?_
              refine aw_iload d_M_placeFor_116 rfl ?_
              refine aw_cV2 (d' := (0, 0)) d_M_placeFor_118 lk_M_109 cd_M_placeOf (Nat.le_of_ble_eq_true rfl) rfl rfl ⟨Nat.le_of_ble_eq_true rfl, Nat.le_of_ble_eq_true rfl⟩ (fun _ h => nomatch h) ?_
              refine t_M_placeOf hs hln.2 hln.1 ?_
              refine ow_next_i ?_
              refine aw_iret d_M_placeFor_121 rfl rfl ?_
              exact q_val hq (by unfold mpf; rw [if_neg (by grind), if_pos (by grind)]; first | (rw [if_pos (by grind)]; done) | (rw [if_neg (by grind)]; done))
            · refine aw_aload_n d_M_placeFor_105 rfl ?_
              refine mm_getr (t := 59) f_M_44 d_M_placeFor_106 (by decide) rfl rfl rfl ?_
              refine aw_iload_n d_M_placeFor_109 rfl ?_
              refine mm_iald rfl d_M_placeFor_110 (by decide) rfl (by omega) (by decide) ?_
              refine aw_goto (tgt := 121) d_M_placeFor_111 rfl ?_
              refine aw_iret d_M_placeFor_121 rfl rfl ?_
              exact q_val hq (by unfold mpf; rw [if_neg (by grind), if_pos (by grind)]; first | (rw [if_pos (by grind)]; done) | (rw [if_neg (by grind)]; done))
      · exact absurd g46 (by decide)
    · refine aw_iconst (v := 1) d_M_placeFor_37 (by decide) ?_
      refine aw_goto (tgt := 42) d_M_placeFor_38 rfl ?_
      refine aw_istore d_M_placeFor_42 (by decide) ?_
      refine aw_iload d_M_placeFor_44 rfl ?_
      refine aw_if_eq (tgt := 81) d_M_placeFor_46 rfl (fun g46 => ?_) (fun g46 => ?_)
      · exact absurd g46 (by decide)
      · refine aw_iload d_M_placeFor_49 rfl ?_
        refine aw_iconst (v := 2) d_M_placeFor_51 (by decide) ?_
        refine aw_icmp_eq (tgt := 61) d_M_placeFor_52 rfl (fun g52 => ?_) (fun g52 => ?_)
        · refine aw_aload_n d_M_placeFor_61 rfl ?_
          refine aw_iload_n d_M_placeFor_62 rfl ?_
          refine aw_iload d_M_placeFor_63 rfl ?_
          refine aw_cV2 (d' := (0, 0)) d_M_placeFor_65 lk_M_109 cd_M_placeOf (Nat.le_of_ble_eq_true rfl) rfl rfl ⟨Nat.le_of_ble_eq_true rfl, Nat.le_of_ble_eq_true rfl⟩ (fun _ h => nomatch h) ?_
          refine t_M_placeOf hs hln.2 hln.1 ?_
          refine ow_next_i ?_
          refine aw_iload d_M_placeFor_68 rfl ?_
          refine aw_iconst (v := 2) d_M_placeFor_70 (by decide) ?_
          refine aw_icmp_ne (tgt := 78) d_M_placeFor_71 rfl (fun g71 => ?_) (fun g71 => ?_)
          · refine aw_iconst (v := 0) d_M_placeFor_78 (by decide) ?_
            refine aw_iadd d_M_placeFor_79 ?_
            refine aw_iret d_M_placeFor_80 rfl rfl ?_
            exact q_val hq (by unfold mpf; first | (rw [if_pos (by grind), if_pos (by grind)]; done) | (rw [if_pos (by grind), if_neg (by grind)]; done))
          · refine aw_iconst (v := 1) d_M_placeFor_74 (by decide) ?_
            refine aw_goto (tgt := 79) d_M_placeFor_75 rfl ?_
            refine aw_iadd d_M_placeFor_79 ?_
            refine aw_iret d_M_placeFor_80 rfl rfl ?_
            exact q_val hq (by unfold mpf; first | (rw [if_pos (by grind), if_pos (by grind)]; done) | (rw [if_pos (by grind), if_neg (by grind)]; done))
        · refine aw_iload d_M_placeFor_55 rfl ?_
          refine aw_iconst (v := 3) d_M_placeFor_57 (by decide) ?_
          refine aw_icmp_ne (tgt := 81) d_M_placeFor_58 rfl (fun g58 => ?_) (fun g58 => ?_)
          · refine aw_iload d_M_placeFor_81 rfl ?_
            refine aw_if_eq (tgt := 92) d_M_placeFor_83 rfl (fun g83 => ?_) (fun g83 => ?_)
            · refine aw_aload_n d_M_placeFor_92 rfl ?_
              refine aw_iload_n d_M_placeFor_93 rfl ?_
              refine aw_iload_n d_M_placeFor_94 rfl ?_
              refine aw_cV2 (d' := (1, 17)) d_M_placeFor_95 lk_M_113 cd_M_firstOf (Nat.le_of_ble_eq_true rfl) rfl rfl ⟨Nat.le_of_ble_eq_true rfl, Nat.le_of_ble_eq_true rfl⟩ (fun _ h => nomatch h) ?_
              refine t_M_firstOf hC hs hln.2 hln.1 ?_
              refine ow_next_i ?_
              refine aw_istore d_M_placeFor_98 (by decide) ?_
              refine aw_iload d_M_placeFor_100 rfl ?_
              refine aw_if_ge (tgt := 114) d_M_placeFor_102 rfl (fun g102 => ?_) (fun g102 => ?_)
              · refine aw_aload_n d_M_placeFor_114 rfl ?_
                refine aw_iload_n d_M_placeFor_115 rfl ?_
                refine aw_iload d_M_placeFor_116 rfl ?_
                refine aw_cV2 (d' := (0, 0)) d_M_placeFor_118 lk_M_109 cd_M_placeOf (Nat.le_of_ble_eq_true rfl) rfl rfl ⟨Nat.le_of_ble_eq_true rfl, Nat.le_of_ble_eq_true rfl⟩ (fun _ h => nomatch h) ?_
                refine t_M_placeOf hs hln.2 hln.1 ?_
                refine ow_next_i ?_
                refine aw_iret d_M_placeFor_121 rfl rfl ?_
                exact q_val hq (by unfold mpf; rw [if_neg (by grind), if_pos (by grind)]; first | (rw [if_pos (by grind)]; done) | (rw [if_neg (by grind)]; done))
              · refine aw_aload_n d_M_placeFor_105 rfl ?_
                refine mm_getr (t := 59) f_M_44 d_M_placeFor_106 (by decide) rfl rfl rfl ?_
                refine aw_iload_n d_M_placeFor_109 rfl ?_
                refine mm_iald rfl d_M_placeFor_110 (by decide) rfl (by omega) (by decide) ?_
                refine aw_goto (tgt := 121) d_M_placeFor_111 rfl ?_
                refine aw_iret d_M_placeFor_121 rfl rfl ?_
                exact q_val hq (by unfold mpf; rw [if_neg (by grind), if_pos (by grind)]; first | (rw [if_pos (by grind)]; done) | (rw [if_neg (by grind)]; done))
            · refine aw_iload d_M_placeFor_86 rfl ?_
              refine aw_iconst (v := 2) d_M_placeFor_88 (by decide) ?_
              refine aw_icmp_ne (tgt := 122) d_M_placeFor_89 rfl (fun g89 => ?_) (fun g89 => ?_)
              · refine aw_iload d_M_placeFor_122 rfl ?_
                refine aw_bipush (v := 10) d_M_placeFor_124 (by decide) ?_
                refine aw_icmp_ge (tgt := 136) d_M_placeFor_126 rfl (fun g126 => ?_) (fun g126 => ?_)
                · have h10 : 10 ≤ M 52 s := by grind
                  have hsf := hC.sf hs h10
                  refine aw_aload_n d_M_placeFor_136 rfl ?_
                  refine mm_getr (t := 56) f_M_35 d_M_placeFor_137 (by decide) rfl rfl rfl ?_
                  refine aw_iconst (v := 3) d_M_placeFor_140 (by decide) ?_
                  refine aw_iload_n d_M_placeFor_141 rfl ?_
                  refine aw_imul d_M_placeFor_142 ?_
                  refine aw_iload d_M_placeFor_143 rfl ?_
                  refine aw_bipush (v := 10) d_M_placeFor_145 (by decide) ?_
                  refine aw_irem d_M_placeFor_147 (by decide) ?_
                  refine aw_iadd d_M_placeFor_148 ?_
                  refine mm_iald (by rw [hsf.2]; exact ix3 r (sfm M s)) d_M_placeFor_149 (by decide) rfl (by have := hsf.1; omega) (by decide) ?_
                  refine aw_istore d_M_placeFor_150 (by decide) ?_
                  refine aw_iconst (v := 0) d_M_placeFor_152 (by decide) ?_
                  refine aw_istore d_M_placeFor_153 (by decide) ?_
                  refine lp h10 0 (by omega) _ _ _ ?_
                  unfold mpf; rw [if_neg (by grind), if_neg (by grind), if_neg (by grind)]; rfl
                · refine aw_aload_n d_M_placeFor_129 rfl ?_
                  refine mm_getr (t := 59) f_M_44 d_M_placeFor_130 (by decide) rfl rfl rfl ?_
                  refine aw_iload_n d_M_placeFor_133 rfl ?_
                  refine mm_iald rfl d_M_placeFor_134 (by decide) rfl (by omega) (by decide) ?_
                  refine aw_iret d_M_placeFor_135 rfl rfl ?_
                  exact q_val hq (by unfold mpf; rw [if_neg (by grind), if_neg (by grind), if_pos (by grind)])
              · refine aw_aload_n d_M_placeFor_92 rfl ?_
                refine aw_iload_n d_M_placeFor_93 rfl ?_
                refine aw_iload_n d_M_placeFor_94 rfl ?_
                refine aw_cV2 (d' := (1, 17)) d_M_placeFor_95 lk_M_113 cd_M_firstOf (Nat.le_of_ble_eq_true rfl) rfl rfl ⟨Nat.le_of_ble_eq_true rfl, Nat.le_of_ble_eq_true rfl⟩ (fun _ h => nomatch h) ?_
                refine t_M_firstOf hC hs hln.2 hln.1 ?_
                refine ow_next_i ?_
                refine aw_istore d_M_placeFor_98 (by decide) ?_
                refine aw_iload d_M_placeFor_100 rfl ?_
                refine aw_if_ge (tgt := 114) d_M_placeFor_102 rfl (fun g102 => ?_) (fun g102 => ?_)
                · refine aw_aload_n d_M_placeFor_114 rfl ?_
                  refine aw_iload_n d_M_placeFor_115 rfl ?_
                  refine aw_iload d_M_placeFor_116 rfl ?_
                  refine aw_cV2 (d' := (0, 0)) d_M_placeFor_118 lk_M_109 cd_M_placeOf (Nat.le_of_ble_eq_true rfl) rfl rfl ⟨Nat.le_of_ble_eq_true rfl, Nat.le_of_ble_eq_true rfl⟩ (fun _ h => nomatch h) ?_
                  refine t_M_placeOf hs hln.2 hln.1 ?_
                  refine ow_next_i ?_
                  refine aw_iret d_M_placeFor_121 rfl rfl ?_
                  exact q_val hq (by unfold mpf; rw [if_neg (by grind), if_pos (by grind)]; first | (rw [if_pos (by grind)]; done) | (rw [if_neg (by grind)]; done))
                · refine aw_aload_n d_M_placeFor_105 rfl ?_
                  refine mm_getr (t := 59) f_M_44 d_M_placeFor_106 (by decide) rfl rfl rfl ?_
                  refine aw_iload_n d_M_placeFor_109 rfl ?_
                  refine mm_iald rfl d_M_placeFor_110 (by decide) rfl (by omega) (by decide) ?_
                  refine aw_goto (tgt := 121) d_M_placeFor_111 rfl ?_
                  refine aw_iret d_M_placeFor_121 rfl rfl ?_
                  exact q_val hq (by unfold mpf; rw [if_neg (by grind), if_pos (by grind)]; first | (rw [if_pos (by grind)]; done) | (rw [if_neg (by grind)]; done))
          · refine aw_aload_n d_M_placeFor_61 rfl ?_
            refine aw_iload_n d_M_placeFor_62 rfl ?_
            refine aw_iload d_M_placeFor_63 rfl ?_
            refine aw_cV2 (d' := (0, 0)) d_M_placeFor_65 lk_M_109 cd_M_placeOf (Nat.le_of_ble_eq_true rfl) rfl rfl ⟨Nat.le_of_ble_eq_true rfl, Nat.le_of_ble_eq_true rfl⟩ (fun _ h => nomatch h) ?_
            refine t_M_placeOf hs hln.2 hln.1 ?_
            refine ow_next_i ?_
            refine aw_iload d_M_placeFor_68 rfl ?_
            refine aw_iconst (v := 2) d_M_placeFor_70 (by decide) ?_
            refine aw_icmp_ne (tgt := 78) d_M_placeFor_71 rfl (fun g71 => ?_) (fun g71 => ?_)
            · refine aw_iconst (v := 0) d_M_placeFor_78 (by decide) ?_
              refine aw_iadd d_M_placeFor_79 ?_
              refine aw_iret d_M_placeFor_80 rfl rfl ?_
              exact q_val hq (by unfold mpf; first | (rw [if_pos (by grind), if_pos (by grind)]; done) | (rw [if_pos (by grind), if_neg (by grind)]; done))
            · refine aw_iconst (v := 1) d_M_placeFor_74 (by decide) ?_
              refine aw_goto (tgt := 79) d_M_placeFor_75 rfl ?_
              refine aw_iadd d_M_placeFor_79 ?_
              refine aw_iret d_M_placeFor_80 rfl rfl ?_
              exact q_val hq (by unfold mpf; first | (rw [if_pos (by grind), if_pos (by grind)]; done) | (rw [if_pos (by grind), if_neg (by grind)]; done))
theorem t_M_join (hC : MI M tc sc) {s r : Nat} {ow : Int32} (hs : s < 5) (hr : r < 24) (hj : JnOK M s r ow) (hq : Q (.inl none) (mm (mjn M s r ow) K b)) : MT l Y_M_join (3, 53) [.ref 48, .int (nI s), .int ow, .int (nI r)] (mm M K b) Q := by
  refine mt_of (k := 2) (by decide) cd_M_join.1 (by simp [Value.category]) rfl ?_
  obtain ⟨a, n, h24, hn, han, ha⟩ := hj
  rw [mjn_eq hn (by omega) ha han] at hq
  have tl : ∀ i, i = a → AW l Y_M_join none (3, 53) Q 56 [some (.ref 48), some (.int (nI s)), some (.int ow), some (.int (nI r)), some (.int (nI a)), some (.int (nI i))] [] (mm (mshR M s a n) K b) := by
    intro i hia
    refine aw_aload_n d_M_join_56 rfl ?_
    refine mm_getr (t := 58) f_M_41 d_M_join_57 (by decide) rfl rfl rfl ?_
    refine aw_bipush (v := 24) d_M_join_60 (by decide) ?_
    refine aw_iload_n d_M_join_62 rfl ?_
    refine aw_imul d_M_join_63 ?_
    refine aw_iload d_M_join_64 rfl ?_
    refine aw_iadd d_M_join_66 ?_
    refine aw_iload_n d_M_join_67 rfl ?_
    refine mm_iast (ix24 s a) d_M_join_68 (by decide) rfl (by omega) (by decide) ?_
    refine aw_aload_n d_M_join_69 rfl ?_
    refine mm_getr (t := 59) f_M_44 d_M_join_70 (by decide) rfl rfl rfl ?_
    refine aw_iload_n d_M_join_73 rfl ?_
    refine aw_dup2 d_M_join_74 rfl rfl ?_
    refine mm_iald rfl d_M_join_75 (by decide) rfl (by omega) (by decide) ?_
    rw [ow_u_ne (by decide), mshR_ne (by decide)]
    refine aw_iconst (v := 1) d_M_join_76 (by decide) ?_
    refine aw_iadd d_M_join_77 ?_
    refine mm_iast rfl d_M_join_78 (by decide) rfl (by omega) (by decide) ?_
    refine aw_aload_n d_M_join_79 rfl ?_
    refine mm_getr (t := 57) f_M_38 d_M_join_80 (by decide) rfl rfl rfl ?_
    refine aw_bipush (v := 24) d_M_join_83 (by decide) ?_
    refine aw_iload_n d_M_join_85 rfl ?_
    refine aw_imul d_M_join_86 ?_
    refine aw_iload_n d_M_join_87 rfl ?_
    refine aw_iadd d_M_join_88 ?_
    refine aw_iload_n d_M_join_89 rfl ?_
    refine mm_iast (ix24 s r) d_M_join_90 (by decide) rfl (by omega) (by decide) ?_
    refine aw_vret d_M_join_91 rfl ?_
    exact hq
  have lp : ∀ i, a ≤ i → i ≤ n → AW l Y_M_join none (3, 53) Q 17 [some (.ref 48), some (.int (nI s)), some (.int ow), some (.int (nI r)), some (.int (nI a)), some (.int (nI i))] [] (mm (mshR M s i n) K b) := by
    intro i
    induction i with
    | zero =>
      intro h1 h2
      have ha0 : a = 0 := by omega
      subst ha0
      refine aw_iload d_M_join_17 rfl ?_
      refine aw_iload d_M_join_19 rfl ?_
      refine aw_icmp_le (tgt := 56) d_M_join_21 rfl (fun g21 => ?_) (fun g21 => ?_)
      · exact tl _ rfl
      · exact absurd (Int32.le_refl _) g21
    | succ i ih =>
      intro h1 h2
      refine aw_iload d_M_join_17 rfl ?_
      refine aw_iload d_M_join_19 rfl ?_
      refine aw_icmp_le (tgt := 56) d_M_join_21 rfl (fun g21 => ?_) (fun g21 => ?_)
      · have h3 : i + 1 = a := by
          rcases Nat.lt_or_ge a (i + 1) with h | h
          · exact absurd g21 (Int32.not_le.mpr ((nI_ltI (by omega) (by omega)).mpr h))
          · omega
        subst h3
        exact tl _ rfl
      · have h3 : a ≤ i := by
          rcases Nat.lt_or_ge i a with h | h
          · have h4 : i + 1 = a := by omega
            subst h4; exact absurd (Int32.le_refl _) g21
          · exact h
        refine aw_aload_n d_M_join_24 rfl ?_
        refine mm_getr (t := 58) f_M_41 d_M_join_25 (by decide) rfl rfl rfl ?_
        refine aw_bipush (v := 24) d_M_join_28 (by decide) ?_
        refine aw_iload_n d_M_join_30 rfl ?_
        refine aw_imul d_M_join_31 ?_
        refine aw_iload d_M_join_32 rfl ?_
        refine aw_iadd d_M_join_34 ?_
        refine aw_aload_n d_M_join_35 rfl ?_
        refine mm_getr (t := 58) f_M_41 d_M_join_36 (by decide) rfl rfl rfl ?_
        refine aw_bipush (v := 24) d_M_join_39 (by decide) ?_
        refine aw_iload_n d_M_join_41 rfl ?_
        refine aw_imul d_M_join_42 ?_
        refine aw_iload d_M_join_43 rfl ?_
        refine aw_iadd d_M_join_45 ?_
        refine aw_iconst (v := 1) d_M_join_46 (by decide) ?_
        refine aw_isub d_M_join_47 ?_
        refine mm_iald (ix24m s i) d_M_join_48 (by decide) rfl (by omega) (by decide) ?_
        refine mm_iast (ix24 s (i + 1)) d_M_join_49 (by decide) rfl (by omega) (by decide) ?_
        rw [mshR_st M s i n (by omega)]
        refine aw_iinc (v := nI i) d_M_join_50 rfl (pv_dn (i + 1)) (by decide) ?_
        refine aw_goto (tgt := 17) d_M_join_53 rfl ?_
        exact ih h3 (by omega)
  refine aw_aload_n d_M_join_0 rfl ?_
  refine aw_iload_n d_M_join_1 rfl ?_
  refine aw_iload_n d_M_join_2 rfl ?_
  refine aw_iload_n d_M_join_3 rfl ?_
  refine aw_cV3 (d' := (2, 31)) d_M_join_4 lk_M_116 cd_M_placeFor (Nat.le_of_ble_eq_true rfl) rfl rfl ⟨Nat.le_of_ble_eq_true rfl, Nat.le_of_ble_eq_true rfl⟩ (fun _ h => nomatch h) ?_
  refine t_M_placeFor hC hs hr ?_
  rw [ha]
  refine ow_next_i ?_
  refine aw_istore d_M_join_7 (by decide) ?_
  refine aw_aload_n d_M_join_9 rfl ?_
  refine mm_getr (t := 59) f_M_44 d_M_join_10 (by decide) rfl rfl rfl ?_
  refine aw_iload_n d_M_join_13 rfl ?_
  refine mm_iald rfl d_M_join_14 (by decide) rfl (by omega) (by decide) ?_
  rw [hn]
  refine aw_istore d_M_join_15 (by decide) ?_
  have h := lp n han (Nat.le_refl _)
  rw [mshR_n] at h
  exact h
theorem t_M_leave {s r : Nat} (hs : s < 5) (hr : r < 24) (hj : LvOK M s r) (hq : Q (.inl none) (mm (mlv M s r) K b)) : MT l Y_M_leave (1, 16) [.ref 48, .int (nI s), .int (nI r)] (mm M K b) Q := by
  refine mt_of (k := 2) (by decide) cd_M_leave.1 (by simp [Value.category]) rfl ?_
  obtain ⟨a, n, h24, hn, han, ha⟩ := hj
  rw [mlv_eq hn h24 ha han] at hq
  have lp : ∀ i, i ≤ n - 1 → a ≤ i → AW l Y_M_leave none (1, 16) Q 20 [some (.ref 48), some (.int (nI s)), some (.int (nI r)), some (.int (nI a)), some (.int (nI i))] [] (mm (mshL (ow_u M 59 s (M 59 s - 1)) s a i) K b) := by
    refine loop_dn (n - 1) (fun i hi ih => ?_)
    intro hai
    refine aw_iload d_M_leave_20 rfl ?_
    refine aw_aload_n d_M_leave_22 rfl ?_
    refine mm_getr (t := 59) f_M_44 d_M_leave_23 (by decide) rfl rfl rfl ?_
    refine aw_iload_n d_M_leave_26 rfl ?_
    refine mm_iald rfl d_M_leave_27 (by decide) rfl (by omega) (by decide) ?_
    refine aw_icmp_ge (tgt := 63) d_M_leave_28 rfl (fun g28 => ?_) (fun g28 => ?_)
    · have hi2 := ge_n (n := n - 1) (by rw [mshL_ne (by decide), ow_u_self, hn, nIpred (by omega)]) hi (by omega) g28
      rw [hi2]
      refine aw_aload_n d_M_leave_63 rfl ?_
      refine mm_getr (t := 57) f_M_38 d_M_leave_64 (by decide) rfl rfl rfl ?_
      refine aw_bipush (v := 24) d_M_leave_67 (by decide) ?_
      refine aw_iload_n d_M_leave_69 rfl ?_
      refine aw_imul d_M_leave_70 ?_
      refine aw_iload_n d_M_leave_71 rfl ?_
      refine aw_iadd d_M_leave_72 ?_
      refine aw_iconst (v := -1) d_M_leave_73 (by decide) ?_
      refine mm_iast (ix24 s r) d_M_leave_74 (by decide) rfl (by omega) (by decide) ?_
      refine aw_vret d_M_leave_75 rfl ?_
      exact hq
    · have hi2 := lt_n (n := n - 1) (by rw [mshL_ne (by decide), ow_u_self, hn, nIpred (by omega)]) hi (by omega) g28
      refine aw_aload_n d_M_leave_31 rfl ?_
      refine mm_getr (t := 58) f_M_41 d_M_leave_32 (by decide) rfl rfl rfl ?_
      refine aw_bipush (v := 24) d_M_leave_35 (by decide) ?_
      refine aw_iload_n d_M_leave_37 rfl ?_
      refine aw_imul d_M_leave_38 ?_
      refine aw_iload d_M_leave_39 rfl ?_
      refine aw_iadd d_M_leave_41 ?_
      refine aw_aload_n d_M_leave_42 rfl ?_
      refine mm_getr (t := 58) f_M_41 d_M_leave_43 (by decide) rfl rfl rfl ?_
      refine aw_bipush (v := 24) d_M_leave_46 (by decide) ?_
      refine aw_iload_n d_M_leave_48 rfl ?_
      refine aw_imul d_M_leave_49 ?_
      refine aw_iload d_M_leave_50 rfl ?_
      refine aw_iadd d_M_leave_52 ?_
      refine aw_iconst (v := 1) d_M_leave_53 (by decide) ?_
      refine aw_iadd d_M_leave_54 ?_
      refine mm_iald (ix24' s i) d_M_leave_55 (by decide) rfl (by omega) (by decide) ?_
      refine mm_iast (ix24 s i) d_M_leave_56 (by decide) rfl (by omega) (by decide) ?_
      rw [mshL_st _ s a i hai]
      refine aw_iinc (v := nI (i + 1)) d_M_leave_57 rfl (nI_succ i).symm (by decide) ?_
      refine aw_goto (tgt := 20) d_M_leave_60 rfl ?_
      exact ih hi2 (by omega)
  refine aw_aload_n d_M_leave_0 rfl ?_
  refine aw_iload_n d_M_leave_1 rfl ?_
  refine aw_iload_n d_M_leave_2 rfl ?_
  refine aw_cV2 (d' := (0, 0)) d_M_leave_3 lk_M_109 cd_M_placeOf (Nat.le_of_ble_eq_true rfl) rfl rfl ⟨Nat.le_of_ble_eq_true rfl, Nat.le_of_ble_eq_true rfl⟩ (fun _ h => nomatch h) ?_
  refine t_M_placeOf hs hn h24 ?_
  rw [ha]
  refine ow_next_i ?_
  refine aw_istore_n d_M_leave_6 (by decide) ?_
  refine aw_aload_n d_M_leave_7 rfl ?_
  refine mm_getr (t := 59) f_M_44 d_M_leave_8 (by decide) rfl rfl rfl ?_
  refine aw_iload_n d_M_leave_11 rfl ?_
  refine aw_dup2 d_M_leave_12 rfl rfl ?_
  refine mm_iald rfl d_M_leave_13 (by decide) rfl (by omega) (by decide) ?_
  refine aw_iconst (v := 1) d_M_leave_14 (by decide) ?_
  refine aw_isub d_M_leave_15 ?_
  refine mm_iast rfl d_M_leave_16 (by decide) rfl (by omega) (by decide) ?_
  refine aw_iload_n d_M_leave_17 rfl ?_
  refine aw_istore d_M_leave_18 (by decide) ?_
  have h := lp a (by omega) (Nat.le_refl _)
  rw [mshL_a] at h
  exact h
/-- M_valueIn -/
theorem t_M_valueIn (hC : MI M tc sc) {s r : Nat} (hs : s < 5) (hr : r < 24) (hq : Q (.inl (some (mvl M s r))) (mm M K b)) : MT l Y_M_valueIn (0, 0) [.ref 48, .int (nI s), .int (nI r)] (mm M K b) Q := by
  refine mt_of (k := 0) (by decide) cd_M_valueIn.1 (by simp [Value.category]) rfl ?_
  refine aw_aload_n d_M_valueIn_0 rfl ?_
  refine mm_getr (t := 52) f_M_19 d_M_valueIn_1 (by decide) rfl rfl rfl ?_
  refine aw_iload_n d_M_valueIn_4 rfl ?_
  refine mm_iald rfl d_M_valueIn_5 (by decide) rfl (by omega) (by decide) ?_
  refine aw_bipush (v := 10) d_M_valueIn_6 (by decide) ?_
  refine aw_icmp_ge (tgt := 15) d_M_valueIn_8 rfl (fun g8 => ?_) (fun g8 => ?_)
  · have hsf := hC.sf hs (by grind)
    refine aw_aload_n d_M_valueIn_15 rfl ?_
    refine mm_getr (t := 56) f_M_35 d_M_valueIn_16 (by decide) rfl rfl rfl ?_
    refine aw_iconst (v := 3) d_M_valueIn_19 (by decide) ?_
    refine aw_iload_n d_M_valueIn_20 rfl ?_
    refine aw_imul d_M_valueIn_21 ?_
    refine aw_aload_n d_M_valueIn_22 rfl ?_
    refine mm_getr (t := 52) f_M_19 d_M_valueIn_23 (by decide) rfl rfl rfl ?_
    refine aw_iload_n d_M_valueIn_26 rfl ?_
    refine mm_iald rfl d_M_valueIn_27 (by decide) rfl (by omega) (by decide) ?_
    refine aw_bipush (v := 10) d_M_valueIn_28 (by decide) ?_
    refine aw_irem d_M_valueIn_30 (by decide) ?_
    refine aw_iadd d_M_valueIn_31 ?_
    refine mm_iald (by rw [hsf.2]; exact ix3 r (sfm M s)) d_M_valueIn_32 (by decide) rfl (by have := hsf.1; omega) (by decide) ?_
    refine aw_iret d_M_valueIn_33 rfl rfl ?_
    exact q_val hq (by unfold mvl; first | (rw [if_pos (by grind)]; done) | (rw [if_neg (by grind)]; done))
  · refine aw_iconst (v := 0) d_M_valueIn_11 (by decide) ?_
    refine aw_goto (tgt := 33) d_M_valueIn_12 rfl ?_
    refine aw_iret d_M_valueIn_33 rfl rfl ?_
    exact q_val hq (by unfold mvl; first | (rw [if_pos (by grind)]; done) | (rw [if_neg (by grind)]; done))
/-- M_isSortedBy -/
theorem t_M_isSortedBy {s : Nat} {f : Int32} (hs : s < 5) (hq : Q (.inl (some (if 10 ≤ M 52 s ∧ M 52 s - M 52 s / 10 * 10 = f then 1 else 0))) (mm M K b)) : MT l Y_M_isSortedBy (0, 0) [.ref 48, .int (nI s), .int f] (mm M K b) Q := by
  refine mt_of (k := 0) (by decide) cd_M_isSortedBy.1 (by simp [Value.category]) rfl ?_
  refine aw_aload_n d_M_isSortedBy_0 rfl ?_
  refine mm_getr (t := 52) f_M_19 d_M_isSortedBy_1 (by decide) rfl rfl rfl ?_
  refine aw_iload_n d_M_isSortedBy_4 rfl ?_
  refine mm_iald rfl d_M_isSortedBy_5 (by decide) rfl (by omega) (by decide) ?_
  refine aw_bipush (v := 10) d_M_isSortedBy_6 (by decide) ?_
  refine aw_icmp_lt (tgt := 28) d_M_isSortedBy_8 rfl (fun g8 => ?_) (fun g8 => ?_)
  · refine aw_iconst (v := 0) d_M_isSortedBy_28 (by decide) ?_
    refine aw_iret d_M_isSortedBy_29 rfl rfl ?_
    first | (rw [if_pos (by grind)] at hq; exact hq) | (rw [if_neg (by grind)] at hq; exact hq)
  · refine aw_aload_n d_M_isSortedBy_11 rfl ?_
    refine mm_getr (t := 52) f_M_19 d_M_isSortedBy_12 (by decide) rfl rfl rfl ?_
    refine aw_iload_n d_M_isSortedBy_15 rfl ?_
    refine mm_iald rfl d_M_isSortedBy_16 (by decide) rfl (by omega) (by decide) ?_
    refine aw_bipush (v := 10) d_M_isSortedBy_17 (by decide) ?_
    refine aw_irem d_M_isSortedBy_19 (by decide) ?_
    refine aw_iload_n d_M_isSortedBy_20 rfl ?_
    refine aw_icmp_ne (tgt := 28) d_M_isSortedBy_21 rfl (fun g21 => ?_) (fun g21 => ?_)
    · refine aw_iconst (v := 0) d_M_isSortedBy_28 (by decide) ?_
      refine aw_iret d_M_isSortedBy_29 rfl rfl ?_
      first | (rw [if_pos (by grind)] at hq; exact hq) | (rw [if_neg (by grind)] at hq; exact hq)
    · refine aw_iconst (v := 1) d_M_isSortedBy_24 (by decide) ?_
      refine aw_goto (tgt := 29) d_M_isSortedBy_25 rfl ?_
      refine aw_iret d_M_isSortedBy_29 rfl rfl ?_
      first | (rw [if_pos (by grind)] at hq; exact hq) | (rw [if_neg (by grind)] at hq; exact hq)
/-- M_takes -/
theorem t_M_takes {s : Nat} {m : Int32} (hs : s < 5) (hq : Q (.inl (some (if m = 3 ∨ M 53 s - M 53 s / 3 * 3 < m then 1 else 0))) (mm M K b)) : MT l Y_M_takes (0, 0) [.ref 48, .int (nI s), .int m] (mm M K b) Q := by
  refine mt_of (k := 0) (by decide) cd_M_takes.1 (by simp [Value.category]) rfl ?_
  refine aw_iload_n d_M_takes_0 rfl ?_
  refine aw_iconst (v := 3) d_M_takes_1 (by decide) ?_
  refine aw_icmp_eq (tgt := 17) d_M_takes_2 rfl (fun g2 => ?_) (fun g2 => ?_)
  · refine aw_iconst (v := 1) d_M_takes_17 (by decide) ?_
    refine aw_goto (tgt := 22) d_M_takes_18 rfl ?_
    refine aw_iret d_M_takes_22 rfl rfl ?_
    first | (rw [if_pos (by grind)] at hq; exact hq) | (rw [if_neg (by grind)] at hq; exact hq)
  · refine aw_aload_n d_M_takes_5 rfl ?_
    refine mm_getr (t := 53) f_M_22 d_M_takes_6 (by decide) rfl rfl rfl ?_
    refine aw_iload_n d_M_takes_9 rfl ?_
    refine mm_iald rfl d_M_takes_10 (by decide) rfl (by omega) (by decide) ?_
    refine aw_iconst (v := 3) d_M_takes_11 (by decide) ?_
    refine aw_irem d_M_takes_12 (by decide) ?_
    refine aw_iload_n d_M_takes_13 rfl ?_
    refine aw_icmp_ge (tgt := 21) d_M_takes_14 rfl (fun g14 => ?_) (fun g14 => ?_)
    · refine aw_iconst (v := 0) d_M_takes_21 (by decide) ?_
      refine aw_iret d_M_takes_22 rfl rfl ?_
      first | (rw [if_pos (by grind)] at hq; exact hq) | (rw [if_neg (by grind)] at hq; exact hq)
    · refine aw_iconst (v := 1) d_M_takes_17 (by decide) ?_
      refine aw_goto (tgt := 22) d_M_takes_18 rfl ?_
      refine aw_iret d_M_takes_22 rfl rfl ?_
      first | (rw [if_pos (by grind)] at hq; exact hq) | (rw [if_neg (by grind)] at hq; exact hq)
/-- M_objection -/
theorem t_M_objection {t : Int32} {p : Nat} (hC : MI M tc sc) (hp : p < 24) (hq : Q (.inl (some (obS M t p sc))) (mm M K b)) : MT l Y_M_objection (1, 18) [.ref 48, .int t, .int (nI p)] (mm M K b) Q := by
  refine mt_of (k := 4) (by decide) cd_M_objection.1 (by simp [Value.category]) rfl ?_
  have lp : ∀ i, i ≤ sc → ∀ w5 w6 : Option Value, AW l Y_M_objection none (1, 18) Q 5 [some (.ref 48), some (.int t), some (.int (nI p)), some (.int (obS M t p i)), some (.int (nI i)), w5, w6] [] (mm M K b) := by
    refine loop_dn sc (fun i hi ih => ?_)
    intro w5 w6
    refine aw_iload d_M_objection_5 rfl ?_
    refine aw_aload_n d_M_objection_7 rfl ?_
    refine mm_geti f_M_90 d_M_objection_8 (by decide) rfl rfl ?_
    refine aw_icmp_ge (tgt := 121) d_M_objection_11 rfl (fun g11 => ?_) (fun g11 => ?_)
    · have hi2 := ge_n (n := sc) hC.sc hi (by have := hC.s5; omega) g11
      subst hi2
      refine aw_iload_n d_M_objection_121 rfl ?_
      refine aw_iret d_M_objection_122 rfl rfl ?_
      exact hq
    · have hi2 := lt_n (n := sc) hC.sc hi (by have := hC.s5; omega) g11
      have hi5 : i < 5 := by have := hC.s5; omega
      refine aw_aload_n d_M_objection_14 rfl ?_
      refine mm_getr (t := 51) f_M_16 d_M_objection_15 (by decide) rfl rfl rfl ?_
      refine aw_iload d_M_objection_18 rfl ?_
      refine mm_iald rfl d_M_objection_20 (by decide) rfl (by omega) (by decide) ?_
      refine aw_iload_n d_M_objection_21 rfl ?_
      refine aw_icmp_ne (tgt := 115) d_M_objection_22 rfl (fun g22 => ?_) (fun g22 => ?_)
      · refine aw_iinc (v := nI (i + 1)) d_M_objection_115 rfl (nI_succ i).symm (by decide) ?_
        refine aw_goto (tgt := 5) d_M_objection_118 rfl ?_
        first
          | (rw [show obS M t p (i + 1) = obS M t p i from by simp only [obS]; rw [if_neg (by grind)]] at ih; exact ih hi2 _ _)
          | (rw [show obS M t p (i + 1) = 2 from by simp only [obS]; rw [if_pos (by grind), if_pos (by grind)]] at ih; exact ih hi2 _ _)
          | (rw [show obS M t p (i + 1) = 3 from by simp only [obS]; rw [if_pos (by grind), if_neg (by grind), if_pos (by grind [mvl])]] at ih; exact ih hi2 _ _)
          | (rw [show obS M t p (i + 1) = obS M t p i from by simp only [obS]; rw [if_pos (by grind), if_neg (by grind), if_neg (by grind [mvl])]] at ih; exact ih hi2 _ _)
      · refine aw_aload_n d_M_objection_25 rfl ?_
        refine mm_getr (t := 53) f_M_22 d_M_objection_26 (by decide) rfl rfl rfl ?_
        refine aw_iload d_M_objection_29 rfl ?_
        refine mm_iald rfl d_M_objection_31 (by decide) rfl (by omega) (by decide) ?_
        refine aw_iconst (v := 2) d_M_objection_32 (by decide) ?_
        refine aw_icmp_le (tgt := 115) d_M_objection_33 rfl (fun g33 => ?_) (fun g33 => ?_)
        · refine aw_iinc (v := nI (i + 1)) d_M_objection_115 rfl (nI_succ i).symm (by decide) ?_
          refine aw_goto (tgt := 5) d_M_objection_118 rfl ?_
          first
            | (rw [show obS M t p (i + 1) = obS M t p i from by simp only [obS]; rw [if_neg (by grind)]] at ih; exact ih hi2 _ _)
            | (rw [show obS M t p (i + 1) = 2 from by simp only [obS]; rw [if_pos (by grind), if_pos (by grind)]] at ih; exact ih hi2 _ _)
            | (rw [show obS M t p (i + 1) = 3 from by simp only [obS]; rw [if_pos (by grind), if_neg (by grind), if_pos (by grind [mvl])]] at ih; exact ih hi2 _ _)
            | (rw [show obS M t p (i + 1) = obS M t p i from by simp only [obS]; rw [if_pos (by grind), if_neg (by grind), if_neg (by grind [mvl])]] at ih; exact ih hi2 _ _)
        · refine aw_aload_n d_M_objection_36 rfl ?_
          refine aw_iload d_M_objection_37 rfl ?_
          refine aw_cV1 (d' := (0, 0)) d_M_objection_39 lk_M_120 cd_M_currentOwner (Nat.le_of_ble_eq_true rfl) rfl rfl ⟨Nat.le_of_ble_eq_true rfl, Nat.le_of_ble_eq_true rfl⟩ (fun _ h => nomatch h) ?_
          refine t_M_currentOwner hC hi5 ?_
          refine ow_next_i ?_
          refine aw_istore d_M_objection_42 (by decide) ?_
          refine aw_aload_n d_M_objection_44 rfl ?_
          refine mm_getr (t := 52) f_M_19 d_M_objection_45 (by decide) rfl rfl rfl ?_
          refine aw_iload d_M_objection_48 rfl ?_
          refine mm_iald rfl d_M_objection_50 (by decide) rfl (by omega) (by decide) ?_
          refine aw_bipush (v := 10) d_M_objection_51 (by decide) ?_
          refine aw_icmp_ge (tgt := 60) d_M_objection_53 rfl (fun g53 => ?_) (fun g53 => ?_)
          · have hsf := hC.sf hi5 (by grind)
            refine aw_aload_n d_M_objection_60 rfl ?_
            refine mm_getr (t := 56) f_M_35 d_M_objection_61 (by decide) rfl rfl rfl ?_
            refine aw_iconst (v := 3) d_M_objection_64 (by decide) ?_
            refine aw_iload_n d_M_objection_65 rfl ?_
            refine aw_imul d_M_objection_66 ?_
            refine aw_aload_n d_M_objection_67 rfl ?_
            refine mm_getr (t := 52) f_M_19 d_M_objection_68 (by decide) rfl rfl rfl ?_
            refine aw_iload d_M_objection_71 rfl ?_
            refine mm_iald rfl d_M_objection_73 (by decide) rfl (by omega) (by decide) ?_
            refine aw_bipush (v := 10) d_M_objection_74 (by decide) ?_
            refine aw_irem d_M_objection_76 (by decide) ?_
            refine aw_iadd d_M_objection_77 ?_
            refine mm_iald (by rw [hsf.2]; exact ix3 p (sfm M i)) d_M_objection_78 (by decide) rfl (by have := hsf.1; omega) (by decide) ?_
            refine aw_istore d_M_objection_79 (by decide) ?_
            refine aw_iload d_M_objection_81 rfl ?_
            refine aw_if_lt (tgt := 91) d_M_objection_83 rfl (fun g83 => ?_) (fun g83 => ?_)
            · refine aw_iconst (v := 2) d_M_objection_91 (by decide) ?_
              refine aw_goto (tgt := 114) d_M_objection_92 rfl ?_
              refine aw_istore_n d_M_objection_114 (by decide) ?_
              refine aw_iinc (v := nI (i + 1)) d_M_objection_115 rfl (nI_succ i).symm (by decide) ?_
              refine aw_goto (tgt := 5) d_M_objection_118 rfl ?_
              first
                | (rw [show obS M t p (i + 1) = obS M t p i from by simp only [obS]; rw [if_neg (by grind)]] at ih; exact ih hi2 _ _)
                | (rw [show obS M t p (i + 1) = 2 from by simp only [obS]; rw [if_pos (by grind), if_pos (by grind)]] at ih; exact ih hi2 _ _)
                | (rw [show obS M t p (i + 1) = 3 from by simp only [obS]; rw [if_pos (by grind), if_neg (by grind), if_pos (by grind [mvl])]] at ih; exact ih hi2 _ _)
                | (rw [show obS M t p (i + 1) = obS M t p i from by simp only [obS]; rw [if_pos (by grind), if_neg (by grind), if_neg (by grind [mvl])]] at ih; exact ih hi2 _ _)
            · refine aw_iload_n d_M_objection_86 rfl ?_
              refine aw_iconst (v := 2) d_M_objection_87 (by decide) ?_
              refine aw_icmp_ne (tgt := 95) d_M_objection_88 rfl (fun g88 => ?_) (fun g88 => ?_)
              · refine aw_aload_n d_M_objection_95 rfl ?_
                refine aw_iload d_M_objection_96 rfl ?_
                refine aw_iload d_M_objection_98 rfl ?_
                refine aw_iload_n d_M_objection_100 rfl ?_
                refine aw_iload d_M_objection_101 rfl ?_
                refine aw_cV4 (d' := (0, 0)) d_M_objection_103 lk_M_124 cd_M_isRefused (Nat.le_of_ble_eq_true rfl) rfl rfl ⟨Nat.le_of_ble_eq_true rfl, Nat.le_of_ble_eq_true rfl⟩ (fun _ h => nomatch h) ?_
                refine t_M_isRefused hC hi5 ?_
                refine ow_next_i ?_
                refine aw_if_eq (tgt := 113) d_M_objection_106 rfl (fun g106 => ?_) (fun g106 => ?_)
                · refine aw_iload_n d_M_objection_113 rfl ?_
                  refine aw_istore_n d_M_objection_114 (by decide) ?_
                  refine aw_iinc (v := nI (i + 1)) d_M_objection_115 rfl (nI_succ i).symm (by decide) ?_
                  refine aw_goto (tgt := 5) d_M_objection_118 rfl ?_
                  first
                    | (rw [show obS M t p (i + 1) = obS M t p i from by simp only [obS]; rw [if_neg (by grind)]] at ih; exact ih hi2 _ _)
                    | (rw [show obS M t p (i + 1) = 2 from by simp only [obS]; rw [if_pos (by grind), if_pos (by grind)]] at ih; exact ih hi2 _ _)
                    | (rw [show obS M t p (i + 1) = 3 from by simp only [obS]; rw [if_pos (by grind), if_neg (by grind), if_pos (by grind [mvl])]] at ih; exact ih hi2 _ _)
                    | (rw [show obS M t p (i + 1) = obS M t p i from by simp only [obS]; rw [if_pos (by grind), if_neg (by grind), if_neg (by grind [mvl])]] at ih; exact ih hi2 _ _)
                · refine aw_iconst (v := 3) d_M_objection_109 (by decide) ?_
                  refine aw_goto (tgt := 114) d_M_objection_110 rfl ?_
                  refine aw_istore_n d_M_objection_114 (by decide) ?_
                  refine aw_iinc (v := nI (i + 1)) d_M_objection_115 rfl (nI_succ i).symm (by decide) ?_
                  refine aw_goto (tgt := 5) d_M_objection_118 rfl ?_
                  first
                    | (rw [show obS M t p (i + 1) = obS M t p i from by simp only [obS]; rw [if_neg (by grind)]] at ih; exact ih hi2 _ _)
                    | (rw [show obS M t p (i + 1) = 2 from by simp only [obS]; rw [if_pos (by grind), if_pos (by grind)]] at ih; exact ih hi2 _ _)
                    | (rw [show obS M t p (i + 1) = 3 from by simp only [obS]; rw [if_pos (by grind), if_neg (by grind), if_pos (by grind [mvl])]] at ih; exact ih hi2 _ _)
                    | (rw [show obS M t p (i + 1) = obS M t p i from by simp only [obS]; rw [if_pos (by grind), if_neg (by grind), if_neg (by grind [mvl])]] at ih; exact ih hi2 _ _)
              · refine aw_iconst (v := 2) d_M_objection_91 (by decide) ?_
                refine aw_goto (tgt := 114) d_M_objection_92 rfl ?_
                refine aw_istore_n d_M_objection_114 (by decide) ?_
                refine aw_iinc (v := nI (i + 1)) d_M_objection_115 rfl (nI_succ i).symm (by decide) ?_
                refine aw_goto (tgt := 5) d_M_objection_118 rfl ?_
                first
                  | (rw [show obS M t p (i + 1) = obS M t p i from by simp only [obS]; rw [if_neg (by grind)]] at ih; exact ih hi2 _ _)
                  | (rw [show obS M t p (i + 1) = 2 from by simp only [obS]; rw [if_pos (by grind), if_pos (by grind)]] at ih; exact ih hi2 _ _)
                  | (rw [show obS M t p (i + 1) = 3 from by simp only [obS]; rw [if_pos (by grind), if_neg (by grind), if_pos (by grind [mvl])]] at ih; exact ih hi2 _ _)
                  | (rw [show obS M t p (i + 1) = obS M t p i from by simp only [obS]; rw [if_pos (by grind), if_neg (by grind), if_neg (by grind [mvl])]] at ih; exact ih hi2 _ _)
          · refine aw_iconst (v := 0) d_M_objection_56 (by decide) ?_
            refine aw_goto (tgt := 79) d_M_objection_57 rfl ?_
            refine aw_istore d_M_objection_79 (by decide) ?_
            refine aw_iload d_M_objection_81 rfl ?_
            refine aw_if_lt (tgt := 91) d_M_objection_83 rfl (fun g83 => ?_) (fun g83 => ?_)
            · refine aw_iconst (v := 2) d_M_objection_91 (by decide) ?_
              refine aw_goto (tgt := 114) d_M_objection_92 rfl ?_
              refine aw_istore_n d_M_objection_114 (by decide) ?_
              refine aw_iinc (v := nI (i + 1)) d_M_objection_115 rfl (nI_succ i).symm (by decide) ?_
              refine aw_goto (tgt := 5) d_M_objection_118 rfl ?_
              first
                | (rw [show obS M t p (i + 1) = obS M t p i from by simp only [obS]; rw [if_neg (by grind)]] at ih; exact ih hi2 _ _)
                | (rw [show obS M t p (i + 1) = 2 from by simp only [obS]; rw [if_pos (by grind), if_pos (by grind)]] at ih; exact ih hi2 _ _)
                | (rw [show obS M t p (i + 1) = 3 from by simp only [obS]; rw [if_pos (by grind), if_neg (by grind), if_pos (by grind [mvl])]] at ih; exact ih hi2 _ _)
                | (rw [show obS M t p (i + 1) = obS M t p i from by simp only [obS]; rw [if_pos (by grind), if_neg (by grind), if_neg (by grind [mvl])]] at ih; exact ih hi2 _ _)
            · refine aw_iload_n d_M_objection_86 rfl ?_
              refine aw_iconst (v := 2) d_M_objection_87 (by decide) ?_
              refine aw_icmp_ne (tgt := 95) d_M_objection_88 rfl (fun g88 => ?_) (fun g88 => ?_)
              · refine aw_aload_n d_M_objection_95 rfl ?_
                refine aw_iload d_M_objection_96 rfl ?_
                refine aw_iload d_M_objection_98 rfl ?_
                refine aw_iload_n d_M_objection_100 rfl ?_
                refine aw_iload d_M_objection_101 rfl ?_
                refine aw_cV4 (d' := (0, 0)) d_M_objection_103 lk_M_124 cd_M_isRefused (Nat.le_of_ble_eq_true rfl) rfl rfl ⟨Nat.le_of_ble_eq_true rfl, Nat.le_of_ble_eq_true rfl⟩ (fun _ h => nomatch h) ?_
                refine t_M_isRefused hC hi5 ?_
                refine ow_next_i ?_
                refine aw_if_eq (tgt := 113) d_M_objection_106 rfl (fun g106 => ?_) (fun g106 => ?_)
                · refine aw_iload_n d_M_objection_113 rfl ?_
                  refine aw_istore_n d_M_objection_114 (by decide) ?_
                  refine aw_iinc (v := nI (i + 1)) d_M_objection_115 rfl (nI_succ i).symm (by decide) ?_
                  refine aw_goto (tgt := 5) d_M_objection_118 rfl ?_
                  first
                    | (rw [show obS M t p (i + 1) = obS M t p i from by simp only [obS]; rw [if_neg (by grind)]] at ih; exact ih hi2 _ _)
                    | (rw [show obS M t p (i + 1) = 2 from by simp only [obS]; rw [if_pos (by grind), if_pos (by grind)]] at ih; exact ih hi2 _ _)
                    | (rw [show obS M t p (i + 1) = 3 from by simp only [obS]; rw [if_pos (by grind), if_neg (by grind), if_pos (by grind [mvl])]] at ih; exact ih hi2 _ _)
                    | (rw [show obS M t p (i + 1) = obS M t p i from by simp only [obS]; rw [if_pos (by grind), if_neg (by grind), if_neg (by grind [mvl])]] at ih; exact ih hi2 _ _)
                · refine aw_iconst (v := 3) d_M_objection_109 (by decide) ?_
                  refine aw_goto (tgt := 114) d_M_objection_110 rfl ?_
                  refine aw_istore_n d_M_objection_114 (by decide) ?_
                  refine aw_iinc (v := nI (i + 1)) d_M_objection_115 rfl (nI_succ i).symm (by decide) ?_
                  refine aw_goto (tgt := 5) d_M_objection_118 rfl ?_
                  first
                    | (rw [show obS M t p (i + 1) = obS M t p i from by simp only [obS]; rw [if_neg (by grind)]] at ih; exact ih hi2 _ _)
                    | (rw [show obS M t p (i + 1) = 2 from by simp only [obS]; rw [if_pos (by grind), if_pos (by grind)]] at ih; exact ih hi2 _ _)
                    | (rw [show obS M t p (i + 1) = 3 from by simp only [obS]; rw [if_pos (by grind), if_neg (by grind), if_pos (by grind [mvl])]] at ih; exact ih hi2 _ _)
                    | (rw [show obS M t p (i + 1) = obS M t p i from by simp only [obS]; rw [if_pos (by grind), if_neg (by grind), if_neg (by grind [mvl])]] at ih; exact ih hi2 _ _)
              · refine aw_iconst (v := 2) d_M_objection_91 (by decide) ?_
                refine aw_goto (tgt := 114) d_M_objection_92 rfl ?_
                refine aw_istore_n d_M_objection_114 (by decide) ?_
                refine aw_iinc (v := nI (i + 1)) d_M_objection_115 rfl (nI_succ i).symm (by decide) ?_
                refine aw_goto (tgt := 5) d_M_objection_118 rfl ?_
                first
                  | (rw [show obS M t p (i + 1) = obS M t p i from by simp only [obS]; rw [if_neg (by grind)]] at ih; exact ih hi2 _ _)
                  | (rw [show obS M t p (i + 1) = 2 from by simp only [obS]; rw [if_pos (by grind), if_pos (by grind)]] at ih; exact ih hi2 _ _)
                  | (rw [show obS M t p (i + 1) = 3 from by simp only [obS]; rw [if_pos (by grind), if_neg (by grind), if_pos (by grind [mvl])]] at ih; exact ih hi2 _ _)
                  | (rw [show obS M t p (i + 1) = obS M t p i from by simp only [obS]; rw [if_pos (by grind), if_neg (by grind), if_neg (by grind [mvl])]] at ih; exact ih hi2 _ _)
  refine aw_iconst (v := 0) d_M_objection_0 (by decide) ?_
  refine aw_istore_n d_M_objection_1 (by decide) ?_
  refine aw_iconst (v := 0) d_M_objection_2 (by decide) ?_
  refine aw_istore d_M_objection_3 (by decide) ?_
  exact lp 0 (by omega) _ _
/-- M_beside -/
theorem t_M_beside (hC : MI M tc sc) {s : Nat} (hs : s < 5) (hq : Q (.inl (some (mbs M s))) (mm M K b)) : MT l Y_M_beside (2, 31) [.ref 48, .int (nI s), .int 1] (mm M K b) Q := by
  refine mt_of (k := 2) (by decide) cd_M_beside.1 (by simp [Value.category]) rfl ?_
  have hln := hC.ln hs
  refine aw_aload_n d_M_beside_0 rfl ?_
  refine mm_getr (t := 61) f_M_53 d_M_beside_1 (by decide) rfl rfl rfl ?_
  refine aw_iload_n d_M_beside_4 rfl ?_
  refine mm_iald rfl d_M_beside_5 (by decide) rfl (by omega) (by decide) ?_
  refine aw_istore_n d_M_beside_6 (by decide) ?_
  refine aw_iload_n d_M_beside_7 rfl ?_
  refine aw_if_ge (tgt := 13) d_M_beside_8 rfl (fun g8 => ?_) (fun g8 => ?_)
  · refine aw_aload_n d_M_beside_13 rfl ?_
    refine aw_iload_n d_M_beside_14 rfl ?_
    refine aw_cV1 (d' := (0, 0)) d_M_beside_15 lk_M_120 cd_M_currentOwner (Nat.le_of_ble_eq_true rfl) rfl rfl ⟨Nat.le_of_ble_eq_true rfl, Nat.le_of_ble_eq_true rfl⟩ (fun _ h => nomatch h) ?_
    refine t_M_currentOwner hC hs ?_
    refine ow_next_i ?_
    refine aw_istore d_M_beside_18 (by decide) ?_
    refine aw_iload_n d_M_beside_20 rfl ?_
    refine aw_iload d_M_beside_21 rfl ?_
    refine aw_icmp_ne (tgt := 48) d_M_beside_23 rfl (fun g23 => ?_) (fun g23 => ?_)
    · refine aw_aload_n d_M_beside_48 rfl ?_
      refine aw_iload_n d_M_beside_49 rfl ?_
      refine aw_iload d_M_beside_50 rfl ?_
      refine aw_aload_n d_M_beside_52 rfl ?_
      refine aw_iload_n d_M_beside_53 rfl ?_
      refine aw_iload_n d_M_beside_54 rfl ?_
      refine aw_cV2 (d' := (0, 0)) d_M_beside_55 lk_M_109 cd_M_placeOf (Nat.le_of_ble_eq_true rfl) rfl rfl ⟨Nat.le_of_ble_eq_true rfl, Nat.le_of_ble_eq_true rfl⟩ (fun _ h => nomatch h) ?_
      refine t_M_placeOf hs hln.2 hln.1 ?_
      refine ow_next_i ?_
      refine aw_iload_n d_M_beside_58 rfl ?_
      refine aw_iadd d_M_beside_59 ?_
      refine aw_iload_n d_M_beside_60 rfl ?_
      refine aw_cV4 (d' := (0, 0)) d_M_beside_61 lk_M_105 cd_M_nextIn (Nat.le_of_ble_eq_true rfl) rfl rfl ⟨Nat.le_of_ble_eq_true rfl, Nat.le_of_ble_eq_true rfl⟩ (fun _ h => nomatch h) ?_
      rw [(mpo_1 hln.1).2]
      refine t_M_nextInF hC hs hln.2 hln.1 (mpo_1 hln.1).1 ?_
      refine ow_next_i ?_
      refine aw_iret d_M_beside_64 rfl rfl ?_
      exact q_val hq (by unfold mbs mbF; rw [if_neg (by grind), if_neg (by grind)])
    · refine aw_iload_n d_M_beside_26 rfl ?_
      refine aw_if_le (tgt := 40) d_M_beside_27 rfl (fun g27 => ?_) (fun g27 => ?_)
      · exact absurd g27 (by decide)
      · refine aw_aload_n d_M_beside_30 rfl ?_
        refine aw_iload_n d_M_beside_31 rfl ?_
        refine aw_iload d_M_beside_32 rfl ?_
        refine aw_cV2 (d' := (1, 17)) d_M_beside_34 lk_M_113 cd_M_firstOf (Nat.le_of_ble_eq_true rfl) rfl rfl ⟨Nat.le_of_ble_eq_true rfl, Nat.le_of_ble_eq_true rfl⟩ (fun _ h => nomatch h) ?_
        refine t_M_firstOf hC hs hln.2 hln.1 ?_
        refine ow_next_i ?_
        refine aw_goto (tgt := 47) d_M_beside_37 rfl ?_
        refine aw_iret d_M_beside_47 rfl rfl ?_
        exact q_val hq (by unfold mbs mbF; rw [if_neg (by grind), if_pos (by grind)]; rfl)
  · refine aw_iconst (v := -1) d_M_beside_11 (by decide) ?_
    refine aw_iret d_M_beside_12 rfl rfl ?_
    exact q_val hq (by unfold mbs; rw [if_pos (by grind)])
/-- M_beside -/
theorem t_M_beside_B (hC : MI M tc sc) {s : Nat} (hs : s < 5) (hq : Q (.inl (some (mbp M s))) (mm M K b)) : MT l Y_M_beside (2, 31) [.ref 48, .int (nI s), .int (-1)] (mm M K b) Q := by
  refine mt_of (k := 2) (by decide) cd_M_beside.1 (by simp [Value.category]) rfl ?_
  have hln := hC.ln hs
  refine aw_aload_n d_M_beside_0 rfl ?_
  refine mm_getr (t := 61) f_M_53 d_M_beside_1 (by decide) rfl rfl rfl ?_
  refine aw_iload_n d_M_beside_4 rfl ?_
  refine mm_iald rfl d_M_beside_5 (by decide) rfl (by omega) (by decide) ?_
  refine aw_istore_n d_M_beside_6 (by decide) ?_
  refine aw_iload_n d_M_beside_7 rfl ?_
  refine aw_if_ge (tgt := 13) d_M_beside_8 rfl (fun g8 => ?_) (fun g8 => ?_)
  · refine aw_aload_n d_M_beside_13 rfl ?_
    refine aw_iload_n d_M_beside_14 rfl ?_
    refine aw_cV1 (d' := (0, 0)) d_M_beside_15 lk_M_120 cd_M_currentOwner (Nat.le_of_ble_eq_true rfl) rfl rfl ⟨Nat.le_of_ble_eq_true rfl, Nat.le_of_ble_eq_true rfl⟩ (fun _ h => nomatch h) ?_
    refine t_M_currentOwner hC hs ?_
    refine ow_next_i ?_
    refine aw_istore d_M_beside_18 (by decide) ?_
    refine aw_iload_n d_M_beside_20 rfl ?_
    refine aw_iload d_M_beside_21 rfl ?_
    refine aw_icmp_ne (tgt := 48) d_M_beside_23 rfl (fun g23 => ?_) (fun g23 => ?_)
    · refine aw_aload_n d_M_beside_48 rfl ?_
      refine aw_iload_n d_M_beside_49 rfl ?_
      refine aw_iload d_M_beside_50 rfl ?_
      refine aw_aload_n d_M_beside_52 rfl ?_
      refine aw_iload_n d_M_beside_53 rfl ?_
      refine aw_iload_n d_M_beside_54 rfl ?_
      refine aw_cV2 (d' := (0, 0)) d_M_beside_55 lk_M_109 cd_M_placeOf (Nat.le_of_ble_eq_true rfl) rfl rfl ⟨Nat.le_of_ble_eq_true rfl, Nat.le_of_ble_eq_true rfl⟩ (fun _ h => nomatch h) ?_
      refine t_M_placeOf hs hln.2 hln.1 ?_
      refine ow_next_i ?_
      refine aw_iload_n d_M_beside_58 rfl ?_
      refine aw_iadd d_M_beside_59 ?_
      refine aw_iload_n d_M_beside_60 rfl ?_
      refine aw_cV4 (d' := (0, 0)) d_M_beside_61 lk_M_105 cd_M_nextIn (Nat.le_of_ble_eq_true rfl) rfl rfl ⟨Nat.le_of_ble_eq_true rfl, Nat.le_of_ble_eq_true rfl⟩ (fun _ h => nomatch h) ?_
      rw [(mpo_b hln.1).2.2]
      refine t_M_nextInB hC hs hln.2 hln.1 (mpo_b hln.1).1 (mpo_b hln.1).2.1 ?_
      refine ow_next_i ?_
      refine aw_iret d_M_beside_64 rfl rfl ?_
      exact q_val hq (by unfold mbp mbB; rw [if_neg (by grind), if_neg (by grind)])
    · refine aw_iload_n d_M_beside_26 rfl ?_
      refine aw_if_le (tgt := 40) d_M_beside_27 rfl (fun g27 => ?_) (fun g27 => ?_)
      · refine aw_aload_n d_M_beside_40 rfl ?_
        refine aw_iload_n d_M_beside_41 rfl ?_
        refine aw_iload d_M_beside_42 rfl ?_
        refine aw_cV2 (d' := (1, 17)) d_M_beside_44 lk_M_145 cd_M_lastOf (Nat.le_of_ble_eq_true rfl) rfl rfl ⟨Nat.le_of_ble_eq_true rfl, Nat.le_of_ble_eq_true rfl⟩ (fun _ h => nomatch h) ?_
        refine t_M_lastOf hC hs hln.2 hln.1 ?_
        refine ow_next_i ?_
        refine aw_iret d_M_beside_47 rfl rfl ?_
        exact q_val hq (by unfold mbp mbB; rw [if_neg (by grind), if_pos (by grind)])
      · exact absurd (by decide) g27
  · refine aw_iconst (v := -1) d_M_beside_11 (by decide) ?_
    refine aw_iret d_M_beside_12 rfl rfl ?_
    exact q_val hq (by unfold mbp; rw [if_pos (by grind)])
end TMod2
