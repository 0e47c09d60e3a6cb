/-! the model: modify and store -/
theorem mRf_cd {M : Nat → Nat → Int32} {x : Int32} (s : Nat) (ow r v : Int32) (n : Nat) : mRf (ow_u M 48 0 x) s ow r v n = mRf M s ow r v n :=
  mRf_c (ow_u_ne (by decide)) (ow_u_ne (by decide)) (ow_u_ne (by decide)) (ow_u_ne (by decide)) s ow r v n
def mdC (M : Nat → Nat → Int32) (p : Nat) (f v : Int32) : Nat → Int32
  | 0 => 0
  | i + 1 => if (0 ≤ M 57 (24 * i + p) ∧ 10 ≤ M 52 i ∧ M 52 i - M 52 i / 10 * 10 = f) ∧ mRf M i (M 57 (24 * i + p)) (nI p) v 24 = true then 3 else mdC M p f v i
theorem mdC_2 (M : Nat → Nat → Int32) (p : Nat) (f v : Int32) (i : Nat) : mdC M p f v i = 0 ∨ mdC M p f v i = 3 := by
  induction i with
  | zero => exact Or.inl rfl
  | succ i ih => simp only [mdC]; split
                 · exact Or.inr rfl
                 · exact ih
def SBm (M : Nat → Nat → Int32) (i : Nat) (f : Int32) : Prop := 10 ≤ M 52 i ∧ M 52 i - M 52 i / 10 * 10 = f
def mrS (M : Nat → Nat → Int32) (p : Nat) (f : Int32) : Nat → Nat → Nat → Int32
  | 0 => M
  | i + 1 => if 0 ≤ mrS M p f i 57 (24 * i + p) ∧ 10 ≤ M 52 i ∧ M 52 i - M 52 i / 10 * 10 = f then mjn (mlv (mrS M p f i) i p) i p (mrS M p f i 57 (24 * i + p)) else mrS M p f i
theorem mrS_ne {M : Nat → Nat → Int32} {p i c : Nat} {f : Int32} (h1 : c ≠ 57) (h2 : c ≠ 58) (h3 : c ≠ 59) : mrS M p f i c = M c := by
  induction i with
  | zero => rfl
  | succ i ih =>
    simp only [mrS]; split
    · rw [mjn_ne h1 h2 h3, mlv_ne h1 h2 h3]; exact ih
    · exact ih
def mrOK (M : Nat → Nat → Int32) (p : Nat) (f : Int32) (sc : Nat) : Prop := ∀ i, i < sc → 0 ≤ mrS M p f i 57 (24 * i + p) → 10 ≤ M 52 i → M 52 i - M 52 i / 10 * 10 = f → LvOK (mrS M p f i) i p ∧ JnOK (mlv (mrS M p f i) i p) i p (mrS M p f i 57 (24 * i + p))
theorem MI.rS {M : Nat → Nat → Int32} {tc sc p i : Nat} {f : Int32} (h : MI M tc sc) (hp : p < 24) (hk : mrOK M p f sc) (hi : i ≤ sc) : MI (mrS M p f i) tc sc := by
  induction i with
  | zero => exact h
  | succ i ih =>
    have ih := ih (by omega)
    have h5 := h.s5
    simp only [mrS]; split
    · rename_i g
      obtain ⟨k1, k2⟩ := hk i (by omega) g.1 g.2.1 g.2.2
      exact (ih.lv (by omega) hp k1).jn (by omega) hp (ih.own (by omega)) k2
    · exact ih
def D_modify (M : Nat → Nat → Int32) (sc : Nat) (f v : Int32) (G : (Nat → Nat → Int32) → Prop) : Prop :=
  (M 48 16 = -1 → G (ow_u M 48 0 1)) ∧ (∀ p, p < 24 → M 48 16 = nI p → (¬ HFm M (M 55 p).toNatClampNeg f → G (ow_u M 48 0 2)) ∧ ∀ n, n < 3 → f = nI n → HFm M (M 55 p).toNatClampNeg f →
    (M 56 (3 * p + n) = v → G (mcm (ow_u (ow_u M 48 0 0) 56 (3 * p + n) v) p 0 sc)) ∧
    (¬ M 56 (3 * p + n) = v → (mdC M p f v sc = 3 → G (ow_u M 48 0 3)) ∧ (mdC M p f v sc = 0 → mrOK (ow_u (ow_u M 48 0 0) 56 (3 * p + n) v) p f sc ∧ G (mcm (mrS (ow_u (ow_u M 48 0 0) 56 (3 * p + n) v) p f sc) p 0 sc))))
def wcl (M : Nat → Nat → Int32) (q : Nat) (x y z : Int32) : Nat → Nat → Int32 := ow_u (ow_u (ow_u M 56 (3 * q) x) 56 (3 * q + 1) y) 56 (3 * q + 2) z
def M2s (W : Nat → Nat → Int32) (q : Nat) (k t : Int32) : Nat → Nat → Int32 := ow_u (ow_u (ow_u (ow_u (ow_u W 48 0 0) 54 q k) 48 9 (k + 1)) 55 q t) 48 8 1
def mjS (M : Nat → Nat → Int32) (t : Int32) (q : Nat) : Nat → Nat → Nat → Int32
  | 0 => M
  | i + 1 => if M 51 i = t ∧ 2 < M 53 i then mjn (mjS M t q i) i q (mco (mjS M t q i) i) else mjS M t q i
theorem mjS_ne {M : Nat → Nat → Int32} {t : Int32} {q i c : Nat} (h1 : c ≠ 57) (h2 : c ≠ 58) (h3 : c ≠ 59) : mjS M t q i c = M c := by
  induction i with
  | zero => rfl
  | succ i ih =>
    simp only [mjS]; split
    · rw [mjn_ne h1 h2 h3]; exact ih
    · exact ih
def mjOK (M : Nat → Nat → Int32) (t : Int32) (q sc : Nat) : Prop := ∀ i, i < sc → M 51 i = t → 2 < M 53 i → JnOK (mjS M t q i) i q (mco (mjS M t q i) i)
theorem MI.jS {M : Nat → Nat → Int32} {tc sc q i : Nat} {t : Int32} (h : MI M tc sc) (hq : q < 24) (hk : mjOK M t q sc) (hi : i ≤ sc) : MI (mjS M t q i) tc sc := by
  induction i with
  | zero => exact h
  | succ i ih =>
    have ih := ih (by omega)
    have h5 := h.s5
    simp only [mjS]; split
    · rename_i g
      exact ih.jn (by omega) hq (mco_plc ih (by omega)) (hk i (by omega) g.1 g.2)
    · exact ih
theorem MI.wc {M : Nat → Nat → Int32} {tc sc q : Nat} {x y z : Int32} (h : MI M tc sc) : MI (wcl M q x y z) tc sc := ((h.cl _ _).cl _ _).cl _ _
theorem MI.m2 {M : Nat → Nat → Int32} {tc sc q : Nat} {k t : Int32} (h : MI M tc sc) (ht : ∃ j, j < 4 ∧ t = nI j) : MI (M2s M q k t) tc sc := by
  have e : ∀ c, c ≠ 48 → c ≠ 54 → c ≠ 55 → M2s M q k t c = M c := fun c h1 h2 h3 => by unfold M2s; rw [ow_u_ne h1, ow_u_ne h3, ow_u_ne h1, ow_u_ne h2, ow_u_ne h1]
  refine h.congr rfl rfl h.run (fun t ht => by rw [e 60 (by decide) (by decide) (by decide)]; exact h.ofT ht) (fun s hs => by rw [e 61 (by decide) (by decide) (by decide)]; exact h.ofS hs) (fun k hk => by rw [e 57 (by decide) (by decide) (by decide)]; exact h.own hk) ?_ (fun k hk => by rw [e 58 (by decide) (by decide) (by decide)]; exact h.lst hk) (fun s hs => by rw [e 59 (by decide) (by decide) (by decide)]; exact h.lgd hs) (e 52 (by decide) (by decide) (by decide))
  intro p hp
  unfold M2s; rw [ow_u_ne (by decide), ow_u_eq]
  by_cases e : p = q
  · subst e; simp [upd]; exact ht
  · simp [upd, e]; rw [ow_u_ne (by decide), ow_u_ne (by decide), ow_u_ne (by decide)]; exact h.ty hp
def D_store (M : Nat → Nat → Int32) (tc sc : Nat) (t x y z : Int32) (G : Int32 → (Nat → Nat → Int32) → Prop) : Prop :=
  (¬ HTm M t → G 0 (ow_u M 48 0 1)) ∧ (∀ j, j < tc → t = nI j → ∀ q, q < 24 → (∀ i, i < q → 0 < M 54 i) → q = 23 ∨ ¬ 0 < M 54 q → ∀ y' z', ((1 < M 49 j ∧ y' = y) ∨ (¬ 1 < M 49 j ∧ y' = 0)) → ((2 < M 49 j ∧ z' = z) ∨ (¬ 2 < M 49 j ∧ z' = 0)) →
    (obS (wcl (ow_u M 48 0 0) q x y' z') t q sc = 2 → G 0 (wcl (ow_u (wcl (ow_u M 48 0 0) q x y' z') 48 0 2) q (M 56 (3 * q)) (M 56 (3 * q + 1)) (M 56 (3 * q + 2)))) ∧
    (¬ obS (wcl (ow_u M 48 0 0) q x y' z') t q sc = 2 → 0 < M 54 q ∨ obS (wcl (ow_u M 48 0 0) q x y' z') t q sc = 3 → G 0 (wcl (ow_u (wcl (ow_u M 48 0 0) q x y' z') 48 0 3) q (M 56 (3 * q)) (M 56 (3 * q + 1)) (M 56 (3 * q + 2)))) ∧
    (¬ obS (wcl (ow_u M 48 0 0) q x y' z') t q sc = 2 → ¬ 0 < M 54 q → ¬ obS (wcl (ow_u M 48 0 0) q x y' z') t q sc = 3 → mjOK (M2s (wcl (ow_u M 48 0 0) q x y' z') q (M 48 9) t) t q sc ∧ G (M 48 9) (mcm (mjS (M2s (wcl (ow_u M 48 0 0) q x y' z') q (M 48 9) t) t q sc) q 0 sc)))
theorem ix31 (p : Nat) : (3 : Int32) * nI p + 1 = nI (3 * p + 1) := ix3 p 1
theorem ix32 (p : Nat) : (3 : Int32) * nI p + 2 = nI (3 * p + 2) := ix3 p 2
section TMod4
variable {l : Launch} {Q : ow_R → ow_M → Prop} {M : Nat → Nat → Int32} {K : Int64} {b : Nat} {tc sc : Nat}
theorem t_M_modify (hC : MI M tc sc) (hF : FCm M) {f v : Int32} (hq : D_modify M sc f v (fun M' => Q (.inl none) (mm M' K b))) : MT l Y_M_modify (4, 70) [.ref 48, .int f, .int v] (mm M K b) Q := by
  refine mt_of (k := 4) (by decide) cd_M_modify.1 (by simp [Value.category]) rfl ?_
  have lp2 : ∀ p, p < 24 → M 48 16 = nI p → ∀ n, n < 3 → f = nI n → mrOK (ow_u (ow_u M 48 0 0) 56 (3 * p + n) v) p f sc → Q (.inl none) (mm (mcm (mrS (ow_u (ow_u M 48 0 0) 56 (3 * p + n) v) p f sc) p 0 sc) K b) → ∀ i, i ≤ sc → ∀ w6 : Option Value, AW l Y_M_modify none (4, 70) Q 175 [some (.ref 48), some (.int f), some (.int v), some (.int (nI p)), some (.int 0), some (.int (nI i)), w6] [] (mm (mrS (ow_u (ow_u M 48 0 0) 56 (3 * p + n) v) p f i) K b) := by
    intro p hp ep n hn en hk hq
    refine loop_dn sc (fun i hi ih => ?_)
    intro w6
    have hCi := ((hC.cd 0).cl (3 * p + n) v).rS hp hk hi
    refine aw_iload d_M_modify_175 rfl ?_
    refine aw_aload_n d_M_modify_177 rfl ?_
    refine mm_geti f_M_90 d_M_modify_178 (by decide) rfl rfl ?_
    refine aw_icmp_ge (tgt := 240) d_M_modify_181 rfl (fun g181 => ?_) (fun g181 => ?_)
    · have hi2 := ge_n (n := sc) hCi.sc hi (by have := hC.s5; omega) g181
      subst hi2
      refine aw_aload_n d_M_modify_240 rfl ?_
      refine aw_iload_n d_M_modify_241 rfl ?_
      refine aw_iconst (v := 0) d_M_modify_242 (by decide) ?_
      refine aw_cV2 (d' := (0, 0)) d_M_modify_243 lk_M_135 cd_M_come (Nat.le_of_ble_eq_true rfl) rfl rfl ⟨Nat.le_of_ble_eq_true rfl, Nat.le_of_ble_eq_true rfl⟩ (fun _ h => nomatch h) ?_
      refine t_M_come hCi hp ?_
      refine ow_next_v ?_
      refine aw_vret d_M_modify_246 rfl ?_
      exact hq
    · have hi2 := lt_n (n := sc) hCi.sc hi (by have := hC.s5; omega) g181
      have hi5 : i < 5 := by have := hC.s5; omega
      refine aw_iload d_M_modify_184 rfl ?_
      refine aw_if_ne (tgt := 240) d_M_modify_186 rfl (fun g186 => ?_) (fun g186 => ?_)
      · exact absurd g186 (by decide)
      · refine aw_aload_n d_M_modify_189 rfl ?_
        refine mm_getr (t := 57) f_M_38 d_M_modify_190 (by decide) rfl rfl rfl ?_
        refine aw_bipush (v := 24) d_M_modify_193 (by decide) ?_
        refine aw_iload d_M_modify_195 rfl ?_
        refine aw_imul d_M_modify_197 ?_
        refine aw_iload_n d_M_modify_198 rfl ?_
        refine aw_iadd d_M_modify_199 ?_
        refine mm_iald (ix24 i p) d_M_modify_200 (by decide) rfl (by omega) (by decide) ?_
        have hown := hCi.own (k := 24 * i + p) (by omega)
        refine aw_istore d_M_modify_201 (by decide) ?_
        refine aw_iload d_M_modify_203 rfl ?_
        refine aw_if_lt (tgt := 234) d_M_modify_205 rfl (fun g205 => ?_) (fun g205 => ?_)
        · refine aw_iinc (v := nI (i + 1)) d_M_modify_234 rfl (nI_succ i).symm (by decide) ?_
          refine aw_goto (tgt := 175) d_M_modify_237 rfl ?_
          first
            | (rw [show mrS (ow_u (ow_u M 48 0 0) 56 (3 * p + n) v) p f (i + 1) = mrS (ow_u (ow_u M 48 0 0) 56 (3 * p + n) v) p f i from by simp only [mrS]; rw [if_neg (by grind [cdv])]] at ih; exact ih hi2 _)
            | (rw [show mrS (ow_u (ow_u M 48 0 0) 56 (3 * p + n) v) p f (i + 1) = mjn (mlv (mrS (ow_u (ow_u M 48 0 0) 56 (3 * p + n) v) p f i) i p) i p (mrS (ow_u (ow_u M 48 0 0) 56 (3 * p + n) v) p f i 57 (24 * i + p)) from by simp only [mrS]; rw [if_pos (by grind [cdv])]] at ih; exact ih hi2 _)
        · refine aw_aload_n d_M_modify_208 rfl ?_
          refine aw_iload d_M_modify_209 rfl ?_
          refine aw_iload_n d_M_modify_211 rfl ?_
          refine aw_cV2 (d' := (0, 0)) d_M_modify_212 lk_M_154 cd_M_isSortedBy (Nat.le_of_ble_eq_true rfl) rfl rfl ⟨Nat.le_of_ble_eq_true rfl, Nat.le_of_ble_eq_true rfl⟩ (fun _ h => nomatch h) ?_
          refine t_M_isSortedBy hi5 ?_
          rw [mrS_ne (c := 52) (by decide) (by decide) (by decide)]
          refine ow_next_i ?_
          refine aw_if_eq (tgt := 234) d_M_modify_215 rfl (fun g215 => ?_) (fun g215 => ?_)
          · refine aw_iinc (v := nI (i + 1)) d_M_modify_234 rfl (nI_succ i).symm (by decide) ?_
            refine aw_goto (tgt := 175) d_M_modify_237 rfl ?_
            first
              | (rw [show mrS (ow_u (ow_u M 48 0 0) 56 (3 * p + n) v) p f (i + 1) = mrS (ow_u (ow_u M 48 0 0) 56 (3 * p + n) v) p f i from by simp only [mrS]; rw [if_neg (by grind [cdv])]] at ih; exact ih hi2 _)
              | (rw [show mrS (ow_u (ow_u M 48 0 0) 56 (3 * p + n) v) p f (i + 1) = mjn (mlv (mrS (ow_u (ow_u M 48 0 0) 56 (3 * p + n) v) p f i) i p) i p (mrS (ow_u (ow_u M 48 0 0) 56 (3 * p + n) v) p f i 57 (24 * i + p)) from by simp only [mrS]; rw [if_pos (by grind [cdv])]] at ih; exact ih hi2 _)
          · refine aw_aload_n d_M_modify_218 rfl ?_
            refine aw_iload d_M_modify_219 rfl ?_
            refine aw_iload_n d_M_modify_221 rfl ?_
            have hob := hk i hi2 (by grind [cdv]) (by grind [cdv]) (by grind [cdv])
            have hC3 := hCi.lv hi5 hp hob.1
            refine aw_cV2 (d' := (1, 16)) d_M_modify_222 lk_M_157 cd_M_leave (Nat.le_of_ble_eq_true rfl) rfl rfl ⟨Nat.le_of_ble_eq_true rfl, Nat.le_of_ble_eq_true rfl⟩ (fun _ h => nomatch h) ?_
            refine t_M_leave hi5 hp hob.1 ?_
            refine ow_next_v ?_
            refine aw_aload_n d_M_modify_225 rfl ?_
            refine aw_iload d_M_modify_226 rfl ?_
            refine aw_iload d_M_modify_228 rfl ?_
            refine aw_iload_n d_M_modify_230 rfl ?_
            refine aw_cV3 (d' := (3, 53)) d_M_modify_231 lk_M_131 cd_M_join (Nat.le_of_ble_eq_true rfl) rfl rfl ⟨Nat.le_of_ble_eq_true rfl, Nat.le_of_ble_eq_true rfl⟩ (fun _ h => nomatch h) ?_
            refine t_M_join hC3 hi5 hp hob.2 ?_
            refine ow_next_v ?_
            refine aw_iinc (v := nI (i + 1)) d_M_modify_234 rfl (nI_succ i).symm (by decide) ?_
            refine aw_goto (tgt := 175) d_M_modify_237 rfl ?_
            first
              | (rw [show mrS (ow_u (ow_u M 48 0 0) 56 (3 * p + n) v) p f (i + 1) = mrS (ow_u (ow_u M 48 0 0) 56 (3 * p + n) v) p f i from by simp only [mrS]; rw [if_neg (by grind [cdv])]] at ih; exact ih hi2 _)
              | (rw [show mrS (ow_u (ow_u M 48 0 0) 56 (3 * p + n) v) p f (i + 1) = mjn (mlv (mrS (ow_u (ow_u M 48 0 0) 56 (3 * p + n) v) p f i) i p) i p (mrS (ow_u (ow_u M 48 0 0) 56 (3 * p + n) v) p f i 57 (24 * i + p)) from by simp only [mrS]; rw [if_pos (by grind [cdv])]] at ih; exact ih hi2 _)
  have lp1 : ∀ p, p < 24 → M 48 16 = nI p → ∀ n, n < 3 → f = nI n → (mdC M p f v sc = 3 → Q (.inl none) (mm (ow_u M 48 0 3) K b)) → (mdC M p f v sc = 0 → mrOK (ow_u (ow_u M 48 0 0) 56 (3 * p + n) v) p f sc ∧ Q (.inl none) (mm (mcm (mrS (ow_u (ow_u M 48 0 0) 56 (3 * p + n) v) p f sc) p 0 sc) K b)) → ∀ i, i ≤ sc → ∀ w6 : Option Value, AW l Y_M_modify none (4, 70) Q 79 [some (.ref 48), some (.int f), some (.int v), some (.int (nI p)), some (.int 0), some (.int (nI i)), w6] [] (mm (ow_u M 48 0 (mdC M p f v i)) K b) := by
    intro p hp ep n hn en h3 h0
    refine loop_dn sc (fun i hi ih => ?_)
    intro w6
    have hCi := hC.cd (mdC M p f v i)
    refine aw_iload d_M_modify_79 rfl ?_
    refine aw_aload_n d_M_modify_81 rfl ?_
    refine mm_geti f_M_90 d_M_modify_82 (by decide) rfl rfl ?_
    refine aw_icmp_ge (tgt := 153) d_M_modify_85 rfl (fun g85 => ?_) (fun g85 => ?_)
    · have hi2 := ge_n (n := sc) hCi.sc hi (by have := hC.s5; omega) g85
      subst hi2
      refine aw_aload_n d_M_modify_153 rfl ?_
      refine mm_geti f_M_84 d_M_modify_154 (by decide) rfl rfl ?_
      rw [ow_u_self]
      refine aw_if_le (tgt := 161) d_M_modify_157 rfl (fun g157 => ?_) (fun g157 => ?_)
      · have hz : mdC M p f v i = 0 := (mdC_2 M p f v i).resolve_right (by intro h; rw [h] at g157; exact absurd g157 (by decide))
        rw [hz]
        refine aw_aload_n d_M_modify_161 rfl ?_
        refine mm_getr (t := 56) f_M_35 d_M_modify_162 (by decide) rfl rfl rfl ?_
        refine aw_iconst (v := 3) d_M_modify_165 (by decide) ?_
        refine aw_iload_n d_M_modify_166 rfl ?_
        refine aw_imul d_M_modify_167 ?_
        refine aw_iload_n d_M_modify_168 rfl ?_
        refine aw_iadd d_M_modify_169 ?_
        refine aw_iload_n d_M_modify_170 rfl ?_
        refine mm_iast (by rw [en]; exact ix3 p n) d_M_modify_171 (by decide) rfl (by omega) (by decide) ?_
        refine aw_iconst (v := 0) d_M_modify_172 (by decide) ?_
        refine aw_istore d_M_modify_173 (by decide) ?_
        exact lp2 p hp ep n hn en (h0 hz).1 (h0 hz).2 0 (by omega) _
      · have hz : mdC M p f v i = 3 := (mdC_2 M p f v i).resolve_left (by intro h; rw [h] at g157; exact absurd (by decide) g157)
        rw [hz]
        refine aw_vret d_M_modify_160 rfl ?_
        exact h3 hz
    · have hi2 := lt_n (n := sc) hCi.sc hi (by have := hC.s5; omega) g85
      have hi5 : i < 5 := by have := hC.s5; omega
      refine aw_iload d_M_modify_88 rfl ?_
      refine aw_if_ne (tgt := 153) d_M_modify_90 rfl (fun g90 => ?_) (fun g90 => ?_)
      · exact absurd g90 (by decide)
      · refine aw_aload_n d_M_modify_93 rfl ?_
        refine mm_getr (t := 57) f_M_38 d_M_modify_94 (by decide) rfl rfl rfl ?_
        refine aw_bipush (v := 24) d_M_modify_97 (by decide) ?_
        refine aw_iload d_M_modify_99 rfl ?_
        refine aw_imul d_M_modify_101 ?_
        refine aw_iload_n d_M_modify_102 rfl ?_
        refine aw_iadd d_M_modify_103 ?_
        refine mm_iald (ix24 i p) d_M_modify_104 (by decide) rfl (by omega) (by decide) ?_
        rw [ow_u_ne (c := 48) (a := 57) (by decide)]
        refine aw_istore d_M_modify_105 (by decide) ?_
        refine aw_aload_n d_M_modify_107 rfl ?_
        refine aw_iload d_M_modify_108 rfl ?_
        refine aw_if_lt (tgt := 140) d_M_modify_110 rfl (fun g110 => ?_) (fun g110 => ?_)
        · refine aw_aload_n d_M_modify_140 rfl ?_
          refine mm_geti f_M_84 d_M_modify_141 (by decide) rfl rfl ?_
          rw [ow_u_self]
          refine mm_puti fw_M_84 d_M_modify_144 (by decide) rfl rfl rfl rfl ?_
          rw [ow_u_u]
          refine aw_iinc (v := nI (i + 1)) d_M_modify_147 rfl (nI_succ i).symm (by decide) ?_
          refine aw_goto (tgt := 79) d_M_modify_150 rfl ?_
          first
            | (rw [show mdC M p f v (i + 1) = mdC M p f v i from by simp only [mdC]; rw [if_neg (by grind [cdv])]] at ih; exact ih hi2 _)
            | (rw [show mdC M p f v (i + 1) = 3 from by simp only [mdC]; rw [if_pos (by grind [cdv])]] at ih; exact ih hi2 _)
        · refine aw_aload_n d_M_modify_113 rfl ?_
          refine aw_iload d_M_modify_114 rfl ?_
          refine aw_iload_n d_M_modify_116 rfl ?_
          refine aw_cV2 (d' := (0, 0)) d_M_modify_117 lk_M_154 cd_M_isSortedBy (Nat.le_of_ble_eq_true rfl) rfl rfl ⟨Nat.le_of_ble_eq_true rfl, Nat.le_of_ble_eq_true rfl⟩ (fun _ h => nomatch h) ?_
          refine t_M_isSortedBy hi5 ?_
          rw [ow_u_ne (c := 48) (a := 52) (by decide)]
          refine ow_next_i ?_
          refine aw_if_eq (tgt := 140) d_M_modify_120 rfl (fun g120 => ?_) (fun g120 => ?_)
          · refine aw_aload_n d_M_modify_140 rfl ?_
            refine mm_geti f_M_84 d_M_modify_141 (by decide) rfl rfl ?_
            rw [ow_u_self]
            refine mm_puti fw_M_84 d_M_modify_144 (by decide) rfl rfl rfl rfl ?_
            rw [ow_u_u]
            refine aw_iinc (v := nI (i + 1)) d_M_modify_147 rfl (nI_succ i).symm (by decide) ?_
            refine aw_goto (tgt := 79) d_M_modify_150 rfl ?_
            first
              | (rw [show mdC M p f v (i + 1) = mdC M p f v i from by simp only [mdC]; rw [if_neg (by grind [cdv])]] at ih; exact ih hi2 _)
              | (rw [show mdC M p f v (i + 1) = 3 from by simp only [mdC]; rw [if_pos (by grind [cdv])]] at ih; exact ih hi2 _)
          · refine aw_aload_n d_M_modify_123 rfl ?_
            refine aw_iload d_M_modify_124 rfl ?_
            refine aw_iload d_M_modify_126 rfl ?_
            refine aw_iload_n d_M_modify_128 rfl ?_
            refine aw_iload_n d_M_modify_129 rfl ?_
            refine aw_cV4 (d' := (0, 0)) d_M_modify_130 lk_M_124 cd_M_isRefused (Nat.le_of_ble_eq_true rfl) rfl rfl ⟨Nat.le_of_ble_eq_true rfl, Nat.le_of_ble_eq_true rfl⟩ (fun _ h => nomatch h) ?_
            refine t_M_isRefused hCi hi5 ?_
            rw [mRf_cd]
            refine ow_next_i ?_
            refine aw_if_eq (tgt := 140) d_M_modify_133 rfl (fun g133 => ?_) (fun g133 => ?_)
            · refine aw_aload_n d_M_modify_140 rfl ?_
              refine mm_geti f_M_84 d_M_modify_141 (by decide) rfl rfl ?_
              rw [ow_u_self]
              refine mm_puti fw_M_84 d_M_modify_144 (by decide) rfl rfl rfl rfl ?_
              rw [ow_u_u]
              refine aw_iinc (v := nI (i + 1)) d_M_modify_147 rfl (nI_succ i).symm (by decide) ?_
              refine aw_goto (tgt := 79) d_M_modify_150 rfl ?_
              first
                | (rw [show mdC M p f v (i + 1) = mdC M p f v i from by simp only [mdC]; rw [if_neg (by grind [cdv])]] at ih; exact ih hi2 _)
                | (rw [show mdC M p f v (i + 1) = 3 from by simp only [mdC]; rw [if_pos (by grind [cdv])]] at ih; exact ih hi2 _)
            · refine aw_iconst (v := 3) d_M_modify_136 (by decide) ?_
              refine aw_goto (tgt := 144) d_M_modify_137 rfl ?_
              refine mm_puti fw_M_84 d_M_modify_144 (by decide) rfl rfl rfl rfl ?_
              rw [ow_u_u]
              refine aw_iinc (v := nI (i + 1)) d_M_modify_147 rfl (nI_succ i).symm (by decide) ?_
              refine aw_goto (tgt := 79) d_M_modify_150 rfl ?_
              first
                | (rw [show mdC M p f v (i + 1) = mdC M p f v i from by simp only [mdC]; rw [if_neg (by grind [cdv])]] at ih; exact ih hi2 _)
                | (rw [show mdC M p f v (i + 1) = 3 from by simp only [mdC]; rw [if_pos (by grind [cdv])]] at ih; exact ih hi2 _)
  have sm : ∀ p, p < 24 → M 48 16 = nI p → ∀ n, n < 3 → f = nI n → Q (.inl none) (mm (mcm (ow_u (ow_u M 48 0 0) 56 (3 * p + n) v) p 0 sc) K b) → AW l Y_M_modify none (4, 70) Q 69 [some (.ref 48), some (.int f), some (.int v), some (.int (nI p)), none, none, none] [] (mm (ow_u M 48 0 0) K b) := by
    intro p hp ep n hn en hq
    refine aw_iconst (v := 1) d_M_modify_69 (by decide) ?_
    refine aw_goto (tgt := 74) d_M_modify_70 rfl ?_
    refine aw_istore d_M_modify_74 (by decide) ?_
    refine aw_iconst (v := 0) d_M_modify_76 (by decide) ?_
    refine aw_istore d_M_modify_77 (by decide) ?_
    refine aw_iload d_M_modify_79 rfl ?_
    refine aw_aload_n d_M_modify_81 rfl ?_
    refine mm_geti f_M_90 d_M_modify_82 (by decide) rfl rfl ?_
    refine aw_icmp_ge (tgt := 153) d_M_modify_85 rfl (fun g85 => ?_) (fun g85 => ?_)
    · refine aw_aload_n d_M_modify_153 rfl ?_
      refine mm_geti f_M_84 d_M_modify_154 (by decide) rfl rfl ?_
      rw [ow_u_self]
      refine aw_if_le (tgt := 161) d_M_modify_157 rfl (fun g157 => ?_) (fun g157 => ?_)
      · refine aw_aload_n d_M_modify_161 rfl ?_
        refine mm_getr (t := 56) f_M_35 d_M_modify_162 (by decide) rfl rfl rfl ?_
        refine aw_iconst (v := 3) d_M_modify_165 (by decide) ?_
        refine aw_iload_n d_M_modify_166 rfl ?_
        refine aw_imul d_M_modify_167 ?_
        refine aw_iload_n d_M_modify_168 rfl ?_
        refine aw_iadd d_M_modify_169 ?_
        refine aw_iload_n d_M_modify_170 rfl ?_
        refine mm_iast (by rw [en]; exact ix3 p n) d_M_modify_171 (by decide) rfl (by omega) (by decide) ?_
        refine aw_iconst (v := 0) d_M_modify_172 (by decide) ?_
        refine aw_istore d_M_modify_173 (by decide) ?_
        refine aw_iload d_M_modify_175 rfl ?_
        refine aw_aload_n d_M_modify_177 rfl ?_
        refine mm_geti f_M_90 d_M_modify_178 (by decide) rfl rfl ?_
        refine aw_icmp_ge (tgt := 240) d_M_modify_181 rfl (fun g181 => ?_) (fun g181 => ?_)
        · refine aw_aload_n d_M_modify_240 rfl ?_
          refine aw_iload_n d_M_modify_241 rfl ?_
          refine aw_iconst (v := 0) d_M_modify_242 (by decide) ?_
          refine aw_cV2 (d' := (0, 0)) d_M_modify_243 lk_M_135 cd_M_come (Nat.le_of_ble_eq_true rfl) rfl rfl ⟨Nat.le_of_ble_eq_true rfl, Nat.le_of_ble_eq_true rfl⟩ (fun _ h => nomatch h) ?_
          refine t_M_come ((hC.cd 0).cl (3 * p + n) v) hp ?_
          refine ow_next_v ?_
          refine aw_vret d_M_modify_246 rfl ?_
          exact hq
        · refine aw_iload d_M_modify_184 rfl ?_
          refine aw_if_ne (tgt := 240) d_M_modify_186 rfl (fun g186 => ?_) (fun g186 => ?_)
          · refine aw_aload_n d_M_modify_240 rfl ?_
            refine aw_iload_n d_M_modify_241 rfl ?_
            refine aw_iconst (v := 0) d_M_modify_242 (by decide) ?_
            refine aw_cV2 (d' := (0, 0)) d_M_modify_243 lk_M_135 cd_M_come (Nat.le_of_ble_eq_true rfl) rfl rfl ⟨Nat.le_of_ble_eq_true rfl, Nat.le_of_ble_eq_true rfl⟩ (fun _ h => nomatch h) ?_
            refine t_M_come ((hC.cd 0).cl (3 * p + n) v) hp ?_
            refine ow_next_v ?_
            refine aw_vret d_M_modify_246 rfl ?_
            exact hq
          · exact absurd g186 (by decide)
      · exact absurd g157 (by decide)
    · refine aw_iload d_M_modify_88 rfl ?_
      refine aw_if_ne (tgt := 153) d_M_modify_90 rfl (fun g90 => ?_) (fun g90 => ?_)
      · refine aw_aload_n d_M_modify_153 rfl ?_
        refine mm_geti f_M_84 d_M_modify_154 (by decide) rfl rfl ?_
        rw [ow_u_self]
        refine aw_if_le (tgt := 161) d_M_modify_157 rfl (fun g157 => ?_) (fun g157 => ?_)
        · refine aw_aload_n d_M_modify_161 rfl ?_
          refine mm_getr (t := 56) f_M_35 d_M_modify_162 (by decide) rfl rfl rfl ?_
          refine aw_iconst (v := 3) d_M_modify_165 (by decide) ?_
          refine aw_iload_n d_M_modify_166 rfl ?_
          refine aw_imul d_M_modify_167 ?_
          refine aw_iload_n d_M_modify_168 rfl ?_
          refine aw_iadd d_M_modify_169 ?_
          refine aw_iload_n d_M_modify_170 rfl ?_
          refine mm_iast (by rw [en]; exact ix3 p n) d_M_modify_171 (by decide) rfl (by omega) (by decide) ?_
          refine aw_iconst (v := 0) d_M_modify_172 (by decide) ?_
          refine aw_istore d_M_modify_173 (by decide) ?_
          refine aw_iload d_M_modify_175 rfl ?_
          refine aw_aload_n d_M_modify_177 rfl ?_
          refine mm_geti f_M_90 d_M_modify_178 (by decide) rfl rfl ?_
          refine aw_icmp_ge (tgt := 240) d_M_modify_181 rfl (fun g181 => ?_) (fun g181 => ?_)
          · refine aw_aload_n d_M_modify_240 rfl ?_
            refine aw_iload_n d_M_modify_241 rfl ?_
            refine aw_iconst (v := 0) d_M_modify_242 (by decide) ?_
            refine aw_cV2 (d' := (0, 0)) d_M_modify_243 lk_M_135 cd_M_come (Nat.le_of_ble_eq_true rfl) rfl rfl ⟨Nat.le_of_ble_eq_true rfl, Nat.le_of_ble_eq_true rfl⟩ (fun _ h => nomatch h) ?_
            refine t_M_come ((hC.cd 0).cl (3 * p + n) v) hp ?_
            refine ow_next_v ?_
            refine aw_vret d_M_modify_246 rfl ?_
            exact hq
          · refine aw_iload d_M_modify_184 rfl ?_
            refine aw_if_ne (tgt := 240) d_M_modify_186 rfl (fun g186 => ?_) (fun g186 => ?_)
            · refine aw_aload_n d_M_modify_240 rfl ?_
              refine aw_iload_n d_M_modify_241 rfl ?_
              refine aw_iconst (v := 0) d_M_modify_242 (by decide) ?_
              refine aw_cV2 (d' := (0, 0)) d_M_modify_243 lk_M_135 cd_M_come (Nat.le_of_ble_eq_true rfl) rfl rfl ⟨Nat.le_of_ble_eq_true rfl, Nat.le_of_ble_eq_true rfl⟩ (fun _ h => nomatch h) ?_
              refine t_M_come ((hC.cd 0).cl (3 * p + n) v) hp ?_
              refine ow_next_v ?_
              refine aw_vret d_M_modify_246 rfl ?_
              exact hq
            · exact absurd g186 (by decide)
        · exact absurd g157 (by decide)
      · exact absurd g90 (by decide)
  refine aw_aload_n d_M_modify_0 rfl ?_
  refine aw_aload_n d_M_modify_1 rfl ?_
  refine mm_geti f_M_47 d_M_modify_2 (by decide) rfl rfl ?_
  refine aw_if_ge (tgt := 12) d_M_modify_5 rfl (fun g5 => ?_) (fun g5 => ?_)
  · obtain ⟨p, hp, ep⟩ := plc_ge (x := M 48 16) hC.run (by grind [cdv])
    obtain ⟨tt, htt, et⟩ := hC.ty hp
    have ec : (M 55 p).toNatClampNeg = tt := by rw [et, nI_clamp (by omega)]
    refine aw_iload_n d_M_modify_12 rfl ?_
    refine aw_if_lt (tgt := 34) d_M_modify_13 rfl (fun g13 => ?_) (fun g13 => ?_)
    · refine aw_iconst (v := 2) d_M_modify_34 (by decide) ?_
      refine aw_goto (tgt := 39) d_M_modify_35 rfl ?_
      refine mm_puti fw_M_84 d_M_modify_39 (by decide) rfl rfl rfl rfl ?_
      refine aw_aload_n d_M_modify_42 rfl ?_
      refine mm_geti f_M_84 d_M_modify_43 (by decide) rfl rfl ?_
      rw [ow_u_self]
      refine aw_if_le (tgt := 50) d_M_modify_46 rfl (fun g46 => ?_) (fun g46 => ?_)
      · exact absurd g46 (by decide)
      · refine aw_vret d_M_modify_49 rfl ?_
        first
          | exact hq.1 hr1
          | exact (hq.2 p hp ep).1 (by rw [ec]; unfold HFm; grind [cdv])
    · refine aw_iload_n d_M_modify_16 rfl ?_
      refine aw_aload_n d_M_modify_17 rfl ?_
      refine mm_getr (t := 49) f_M_7 d_M_modify_18 (by decide) rfl rfl rfl ?_
      refine aw_aload_n d_M_modify_21 rfl ?_
      refine mm_getr (t := 55) f_M_32 d_M_modify_22 (by decide) rfl rfl rfl ?_
      refine aw_aload_n d_M_modify_25 rfl ?_
      refine mm_geti f_M_47 d_M_modify_26 (by decide) rfl rfl ?_
      refine mm_iald ep d_M_modify_29 (by decide) rfl (by omega) (by decide) ?_
      refine mm_iald et d_M_modify_30 (by decide) rfl (by omega) (by decide) ?_
      refine aw_icmp_lt (tgt := 38) d_M_modify_31 rfl (fun g31 => ?_) (fun g31 => ?_)
      · have hf : HFm M tt f := by unfold HFm; grind [cdv]
        obtain ⟨n, hn, en⟩ := hf.ix hF htt
        refine aw_iconst (v := 0) d_M_modify_38 (by decide) ?_
        refine mm_puti fw_M_84 d_M_modify_39 (by decide) rfl rfl rfl rfl ?_
        refine aw_aload_n d_M_modify_42 rfl ?_
        refine mm_geti f_M_84 d_M_modify_43 (by decide) rfl rfl ?_
        rw [ow_u_self]
        refine aw_if_le (tgt := 50) d_M_modify_46 rfl (fun g46 => ?_) (fun g46 => ?_)
        · refine aw_aload_n d_M_modify_50 rfl ?_
          refine mm_geti f_M_47 d_M_modify_51 (by decide) rfl rfl ?_
          rw [show ow_u M 48 0 0 48 16 = nI p from ep]
          refine aw_istore_n d_M_modify_54 (by decide) ?_
          refine aw_aload_n d_M_modify_55 rfl ?_
          refine mm_getr (t := 56) f_M_35 d_M_modify_56 (by decide) rfl rfl rfl ?_
          refine aw_iconst (v := 3) d_M_modify_59 (by decide) ?_
          refine aw_iload_n d_M_modify_60 rfl ?_
          refine aw_imul d_M_modify_61 ?_
          refine aw_iload_n d_M_modify_62 rfl ?_
          refine aw_iadd d_M_modify_63 ?_
          refine mm_iald (by rw [en]; exact ix3 p n) d_M_modify_64 (by decide) rfl (by omega) (by decide) ?_
          refine aw_iload_n d_M_modify_65 rfl ?_
          refine aw_icmp_ne (tgt := 73) d_M_modify_66 rfl (fun g66 => ?_) (fun g66 => ?_)
          · refine aw_iconst (v := 0) d_M_modify_73 (by decide) ?_
            refine aw_istore d_M_modify_74 (by decide) ?_
            refine aw_iconst (v := 0) d_M_modify_76 (by decide) ?_
            refine aw_istore d_M_modify_77 (by decide) ?_
            exact lp1 p hp ep n hn en (((hq.2 p hp ep).2 n hn en (by rw [ec]; exact hf)).2 (by grind [cdv])).1 (((hq.2 p hp ep).2 n hn en (by rw [ec]; exact hf)).2 (by grind [cdv])).2 0 (by omega) _
          · exact sm p hp ep n hn en (((hq.2 p hp ep).2 n hn en (by rw [ec]; exact hf)).1 (by grind [cdv]))
        · exact absurd g46 (by decide)
      · refine aw_iconst (v := 2) d_M_modify_34 (by decide) ?_
        refine aw_goto (tgt := 39) d_M_modify_35 rfl ?_
        refine mm_puti fw_M_84 d_M_modify_39 (by decide) rfl rfl rfl rfl ?_
        refine aw_aload_n d_M_modify_42 rfl ?_
        refine mm_geti f_M_84 d_M_modify_43 (by decide) rfl rfl ?_
        rw [ow_u_self]
        refine aw_if_le (tgt := 50) d_M_modify_46 rfl (fun g46 => ?_) (fun g46 => ?_)
        · exact absurd g46 (by decide)
        · refine aw_vret d_M_modify_49 rfl ?_
          first
            | exact hq.1 hr1
            | exact (hq.2 p hp ep).1 (by rw [ec]; unfold HFm; grind [cdv])
  · have hr1 : M 48 16 = -1 := by
      rcases hC.run with h | ⟨p, hp, h⟩
      · exact h
      · rw [h] at g5; have := nI_ge0 hp; grind [cdv]
    refine aw_iconst (v := 1) d_M_modify_8 (by decide) ?_
    refine aw_goto (tgt := 39) d_M_modify_9 rfl ?_
    refine mm_puti fw_M_84 d_M_modify_39 (by decide) rfl rfl rfl rfl ?_
    refine aw_aload_n d_M_modify_42 rfl ?_
    refine mm_geti f_M_84 d_M_modify_43 (by decide) rfl rfl ?_
    rw [ow_u_self]
    refine aw_if_le (tgt := 50) d_M_modify_46 rfl (fun g46 => ?_) (fun g46 => ?_)
    · exact absurd g46 (by decide)
    · refine aw_vret d_M_modify_49 rfl ?_
      first
        | exact hq.1 hr1
        | exact (hq.2 p hp ep).1 (by rw [ec]; unfold HFm; grind [cdv])
theorem t_M_store (hC : MI M tc sc) {t x y z : Int32} (hq : D_store M tc sc t x y z (fun r M' => Q (.inl (some r)) (mm M' K b))) : MT l Y_M_store (4, 70) [.ref 48, .int t, .int x, .int y, .int z] (mm M K b) Q := by
  refine mt_of (k := 7) (by decide) cd_M_store.1 (by simp [Value.category]) rfl ?_
  have lpJ : ∀ j, j < tc → t = nI j → ∀ q, q < 24 → ∀ y' z', mjOK (M2s (wcl (ow_u M 48 0 0) q x y' z') q (M 48 9) t) t q sc → Q (.inl (some (M 48 9))) (mm (mcm (mjS (M2s (wcl (ow_u M 48 0 0) q x y' z') q (M 48 9) t) t q sc) q 0 sc) K b) → ∀ i, i ≤ sc → ∀ w6 w7 w8 w9 w10 : Option Value, AW l Y_M_store none (4, 70) Q 291 [some (.ref 48), some (.int t), some (.int x), some (.int y), some (.int z), some (.int (nI q)), w6, w7, w8, w9, w10, some (.int (nI i))] [] (mm (mjS (M2s (wcl (ow_u M 48 0 0) q x y' z') q (M 48 9) t) t q i) K b) := by
    intro j hj ej q hq24 y' z' hk hq
    have hj4 : j < 4 := by have := hC.t4; omega
    have hC2 := ((hC.cd 0).wc (q := q) (x := x) (y := y') (z := z')).m2 (q := q) (k := M 48 9) (t := t) ⟨j, hj4, ej⟩
    refine loop_dn sc (fun i hi ih => ?_)
    intro w6 w7 w8 w9 w10
    have hCi := hC2.jS hq24 hk hi
    refine aw_iload d_M_store_291 rfl ?_
    refine aw_aload_n d_M_store_293 rfl ?_
    refine mm_geti f_M_90 d_M_store_294 (by decide) rfl rfl ?_
    refine aw_icmp_ge (tgt := 342) d_M_store_297 rfl (fun g297 => ?_) (fun g297 => ?_)
    · have hi2 := ge_n (n := sc) hCi.sc hi (by have := hC.s5; omega) g297
      subst hi2
      refine aw_aload_n d_M_store_342 rfl ?_
      refine aw_iload d_M_store_343 rfl ?_
      refine aw_iconst (v := 0) d_M_store_345 (by decide) ?_
      refine aw_cV2 (d' := (0, 0)) d_M_store_346 lk_M_135 cd_M_come (Nat.le_of_ble_eq_true rfl) rfl rfl ⟨Nat.le_of_ble_eq_true rfl, Nat.le_of_ble_eq_true rfl⟩ (fun _ h => nomatch h) ?_
      refine t_M_come hCi hq24 ?_
      refine ow_next_v ?_
      refine aw_aload_n d_M_store_349 rfl ?_
      refine mm_getr (t := 54) f_M_29 d_M_store_350 (by decide) rfl rfl rfl ?_
      refine aw_iload d_M_store_353 rfl ?_
      refine mm_iald rfl d_M_store_355 (by decide) rfl (by omega) (by decide) ?_
      refine aw_iret d_M_store_356 rfl rfl ?_
      refine q_val hq ?_
      unfold mcm
      rw [mcS_ne (by decide), ow_u_ne (by decide), ow_u_ne (by decide), mjS_ne (by decide) (by decide) (by decide)]
      unfold M2s
      rw [ow_u_ne (by decide), ow_u_ne (by decide), ow_u_ne (by decide), ow_u_self]
    · have hi2 := lt_n (n := sc) hCi.sc hi (by have := hC.s5; omega) g297
      have hi5 : i < 5 := by have := hC.s5; omega
      refine aw_aload_n d_M_store_300 rfl ?_
      refine mm_getr (t := 51) f_M_16 d_M_store_301 (by decide) rfl rfl rfl ?_
      refine aw_iload d_M_store_304 rfl ?_
      refine mm_iald rfl d_M_store_306 (by decide) rfl (by omega) (by decide) ?_
      rw [mjS_ne (c := 51) (by decide) (by decide) (by decide)]
      refine aw_iload_n d_M_store_307 rfl ?_
      refine aw_icmp_ne (tgt := 336) d_M_store_308 rfl (fun g308 => ?_) (fun g308 => ?_)
      · refine aw_iinc (v := nI (i + 1)) d_M_store_336 rfl (nI_succ i).symm (by decide) ?_
        refine aw_goto (tgt := 291) d_M_store_339 rfl ?_
        first
          | (rw [show mjS (M2s (wcl (ow_u M 48 0 0) q x y' z') q (M 48 9) t) t q (i + 1) = mjS (M2s (wcl (ow_u M 48 0 0) q x y' z') q (M 48 9) t) t q i from by simp only [mjS]; rw [if_neg (by grind [cdv])]] at ih; exact ih hi2 _ _ _ _ _)
          | (rw [show mjS (M2s (wcl (ow_u M 48 0 0) q x y' z') q (M 48 9) t) t q (i + 1) = mjn (mjS (M2s (wcl (ow_u M 48 0 0) q x y' z') q (M 48 9) t) t q i) i q (mco (mjS (M2s (wcl (ow_u M 48 0 0) q x y' z') q (M 48 9) t) t q i) i) from by simp only [mjS]; rw [if_pos (by grind [cdv])]] at ih; exact ih hi2 _ _ _ _ _)
      · refine aw_aload_n d_M_store_311 rfl ?_
        refine mm_getr (t := 53) f_M_22 d_M_store_312 (by decide) rfl rfl rfl ?_
        refine aw_iload d_M_store_315 rfl ?_
        refine mm_iald rfl d_M_store_317 (by decide) rfl (by omega) (by decide) ?_
        rw [mjS_ne (c := 53) (by decide) (by decide) (by decide)]
        refine aw_iconst (v := 2) d_M_store_318 (by decide) ?_
        refine aw_icmp_le (tgt := 336) d_M_store_319 rfl (fun g319 => ?_) (fun g319 => ?_)
        · refine aw_iinc (v := nI (i + 1)) d_M_store_336 rfl (nI_succ i).symm (by decide) ?_
          refine aw_goto (tgt := 291) d_M_store_339 rfl ?_
          first
            | (rw [show mjS (M2s (wcl (ow_u M 48 0 0) q x y' z') q (M 48 9) t) t q (i + 1) = mjS (M2s (wcl (ow_u M 48 0 0) q x y' z') q (M 48 9) t) t q i from by simp only [mjS]; rw [if_neg (by grind [cdv])]] at ih; exact ih hi2 _ _ _ _ _)
            | (rw [show mjS (M2s (wcl (ow_u M 48 0 0) q x y' z') q (M 48 9) t) t q (i + 1) = mjn (mjS (M2s (wcl (ow_u M 48 0 0) q x y' z') q (M 48 9) t) t q i) i q (mco (mjS (M2s (wcl (ow_u M 48 0 0) q x y' z') q (M 48 9) t) t q i) i) from by simp only [mjS]; rw [if_pos (by grind [cdv])]] at ih; exact ih hi2 _ _ _ _ _)
        · refine aw_aload_n d_M_store_322 rfl ?_
          refine aw_iload d_M_store_323 rfl ?_
          refine aw_aload_n d_M_store_325 rfl ?_
          refine aw_iload d_M_store_326 rfl ?_
          have hob := hk i hi2 (by grind [cdv]) (by grind [cdv])
          refine aw_cV1 (d' := (0, 0)) d_M_store_328 lk_M_120 cd_M_currentOwner (Nat.le_of_ble_eq_true rfl) rfl rfl ⟨Nat.le_of_ble_eq_true rfl, Nat.le_of_ble_eq_true rfl⟩ (fun _ h => nomatch h) ?_
          refine t_M_currentOwner hCi hi5 ?_
          refine ow_next_i ?_
          refine aw_iload d_M_store_331 rfl ?_
          refine aw_cV3 (d' := (3, 53)) d_M_store_333 lk_M_131 cd_M_join (Nat.le_of_ble_eq_true rfl) rfl rfl ⟨Nat.le_of_ble_eq_true rfl, Nat.le_of_ble_eq_true rfl⟩ (fun _ h => nomatch h) ?_
          refine t_M_join hCi hi5 hq24 hob ?_
          refine ow_next_v ?_
          refine aw_iinc (v := nI (i + 1)) d_M_store_336 rfl (nI_succ i).symm (by decide) ?_
          refine aw_goto (tgt := 291) d_M_store_339 rfl ?_
          first
            | (rw [show mjS (M2s (wcl (ow_u M 48 0 0) q x y' z') q (M 48 9) t) t q (i + 1) = mjS (M2s (wcl (ow_u M 48 0 0) q x y' z') q (M 48 9) t) t q i from by simp only [mjS]; rw [if_neg (by grind [cdv])]] at ih; exact ih hi2 _ _ _ _ _)
            | (rw [show mjS (M2s (wcl (ow_u M 48 0 0) q x y' z') q (M 48 9) t) t q (i + 1) = mjn (mjS (M2s (wcl (ow_u M 48 0 0) q x y' z') q (M 48 9) t) t q i) i q (mco (mjS (M2s (wcl (ow_u M 48 0 0) q x y' z') q (M 48 9) t) t q i) i) from by simp only [mjS]; rw [if_pos (by grind [cdv])]] at ih; exact ih hi2 _ _ _ _ _)
  have tlA : ∀ j, j < tc → t = nI j → ∀ q, q < 24 → ∀ y' z' fl, ((fl = 1 ∧ 0 < M 54 q) ∨ (fl = 0 ∧ ¬ 0 < M 54 q)) → (obS (wcl (ow_u M 48 0 0) q x y' z') t q sc = 2 → Q (.inl (some 0)) (mm (wcl (ow_u (wcl (ow_u M 48 0 0) q x y' z') 48 0 2) q (M 56 (3 * q)) (M 56 (3 * q + 1)) (M 56 (3 * q + 2))) K b)) → (¬ obS (wcl (ow_u M 48 0 0) q x y' z') t q sc = 2 → 0 < M 54 q ∨ obS (wcl (ow_u M 48 0 0) q x y' z') t q sc = 3 → Q (.inl (some 0)) (mm (wcl (ow_u (wcl (ow_u M 48 0 0) q x y' z') 48 0 3) q (M 56 (3 * q)) (M 56 (3 * q + 1)) (M 56 (3 * q + 2))) K b)) → (¬ obS (wcl (ow_u M 48 0 0) q x y' z') t q sc = 2 → ¬ 0 < M 54 q → ¬ obS (wcl (ow_u M 48 0 0) q x y' z') t q sc = 3 → mjOK (M2s (wcl (ow_u M 48 0 0) q x y' z') q (M 48 9) t) t q sc ∧ Q (.inl (some (M 48 9))) (mm (mcm (mjS (M2s (wcl (ow_u M 48 0 0) q x y' z') q (M 48 9) t) t q sc) q 0 sc) K b)) → AW l Y_M_store none (4, 70) Q 169 [some (.ref 48), some (.int t), some (.int x), some (.int y), some (.int z), some (.int (nI q)), some (.int fl), some (.int (M 56 (3 * q))), some (.int (M 56 (3 * q + 1))), some (.int (M 56 (3 * q + 2))), none, none] [] (mm (wcl (ow_u M 48 0 0) q x y' z') K b) := by
    intro j hj ej q hq24 y' z' fl hfl h2 h3 h0
    have hCW := (hC.cd 0).wc (q := q) (x := x) (y := y') (z := z')
    refine aw_aload_n d_M_store_169 rfl ?_
    refine aw_iload_n d_M_store_170 rfl ?_
    refine aw_iload d_M_store_171 rfl ?_
    refine aw_cV2 (d' := (1, 18)) d_M_store_173 lk_M_128 cd_M_objection (Nat.le_of_ble_eq_true rfl) rfl rfl ⟨Nat.le_of_ble_eq_true rfl, Nat.le_of_ble_eq_true rfl⟩ (fun _ h => nomatch h) ?_
    refine t_M_objection hCW hq24 ?_
    refine ow_next_i ?_
    refine aw_istore d_M_store_176 (by decide) ?_
    refine aw_aload_n d_M_store_178 rfl ?_
    refine aw_iload d_M_store_179 rfl ?_
    refine aw_iconst (v := 2) d_M_store_181 (by decide) ?_
    refine aw_icmp_ne (tgt := 189) d_M_store_182 rfl (fun g182 => ?_) (fun g182 => ?_)
    · refine aw_iload d_M_store_189 rfl ?_
      refine aw_if_ne (tgt := 200) d_M_store_191 rfl (fun g191 => ?_) (fun g191 => ?_)
      · refine aw_iconst (v := 3) d_M_store_200 (by decide) ?_
        refine aw_goto (tgt := 205) d_M_store_201 rfl ?_
        refine mm_puti fw_M_84 d_M_store_205 (by decide) rfl rfl rfl rfl ?_
        refine aw_aload_n d_M_store_208 rfl ?_
        refine mm_geti f_M_84 d_M_store_209 (by decide) rfl rfl ?_
        rw [ow_u_self]
        refine aw_if_le (tgt := 254) d_M_store_212 rfl (fun g212 => ?_) (fun g212 => ?_)
        · exact absurd g212 (by decide)
        · refine aw_aload_n d_M_store_215 rfl ?_
          refine mm_getr (t := 56) f_M_35 d_M_store_216 (by decide) rfl rfl rfl ?_
          refine aw_iconst (v := 3) d_M_store_219 (by decide) ?_
          refine aw_iload d_M_store_220 rfl ?_
          refine aw_imul d_M_store_222 ?_
          refine aw_iload d_M_store_223 rfl ?_
          refine mm_iast (ix3z q) d_M_store_225 (by decide) rfl (by omega) (by decide) ?_
          refine aw_aload_n d_M_store_226 rfl ?_
          refine mm_getr (t := 56) f_M_35 d_M_store_227 (by decide) rfl rfl rfl ?_
          refine aw_iconst (v := 3) d_M_store_230 (by decide) ?_
          refine aw_iload d_M_store_231 rfl ?_
          refine aw_imul d_M_store_233 ?_
          refine aw_iconst (v := 1) d_M_store_234 (by decide) ?_
          refine aw_iadd d_M_store_235 ?_
          refine aw_iload d_M_store_236 rfl ?_
          refine mm_iast (ix31 q) d_M_store_238 (by decide) rfl (by omega) (by decide) ?_
          refine aw_aload_n d_M_store_239 rfl ?_
          refine mm_getr (t := 56) f_M_35 d_M_store_240 (by decide) rfl rfl rfl ?_
          refine aw_iconst (v := 3) d_M_store_243 (by decide) ?_
          refine aw_iload d_M_store_244 rfl ?_
          refine aw_imul d_M_store_246 ?_
          refine aw_iconst (v := 2) d_M_store_247 (by decide) ?_
          refine aw_iadd d_M_store_248 ?_
          refine aw_iload d_M_store_249 rfl ?_
          refine mm_iast (ix32 q) d_M_store_251 (by decide) rfl (by omega) (by decide) ?_
          refine aw_iconst (v := 0) d_M_store_252 (by decide) ?_
          refine aw_iret d_M_store_253 rfl rfl ?_
          first
            | exact h2 (by grind [cdv])
            | exact h3 (by grind [cdv]) (by grind [cdv])
      · refine aw_iload d_M_store_194 rfl ?_
        refine aw_iconst (v := 3) d_M_store_196 (by decide) ?_
        refine aw_icmp_ne (tgt := 204) d_M_store_197 rfl (fun g197 => ?_) (fun g197 => ?_)
        · refine aw_iconst (v := 0) d_M_store_204 (by decide) ?_
          refine mm_puti fw_M_84 d_M_store_205 (by decide) rfl rfl rfl rfl ?_
          refine aw_aload_n d_M_store_208 rfl ?_
          refine mm_geti f_M_84 d_M_store_209 (by decide) rfl rfl ?_
          rw [ow_u_self]
          refine aw_if_le (tgt := 254) d_M_store_212 rfl (fun g212 => ?_) (fun g212 => ?_)
          · refine aw_aload_n d_M_store_254 rfl ?_
            refine mm_getr (t := 54) f_M_29 d_M_store_255 (by decide) rfl rfl rfl ?_
            refine aw_iload d_M_store_258 rfl ?_
            refine aw_aload_n d_M_store_260 rfl ?_
            refine mm_geti f_M_25 d_M_store_261 (by decide) rfl rfl ?_
            rw [show ow_u (wcl (ow_u M 48 0 0) q x y' z') 48 0 0 48 9 = M 48 9 from rfl]
            refine mm_iast rfl d_M_store_264 (by decide) rfl (by omega) (by decide) ?_
            refine aw_aload_n d_M_store_265 rfl ?_
            refine aw_dup d_M_store_266 rfl ?_
            refine mm_geti f_M_25 d_M_store_267 (by decide) rfl rfl ?_
            refine aw_iconst (v := 1) d_M_store_270 (by decide) ?_
            rw [show ow_u (ow_u (wcl (ow_u M 48 0 0) q x y' z') 48 0 0) 54 q (M 48 9) 48 9 = M 48 9 from rfl]
            refine aw_iadd d_M_store_271 ?_
            refine mm_puti fw_M_25 d_M_store_272 (by decide) rfl rfl rfl rfl ?_
            refine aw_aload_n d_M_store_275 rfl ?_
            refine mm_getr (t := 55) f_M_32 d_M_store_276 (by decide) rfl rfl rfl ?_
            refine aw_iload d_M_store_279 rfl ?_
            refine aw_iload_n d_M_store_281 rfl ?_
            refine mm_iast rfl d_M_store_282 (by decide) rfl (by omega) (by decide) ?_
            refine aw_aload_n d_M_store_283 rfl ?_
            refine aw_iconst (v := 1) d_M_store_284 (by decide) ?_
            refine mm_puti fw_M_93 d_M_store_285 (by decide) rfl rfl rfl rfl ?_
            have hob := h0 (by grind [cdv]) (by grind [cdv]) (by grind [cdv])
            refine aw_iconst (v := 0) d_M_store_288 (by decide) ?_
            refine aw_istore d_M_store_289 (by decide) ?_
            exact lpJ j hj ej q hq24 y' z' hob.1 hob.2 0 (by omega) _ _ _ _ _
          · exact absurd g212 (by decide)
        · refine aw_iconst (v := 3) d_M_store_200 (by decide) ?_
          refine aw_goto (tgt := 205) d_M_store_201 rfl ?_
          refine mm_puti fw_M_84 d_M_store_205 (by decide) rfl rfl rfl rfl ?_
          refine aw_aload_n d_M_store_208 rfl ?_
          refine mm_geti f_M_84 d_M_store_209 (by decide) rfl rfl ?_
          rw [ow_u_self]
          refine aw_if_le (tgt := 254) d_M_store_212 rfl (fun g212 => ?_) (fun g212 => ?_)
          · exact absurd g212 (by decide)
          · refine aw_aload_n d_M_store_215 rfl ?_
            refine mm_getr (t := 56) f_M_35 d_M_store_216 (by decide) rfl rfl rfl ?_
            refine aw_iconst (v := 3) d_M_store_219 (by decide) ?_
            refine aw_iload d_M_store_220 rfl ?_
            refine aw_imul d_M_store_222 ?_
            refine aw_iload d_M_store_223 rfl ?_
            refine mm_iast (ix3z q) d_M_store_225 (by decide) rfl (by omega) (by decide) ?_
            refine aw_aload_n d_M_store_226 rfl ?_
            refine mm_getr (t := 56) f_M_35 d_M_store_227 (by decide) rfl rfl rfl ?_
            refine aw_iconst (v := 3) d_M_store_230 (by decide) ?_
            refine aw_iload d_M_store_231 rfl ?_
            refine aw_imul d_M_store_233 ?_
            refine aw_iconst (v := 1) d_M_store_234 (by decide) ?_
            refine aw_iadd d_M_store_235 ?_
            refine aw_iload d_M_store_236 rfl ?_
            refine mm_iast (ix31 q) d_M_store_238 (by decide) rfl (by omega) (by decide) ?_
            refine aw_aload_n d_M_store_239 rfl ?_
            refine mm_getr (t := 56) f_M_35 d_M_store_240 (by decide) rfl rfl rfl ?_
            refine aw_iconst (v := 3) d_M_store_243 (by decide) ?_
            refine aw_iload d_M_store_244 rfl ?_
            refine aw_imul d_M_store_246 ?_
            refine aw_iconst (v := 2) d_M_store_247 (by decide) ?_
            refine aw_iadd d_M_store_248 ?_
            refine aw_iload d_M_store_249 rfl ?_
            refine mm_iast (ix32 q) d_M_store_251 (by decide) rfl (by omega) (by decide) ?_
            refine aw_iconst (v := 0) d_M_store_252 (by decide) ?_
            refine aw_iret d_M_store_253 rfl rfl ?_
            first
              | exact h2 (by grind [cdv])
              | exact h3 (by grind [cdv]) (by grind [cdv])
    · refine aw_iconst (v := 2) d_M_store_185 (by decide) ?_
      refine aw_goto (tgt := 205) d_M_store_186 rfl ?_
      refine mm_puti fw_M_84 d_M_store_205 (by decide) rfl rfl rfl rfl ?_
      refine aw_aload_n d_M_store_208 rfl ?_
      refine mm_geti f_M_84 d_M_store_209 (by decide) rfl rfl ?_
      rw [ow_u_self]
      refine aw_if_le (tgt := 254) d_M_store_212 rfl (fun g212 => ?_) (fun g212 => ?_)
      · exact absurd g212 (by decide)
      · refine aw_aload_n d_M_store_215 rfl ?_
        refine mm_getr (t := 56) f_M_35 d_M_store_216 (by decide) rfl rfl rfl ?_
        refine aw_iconst (v := 3) d_M_store_219 (by decide) ?_
        refine aw_iload d_M_store_220 rfl ?_
        refine aw_imul d_M_store_222 ?_
        refine aw_iload d_M_store_223 rfl ?_
        refine mm_iast (ix3z q) d_M_store_225 (by decide) rfl (by omega) (by decide) ?_
        refine aw_aload_n d_M_store_226 rfl ?_
        refine mm_getr (t := 56) f_M_35 d_M_store_227 (by decide) rfl rfl rfl ?_
        refine aw_iconst (v := 3) d_M_store_230 (by decide) ?_
        refine aw_iload d_M_store_231 rfl ?_
        refine aw_imul d_M_store_233 ?_
        refine aw_iconst (v := 1) d_M_store_234 (by decide) ?_
        refine aw_iadd d_M_store_235 ?_
        refine aw_iload d_M_store_236 rfl ?_
        refine mm_iast (ix31 q) d_M_store_238 (by decide) rfl (by omega) (by decide) ?_
        refine aw_aload_n d_M_store_239 rfl ?_
        refine mm_getr (t := 56) f_M_35 d_M_store_240 (by decide) rfl rfl rfl ?_
        refine aw_iconst (v := 3) d_M_store_243 (by decide) ?_
        refine aw_iload d_M_store_244 rfl ?_
        refine aw_imul d_M_store_246 ?_
        refine aw_iconst (v := 2) d_M_store_247 (by decide) ?_
        refine aw_iadd d_M_store_248 ?_
        refine aw_iload d_M_store_249 rfl ?_
        refine mm_iast (ix32 q) d_M_store_251 (by decide) rfl (by omega) (by decide) ?_
        refine aw_iconst (v := 0) d_M_store_252 (by decide) ?_
        refine aw_iret d_M_store_253 rfl rfl ?_
        first
          | exact h2 (by grind [cdv])
          | exact h3 (by grind [cdv]) (by grind [cdv])
  have tl : ∀ j, j < tc → t = nI j → ∀ q, q < 24 → (∀ i, i < q → 0 < M 54 i) → q = 23 ∨ ¬ 0 < M 54 q → AW l Y_M_store none (4, 70) Q 52 [some (.ref 48), some (.int t), some (.int x), some (.int y), some (.int z), some (.int (nI q)), none, none, none, none, none, none] [] (mm (ow_u M 48 0 0) K b) := by
    intro j hj ej q hq24 hb hc
    have hj4 : j < 4 := by have := hC.t4; omega
    refine aw_aload_n d_M_store_52 rfl ?_
    refine mm_getr (t := 54) f_M_29 d_M_store_53 (by decide) rfl rfl rfl ?_
    refine aw_iload d_M_store_56 rfl ?_
    refine mm_iald rfl d_M_store_58 (by decide) rfl (by omega) (by decide) ?_
    refine aw_if_le (tgt := 66) d_M_store_59 rfl (fun g59 => ?_) (fun g59 => ?_)
    · refine aw_iconst (v := 0) d_M_store_66 (by decide) ?_
      refine aw_istore d_M_store_67 (by decide) ?_
      refine aw_aload_n d_M_store_69 rfl ?_
      refine mm_getr (t := 56) f_M_35 d_M_store_70 (by decide) rfl rfl rfl ?_
      refine aw_iconst (v := 3) d_M_store_73 (by decide) ?_
      refine aw_iload d_M_store_74 rfl ?_
      refine aw_imul d_M_store_76 ?_
      refine mm_iald (ix3z q) d_M_store_77 (by decide) rfl (by omega) (by decide) ?_
      refine aw_istore d_M_store_78 (by decide) ?_
      refine aw_aload_n d_M_store_80 rfl ?_
      refine mm_getr (t := 56) f_M_35 d_M_store_81 (by decide) rfl rfl rfl ?_
      refine aw_iconst (v := 3) d_M_store_84 (by decide) ?_
      refine aw_iload d_M_store_85 rfl ?_
      refine aw_imul d_M_store_87 ?_
      refine aw_iconst (v := 1) d_M_store_88 (by decide) ?_
      refine aw_iadd d_M_store_89 ?_
      refine mm_iald (ix31 q) d_M_store_90 (by decide) rfl (by omega) (by decide) ?_
      refine aw_istore d_M_store_91 (by decide) ?_
      refine aw_aload_n d_M_store_93 rfl ?_
      refine mm_getr (t := 56) f_M_35 d_M_store_94 (by decide) rfl rfl rfl ?_
      refine aw_iconst (v := 3) d_M_store_97 (by decide) ?_
      refine aw_iload d_M_store_98 rfl ?_
      refine aw_imul d_M_store_100 ?_
      refine aw_iconst (v := 2) d_M_store_101 (by decide) ?_
      refine aw_iadd d_M_store_102 ?_
      refine mm_iald (ix32 q) d_M_store_103 (by decide) rfl (by omega) (by decide) ?_
      refine aw_istore d_M_store_104 (by decide) ?_
      refine aw_aload_n d_M_store_106 rfl ?_
      refine mm_getr (t := 56) f_M_35 d_M_store_107 (by decide) rfl rfl rfl ?_
      refine aw_iconst (v := 3) d_M_store_110 (by decide) ?_
      refine aw_iload d_M_store_111 rfl ?_
      refine aw_imul d_M_store_113 ?_
      refine aw_iload_n d_M_store_114 rfl ?_
      refine mm_iast (ix3z q) d_M_store_115 (by decide) rfl (by omega) (by decide) ?_
      refine aw_aload_n d_M_store_116 rfl ?_
      refine mm_getr (t := 56) f_M_35 d_M_store_117 (by decide) rfl rfl rfl ?_
      refine aw_iconst (v := 3) d_M_store_120 (by decide) ?_
      refine aw_iload d_M_store_121 rfl ?_
      refine aw_imul d_M_store_123 ?_
      refine aw_iconst (v := 1) d_M_store_124 (by decide) ?_
      refine aw_iadd d_M_store_125 ?_
      refine aw_aload_n d_M_store_126 rfl ?_
      refine mm_getr (t := 49) f_M_7 d_M_store_127 (by decide) rfl rfl rfl ?_
      refine aw_iload_n d_M_store_130 rfl ?_
      refine mm_iald ej d_M_store_131 (by decide) rfl (by omega) (by decide) ?_
      rw [ow_u_ne (a := 49) (by decide), ow_u_ne (a := 49) (by decide)]
      refine aw_iconst (v := 1) d_M_store_132 (by decide) ?_
      refine aw_icmp_le (tgt := 140) d_M_store_133 rfl (fun g133 => ?_) (fun g133 => ?_)
      · have hy := Or.inr (a := 1 < M 49 j ∧ (0 : Int32) = y) (show ¬ 1 < M 49 j ∧ (0 : Int32) = 0 from ⟨by grind [cdv], rfl⟩)
        refine aw_iconst (v := 0) d_M_store_140 (by decide) ?_
        refine mm_iast (ix31 q) d_M_store_141 (by decide) rfl (by omega) (by decide) ?_
        refine aw_aload_n d_M_store_142 rfl ?_
        refine mm_getr (t := 56) f_M_35 d_M_store_143 (by decide) rfl rfl rfl ?_
        refine aw_iconst (v := 3) d_M_store_146 (by decide) ?_
        refine aw_iload d_M_store_147 rfl ?_
        refine aw_imul d_M_store_149 ?_
        refine aw_iconst (v := 2) d_M_store_150 (by decide) ?_
        refine aw_iadd d_M_store_151 ?_
        refine aw_aload_n d_M_store_152 rfl ?_
        refine mm_getr (t := 49) f_M_7 d_M_store_153 (by decide) rfl rfl rfl ?_
        refine aw_iload_n d_M_store_156 rfl ?_
        refine mm_iald ej d_M_store_157 (by decide) rfl (by omega) (by decide) ?_
        rw [ow_u_ne (a := 49) (by decide), ow_u_ne (a := 49) (by decide), ow_u_ne (a := 49) (by decide)]
        refine aw_iconst (v := 2) d_M_store_158 (by decide) ?_
        refine aw_icmp_le (tgt := 167) d_M_store_159 rfl (fun g159 => ?_) (fun g159 => ?_)
        · have hz := Or.inr (a := 2 < M 49 j ∧ (0 : Int32) = z) (show ¬ 2 < M 49 j ∧ (0 : Int32) = 0 from ⟨by grind [cdv], rfl⟩)
          refine aw_iconst (v := 0) d_M_store_167 (by decide) ?_
          refine mm_iast (ix32 q) d_M_store_168 (by decide) rfl (by omega) (by decide) ?_
          have hD := hq.2 j hj ej q hq24 hb hc _ _ hy hz
          exact tlA j hj ej q hq24 _ _ _ (by grind [cdv]) hD.1 hD.2.1 hD.2.2
        · have hz := Or.inl (b := ¬ 2 < M 49 j ∧ z = 0) (show 2 < M 49 j ∧ z = z from ⟨by grind [cdv], rfl⟩)
          refine aw_iload d_M_store_162 rfl ?_
          refine aw_goto (tgt := 168) d_M_store_164 rfl ?_
          refine mm_iast (ix32 q) d_M_store_168 (by decide) rfl (by omega) (by decide) ?_
          have hD := hq.2 j hj ej q hq24 hb hc _ _ hy hz
          exact tlA j hj ej q hq24 _ _ _ (by grind [cdv]) hD.1 hD.2.1 hD.2.2
      · have hy := Or.inl (b := ¬ 1 < M 49 j ∧ y = 0) (show 1 < M 49 j ∧ y = y from ⟨by grind [cdv], rfl⟩)
        refine aw_iload_n d_M_store_136 rfl ?_
        refine aw_goto (tgt := 141) d_M_store_137 rfl ?_
        refine mm_iast (ix31 q) d_M_store_141 (by decide) rfl (by omega) (by decide) ?_
        refine aw_aload_n d_M_store_142 rfl ?_
        refine mm_getr (t := 56) f_M_35 d_M_store_143 (by decide) rfl rfl rfl ?_
        refine aw_iconst (v := 3) d_M_store_146 (by decide) ?_
        refine aw_iload d_M_store_147 rfl ?_
        refine aw_imul d_M_store_149 ?_
        refine aw_iconst (v := 2) d_M_store_150 (by decide) ?_
        refine aw_iadd d_M_store_151 ?_
        refine aw_aload_n d_M_store_152 rfl ?_
        refine mm_getr (t := 49) f_M_7 d_M_store_153 (by decide) rfl rfl rfl ?_
        refine aw_iload_n d_M_store_156 rfl ?_
        refine mm_iald ej d_M_store_157 (by decide) rfl (by omega) (by decide) ?_
        rw [ow_u_ne (a := 49) (by decide), ow_u_ne (a := 49) (by decide), ow_u_ne (a := 49) (by decide)]
        refine aw_iconst (v := 2) d_M_store_158 (by decide) ?_
        refine aw_icmp_le (tgt := 167) d_M_store_159 rfl (fun g159 => ?_) (fun g159 => ?_)
        · have hz := Or.inr (a := 2 < M 49 j ∧ (0 : Int32) = z) (show ¬ 2 < M 49 j ∧ (0 : Int32) = 0 from ⟨by grind [cdv], rfl⟩)
          refine aw_iconst (v := 0) d_M_store_167 (by decide) ?_
          refine mm_iast (ix32 q) d_M_store_168 (by decide) rfl (by omega) (by decide) ?_
          have hD := hq.2 j hj ej q hq24 hb hc _ _ hy hz
          exact tlA j hj ej q hq24 _ _ _ (by grind [cdv]) hD.1 hD.2.1 hD.2.2
        · have hz := Or.inl (b := ¬ 2 < M 49 j ∧ z = 0) (show 2 < M 49 j ∧ z = z from ⟨by grind [cdv], rfl⟩)
          refine aw_iload d_M_store_162 rfl ?_
          refine aw_goto (tgt := 168) d_M_store_164 rfl ?_
          refine mm_iast (ix32 q) d_M_store_168 (by decide) rfl (by omega) (by decide) ?_
          have hD := hq.2 j hj ej q hq24 hb hc _ _ hy hz
          exact tlA j hj ej q hq24 _ _ _ (by grind [cdv]) hD.1 hD.2.1 hD.2.2
    · refine aw_iconst (v := 1) d_M_store_62 (by decide) ?_
      refine aw_goto (tgt := 67) d_M_store_63 rfl ?_
      refine aw_istore d_M_store_67 (by decide) ?_
      refine aw_aload_n d_M_store_69 rfl ?_
      refine mm_getr (t := 56) f_M_35 d_M_store_70 (by decide) rfl rfl rfl ?_
      refine aw_iconst (v := 3) d_M_store_73 (by decide) ?_
      refine aw_iload d_M_store_74 rfl ?_
      refine aw_imul d_M_store_76 ?_
      refine mm_iald (ix3z q) d_M_store_77 (by decide) rfl (by omega) (by decide) ?_
      refine aw_istore d_M_store_78 (by decide) ?_
      refine aw_aload_n d_M_store_80 rfl ?_
      refine mm_getr (t := 56) f_M_35 d_M_store_81 (by decide) rfl rfl rfl ?_
      refine aw_iconst (v := 3) d_M_store_84 (by decide) ?_
      refine aw_iload d_M_store_85 rfl ?_
      refine aw_imul d_M_store_87 ?_
      refine aw_iconst (v := 1) d_M_store_88 (by decide) ?_
      refine aw_iadd d_M_store_89 ?_
      refine mm_iald (ix31 q) d_M_store_90 (by decide) rfl (by omega) (by decide) ?_
      refine aw_istore d_M_store_91 (by decide) ?_
      refine aw_aload_n d_M_store_93 rfl ?_
      refine mm_getr (t := 56) f_M_35 d_M_store_94 (by decide) rfl rfl rfl ?_
      refine aw_iconst (v := 3) d_M_store_97 (by decide) ?_
      refine aw_iload d_M_store_98 rfl ?_
      refine aw_imul d_M_store_100 ?_
      refine aw_iconst (v := 2) d_M_store_101 (by decide) ?_
      refine aw_iadd d_M_store_102 ?_
      refine mm_iald (ix32 q) d_M_store_103 (by decide) rfl (by omega) (by decide) ?_
      refine aw_istore d_M_store_104 (by decide) ?_
      refine aw_aload_n d_M_store_106 rfl ?_
      refine mm_getr (t := 56) f_M_35 d_M_store_107 (by decide) rfl rfl rfl ?_
      refine aw_iconst (v := 3) d_M_store_110 (by decide) ?_
      refine aw_iload d_M_store_111 rfl ?_
      refine aw_imul d_M_store_113 ?_
      refine aw_iload_n d_M_store_114 rfl ?_
      refine mm_iast (ix3z q) d_M_store_115 (by decide) rfl (by omega) (by decide) ?_
      refine aw_aload_n d_M_store_116 rfl ?_
      refine mm_getr (t := 56) f_M_35 d_M_store_117 (by decide) rfl rfl rfl ?_
      refine aw_iconst (v := 3) d_M_store_120 (by decide) ?_
      refine aw_iload d_M_store_121 rfl ?_
      refine aw_imul d_M_store_123 ?_
      refine aw_iconst (v := 1) d_M_store_124 (by decide) ?_
      refine aw_iadd d_M_store_125 ?_
      refine aw_aload_n d_M_store_126 rfl ?_
      refine mm_getr (t := 49) f_M_7 d_M_store_127 (by decide) rfl rfl rfl ?_
      refine aw_iload_n d_M_store_130 rfl ?_
      refine mm_iald ej d_M_store_131 (by decide) rfl (by omega) (by decide) ?_
      rw [ow_u_ne (a := 49) (by decide), ow_u_ne (a := 49) (by decide)]
      refine aw_iconst (v := 1) d_M_store_132 (by decide) ?_
      refine aw_icmp_le (tgt := 140) d_M_store_133 rfl (fun g133 => ?_) (fun g133 => ?_)
      · have hy := Or.inr (a := 1 < M 49 j ∧ (0 : Int32) = y) (show ¬ 1 < M 49 j ∧ (0 : Int32) = 0 from ⟨by grind [cdv], rfl⟩)
        refine aw_iconst (v := 0) d_M_store_140 (by decide) ?_
        refine mm_iast (ix31 q) d_M_store_141 (by decide) rfl (by omega) (by decide) ?_
        refine aw_aload_n d_M_store_142 rfl ?_
        refine mm_getr (t := 56) f_M_35 d_M_store_143 (by decide) rfl rfl rfl ?_
        refine aw_iconst (v := 3) d_M_store_146 (by decide) ?_
        refine aw_iload d_M_store_147 rfl ?_
        refine aw_imul d_M_store_149 ?_
        refine aw_iconst (v := 2) d_M_store_150 (by decide) ?_
        refine aw_iadd d_M_store_151 ?_
        refine aw_aload_n d_M_store_152 rfl ?_
        refine mm_getr (t := 49) f_M_7 d_M_store_153 (by decide) rfl rfl rfl ?_
        refine aw_iload_n d_M_store_156 rfl ?_
        refine mm_iald ej d_M_store_157 (by decide) rfl (by omega) (by decide) ?_
        rw [ow_u_ne (a := 49) (by decide), ow_u_ne (a := 49) (by decide), ow_u_ne (a := 49) (by decide)]
        refine aw_iconst (v := 2) d_M_store_158 (by decide) ?_
        refine aw_icmp_le (tgt := 167) d_M_store_159 rfl (fun g159 => ?_) (fun g159 => ?_)
        · have hz := Or.inr (a := 2 < M 49 j ∧ (0 : Int32) = z) (show ¬ 2 < M 49 j ∧ (0 : Int32) = 0 from ⟨by grind [cdv], rfl⟩)
          refine aw_iconst (v := 0) d_M_store_167 (by decide) ?_
          refine mm_iast (ix32 q) d_M_store_168 (by decide) rfl (by omega) (by decide) ?_
          have hD := hq.2 j hj ej q hq24 hb hc _ _ hy hz
          exact tlA j hj ej q hq24 _ _ _ (by grind [cdv]) hD.1 hD.2.1 hD.2.2
        · have hz := Or.inl (b := ¬ 2 < M 49 j ∧ z = 0) (show 2 < M 49 j ∧ z = z from ⟨by grind [cdv], rfl⟩)
          refine aw_iload d_M_store_162 rfl ?_
          refine aw_goto (tgt := 168) d_M_store_164 rfl ?_
          refine mm_iast (ix32 q) d_M_store_168 (by decide) rfl (by omega) (by decide) ?_
          have hD := hq.2 j hj ej q hq24 hb hc _ _ hy hz
          exact tlA j hj ej q hq24 _ _ _ (by grind [cdv]) hD.1 hD.2.1 hD.2.2
      · have hy := Or.inl (b := ¬ 1 < M 49 j ∧ y = 0) (show 1 < M 49 j ∧ y = y from ⟨by grind [cdv], rfl⟩)
        refine aw_iload_n d_M_store_136 rfl ?_
        refine aw_goto (tgt := 141) d_M_store_137 rfl ?_
        refine mm_iast (ix31 q) d_M_store_141 (by decide) rfl (by omega) (by decide) ?_
        refine aw_aload_n d_M_store_142 rfl ?_
        refine mm_getr (t := 56) f_M_35 d_M_store_143 (by decide) rfl rfl rfl ?_
        refine aw_iconst (v := 3) d_M_store_146 (by decide) ?_
        refine aw_iload d_M_store_147 rfl ?_
        refine aw_imul d_M_store_149 ?_
        refine aw_iconst (v := 2) d_M_store_150 (by decide) ?_
        refine aw_iadd d_M_store_151 ?_
        refine aw_aload_n d_M_store_152 rfl ?_
        refine mm_getr (t := 49) f_M_7 d_M_store_153 (by decide) rfl rfl rfl ?_
        refine aw_iload_n d_M_store_156 rfl ?_
        refine mm_iald ej d_M_store_157 (by decide) rfl (by omega) (by decide) ?_
        rw [ow_u_ne (a := 49) (by decide), ow_u_ne (a := 49) (by decide), ow_u_ne (a := 49) (by decide)]
        refine aw_iconst (v := 2) d_M_store_158 (by decide) ?_
        refine aw_icmp_le (tgt := 167) d_M_store_159 rfl (fun g159 => ?_) (fun g159 => ?_)
        · have hz := Or.inr (a := 2 < M 49 j ∧ (0 : Int32) = z) (show ¬ 2 < M 49 j ∧ (0 : Int32) = 0 from ⟨by grind [cdv], rfl⟩)
          refine aw_iconst (v := 0) d_M_store_167 (by decide) ?_
          refine mm_iast (ix32 q) d_M_store_168 (by decide) rfl (by omega) (by decide) ?_
          have hD := hq.2 j hj ej q hq24 hb hc _ _ hy hz
          exact tlA j hj ej q hq24 _ _ _ (by grind [cdv]) hD.1 hD.2.1 hD.2.2
        · have hz := Or.inl (b := ¬ 2 < M 49 j ∧ z = 0) (show 2 < M 49 j ∧ z = z from ⟨by grind [cdv], rfl⟩)
          refine aw_iload d_M_store_162 rfl ?_
          refine aw_goto (tgt := 168) d_M_store_164 rfl ?_
          refine mm_iast (ix32 q) d_M_store_168 (by decide) rfl (by omega) (by decide) ?_
          have hD := hq.2 j hj ej q hq24 hb hc _ _ hy hz
          exact tlA j hj ej q hq24 _ _ _ (by grind [cdv]) hD.1 hD.2.1 hD.2.2
  have lp0 : ∀ j, j < tc → t = nI j → ∀ q, q ≤ 23 → (∀ i, i < q → 0 < M 54 i) → AW l Y_M_store none (4, 70) Q 29 [some (.ref 48), some (.int t), some (.int x), some (.int y), some (.int z), some (.int (nI q)), none, none, none, none, none, none] [] (mm (ow_u M 48 0 0) K b) := by
    intro j hj ej
    refine loop_dn 23 (fun q hi ih => ?_)
    intro hb
    refine aw_iload d_M_store_29 rfl ?_
    refine aw_bipush (v := 23) d_M_store_31 (by decide) ?_
    refine aw_icmp_ge (tgt := 52) d_M_store_33 rfl (fun g33 => ?_) (fun g33 => ?_)
    · have hi2 := ge_n (n := 23) rfl hi (by omega) g33
      exact tl j hj ej q (by omega) hb (by first | exact Or.inl hi2 | exact Or.inr (by grind [cdv]))
    · have hi2 := lt_n (n := 23) rfl hi (by omega) g33
      refine aw_aload_n d_M_store_36 rfl ?_
      refine mm_getr (t := 54) f_M_29 d_M_store_37 (by decide) rfl rfl rfl ?_
      refine aw_iload d_M_store_40 rfl ?_
      refine mm_iald rfl d_M_store_42 (by decide) rfl (by omega) (by decide) ?_
      refine aw_if_le (tgt := 52) d_M_store_43 rfl (fun g43 => ?_) (fun g43 => ?_)
      · exact tl j hj ej q (by omega) hb (by first | exact Or.inl hi2 | exact Or.inr (by grind [cdv]))
      · refine aw_iinc (v := nI (q + 1)) d_M_store_46 rfl (nI_succ q).symm (by decide) ?_
        refine aw_goto (tgt := 29) d_M_store_49 rfl ?_
        exact ih hi2 (fun k hk => by
          rcases Nat.lt_succ_iff_lt_or_eq.mp hk with h | h
          · exact hb k h
          · subst h; grind [cdv])
  refine aw_aload_n d_M_store_0 rfl ?_
  refine aw_aload_n d_M_store_1 rfl ?_
  refine aw_iload_n d_M_store_2 rfl ?_
  refine aw_cV1 (d' := (0, 0)) d_M_store_3 lk_M_97 cd_M_isType (Nat.le_of_ble_eq_true rfl) rfl rfl ⟨Nat.le_of_ble_eq_true rfl, Nat.le_of_ble_eq_true rfl⟩ (fun _ h => nomatch h) ?_
  refine t_M_isType ?_
  refine ow_next_i ?_
  refine aw_if_eq (tgt := 13) d_M_store_6 rfl (fun g6 => ?_) (fun g6 => ?_)
  · refine aw_iconst (v := 1) d_M_store_13 (by decide) ?_
    refine mm_puti fw_M_84 d_M_store_14 (by decide) rfl rfl rfl rfl ?_
    refine aw_aload_n d_M_store_17 rfl ?_
    refine mm_geti f_M_84 d_M_store_18 (by decide) rfl rfl ?_
    rw [ow_u_self]
    refine aw_if_le (tgt := 26) d_M_store_21 rfl (fun g21 => ?_) (fun g21 => ?_)
    · exact absurd g21 (by decide)
    · refine aw_iconst (v := 0) d_M_store_24 (by decide) ?_
      refine aw_iret d_M_store_25 rfl rfl ?_
      exact hq.1 (by unfold HTm; grind [cdv])
  · obtain ⟨j, hj, ej⟩ := nI_ix (x := t) (n := tc) (by grind [cdv]) (by rw [← hC.tc]; grind [cdv]) (by have := hC.t4; omega)
    refine aw_iconst (v := 0) d_M_store_9 (by decide) ?_
    refine aw_goto (tgt := 14) d_M_store_10 rfl ?_
    refine mm_puti fw_M_84 d_M_store_14 (by decide) rfl rfl rfl rfl ?_
    refine aw_aload_n d_M_store_17 rfl ?_
    refine mm_geti f_M_84 d_M_store_18 (by decide) rfl rfl ?_
    rw [ow_u_self]
    refine aw_if_le (tgt := 26) d_M_store_21 rfl (fun g21 => ?_) (fun g21 => ?_)
    · refine aw_iconst (v := 0) d_M_store_26 (by decide) ?_
      refine aw_istore d_M_store_27 (by decide) ?_
      exact lp0 j hj ej 0 (by omega) (fun k hk => by omega)
    · exact absurd g21 (by decide)
end TMod4
