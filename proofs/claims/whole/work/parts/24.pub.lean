/-! OwnerRings: its public methods; C_x: what x asks of what is behind it -/
def HT (M : Nat → Nat → Int32) (t : Int32) : Prop := 0 ≤ t ∧ t < M 1 0
def HS (M : Nat → Nat → Int32) (t : Int32) : Prop := 0 ≤ t ∧ t < M 1 1
def ISO (M : Nat → Nat → Int32) (x t : Int32) : Prop := (0 ≤ x ∧ x ≤ 3) ∨ (10 ≤ x ∧ x < 40 ∧ 0 ≤ t ∧ t < M 1 0 ∧ 0 ≤ x - x / 10 * 10 ∧ x - x / 10 * 10 < M 2 t.toNatClampNeg)
def kyA (M : Nat → Nat → Int32) (x : Int32) : Int32 := if x = -1 then 0 else M 8 x.toNatClampNeg
def FC (M : Nat → Nat → Int32) : Prop := ∀ t, t < 4 → M 2 t ≤ 3
def PO2 (M : Nat → Nat → Int32) (s : Nat) : Prop := ¬ co M s = -1 → ∃ k, k ≤ cn (fun p => M (15 + s) p == co M s) 24 ∧ M (21 + s) (M 47 s).toNatClampNeg = pv k
def wrf (M : Nat → Nat → Int32) (p : Nat) (a b c : Int32) : Nat → Nat → Int32 := ow_u (ow_u (ow_u M 11 p a) 12 p b) 13 p c
def adr (M : Nat → Nat → Int32) (p : Nat) (t : Int32) : Nat → Nat → Int32 := ow_u (ow_u (ow_u (ow_u M 8 p (M 7 1)) 9 p t) 7 1 (M 7 1 + 1)) 7 0 (M 7 0 + 1)
def joS (M : Nat → Nat → Int32) (t : Int32) (p : Nat) : Nat → Nat → Nat → Int32
  | 0 => M
  | i + 1 => if joS M t p i 4 i = t ∧ 3 ≤ joS M t p i 6 i then jonM (joS M t p i) i p (co (joS M t p i) i) else joS M t p i
def stM (M : Nat → Nat → Int32) (p : Nat) (t : Int32) (sc : Nat) : Nat → Nat → Int32 := comM (joS (ow_u (adr M p t) 0 4 1) t p sc) p 0 sc
def clS (M : Nat → Nat → Int32) : Nat → Nat → Int32 := (ow_u (ow_u (ow_u (ow_u (ow_u (ow_u (ow_u (ow_u (ow_u (ow_u M 45 0 (-1)) 46 0 (-1)) 46 1 (-1)) 46 2 (-1)) 46 3 (-1)) 47 0 (-1)) 47 1 (-1)) 47 2 (-1)) 47 3 (-1)) 47 4 (-1))
def KEY (M : Nat → Nat → Int32) (x : Int32) (k : Nat) : Prop := ¬ M 8 k = 0 ∧ M 8 k = x
def SBY (M : Nat → Nat → Int32) (k : Nat) (f : Int32) : Prop := 10 ≤ M 5 k ∧ M 5 k - M 5 k / 10 * 10 = f
def BWS (M : Nat → Nat → Int32) (k : Nat) (g : Int32) : Prop := M 6 k - M 6 k / 3 * 3 = 1 ∧ ¬ mob M k g 24 &&& (g ^^^ -1) = 0
def C_type (M : Nat → Nat → Int32) (tc : Nat) (x : Int32) (E : Nat → (Nat → Nat → Int32) → Prop) (F : Int32 → (Nat → Nat → Int32) → Prop) : Prop :=
  (¬ (1 ≤ x ∧ x ≤ 3) → E 0 M) ∧ (1 ≤ x → x ≤ 3 → 4 ≤ M 1 0 ∨ ¬ M 0 4 = 0 → E 1 M) ∧
  (1 ≤ x → x ≤ 3 → M 1 0 < 4 → M 0 4 = 0 → F (M 1 0 + 1 - 1) (ow_u (ow_u M 2 tc x) 1 0 (M 1 0 + 1)))
def C_set (M : Nat → Nat → Int32) (sc : Nat) (ow me od kd : Int32) (E : Nat → (Nat → Nat → Int32) → Prop) (F : Int32 → (Nat → Nat → Int32) → Prop) : Prop :=
  (¬ (HT M ow ∧ HT M me ∧ ¬ ow = me) → E 0 M) ∧ (HT M ow → HT M me → ¬ ow = me → ¬ (ISO M od me ∧ 0 ≤ kd ∧ kd < 6) → E 0 M) ∧
  (HT M ow → HT M me → ¬ ow = me → ISO M od me → 0 ≤ kd → kd < 6 → 5 ≤ M 1 1 ∨ ¬ M 0 4 = 0 → E 1 M) ∧
  (HT M ow → HT M me → ¬ ow = me → ISO M od me → 0 ≤ kd → kd < 6 → M 1 1 < 5 → M 0 4 = 0 → F (M 1 1 + 1 - 1) (ow_u (ow_u (ow_u (ow_u (ow_u M 3 sc ow) 4 sc me) 5 sc od) 6 sc kd) 1 1 (M 1 1 + 1)))
def C_store (M : Nat → Nat → Int32) (sc : Nat) (t x y z : Int32) (E : Nat → (Nat → Nat → Int32) → Prop) (F : Int32 → (Nat → Nat → Int32) → Prop) : Prop :=
  (¬ HT M t → E 0 M) ∧ (HT M t → (∃ k, k < sc ∧ JW M k t ∧ co M k = -1) → E 2 M) ∧
  (HT M t → (∀ k, k < sc → JW M k t → ¬ co M k = -1) → (∀ k, k < 24 → ¬ M 8 k = 0) → E 1 M) ∧
  (HT M t → (∀ k, k < sc → JW M k t → ¬ co M k = -1) → ∀ p, p < 24 → M 8 p = 0 → (∀ j, j < p → ¬ M 8 j = 0) →
    ((∃ k, k < sc ∧ JW (wrf M p x y z) k t ∧ NE (wrf M p x y z) k (nI p) (co (wrf M p x y z) k) (wrf M p x y z (11 + sfv (wrf M p x y z) k) p)) → E 1 (wrf M p x y z)) ∧
    ((∀ k, k < sc → JW (wrf M p x y z) k t → ¬ NE (wrf M p x y z) k (nI p) (co (wrf M p x y z) k) (wrf M p x y z (11 + sfv (wrf M p x y z) k) p)) → F (stM (wrf M p x y z) p t sc 8 p) (stM (wrf M p x y z) p t sc)))
def C_find (M : Nat → Nat → Int32) (sc : Nat) (x st : Int32) (E : Nat → (Nat → Nat → Int32) → Prop) (F : (Nat → Nat → Int32) → Prop) : Prop :=
  ((∀ k, k < 24 → ¬ KEY M x k) → E 2 M) ∧ (∀ k, k < 24 → KEY M x k → (∀ j, j < k → ¬ KEY M x j) → F (comM M k st sc))
def C_seek (M : Nat → Nat → Int32) (sc : Nat) (t f x : Int32) (E : Nat → (Nat → Nat → Int32) → Prop) (F : Int32 → (Nat → Nat → Int32) → Prop) : Prop :=
  (¬ HF M t f → E 0 M) ∧ (∀ n, n < 3 → f = nI n → HF M t f → (lwk M t n x 24 = -1 → E 2 M) ∧ ∀ p, p < 24 → lwk M t n x 24 = nI p → F (M 8 p) (comM M p 0 sc))
def C_move (M : Nat → Nat → Int32) (sc : Nat) (x h : Int32) (E : Nat → (Nat → Nat → Int32) → Prop) (F : Int32 → (Nat → Nat → Int32) → Prop) : Prop :=
  (¬ HS M x → E 0 M) ∧ (HS M x → ¬ (0 ≤ h ∧ h ≤ 4) → E 0 M) ∧ (∀ s, s < sc → x = nI s → 0 ≤ h → h ≤ 4 → (pmt M s h = -1 → E 2 M) ∧ ∀ p, p < 24 → pmt M s h = nI p → F (M 8 p) (comM M p 0 sc))
def scv (M : Nat → Nat → Int32) (s n : Nat) (x : Int32) : Int32 := mwv M s (co M s) n x (cn (fun p => M (15 + s) p == co M s) 24 - cpn M s) (cpn M s)
def C_scan (M : Nat → Nat → Int32) (sc : Nat) (y f x : Int32) (E : Nat → (Nat → Nat → Int32) → Prop) (F : Int32 → (Nat → Nat → Int32) → Prop) : Prop :=
  (¬ HS M y → E 0 M) ∧ (∀ s, s < sc → y = nI s → (¬ HF M (M 4 s) f → E 0 M) ∧ (∀ n, n < 3 → f = nI n → HF M (M 4 s) f → (co M s = -1 → E 2 M) ∧ (¬ co M s = -1 → (scv M s n x = -1 → E 2 M) ∧ ∀ p, p < 24 → scv M s n x = nI p → F (M 8 p) (comM M p 0 sc))))
def C_current (M : Nat → Nat → Int32) (tc sc : Nat) (w n : Int32) (E : Nat → (Nat → Nat → Int32) → Prop) (F : Int32 → (Nat → Nat → Int32) → Prop) : Prop :=
  (w = 0 → F (kyA M (M 45 0)) M) ∧ (w = 1 → ∀ t, t < tc → n = nI t → F (kyA M (M 46 t)) M) ∧ (w = 2 → ∀ s, s < sc → n = nI s → F (kyA M (M 47 s)) M) ∧ (¬ (w = 0 ∨ (w = 1 ∧ HT M n) ∨ (w = 2 ∧ HS M n)) → E 0 M)
def C_get (M : Nat → Nat → Int32) (f : Int32) (E : Nat → (Nat → Nat → Int32) → Prop) (F : Int32 → (Nat → Nat → Int32) → Prop) : Prop :=
  (M 45 0 = -1 → E 2 M) ∧ (∀ p, p < 24 → M 45 0 = nI p → (¬ HF M (M 9 p) f → E 0 M) ∧ ∀ n, n < 3 → f = nI n → HF M (M 9 p) f → F (M (11 + n) p) M)
def C_modify (M : Nat → Nat → Int32) (sc : Nat) (f x : Int32) (E : Nat → (Nat → Nat → Int32) → Prop) (F : (Nat → Nat → Int32) → Prop) : Prop :=
  (M 45 0 = -1 → E 2 M) ∧ (∀ p, p < 24 → M 45 0 = nI p → (¬ HF M (M 9 p) f → E 0 M) ∧ ∀ n, n < 3 → f = nI n → HF M (M 9 p) f →
    (M (11 + n) p = x → F (comM M p 0 sc)) ∧
    (¬ M (11 + n) p = x → (∃ k, k < sc ∧ SBY M k f ∧ ¬ M (15 + k) p = -1 ∧ NE M k (nI p) (M (15 + k) p) x) → E 1 M) ∧
    (¬ M (11 + n) p = x → (∀ k, k < sc → SBY M k f → ¬ M (15 + k) p = -1 → ¬ NE M k (nI p) (M (15 + k) p) x) → F (comM (srtS (ow_u M (11 + n) p x) p f sc) p 0 sc)))
def C_connect (M : Nat → Nat → Int32) (sc : Nat) (x : Int32) (E : Nat → (Nat → Nat → Int32) → Prop) (F : (Nat → Nat → Int32) → Prop) : Prop :=
  (¬ HS M x → E 0 M) ∧ (∀ s, s < sc → x = nI s → (M 45 0 = -1 → E 2 M) ∧ ∀ p, p < 24 → M 45 0 = nI p → (co M s = -1 → E 2 M) ∧
    (¬ co M s = -1 → ¬ (M 9 p = M 4 s ∧ M (15 + s) p = -1) → E 1 M) ∧
    (¬ co M s = -1 → M 9 p = M 4 s → M (15 + s) p = -1 → NE M s (nI p) (co M s) (M (11 + sfv M s) p) → E 1 M) ∧
    (¬ co M s = -1 → M 9 p = M 4 s → M (15 + s) p = -1 → ¬ NE M s (nI p) (co M s) (M (11 + sfv M s) p) → F (comM (jonM M s p (co M s)) p 0 sc)))
def C_disconnect (M : Nat → Nat → Int32) (sc : Nat) (x : Int32) (E : Nat → (Nat → Nat → Int32) → Prop) (F : (Nat → Nat → Int32) → Prop) : Prop :=
  (¬ HS M x → E 0 M) ∧ (∀ s, s < sc → x = nI s → (M 45 0 = -1 → E 2 M) ∧ ∀ p, p < 24 → M 45 0 = nI p →
    (¬ (¬ M (15 + s) p = -1 ∧ M 6 s - M 6 s / 3 * 3 = 2) → E 1 M) ∧
    (¬ M (15 + s) p = -1 → M 6 s - M 6 s / 3 * 3 = 2 → F (takM (sbk M s ((1 : Int32) <<< (nI p &&& 31))) s p)))
def C_reconnect (M : Nat → Nat → Int32) (sc : Nat) (x : Int32) (E : Nat → (Nat → Nat → Int32) → Prop) (F : (Nat → Nat → Int32) → Prop) : Prop :=
  (¬ HS M x → E 0 M) ∧ (∀ s, s < sc → x = nI s → (M 45 0 = -1 → E 2 M) ∧ ∀ p, p < 24 → M 45 0 = nI p → (co M s = -1 → E 2 M) ∧
    (¬ co M s = -1 → ¬ (¬ M (15 + s) p = -1 ∧ ¬ M 6 s - M 6 s / 3 * 3 = 0) → E 1 M) ∧
    (¬ co M s = -1 → ¬ M (15 + s) p = -1 → ¬ M 6 s - M 6 s / 3 * 3 = 0 → NE M s (nI p) (co M s) (M (11 + sfv M s) p) → E 1 M) ∧
    (¬ co M s = -1 → ¬ M (15 + s) p = -1 → ¬ M 6 s - M 6 s / 3 * 3 = 0 → ¬ NE M s (nI p) (co M s) (M (11 + sfv M s) p) → F (comM (jonM (takM M s p) s p (co M s)) p 0 sc)))
def gng (M : Nat → Nat → Int32) (sc p : Nat) (m : Int32) : Int32 := atg M m sc 24 ((1 : Int32) <<< (nI p &&& 31))
def C_erase (M : Nat → Nat → Int32) (tc sc : Nat) (m : Int32) (E : Nat → (Nat → Nat → Int32) → Prop) (F : Int32 → (Nat → Nat → Int32) → Prop) : Prop :=
  (¬ (0 ≤ m ∧ m ≤ 3) → E 0 M) ∧ (0 ≤ m → m ≤ 3 → (M 45 0 = -1 → E 2 M) ∧ ∀ p, p < 24 → M 45 0 = nI p →
    (m = 0 → (∃ k, k < sc ∧ ¬ szr M k (nI p) ≤ 0) → E 1 M) ∧ (m = 1 → (∃ k, k < sc ∧ BWS M k (gng M sc p m)) → E 1 M) ∧
    ((m = 0 → ∀ k, k < sc → szr M k (nI p) ≤ 0) → (m = 1 → ∀ k, k < sc → ¬ BWS M k (gng M sc p m)) → F (bcv (gng M sc p m)) (rmA (stW M (gng M sc p m) tc sc) (gng M sc p m) sc)))
def C_members (M : Nat → Nat → Int32) (sc : Nat) (x : Int32) (E : Nat → (Nat → Nat → Int32) → Prop) (F : Int32 → (Nat → Nat → Int32) → Prop) : Prop :=
  (¬ HS M x → E 0 M) ∧ (∀ s, s < sc → x = nI s → (co M s = -1 → E 2 M) ∧ (¬ co M s = -1 → F (szr M s (co M s)) M))
def C_owner (M : Nat → Nat → Int32) (sc : Nat) (x y : Int32) (E : Nat → (Nat → Nat → Int32) → Prop) (F : Int32 → (Nat → Nat → Int32) → Prop) : Prop :=
  (¬ HS M x → E 0 M) ∧ (∀ s, s < sc → x = nI s → ((∀ k, k < 24 → ¬ KEY M y k) → E 2 M) ∧ (∀ k, k < 24 → KEY M y k → (∀ j, j < k → ¬ KEY M y j) → F (kyA M (M (15 + s) k)) M))
theorem comM_ne {M : Nat → Nat → Int32} {p sc c : Nat} {st : Int32} (h : c ≠ 45) (h2 : c ≠ 46) (h3 : c ≠ 47) : comM M p st sc c = M c := by
  unfold comM; rw [comS_ne h3, ow_u_ne h2, ow_u_ne h]
theorem joS_ne {M : Nat → Nat → Int32} {t : Int32} {p i c : Nat} (hc : c < 15 ∨ 25 < c) (hi : i ≤ 5) : joS M t p i c = M c := by
  induction i with
  | zero => rfl
  | succ i ih =>
    simp only [joS]
    split
    · unfold jonM
      rw [putM_ne (by omega) (by omega)]; exact ih (by omega)
    · exact ih (by omega)
theorem CI.jo {M : Nat → Nat → Int32} {tc sc p i : Nat} {t : Int32} (h : CI M tc sc) (hi : i ≤ 5) : CI (joS M t p i) tc sc := by
  induction i with
  | zero => exact h
  | succ i ih =>
    have ih := ih (by omega)
    simp only [joS]
    split
    · exact ih.put (by omega) (co_plc ih (by omega))
    · exact ih
theorem CI.wr {M : Nat → Nat → Int32} {tc sc p : Nat} {x y z : Int32} (h : CI M tc sc) : CI (wrf M p x y z) tc sc := by
  have e : ∀ c, c ≠ 11 → c ≠ 12 → c ≠ 13 → wrf M p x y z c = M c := fun c h1 h2 h3 => by unfold wrf; rw [ow_u_ne h3, ow_u_ne h2, ow_u_ne h1]
  exact h.congr (e 1 (by decide) (by decide) (by decide)) (e 5 (by decide) (by decide) (by decide)) (fun q hq => by rw [e 9 (by decide) (by decide) (by decide)]; exact h.ty hq) (by rw [e 45 (by decide) (by decide) (by decide)]; exact h.run) (fun t ht => by rw [e 46 (by decide) (by decide) (by decide)]; exact h.ofT ht) (fun s hs => by rw [e 47 (by decide) (by decide) (by decide)]; exact h.ofS hs) (fun s hs q hq => by rw [e (15 + s) (by omega) (by omega) (by omega)]; exact h.own hs hq)
theorem CI.w1 {M : Nat → Nat → Int32} {tc sc f p : Nat} {x : Int32} (h : CI M tc sc) (hf : f < 3) : CI (ow_u M (11 + f) p x) tc sc := by
  have e : ∀ c, c ≠ 11 + f → ow_u M (11 + f) p x c = M c := fun c h1 => ow_u_ne h1
  exact h.congr (e 1 (by omega)) (e 5 (by omega)) (fun q hq => by rw [e 9 (by omega)]; exact h.ty hq) (by rw [e 45 (by omega)]; exact h.run) (fun t ht => by rw [e 46 (by omega)]; exact h.ofT ht) (fun s hs => by rw [e 47 (by omega)]; exact h.ofS hs) (fun s hs q hq => by rw [e (15 + s) (by omega)]; exact h.own hs hq)
theorem CI.ad {M : Nat → Nat → Int32} {tc sc p : Nat} {t : Int32} (h : CI M tc sc) (ht : ∃ j, j < 4 ∧ t = nI j) : CI (ow_u (adr M p t) 0 4 1) tc sc := by
  have e : ∀ c, c ≠ 0 → c ≠ 7 → c ≠ 8 → c ≠ 9 → ow_u (adr M p t) 0 4 1 c = M c := fun c h0 h1 h2 h3 => by unfold adr; rw [ow_u_ne h0, ow_u_ne h1, ow_u_ne h1, ow_u_ne h3, ow_u_ne h2]
  have e9 : ∀ q, ow_u (adr M p t) 0 4 1 9 q = if q = p then t else M 9 q := fun q => by
    unfold adr; rw [ow_u_ne (by decide), ow_u_ne (by decide), ow_u_ne (by decide), ow_u_eq]
    by_cases e : q = p
    · subst e; simp [upd]
    · simp [upd, e]; rw [ow_u_ne (by decide)]
  exact h.congr (e 1 (by decide) (by decide) (by decide) (by decide)) (e 5 (by decide) (by decide) (by decide) (by decide)) (fun q hq => by
    rw [e9]; split
    · exact ht
    · exact h.ty hq) (by rw [e 45 (by decide) (by decide) (by decide) (by decide)]; exact h.run) (fun t ht => by rw [e 46 (by decide) (by decide) (by decide) (by decide)]; exact h.ofT ht) (fun s hs => by rw [e 47 (by decide) (by decide) (by decide) (by decide)]; exact h.ofS hs) (fun s hs q hq => by rw [e (15 + s) (by omega) (by omega) (by omega) (by omega)]; exact h.own hs hq)
theorem HF.ix {M : Nat → Nat → Int32} {tc sc : Nat} {t f : Int32} (hC : CI M tc sc) (hF : FC M) (h : HF M t f) : ∃ n, n < 3 ∧ f = nI n := by
  obtain ⟨h1, h2, h3, h4⟩ := h
  obtain ⟨j, hj, rfl⟩ := nI_ix (n := tc) h1 (by rw [← hC.tc]; exact h2) (by have := hC.t4; omega)
  have h5 := hF j (by have := hC.t4; omega)
  rw [nI_clamp (by have := hC.t4; omega)] at h4
  exact nI_ix h3 (show f < nI 3 by have : nI 3 = 3 := rfl; rw [this]; grind) (by decide)
section TPub
variable {l : Launch} {Q : ow_R → ow_M → Prop} {M : Nat → Nat → Int32} {K : Int64} {b : Nat} {tc sc : Nat}
theorem t_R_type (hl : l.stackTraces = false) (hC : CI M tc sc) {x : Int32}  (hq : C_type M tc x (fun k M' => Q (.inr k) (mm M' K b)) (fun r M' => Q (.inl (some r)) (mm M' K (b + 1)))) : MT l Y_R_type (6, 82) [.ref 0, .int x] (mm M K (b + 1)) Q := by
  refine mt_of (k := 0) (by decide) cd_R_type.1 (by simp [Value.category]) rfl ?_
  obtain ⟨h0, h1, h2⟩ := hq
  refine aw_iload_n d_R_type_0 rfl ?_
  refine aw_iconst (v := 1) d_R_type_1 (by decide) ?_
  refine aw_icmp_lt (tgt := 10) d_R_type_2 rfl (fun g2 => ?_) (fun g2 => ?_)
  · refine aw_throw (text := "a type has 1 to 3 fields") hl th_R_0 (by decide +kernel) (fun _ h => nomatch h) d_R_type_10 d_R_type_13 d_R_type_14 d_R_type_16 d_R_type_19 ⟨by decide, Nat.le_of_ble_eq_true rfl⟩ rfl ?_
    exact h0 (by grind)
  · refine aw_iload_n d_R_type_5 rfl ?_
    refine aw_iconst (v := 3) d_R_type_6 (by decide) ?_
    refine aw_icmp_le (tgt := 20) d_R_type_7 rfl (fun g7 => ?_) (fun g7 => ?_)
    · refine aw_aload_n d_R_type_20 rfl ?_
      refine mm_getr (t := 1) f_R_10 d_R_type_21 (by decide) rfl rfl rfl ?_
      refine mm_geti f_R_44 d_R_type_24 (by decide) rfl rfl ?_
      refine aw_iconst (v := 4) d_R_type_27 (by decide) ?_
      refine aw_icmp_ge (tgt := 38) d_R_type_28 rfl (fun g28 => ?_) (fun g28 => ?_)
      · refine aw_throw (text := "no more types can be declared") hl th_R_1 (by decide +kernel) (fun _ h => nomatch h) d_R_type_38 d_R_type_41 d_R_type_42 d_R_type_44 d_R_type_47 ⟨by decide, Nat.le_of_ble_eq_true rfl⟩ rfl ?_
        exact h1 (by grind) (by grind) (by grind)
      · refine aw_aload_n d_R_type_31 rfl ?_
        refine mm_geti f_R_33 d_R_type_32 (by decide) rfl rfl ?_
        refine aw_if_eq (tgt := 48) d_R_type_35 rfl (fun g35 => ?_) (fun g35 => ?_)
        · have ht4 : tc < 4 := by
            have h := hC.tc
            have h4 := hC.t4
            rcases Nat.lt_or_ge tc 4 with h5 | h5
            · exact h5
            · have h6 : tc = 4 := by omega
              subst h6; rw [h] at g28; exact absurd (by decide) g28
          refine aw_aload_n d_R_type_48 rfl ?_
          refine mm_getr (t := 1) f_R_10 d_R_type_49 (by decide) rfl rfl rfl ?_
          refine aw_iload_n d_R_type_52 rfl ?_
          refine aw_cV1 (d' := (0, 0)) d_R_type_53 lk_R_53 cd_P_addType (Nat.le_of_ble_eq_true rfl) rfl rfl ⟨Nat.le_of_ble_eq_true rfl, Nat.le_of_ble_eq_true rfl⟩ (fun _ h => nomatch h) ?_
          refine t_P_addType hC.tc ht4 ?_
          refine ow_next_i ?_
          refine aw_iret d_R_type_56 rfl rfl ?_
          exact h2 (by grind) (by grind) (by grind) (by grind)
        · refine aw_throw (text := "no more types can be declared") hl th_R_1 (by decide +kernel) (fun _ h => nomatch h) d_R_type_38 d_R_type_41 d_R_type_42 d_R_type_44 d_R_type_47 ⟨by decide, Nat.le_of_ble_eq_true rfl⟩ rfl ?_
          exact h1 (by grind) (by grind) (by grind)
    · refine aw_throw (text := "a type has 1 to 3 fields") hl th_R_0 (by decide +kernel) (fun _ h => nomatch h) d_R_type_10 d_R_type_13 d_R_type_14 d_R_type_16 d_R_type_19 ⟨by decide, Nat.le_of_ble_eq_true rfl⟩ rfl ?_
      exact h0 (by grind)
theorem t_R_set (hl : l.stackTraces = false) (hC : CI M tc sc) {x y z w : Int32}  (hq : C_set M sc x y z w (fun k M' => Q (.inr k) (mm M' K b)) (fun r M' => Q (.inl (some r)) (mm M' K (b + 1)))) : MT l Y_R_set (6, 82) [.ref 0, .int x, .int y, .int z, .int w] (mm M K (b + 1)) Q := by
  refine mt_of (k := 0) (by decide) cd_R_set.1 (by simp [Value.category]) rfl ?_
  obtain ⟨h0, h1, h2, h3⟩ := hq
  refine aw_aload_n d_R_set_0 rfl ?_
  refine mm_getr (t := 1) f_R_10 d_R_set_1 (by decide) rfl rfl rfl ?_
  refine aw_iload_n d_R_set_4 rfl ?_
  refine aw_cV1 (d' := (0, 0)) d_R_set_5 lk_R_57 cd_P_hasType (Nat.le_of_ble_eq_true rfl) rfl rfl ⟨Nat.le_of_ble_eq_true rfl, Nat.le_of_ble_eq_true rfl⟩ (fun _ h => nomatch h) ?_
  refine t_P_hasType ?_
  refine ow_next_i ?_
  refine aw_if_eq (tgt := 27) d_R_set_8 rfl (fun g8 => ?_) (fun g8 => ?_)
  · refine aw_throw (text := "a set needs two types") hl th_R_0 (by decide +kernel) (fun _ h => nomatch h) d_R_set_27 d_R_set_30 d_R_set_31 d_R_set_33 d_R_set_36 ⟨by decide, Nat.le_of_ble_eq_true rfl⟩ rfl ?_
    exact h0 (by unfold HT; grind)
  · refine aw_aload_n d_R_set_11 rfl ?_
    refine mm_getr (t := 1) f_R_10 d_R_set_12 (by decide) rfl rfl rfl ?_
    refine aw_iload_n d_R_set_15 rfl ?_
    refine aw_cV1 (d' := (0, 0)) d_R_set_16 lk_R_57 cd_P_hasType (Nat.le_of_ble_eq_true rfl) rfl rfl ⟨Nat.le_of_ble_eq_true rfl, Nat.le_of_ble_eq_true rfl⟩ (fun _ h => nomatch h) ?_
    refine t_P_hasType ?_
    refine ow_next_i ?_
    refine aw_if_eq (tgt := 27) d_R_set_19 rfl (fun g19 => ?_) (fun g19 => ?_)
    · refine aw_throw (text := "a set needs two types") hl th_R_0 (by decide +kernel) (fun _ h => nomatch h) d_R_set_27 d_R_set_30 d_R_set_31 d_R_set_33 d_R_set_36 ⟨by decide, Nat.le_of_ble_eq_true rfl⟩ rfl ?_
      exact h0 (by unfold HT; grind)
    · refine aw_iload_n d_R_set_22 rfl ?_
      refine aw_iload_n d_R_set_23 rfl ?_
      refine aw_icmp_ne (tgt := 37) d_R_set_24 rfl (fun g24 => ?_) (fun g24 => ?_)
      · refine aw_aload_n d_R_set_37 rfl ?_
        refine mm_getr (t := 1) f_R_10 d_R_set_38 (by decide) rfl rfl rfl ?_
        refine aw_iload_n d_R_set_41 rfl ?_
        refine aw_iload_n d_R_set_42 rfl ?_
        refine aw_cV2 (d' := (2, 27)) d_R_set_43 lk_R_63 cd_P_isOrder (Nat.le_of_ble_eq_true rfl) rfl rfl ⟨Nat.le_of_ble_eq_true rfl, Nat.le_of_ble_eq_true rfl⟩ (fun _ h => nomatch h) ?_
        refine t_P_isOrder hC.tc hC.t4 ?_
        refine ow_next_i ?_
        refine aw_if_eq (tgt := 61) d_R_set_46 rfl (fun g46 => ?_) (fun g46 => ?_)
        · refine aw_throw (text := "no such order or class") hl th_R_0 (by decide +kernel) (fun _ h => nomatch h) d_R_set_61 d_R_set_64 d_R_set_65 d_R_set_67 d_R_set_70 ⟨by decide, Nat.le_of_ble_eq_true rfl⟩ rfl ?_
          exact h1 (by unfold HT; grind) (by unfold HT; grind) (by grind) (by unfold ISO; grind)
        · refine aw_iload d_R_set_49 rfl ?_
          refine aw_if_lt (tgt := 61) d_R_set_51 rfl (fun g51 => ?_) (fun g51 => ?_)
          · refine aw_throw (text := "no such order or class") hl th_R_0 (by decide +kernel) (fun _ h => nomatch h) d_R_set_61 d_R_set_64 d_R_set_65 d_R_set_67 d_R_set_70 ⟨by decide, Nat.le_of_ble_eq_true rfl⟩ rfl ?_
            exact h1 (by unfold HT; grind) (by unfold HT; grind) (by grind) (by unfold ISO; grind)
          · refine aw_iload d_R_set_54 rfl ?_
            refine aw_bipush (v := 6) d_R_set_56 (by decide) ?_
            refine aw_icmp_lt (tgt := 71) d_R_set_58 rfl (fun g58 => ?_) (fun g58 => ?_)
            · refine aw_aload_n d_R_set_71 rfl ?_
              refine mm_getr (t := 1) f_R_10 d_R_set_72 (by decide) rfl rfl rfl ?_
              refine mm_geti f_R_69 d_R_set_75 (by decide) rfl rfl ?_
              refine aw_iconst (v := 5) d_R_set_78 (by decide) ?_
              refine aw_icmp_ge (tgt := 89) d_R_set_79 rfl (fun g79 => ?_) (fun g79 => ?_)
              · refine aw_throw (text := "no more sets can be declared") hl th_R_1 (by decide +kernel) (fun _ h => nomatch h) d_R_set_89 d_R_set_92 d_R_set_93 d_R_set_95 d_R_set_98 ⟨by decide, Nat.le_of_ble_eq_true rfl⟩ rfl ?_
                exact h2 (by unfold HT; grind) (by unfold HT; grind) (by grind) (by unfold ISO; grind) (by grind) (by grind) (by grind)
              · refine aw_aload_n d_R_set_82 rfl ?_
                refine mm_geti f_R_33 d_R_set_83 (by decide) rfl rfl ?_
                refine aw_if_eq (tgt := 99) d_R_set_86 rfl (fun g86 => ?_) (fun g86 => ?_)
                · have hs4 : sc < 5 := by
                    have h := hC.sc
                    have h4 := hC.s5
                    rcases Nat.lt_or_ge sc 5 with h5 | h5
                    · exact h5
                    · have h6 : sc = 5 := by omega
                      subst h6; rw [h] at g79; exact absurd (by decide) g79
                  refine aw_aload_n d_R_set_99 rfl ?_
                  refine mm_getr (t := 1) f_R_10 d_R_set_100 (by decide) rfl rfl rfl ?_
                  refine aw_iload_n d_R_set_103 rfl ?_
                  refine aw_iload_n d_R_set_104 rfl ?_
                  refine aw_iload_n d_R_set_105 rfl ?_
                  refine aw_iload d_R_set_106 rfl ?_
                  refine aw_cV4 (d' := (0, 0)) d_R_set_108 lk_R_74 cd_P_addSet (Nat.le_of_ble_eq_true rfl) rfl rfl ⟨Nat.le_of_ble_eq_true rfl, Nat.le_of_ble_eq_true rfl⟩ (fun _ h => nomatch h) ?_
                  refine t_P_addSet hC.sc hs4 ?_
                  refine ow_next_i ?_
                  refine aw_iret d_R_set_111 rfl rfl ?_
                  exact h3 (by unfold HT; grind) (by unfold HT; grind) (by grind) (by unfold ISO; grind) (by grind) (by grind) (by grind) (by grind)
                · refine aw_throw (text := "no more sets can be declared") hl th_R_1 (by decide +kernel) (fun _ h => nomatch h) d_R_set_89 d_R_set_92 d_R_set_93 d_R_set_95 d_R_set_98 ⟨by decide, Nat.le_of_ble_eq_true rfl⟩ rfl ?_
                  exact h2 (by unfold HT; grind) (by unfold HT; grind) (by grind) (by unfold ISO; grind) (by grind) (by grind) (by grind)
            · refine aw_throw (text := "no such order or class") hl th_R_0 (by decide +kernel) (fun _ h => nomatch h) d_R_set_61 d_R_set_64 d_R_set_65 d_R_set_67 d_R_set_70 ⟨by decide, Nat.le_of_ble_eq_true rfl⟩ rfl ?_
              exact h1 (by unfold HT; grind) (by unfold HT; grind) (by grind) (by unfold ISO; grind)
      · refine aw_throw (text := "a set needs two types") hl th_R_0 (by decide +kernel) (fun _ h => nomatch h) d_R_set_27 d_R_set_30 d_R_set_31 d_R_set_33 d_R_set_36 ⟨by decide, Nat.le_of_ble_eq_true rfl⟩ rfl ?_
        exact h0 (by unfold HT; grind)
theorem t_R_find (hl : l.stackTraces = false) (hC : CI M tc sc) {x y : Int32}  (hq : C_find M sc x y (fun k M' => Q (.inr k) (mm M' K b)) (fun M' => Q (.inl none) (mm M' K (b + 1)))) : MT l Y_R_find (7, 97) [.ref 0, .int x, .int y] (mm M K (b + 1)) Q := by
  refine mt_of (k := 0) (by decide) cd_R_find.1 (by simp [Value.category]) rfl ?_
  refine aw_aload_n d_R_find_0 rfl ?_
  refine aw_aload_n d_R_find_1 rfl ?_
  refine aw_iload_n d_R_find_2 rfl ?_
  refine aw_cV1 (d' := (6, 82)) d_R_find_3 lk_R_118 cd_R_requireRecord (Nat.le_of_ble_eq_true rfl) rfl rfl ⟨Nat.le_of_ble_eq_true rfl, Nat.le_of_ble_eq_true rfl⟩ (fun _ h => nomatch h) ?_
  refine t_R_requireRecord hl (fun k1 => ?_) (fun k hk k1 k2 k3 => ?_)
  · refine ow_next_x ?_
    exact hq.1 k1
  · refine ow_next_i ?_
    refine aw_iload_n d_R_find_6 rfl ?_
    refine aw_cV2 (d' := (1, 14)) d_R_find_7 lk_R_111 cd_R_comeTo (Nat.le_of_ble_eq_true rfl) rfl rfl ⟨Nat.le_of_ble_eq_true rfl, Nat.le_of_ble_eq_true rfl⟩ (fun _ h => nomatch h) ?_
    refine t_R_comeTo hC hk ?_
    refine ow_next_v ?_
    refine aw_vret d_R_find_10 rfl ?_
    exact hq.2 k hk ⟨k1, k2⟩ k3
theorem t_R_seek (hl : l.stackTraces = false) (hC : CI M tc sc) (hF : FC M) {t f x : Int32}  (hq : C_seek M sc t f x (fun k M' => Q (.inr k) (mm M' K b)) (fun r M' => Q (.inl (some r)) (mm M' K (b + 1)))) : MT l Y_R_seek (7, 95) [.ref 0, .int t, .int f, .int x] (mm M K (b + 1)) Q := by
  refine mt_of (k := 0) (by decide) cd_R_seek.1 (by simp [Value.category]) rfl ?_
  refine aw_aload_n d_R_seek_0 rfl ?_
  refine mm_getr (t := 1) f_R_10 d_R_seek_1 (by decide) rfl rfl rfl ?_
  refine aw_iload_n d_R_seek_4 rfl ?_
  refine aw_iload_n d_R_seek_5 rfl ?_
  refine aw_cV2 (d' := (1, 13)) d_R_seek_6 lk_R_121 cd_P_hasField (Nat.le_of_ble_eq_true rfl) rfl rfl ⟨Nat.le_of_ble_eq_true rfl, Nat.le_of_ble_eq_true rfl⟩ (fun _ h => nomatch h) ?_
  refine t_P_hasField hC.tc hC.t4 ?_
  refine ow_next_i ?_
  refine aw_if_ne (tgt := 22) d_R_seek_9 rfl (fun g9 => ?_) (fun g9 => ?_)
  · have hf : HF M t f := by unfold HF; grind
    obtain ⟨n, hn, rfl⟩ := hf.ix hC hF
    refine aw_aload_n d_R_seek_22 rfl ?_
    refine aw_aload_n d_R_seek_23 rfl ?_
    refine mm_getr (t := 7) f_R_19 d_R_seek_24 (by decide) rfl rfl rfl ?_
    refine aw_iload_n d_R_seek_27 rfl ?_
    refine aw_iload_n d_R_seek_28 rfl ?_
    refine aw_iload_n d_R_seek_29 rfl ?_
    refine aw_cV3 (d' := (0, 0)) d_R_seek_30 lk_R_126 cd_B_lowestKeyed (Nat.le_of_ble_eq_true rfl) rfl rfl ⟨Nat.le_of_ble_eq_true rfl, Nat.le_of_ble_eq_true rfl⟩ (fun _ h => nomatch h) ?_
    refine t_B_lowestKeyed hn ?_
    refine ow_next_i ?_
    refine aw_cV1 (d' := (6, 82)) d_R_seek_33 lk_R_130 cd_R_comeToExisting (Nat.le_of_ble_eq_true rfl) rfl rfl ⟨Nat.le_of_ble_eq_true rfl, Nat.le_of_ble_eq_true rfl⟩ (fun _ h => nomatch h) ?_
    refine t_R_comeToExisting hl hC (lwk_in M t n x 24) (fun k1 => ?_) (fun p hp k1 => ?_)
    · refine ow_next_x ?_
      exact (hq.2 n hn rfl hf).1 k1
    · refine ow_next_i ?_
      refine aw_iret d_R_seek_36 rfl rfl ?_
      exact (hq.2 n hn rfl hf).2 p hp k1
  · refine aw_throw (text := "no such type or field") hl th_R_0 (by decide +kernel) (fun _ h => nomatch h) d_R_seek_12 d_R_seek_15 d_R_seek_16 d_R_seek_18 d_R_seek_21 ⟨by decide, Nat.le_of_ble_eq_true rfl⟩ rfl ?_
    exact hq.1 (by unfold HF; grind)
theorem t_R_move (hl : l.stackTraces = false) (hC : CI M tc sc) {x h : Int32}  (hq : C_move M sc x h (fun k M' => Q (.inr k) (mm M' K b)) (fun r M' => Q (.inl (some r)) (mm M' K (b + 1)))) : MT l Y_R_move (7, 95) [.ref 0, .int x, .int h] (mm M K (b + 1)) Q := by
  refine mt_of (k := 0) (by decide) cd_R_move.1 (by simp [Value.category]) rfl ?_
  refine aw_aload_n d_R_move_0 rfl ?_
  refine aw_iload_n d_R_move_1 rfl ?_
  refine aw_cV1 (d' := (6, 82)) d_R_move_2 lk_R_133 cd_R_requireSet (Nat.le_of_ble_eq_true rfl) rfl rfl ⟨Nat.le_of_ble_eq_true rfl, Nat.le_of_ble_eq_true rfl⟩ (fun _ h => nomatch h) ?_
  refine t_R_requireSet hl (fun k1 => ?_) (fun k1 => ?_)
  · have hS : HS M x := k1
    obtain ⟨s, hs, rfl⟩ := nI_ix (n := sc) k1.1 (by rw [← hC.sc]; exact k1.2) (by have := hC.s5; omega)
    have hs5 : s < 5 := by have := hC.s5; omega
    refine ow_next_v ?_
    refine aw_iload_n d_R_move_5 rfl ?_
    refine aw_if_lt (tgt := 14) d_R_move_6 rfl (fun g6 => ?_) (fun g6 => ?_)
    · refine aw_throw (text := "no such way to move") hl th_R_0 (by decide +kernel) (fun _ h => nomatch h) d_R_move_14 d_R_move_17 d_R_move_18 d_R_move_20 d_R_move_23 ⟨by decide, Nat.le_of_ble_eq_true rfl⟩ rfl ?_
      exact hq.2.1 hS (by grind)
    · refine aw_iload_n d_R_move_9 rfl ?_
      refine aw_iconst (v := 4) d_R_move_10 (by decide) ?_
      refine aw_icmp_le (tgt := 24) d_R_move_11 rfl (fun g11 => ?_) (fun g11 => ?_)
      · refine aw_aload_n d_R_move_24 rfl ?_
        refine aw_aload_n d_R_move_25 rfl ?_
        refine aw_iload_n d_R_move_26 rfl ?_
        refine aw_iload_n d_R_move_27 rfl ?_
        refine aw_cV2 (d' := (1, 16)) d_R_move_28 lk_R_138 cd_R_placeToMoveTo (Nat.le_of_ble_eq_true rfl) rfl rfl ⟨Nat.le_of_ble_eq_true rfl, Nat.le_of_ble_eq_true rfl⟩ (fun _ h => nomatch h) ?_
        refine t_R_placeToMoveTo hC hs5 (by grind) (by grind) ?_
        refine ow_next_i ?_
        refine aw_cV1 (d' := (6, 82)) d_R_move_31 lk_R_130 cd_R_comeToExisting (Nat.le_of_ble_eq_true rfl) rfl rfl ⟨Nat.le_of_ble_eq_true rfl, Nat.le_of_ble_eq_true rfl⟩ (fun _ h => nomatch h) ?_
        refine t_R_comeToExisting hl hC (pmt_plc hC hs5) (fun k1 => ?_) (fun p hp k1 => ?_)
        · refine ow_next_x ?_
          exact (hq.2.2 s hs rfl (by grind) (by grind)).1 k1
        · refine ow_next_i ?_
          refine aw_iret d_R_move_34 rfl rfl ?_
          exact (hq.2.2 s hs rfl (by grind) (by grind)).2 p hp k1
      · refine aw_throw (text := "no such way to move") hl th_R_0 (by decide +kernel) (fun _ h => nomatch h) d_R_move_14 d_R_move_17 d_R_move_18 d_R_move_20 d_R_move_23 ⟨by decide, Nat.le_of_ble_eq_true rfl⟩ rfl ?_
        exact hq.2.1 hS (by grind)
  · refine ow_next_x ?_
    exact hq.1 k1
theorem t_R_scan (hl : l.stackTraces = false) (hC : CI M tc sc) (hF : FC M) (hP : ∀ s, s < 5 → PO2 M s) {y f x : Int32}  (hq : C_scan M sc y f x (fun k M' => Q (.inr k) (mm M' K b)) (fun r M' => Q (.inl (some r)) (mm M' K (b + 1)))) : MT l Y_R_scan (7, 96) [.ref 0, .int y, .int f, .int x] (mm M K (b + 1)) Q := by
  refine mt_of (k := 2) (by decide) cd_R_scan.1 (by simp [Value.category]) rfl ?_
  refine aw_aload_n d_R_scan_0 rfl ?_
  refine aw_iload_n d_R_scan_1 rfl ?_
  refine aw_cV1 (d' := (6, 82)) d_R_scan_2 lk_R_133 cd_R_requireSet (Nat.le_of_ble_eq_true rfl) rfl rfl ⟨Nat.le_of_ble_eq_true rfl, Nat.le_of_ble_eq_true rfl⟩ (fun _ h => nomatch h) ?_
  refine t_R_requireSet hl (fun k1 => ?_) (fun k1 => ?_)
  · obtain ⟨s, hs, rfl⟩ := nI_ix (n := sc) k1.1 (by rw [← hC.sc]; exact k1.2) (by have := hC.s5; omega)
    have hs5 : s < 5 := by have := hC.s5; omega
    refine ow_next_v ?_
    refine aw_aload_n d_R_scan_5 rfl ?_
    refine mm_getr (t := 1) f_R_10 d_R_scan_6 (by decide) rfl rfl rfl ?_
    refine aw_aload_n d_R_scan_9 rfl ?_
    refine mm_getr (t := 1) f_R_10 d_R_scan_10 (by decide) rfl rfl rfl ?_
    refine mm_getr (t := 4) f_R_142 d_R_scan_13 (by decide) rfl rfl rfl ?_
    refine aw_iload_n d_R_scan_16 rfl ?_
    refine mm_iald rfl d_R_scan_17 (by decide) rfl (by omega) (by decide) ?_
    refine aw_iload_n d_R_scan_18 rfl ?_
    refine aw_cV2 (d' := (1, 13)) d_R_scan_19 lk_R_121 cd_P_hasField (Nat.le_of_ble_eq_true rfl) rfl rfl ⟨Nat.le_of_ble_eq_true rfl, Nat.le_of_ble_eq_true rfl⟩ (fun _ h => nomatch h) ?_
    refine t_P_hasField hC.tc hC.t4 ?_
    refine ow_next_i ?_
    refine aw_if_ne (tgt := 35) d_R_scan_22 rfl (fun g22 => ?_) (fun g22 => ?_)
    · have hf : HF M (M 4 s) f := by unfold HF; grind
      obtain ⟨n, hn, rfl⟩ := hf.ix hC hF
      refine aw_aload_n d_R_scan_35 rfl ?_
      refine aw_iload_n d_R_scan_36 rfl ?_
      refine aw_cV1 (d' := (6, 82)) d_R_scan_37 lk_R_147 cd_R_requireCurrentOwner (Nat.le_of_ble_eq_true rfl) rfl rfl ⟨Nat.le_of_ble_eq_true rfl, Nat.le_of_ble_eq_true rfl⟩ (fun _ h => nomatch h) ?_
      refine t_R_requireCurrentOwner hl hC hs5 (fun k2 => ?_) (fun k2 => ?_)
      · refine ow_next_x ?_
        exact ((hq.2 s hs rfl).2 n hn rfl hf).1 k2
      · obtain ⟨c, hc, ec⟩ := (hC.ofS hs5).resolve_left (co_m1 k2)
        have e2 : (M 47 s).toNatClampNeg = c := by rw [ec, nI_clamp (by omega)]
        obtain ⟨k, hk, ek⟩ := hP s hs5 k2
        rw [e2] at ek
        have hk24 : k ≤ 24 := Nat.le_trans hk (cn_le _ 24)
        have e4 : cpn M s = k := by
          unfold cpn
          rw [e2, ek]
          cases k with
          | zero => rfl
          | succ k => rw [show pv (k + 1) + 1 = nI (k + 1) from (nI_succ k).symm, nI_clamp (by omega)]
        refine ow_next_i ?_
        refine aw_istore d_R_scan_40 (by decide) ?_
        refine aw_aload_n d_R_scan_42 rfl ?_
        refine mm_getr (t := 7) f_R_19 d_R_scan_43 (by decide) rfl rfl rfl ?_
        refine mm_getr (t := 20) f_R_150 d_R_scan_46 (by decide) rfl rfl rfl ?_
        refine aw_iload_n d_R_scan_49 rfl ?_
        refine mm_aald rfl d_R_scan_50 (by decide) rfl hs5 (by decide) (rF_pos hs5) ?_
        refine aw_aload_n d_R_scan_51 rfl ?_
        refine mm_getr (t := 45) f_R_29 d_R_scan_52 (by decide) rfl rfl rfl ?_
        refine mm_getr (t := 47) f_R_154 d_R_scan_55 (by decide) rfl rfl rfl ?_
        refine aw_iload_n d_R_scan_58 rfl ?_
        refine mm_iald rfl d_R_scan_59 (by decide) rfl (by omega) (by decide) ?_
        refine mm_iald ec d_R_scan_60 (by omega) (kd_pos hs5) (by omega) (by decide) ?_
        refine aw_iconst (v := 1) d_R_scan_61 (by decide) ?_
        rw [ek]
        refine aw_iadd d_R_scan_62 ?_
        rw [show pv k + 1 = nI k from by cases k with | zero => rfl | succ k => exact (nI_succ k).symm]
        refine aw_istore d_R_scan_63 (by decide) ?_
        refine aw_aload_n d_R_scan_65 rfl ?_
        refine aw_aload_n d_R_scan_66 rfl ?_
        refine mm_getr (t := 7) f_R_19 d_R_scan_67 (by decide) rfl rfl rfl ?_
        refine aw_iload_n d_R_scan_70 rfl ?_
        refine aw_iload d_R_scan_71 rfl ?_
        refine aw_iload d_R_scan_73 rfl ?_
        refine aw_iload_n d_R_scan_75 rfl ?_
        refine aw_iload_n d_R_scan_76 rfl ?_
        refine aw_cV5 (d' := (1, 16)) d_R_scan_77 lk_R_157 cd_B_memberWithValue (Nat.le_of_ble_eq_true rfl) rfl rfl ⟨Nat.le_of_ble_eq_true rfl, Nat.le_of_ble_eq_true rfl⟩ (fun _ h => nomatch h) ?_
        refine t_B_memberWithValue hs5 hn hk ?_
        refine ow_next_i ?_
        refine aw_cV1 (d' := (6, 82)) d_R_scan_80 lk_R_130 cd_R_comeToExisting (Nat.le_of_ble_eq_true rfl) rfl rfl ⟨Nat.le_of_ble_eq_true rfl, Nat.le_of_ble_eq_true rfl⟩ (fun _ h => nomatch h) ?_
        refine t_R_comeToExisting hl hC (mwv_plc _ _ _ _ _ _ _) (fun k3 => ?_) (fun p hp k3 => ?_)
        · refine ow_next_x ?_
          exact (((hq.2 s hs rfl).2 n hn rfl hf).2 k2).1 (by unfold scv; rw [e4]; exact k3)
        · refine ow_next_i ?_
          refine aw_iret d_R_scan_83 rfl rfl ?_
          exact (((hq.2 s hs rfl).2 n hn rfl hf).2 k2).2 p hp (by unfold scv; rw [e4]; exact k3)
    · refine aw_throw (text := "no such field") hl th_R_0 (by decide +kernel) (fun _ h => nomatch h) d_R_scan_25 d_R_scan_28 d_R_scan_29 d_R_scan_31 d_R_scan_34 ⟨by decide, Nat.le_of_ble_eq_true rfl⟩ rfl ?_
      exact (hq.2 s hs rfl).1 (by unfold HF; grind)
  · refine ow_next_x ?_
    exact hq.1 k1
theorem t_R_current (hl : l.stackTraces = false) (hC : CI M tc sc) {w n : Int32}  (hq : C_current M tc sc w n (fun k M' => Q (.inr k) (mm M' K b)) (fun r M' => Q (.inl (some r)) (mm M' K (b + 1)))) : MT l Y_R_current (6, 82) [.ref 0, .int w, .int n] (mm M K (b + 1)) Q := by
  refine mt_of (k := 0) (by decide) cd_R_current.1 (by simp [Value.category]) rfl ?_
  obtain ⟨h0, h1, h2, h3⟩ := hq
  refine aw_iload_n d_R_current_0 rfl ?_
  refine aw_if_ne (tgt := 19) d_R_current_1 rfl (fun g1 => ?_) (fun g1 => ?_)
  · refine aw_iload_n d_R_current_19 rfl ?_
    refine aw_iconst (v := 1) d_R_current_20 (by decide) ?_
    refine aw_icmp_ne (tgt := 52) d_R_current_21 rfl (fun g21 => ?_) (fun g21 => ?_)
    · refine aw_iload_n d_R_current_52 rfl ?_
      refine aw_iconst (v := 2) d_R_current_53 (by decide) ?_
      refine aw_icmp_ne (tgt := 85) d_R_current_54 rfl (fun g54 => ?_) (fun g54 => ?_)
      · refine aw_throw (text := "nothing that has a current record") hl th_R_0 (by decide +kernel) (fun _ h => nomatch h) d_R_current_85 d_R_current_88 d_R_current_89 d_R_current_91 d_R_current_94 ⟨by decide, Nat.le_of_ble_eq_true rfl⟩ rfl ?_
        exact h3 (by unfold HT HS; grind)
      · refine aw_aload_n d_R_current_57 rfl ?_
        refine mm_getr (t := 1) f_R_10 d_R_current_58 (by decide) rfl rfl rfl ?_
        refine aw_iload_n d_R_current_61 rfl ?_
        refine aw_cV1 (d' := (0, 0)) d_R_current_62 lk_R_170 cd_P_hasSet (Nat.le_of_ble_eq_true rfl) rfl rfl ⟨Nat.le_of_ble_eq_true rfl, Nat.le_of_ble_eq_true rfl⟩ (fun _ h => nomatch h) ?_
        refine t_P_hasSet ?_
        refine ow_next_i ?_
        refine aw_if_eq (tgt := 85) d_R_current_65 rfl (fun g65 => ?_) (fun g65 => ?_)
        · refine aw_throw (text := "nothing that has a current record") hl th_R_0 (by decide +kernel) (fun _ h => nomatch h) d_R_current_85 d_R_current_88 d_R_current_89 d_R_current_91 d_R_current_94 ⟨by decide, Nat.le_of_ble_eq_true rfl⟩ rfl ?_
          exact h3 (by unfold HT HS; grind)
        · obtain ⟨t, ht, rfl⟩ := nI_ix (x := n) (n := sc) (by grind) (by rw [← hC.sc]; grind) (by have := hC.s5; omega)
          have ht4 : t < 5 := by have := hC.s5; omega
          refine aw_aload_n d_R_current_68 rfl ?_
          refine mm_getr (t := 7) f_R_19 d_R_current_69 (by decide) rfl rfl rfl ?_
          refine aw_aload_n d_R_current_72 rfl ?_
          refine mm_getr (t := 45) f_R_29 d_R_current_73 (by decide) rfl rfl rfl ?_
          refine mm_getr (t := 47) f_R_154 d_R_current_76 (by decide) rfl rfl rfl ?_
          refine aw_iload_n d_R_current_79 rfl ?_
          refine mm_iald rfl d_R_current_80 (by decide) rfl (by omega) (by decide) ?_
          refine aw_cV1 (d' := (0, 0)) d_R_current_81 lk_R_164 cd_B_keyAt (Nat.le_of_ble_eq_true rfl) rfl rfl ⟨Nat.le_of_ble_eq_true rfl, Nat.le_of_ble_eq_true rfl⟩ (fun _ h => nomatch h) ?_
          refine t_B_keyAt (hC.ofS ht4) ?_
          refine ow_next_i ?_
          refine aw_iret d_R_current_84 rfl rfl ?_
          exact h2 (by grind) t ht rfl
    · refine aw_aload_n d_R_current_24 rfl ?_
      refine mm_getr (t := 1) f_R_10 d_R_current_25 (by decide) rfl rfl rfl ?_
      refine aw_iload_n d_R_current_28 rfl ?_
      refine aw_cV1 (d' := (0, 0)) d_R_current_29 lk_R_57 cd_P_hasType (Nat.le_of_ble_eq_true rfl) rfl rfl ⟨Nat.le_of_ble_eq_true rfl, Nat.le_of_ble_eq_true rfl⟩ (fun _ h => nomatch h) ?_
      refine t_P_hasType ?_
      refine ow_next_i ?_
      refine aw_if_eq (tgt := 52) d_R_current_32 rfl (fun g32 => ?_) (fun g32 => ?_)
      · refine aw_iload_n d_R_current_52 rfl ?_
        refine aw_iconst (v := 2) d_R_current_53 (by decide) ?_
        refine aw_icmp_ne (tgt := 85) d_R_current_54 rfl (fun g54 => ?_) (fun g54 => ?_)
        · refine aw_throw (text := "nothing that has a current record") hl th_R_0 (by decide +kernel) (fun _ h => nomatch h) d_R_current_85 d_R_current_88 d_R_current_89 d_R_current_91 d_R_current_94 ⟨by decide, Nat.le_of_ble_eq_true rfl⟩ rfl ?_
          exact h3 (by unfold HT HS; grind)
        · refine aw_aload_n d_R_current_57 rfl ?_
          refine mm_getr (t := 1) f_R_10 d_R_current_58 (by decide) rfl rfl rfl ?_
          refine aw_iload_n d_R_current_61 rfl ?_
          refine aw_cV1 (d' := (0, 0)) d_R_current_62 lk_R_170 cd_P_hasSet (Nat.le_of_ble_eq_true rfl) rfl rfl ⟨Nat.le_of_ble_eq_true rfl, Nat.le_of_ble_eq_true rfl⟩ (fun _ h => nomatch h) ?_
          refine t_P_hasSet ?_
          refine ow_next_i ?_
          refine aw_if_eq (tgt := 85) d_R_current_65 rfl (fun g65 => ?_) (fun g65 => ?_)
          · refine aw_throw (text := "nothing that has a current record") hl th_R_0 (by decide +kernel) (fun _ h => nomatch h) d_R_current_85 d_R_current_88 d_R_current_89 d_R_current_91 d_R_current_94 ⟨by decide, Nat.le_of_ble_eq_true rfl⟩ rfl ?_
            exact h3 (by unfold HT HS; grind)
          · obtain ⟨t, ht, rfl⟩ := nI_ix (x := n) (n := sc) (by grind) (by rw [← hC.sc]; grind) (by have := hC.s5; omega)
            have ht4 : t < 5 := by have := hC.s5; omega
            refine aw_aload_n d_R_current_68 rfl ?_
            refine mm_getr (t := 7) f_R_19 d_R_current_69 (by decide) rfl rfl rfl ?_
            refine aw_aload_n d_R_current_72 rfl ?_
            refine mm_getr (t := 45) f_R_29 d_R_current_73 (by decide) rfl rfl rfl ?_
            refine mm_getr (t := 47) f_R_154 d_R_current_76 (by decide) rfl rfl rfl ?_
            refine aw_iload_n d_R_current_79 rfl ?_
            refine mm_iald rfl d_R_current_80 (by decide) rfl (by omega) (by decide) ?_
            refine aw_cV1 (d' := (0, 0)) d_R_current_81 lk_R_164 cd_B_keyAt (Nat.le_of_ble_eq_true rfl) rfl rfl ⟨Nat.le_of_ble_eq_true rfl, Nat.le_of_ble_eq_true rfl⟩ (fun _ h => nomatch h) ?_
            refine t_B_keyAt (hC.ofS ht4) ?_
            refine ow_next_i ?_
            refine aw_iret d_R_current_84 rfl rfl ?_
            exact h2 (by grind) t ht rfl
      · obtain ⟨t, ht, rfl⟩ := nI_ix (x := n) (n := tc) (by grind) (by rw [← hC.tc]; grind) (by have := hC.t4; omega)
        have ht4 : t < 4 := by have := hC.t4; omega
        refine aw_aload_n d_R_current_35 rfl ?_
        refine mm_getr (t := 7) f_R_19 d_R_current_36 (by decide) rfl rfl rfl ?_
        refine aw_aload_n d_R_current_39 rfl ?_
        refine mm_getr (t := 45) f_R_29 d_R_current_40 (by decide) rfl rfl rfl ?_
        refine mm_getr (t := 46) f_R_167 d_R_current_43 (by decide) rfl rfl rfl ?_
        refine aw_iload_n d_R_current_46 rfl ?_
        refine mm_iald rfl d_R_current_47 (by decide) rfl (by omega) (by decide) ?_
        refine aw_cV1 (d' := (0, 0)) d_R_current_48 lk_R_164 cd_B_keyAt (Nat.le_of_ble_eq_true rfl) rfl rfl ⟨Nat.le_of_ble_eq_true rfl, Nat.le_of_ble_eq_true rfl⟩ (fun _ h => nomatch h) ?_
        refine t_B_keyAt (hC.ofT ht4) ?_
        refine ow_next_i ?_
        refine aw_iret d_R_current_51 rfl rfl ?_
        exact h1 (by grind) t ht rfl
  · refine aw_aload_n d_R_current_4 rfl ?_
    refine mm_getr (t := 7) f_R_19 d_R_current_5 (by decide) rfl rfl rfl ?_
    refine aw_aload_n d_R_current_8 rfl ?_
    refine mm_getr (t := 45) f_R_29 d_R_current_9 (by decide) rfl rfl rfl ?_
    refine mm_geti f_R_161 d_R_current_12 (by decide) rfl rfl ?_
    refine aw_cV1 (d' := (0, 0)) d_R_current_15 lk_R_164 cd_B_keyAt (Nat.le_of_ble_eq_true rfl) rfl rfl ⟨Nat.le_of_ble_eq_true rfl, Nat.le_of_ble_eq_true rfl⟩ (fun _ h => nomatch h) ?_
    refine t_B_keyAt hC.run ?_
    refine ow_next_i ?_
    refine aw_iret d_R_current_18 rfl rfl ?_
    exact h0 g1
theorem t_R_get (hl : l.stackTraces = false) (hC : CI M tc sc) (hF : FC M) {f : Int32}  (hq : C_get M f (fun k M' => Q (.inr k) (mm M' K b)) (fun r M' => Q (.inl (some r)) (mm M' K (b + 1)))) : MT l Y_R_get (7, 96) [.ref 0, .int f] (mm M K (b + 1)) Q := by
  refine mt_of (k := 1) (by decide) cd_R_get.1 (by simp [Value.category]) rfl ?_
  refine aw_aload_n d_R_get_0 rfl ?_
  refine aw_cV0 (d' := (6, 82)) d_R_get_1 lk_R_175 cd_R_requireRunRecord (Nat.le_of_ble_eq_true rfl) rfl rfl ⟨Nat.le_of_ble_eq_true rfl, Nat.le_of_ble_eq_true rfl⟩ (fun _ h => nomatch h) ?_
  refine t_R_requireRunRecord hl (fun k2 => ?_) (fun k2 => ?_)
  · refine ow_next_x ?_
    exact hq.1 k2
  · obtain ⟨p, hp, ep⟩ := hC.run.resolve_left k2
    rw [ep]
    refine ow_next_i ?_
    refine aw_istore_n d_R_get_4 (by decide) ?_
    refine aw_aload_n d_R_get_5 rfl ?_
    refine aw_iload_n d_R_get_6 rfl ?_
    refine aw_iload_n d_R_get_7 rfl ?_
    refine aw_cV2 (d' := (6, 82)) d_R_get_8 lk_R_178 cd_R_requireFieldOf (Nat.le_of_ble_eq_true rfl) rfl rfl ⟨Nat.le_of_ble_eq_true rfl, Nat.le_of_ble_eq_true rfl⟩ (fun _ h => nomatch h) ?_
    refine t_R_requireFieldOf hl hC hp (fun k3 => ?_) (fun k3 => ?_)
    · obtain ⟨n, hn, rfl⟩ := k3.ix hC hF
      refine ow_next_v ?_
      refine aw_aload_n d_R_get_11 rfl ?_
      refine mm_getr (t := 7) f_R_19 d_R_get_12 (by decide) rfl rfl rfl ?_
      refine mm_getr (t := 10) f_R_181 d_R_get_15 (by decide) rfl rfl rfl ?_
      refine aw_iload_n d_R_get_18 rfl ?_
      refine mm_aald rfl d_R_get_19 (by decide) rfl hn (by decide) (rF_fld hn) ?_
      refine aw_iload_n d_R_get_20 rfl ?_
      refine mm_iald rfl d_R_get_21 (by omega) (kd_fld hn) (by omega) (by decide) ?_
      refine aw_iret d_R_get_22 rfl rfl ?_
      exact (hq.2 p hp ep).2 n hn rfl k3
    · refine ow_next_x ?_
      exact (hq.2 p hp ep).1 k3
theorem t_R_modify (hl : l.stackTraces = false) (hC : CI M tc sc) (hF : FC M) {f x : Int32}  (hq : C_modify M sc f x (fun k M' => Q (.inr k) (mm M' K b)) (fun M' => Q (.inl none) (mm M' K (b + 1)))) : MT l Y_R_modify (8, 114) [.ref 0, .int f, .int x] (mm M K (b + 1)) Q := by
  refine mt_of (k := 1) (by decide) cd_R_modify.1 (by simp [Value.category]) rfl ?_
  refine aw_aload_n d_R_modify_0 rfl ?_
  refine aw_cV0 (d' := (6, 82)) d_R_modify_1 lk_R_175 cd_R_requireRunRecord (Nat.le_of_ble_eq_true rfl) rfl rfl ⟨Nat.le_of_ble_eq_true rfl, Nat.le_of_ble_eq_true rfl⟩ (fun _ h => nomatch h) ?_
  refine t_R_requireRunRecord hl (fun k2 => ?_) (fun k2 => ?_)
  · refine ow_next_x ?_
    exact hq.1 k2
  · obtain ⟨p, hp, ep⟩ := hC.run.resolve_left k2
    rw [ep]
    refine ow_next_i ?_
    refine aw_istore_n d_R_modify_4 (by decide) ?_
    refine aw_aload_n d_R_modify_5 rfl ?_
    refine aw_iload_n d_R_modify_6 rfl ?_
    refine aw_iload_n d_R_modify_7 rfl ?_
    refine aw_cV2 (d' := (6, 82)) d_R_modify_8 lk_R_178 cd_R_requireFieldOf (Nat.le_of_ble_eq_true rfl) rfl rfl ⟨Nat.le_of_ble_eq_true rfl, Nat.le_of_ble_eq_true rfl⟩ (fun _ h => nomatch h) ?_
    refine t_R_requireFieldOf hl hC hp (fun k3 => ?_) (fun k3 => ?_)
    · obtain ⟨n, hn, rfl⟩ := k3.ix hC hF
      refine ow_next_v ?_
      refine aw_aload_n d_R_modify_11 rfl ?_
      refine mm_getr (t := 7) f_R_19 d_R_modify_12 (by decide) rfl rfl rfl ?_
      refine mm_getr (t := 10) f_R_181 d_R_modify_15 (by decide) rfl rfl rfl ?_
      refine aw_iload_n d_R_modify_18 rfl ?_
      refine mm_aald rfl d_R_modify_19 (by decide) rfl hn (by decide) (rF_fld hn) ?_
      refine aw_iload_n d_R_modify_20 rfl ?_
      refine mm_iald rfl d_R_modify_21 (by omega) (kd_fld hn) (by omega) (by decide) ?_
      refine aw_iload_n d_R_modify_22 rfl ?_
      refine aw_icmp_eq (tgt := 51) d_R_modify_23 rfl (fun g23 => ?_) (fun g23 => ?_)
      · refine aw_aload_n d_R_modify_51 rfl ?_
        refine aw_iload_n d_R_modify_52 rfl ?_
        refine aw_iconst (v := 0) d_R_modify_53 (by decide) ?_
        refine aw_cV2 (d' := (1, 14)) d_R_modify_54 lk_R_111 cd_R_comeTo (Nat.le_of_ble_eq_true rfl) rfl rfl ⟨Nat.le_of_ble_eq_true rfl, Nat.le_of_ble_eq_true rfl⟩ (fun _ h => nomatch h) ?_
        first
          | refine t_R_comeTo hC hp ?_
          | refine t_R_comeTo ((hC.w1 hn).srt hp hC.s5) hp ?_
        refine ow_next_v ?_
        refine aw_vret d_R_modify_57 rfl ?_
        first
          | exact ((hq.2 p hp ep).2 n hn rfl k3).1 g23
          | exact ((hq.2 p hp ep).2 n hn rfl k3).2.2 g23 k4
      · refine aw_aload_n d_R_modify_26 rfl ?_
        refine aw_iload_n d_R_modify_27 rfl ?_
        refine aw_iload_n d_R_modify_28 rfl ?_
        refine aw_iload_n d_R_modify_29 rfl ?_
        refine aw_cV3 (d' := (7, 98)) d_R_modify_30 lk_R_184 cd_R_requireNoRefusalToSort (Nat.le_of_ble_eq_true rfl) rfl rfl ⟨Nat.le_of_ble_eq_true rfl, Nat.le_of_ble_eq_true rfl⟩ (fun _ h => nomatch h) ?_
        refine t_R_requireNoRefusalToSort hl hC hp (fun k4 => ?_) (fun k4 => ?_)
        · refine ow_next_v ?_
          refine aw_aload_n d_R_modify_33 rfl ?_
          refine mm_getr (t := 7) f_R_19 d_R_modify_34 (by decide) rfl rfl rfl ?_
          refine mm_getr (t := 10) f_R_181 d_R_modify_37 (by decide) rfl rfl rfl ?_
          refine aw_iload_n d_R_modify_40 rfl ?_
          refine mm_aald rfl d_R_modify_41 (by decide) rfl hn (by decide) (rF_fld hn) ?_
          refine aw_iload_n d_R_modify_42 rfl ?_
          refine aw_iload_n d_R_modify_43 rfl ?_
          refine mm_iast rfl d_R_modify_44 (by omega) (kd_fld hn) (by omega) (by decide) ?_
          refine aw_aload_n d_R_modify_45 rfl ?_
          refine aw_iload_n d_R_modify_46 rfl ?_
          refine aw_iload_n d_R_modify_47 rfl ?_
          refine aw_cV2 (d' := (4, 71)) d_R_modify_48 lk_R_187 cd_R_sortAgain (Nat.le_of_ble_eq_true rfl) rfl rfl ⟨Nat.le_of_ble_eq_true rfl, Nat.le_of_ble_eq_true rfl⟩ (fun _ h => nomatch h) ?_
          refine t_R_sortAgain (hC.w1 hn) hp ?_
          refine ow_next_v ?_
          refine aw_aload_n d_R_modify_51 rfl ?_
          refine aw_iload_n d_R_modify_52 rfl ?_
          refine aw_iconst (v := 0) d_R_modify_53 (by decide) ?_
          refine aw_cV2 (d' := (1, 14)) d_R_modify_54 lk_R_111 cd_R_comeTo (Nat.le_of_ble_eq_true rfl) rfl rfl ⟨Nat.le_of_ble_eq_true rfl, Nat.le_of_ble_eq_true rfl⟩ (fun _ h => nomatch h) ?_
          first
            | refine t_R_comeTo hC hp ?_
            | refine t_R_comeTo ((hC.w1 hn).srt hp hC.s5) hp ?_
          refine ow_next_v ?_
          refine aw_vret d_R_modify_57 rfl ?_
          first
            | exact ((hq.2 p hp ep).2 n hn rfl k3).1 g23
            | exact ((hq.2 p hp ep).2 n hn rfl k3).2.2 g23 k4
        · refine ow_next_x ?_
          exact ((hq.2 p hp ep).2 n hn rfl k3).2.1 g23 k4
    · refine ow_next_x ?_
      exact (hq.2 p hp ep).1 k3
theorem t_R_connect (hl : l.stackTraces = false) (hC : CI M tc sc) {x : Int32}  (hq : C_connect M sc x (fun k M' => Q (.inr k) (mm M' K b)) (fun M' => Q (.inl none) (mm M' K (b + 1)))) : MT l Y_R_connect (8, 113) [.ref 0, .int x] (mm M K (b + 1)) Q := by
  refine mt_of (k := 2) (by decide) cd_R_connect.1 (by simp [Value.category]) rfl ?_
  refine aw_aload_n d_R_connect_0 rfl ?_
  refine aw_iload_n d_R_connect_1 rfl ?_
  refine aw_cV1 (d' := (6, 82)) d_R_connect_2 lk_R_133 cd_R_requireSet (Nat.le_of_ble_eq_true rfl) rfl rfl ⟨Nat.le_of_ble_eq_true rfl, Nat.le_of_ble_eq_true rfl⟩ (fun _ h => nomatch h) ?_
  refine t_R_requireSet hl (fun k1 => ?_) (fun k1 => ?_)
  · obtain ⟨s, hs, rfl⟩ := nI_ix (n := sc) k1.1 (by rw [← hC.sc]; exact k1.2) (by have := hC.s5; omega)
    have hs5 : s < 5 := by have := hC.s5; omega
    refine ow_next_v ?_
    refine aw_aload_n d_R_connect_5 rfl ?_
    refine aw_cV0 (d' := (6, 82)) d_R_connect_6 lk_R_175 cd_R_requireRunRecord (Nat.le_of_ble_eq_true rfl) rfl rfl ⟨Nat.le_of_ble_eq_true rfl, Nat.le_of_ble_eq_true rfl⟩ (fun _ h => nomatch h) ?_
    refine t_R_requireRunRecord hl (fun k2 => ?_) (fun k2 => ?_)
    · refine ow_next_x ?_
      exact (hq.2 s hs rfl).1 k2
    · obtain ⟨p, hp, ep⟩ := hC.run.resolve_left k2
      rw [ep]
      refine ow_next_i ?_
      refine aw_istore_n d_R_connect_9 (by decide) ?_
      refine aw_aload_n d_R_connect_10 rfl ?_
      refine aw_iload_n d_R_connect_11 rfl ?_
      refine aw_cV1 (d' := (6, 82)) d_R_connect_12 lk_R_147 cd_R_requireCurrentOwner (Nat.le_of_ble_eq_true rfl) rfl rfl ⟨Nat.le_of_ble_eq_true rfl, Nat.le_of_ble_eq_true rfl⟩ (fun _ h => nomatch h) ?_
      refine t_R_requireCurrentOwner hl hC hs5 (fun k3 => ?_) (fun k3 => ?_)
      · refine ow_next_x ?_
        exact ((hq.2 s hs rfl).2 p hp ep).1 k3
      · refine ow_next_i ?_
        refine aw_istore_n d_R_connect_15 (by decide) ?_
        refine aw_aload_n d_R_connect_16 rfl ?_
        refine mm_getr (t := 7) f_R_19 d_R_connect_17 (by decide) rfl rfl rfl ?_
        refine mm_getr (t := 9) f_R_190 d_R_connect_20 (by decide) rfl rfl rfl ?_
        refine aw_iload_n d_R_connect_23 rfl ?_
        refine mm_iald rfl d_R_connect_24 (by decide) rfl (by omega) (by decide) ?_
        refine aw_aload_n d_R_connect_25 rfl ?_
        refine mm_getr (t := 1) f_R_10 d_R_connect_26 (by decide) rfl rfl rfl ?_
        refine mm_getr (t := 4) f_R_142 d_R_connect_29 (by decide) rfl rfl rfl ?_
        refine aw_iload_n d_R_connect_32 rfl ?_
        refine mm_iald rfl d_R_connect_33 (by decide) rfl (by omega) (by decide) ?_
        refine aw_icmp_ne (tgt := 49) d_R_connect_34 rfl (fun g34 => ?_) (fun g34 => ?_)
        · refine aw_throw (text := "it cannot become a member") hl th_R_1 (by decide +kernel) (fun _ h => nomatch h) d_R_connect_49 d_R_connect_52 d_R_connect_53 d_R_connect_55 d_R_connect_58 ⟨by decide, Nat.le_of_ble_eq_true rfl⟩ rfl ?_
          exact ((hq.2 s hs rfl).2 p hp ep).2.1 k3 (by grind)
        · refine aw_aload_n d_R_connect_37 rfl ?_
          refine mm_getr (t := 7) f_R_19 d_R_connect_38 (by decide) rfl rfl rfl ?_
          refine aw_iload_n d_R_connect_41 rfl ?_
          refine aw_iload_n d_R_connect_42 rfl ?_
          refine aw_cV2 (d' := (0, 0)) d_R_connect_43 lk_R_193 cd_B_isMember (Nat.le_of_ble_eq_true rfl) rfl rfl ⟨Nat.le_of_ble_eq_true rfl, Nat.le_of_ble_eq_true rfl⟩ (fun _ h => nomatch h) ?_
          refine t_B_isMember hs5 hp ?_
          refine ow_next_i ?_
          refine aw_if_eq (tgt := 59) d_R_connect_46 rfl (fun g46 => ?_) (fun g46 => ?_)
          · refine aw_aload_n d_R_connect_59 rfl ?_
            refine aw_iload_n d_R_connect_60 rfl ?_
            refine aw_iload_n d_R_connect_61 rfl ?_
            refine aw_iload_n d_R_connect_62 rfl ?_
            refine aw_cV3 (d' := (7, 98)) d_R_connect_63 lk_R_198 cd_R_requireNoRefusal (Nat.le_of_ble_eq_true rfl) rfl rfl ⟨Nat.le_of_ble_eq_true rfl, Nat.le_of_ble_eq_true rfl⟩ (fun _ h => nomatch h) ?_
            refine t_R_requireNoRefusal hl hC hs5 hp (fun k4 => ?_) (fun k4 => ?_)
            · refine ow_next_v ?_
              refine aw_aload_n d_R_connect_66 rfl ?_
              refine aw_iload_n d_R_connect_67 rfl ?_
              refine aw_iload_n d_R_connect_68 rfl ?_
              refine aw_iload_n d_R_connect_69 rfl ?_
              refine aw_cV3 (d' := (3, 56)) d_R_connect_70 lk_R_107 cd_R_join (Nat.le_of_ble_eq_true rfl) rfl rfl ⟨Nat.le_of_ble_eq_true rfl, Nat.le_of_ble_eq_true rfl⟩ (fun _ h => nomatch h) ?_
              refine t_R_join hC hs5 hp ?_
              refine ow_next_v ?_
              refine aw_aload_n d_R_connect_73 rfl ?_
              refine aw_iload_n d_R_connect_74 rfl ?_
              refine aw_iconst (v := 0) d_R_connect_75 (by decide) ?_
              refine aw_cV2 (d' := (1, 14)) d_R_connect_76 lk_R_111 cd_R_comeTo (Nat.le_of_ble_eq_true rfl) rfl rfl ⟨Nat.le_of_ble_eq_true rfl, Nat.le_of_ble_eq_true rfl⟩ (fun _ h => nomatch h) ?_
              refine t_R_comeTo (hC.put hs5 (co_plc hC hs5)) hp ?_
              refine ow_next_v ?_
              refine aw_vret d_R_connect_79 rfl ?_
              exact ((hq.2 s hs rfl).2 p hp ep).2.2.2 k3 (by grind) (by grind) k4
            · refine ow_next_x ?_
              exact ((hq.2 s hs rfl).2 p hp ep).2.2.1 k3 (by grind) (by grind) k4
          · refine aw_throw (text := "it cannot become a member") hl th_R_1 (by decide +kernel) (fun _ h => nomatch h) d_R_connect_49 d_R_connect_52 d_R_connect_53 d_R_connect_55 d_R_connect_58 ⟨by decide, Nat.le_of_ble_eq_true rfl⟩ rfl ?_
            exact ((hq.2 s hs rfl).2 p hp ep).2.1 k3 (by grind)
  · refine ow_next_x ?_
    exact hq.1 k1
theorem t_R_disconnect (hl : l.stackTraces = false) (hC : CI M tc sc) (hP : ∀ s, s < 5 → POK M s) {x : Int32}  (hq : C_disconnect M sc x (fun k M' => Q (.inr k) (mm M' K b)) (fun M' => Q (.inl none) (mm M' K (b + 1)))) : MT l Y_R_disconnect (7, 95) [.ref 0, .int x] (mm M K (b + 1)) Q := by
  refine mt_of (k := 1) (by decide) cd_R_disconnect.1 (by simp [Value.category]) rfl ?_
  refine aw_aload_n d_R_disconnect_0 rfl ?_
  refine aw_iload_n d_R_disconnect_1 rfl ?_
  refine aw_cV1 (d' := (6, 82)) d_R_disconnect_2 lk_R_133 cd_R_requireSet (Nat.le_of_ble_eq_true rfl) rfl rfl ⟨Nat.le_of_ble_eq_true rfl, Nat.le_of_ble_eq_true rfl⟩ (fun _ h => nomatch h) ?_
  refine t_R_requireSet hl (fun k1 => ?_) (fun k1 => ?_)
  · obtain ⟨s, hs, rfl⟩ := nI_ix (n := sc) k1.1 (by rw [← hC.sc]; exact k1.2) (by have := hC.s5; omega)
    have hs5 : s < 5 := by have := hC.s5; omega
    refine ow_next_v ?_
    refine aw_aload_n d_R_disconnect_5 rfl ?_
    refine aw_cV0 (d' := (6, 82)) d_R_disconnect_6 lk_R_175 cd_R_requireRunRecord (Nat.le_of_ble_eq_true rfl) rfl rfl ⟨Nat.le_of_ble_eq_true rfl, Nat.le_of_ble_eq_true rfl⟩ (fun _ h => nomatch h) ?_
    refine t_R_requireRunRecord hl (fun k2 => ?_) (fun k2 => ?_)
    · refine ow_next_x ?_
      exact (hq.2 s hs rfl).1 k2
    · obtain ⟨p, hp, ep⟩ := hC.run.resolve_left k2
      rw [ep]
      refine ow_next_i ?_
      refine aw_istore_n d_R_disconnect_9 (by decide) ?_
      refine aw_aload_n d_R_disconnect_10 rfl ?_
      refine mm_getr (t := 7) f_R_19 d_R_disconnect_11 (by decide) rfl rfl rfl ?_
      refine aw_iload_n d_R_disconnect_14 rfl ?_
      refine aw_iload_n d_R_disconnect_15 rfl ?_
      refine aw_cV2 (d' := (0, 0)) d_R_disconnect_16 lk_R_193 cd_B_isMember (Nat.le_of_ble_eq_true rfl) rfl rfl ⟨Nat.le_of_ble_eq_true rfl, Nat.le_of_ble_eq_true rfl⟩ (fun _ h => nomatch h) ?_
      refine t_B_isMember hs5 hp ?_
      refine ow_next_i ?_
      refine aw_if_eq (tgt := 34) d_R_disconnect_19 rfl (fun g19 => ?_) (fun g19 => ?_)
      · refine aw_throw (text := "it cannot leave") hl th_R_1 (by decide +kernel) (fun _ h => nomatch h) d_R_disconnect_34 d_R_disconnect_37 d_R_disconnect_38 d_R_disconnect_40 d_R_disconnect_43 ⟨by decide, Nat.le_of_ble_eq_true rfl⟩ rfl ?_
        exact ((hq.2 s hs rfl).2 p hp ep).1 (by grind)
      · refine aw_aload_n d_R_disconnect_22 rfl ?_
        refine mm_getr (t := 1) f_R_10 d_R_disconnect_23 (by decide) rfl rfl rfl ?_
        refine aw_iload_n d_R_disconnect_26 rfl ?_
        refine aw_cV1 (d' := (0, 0)) d_R_disconnect_27 lk_R_201 cd_P_hold (Nat.le_of_ble_eq_true rfl) rfl rfl ⟨Nat.le_of_ble_eq_true rfl, Nat.le_of_ble_eq_true rfl⟩ (fun _ h => nomatch h) ?_
        refine t_P_hold hs5 ?_
        refine ow_next_i ?_
        refine aw_iconst (v := 2) d_R_disconnect_30 (by decide) ?_
        refine aw_icmp_eq (tgt := 44) d_R_disconnect_31 rfl (fun g31 => ?_) (fun g31 => ?_)
        · refine aw_aload_n d_R_disconnect_44 rfl ?_
          refine aw_iload_n d_R_disconnect_45 rfl ?_
          refine aw_iconst (v := 1) d_R_disconnect_46 (by decide) ?_
          refine aw_iload_n d_R_disconnect_47 rfl ?_
          refine aw_ishl d_R_disconnect_48 ?_
          refine aw_cV2 (d' := (1, 18)) d_R_disconnect_49 lk_R_206 cd_R_stepBack (Nat.le_of_ble_eq_true rfl) rfl rfl ⟨Nat.le_of_ble_eq_true rfl, Nat.le_of_ble_eq_true rfl⟩ (fun _ h => nomatch h) ?_
          refine t_R_stepBack hC hs5 (hP s hs5) ?_
          refine ow_next_v ?_
          refine aw_aload_n d_R_disconnect_52 rfl ?_
          refine mm_getr (t := 7) f_R_19 d_R_disconnect_53 (by decide) rfl rfl rfl ?_
          refine aw_iload_n d_R_disconnect_56 rfl ?_
          refine aw_iload_n d_R_disconnect_57 rfl ?_
          refine aw_cV2 (d' := (1, 17)) d_R_disconnect_58 lk_R_209 cd_B_takeOut (Nat.le_of_ble_eq_true rfl) rfl rfl ⟨Nat.le_of_ble_eq_true rfl, Nat.le_of_ble_eq_true rfl⟩ (fun _ h => nomatch h) ?_
          refine t_B_takeOut hs5 hp ?_
          refine ow_next_v ?_
          refine aw_vret d_R_disconnect_61 rfl ?_
          exact ((hq.2 s hs rfl).2 p hp ep).2 (by grind) (by grind)
        · refine aw_throw (text := "it cannot leave") hl th_R_1 (by decide +kernel) (fun _ h => nomatch h) d_R_disconnect_34 d_R_disconnect_37 d_R_disconnect_38 d_R_disconnect_40 d_R_disconnect_43 ⟨by decide, Nat.le_of_ble_eq_true rfl⟩ rfl ?_
          exact ((hq.2 s hs rfl).2 p hp ep).1 (by grind)
  · refine ow_next_x ?_
    exact hq.1 k1
theorem t_R_reconnect (hl : l.stackTraces = false) (hC : CI M tc sc) {x : Int32}  (hq : C_reconnect M sc x (fun k M' => Q (.inr k) (mm M' K b)) (fun M' => Q (.inl none) (mm M' K (b + 1)))) : MT l Y_R_reconnect (8, 113) [.ref 0, .int x] (mm M K (b + 1)) Q := by
  refine mt_of (k := 2) (by decide) cd_R_reconnect.1 (by simp [Value.category]) rfl ?_
  refine aw_aload_n d_R_reconnect_0 rfl ?_
  refine aw_iload_n d_R_reconnect_1 rfl ?_
  refine aw_cV1 (d' := (6, 82)) d_R_reconnect_2 lk_R_133 cd_R_requireSet (Nat.le_of_ble_eq_true rfl) rfl rfl ⟨Nat.le_of_ble_eq_true rfl, Nat.le_of_ble_eq_true rfl⟩ (fun _ h => nomatch h) ?_
  refine t_R_requireSet hl (fun k1 => ?_) (fun k1 => ?_)
  · obtain ⟨s, hs, rfl⟩ := nI_ix (n := sc) k1.1 (by rw [← hC.sc]; exact k1.2) (by have := hC.s5; omega)
    have hs5 : s < 5 := by have := hC.s5; omega
    refine ow_next_v ?_
    refine aw_aload_n d_R_reconnect_5 rfl ?_
    refine aw_cV0 (d' := (6, 82)) d_R_reconnect_6 lk_R_175 cd_R_requireRunRecord (Nat.le_of_ble_eq_true rfl) rfl rfl ⟨Nat.le_of_ble_eq_true rfl, Nat.le_of_ble_eq_true rfl⟩ (fun _ h => nomatch h) ?_
    refine t_R_requireRunRecord hl (fun k2 => ?_) (fun k2 => ?_)
    · refine ow_next_x ?_
      exact (hq.2 s hs rfl).1 k2
    · obtain ⟨p, hp, ep⟩ := hC.run.resolve_left k2
      rw [ep]
      refine ow_next_i ?_
      refine aw_istore_n d_R_reconnect_9 (by decide) ?_
      refine aw_aload_n d_R_reconnect_10 rfl ?_
      refine aw_iload_n d_R_reconnect_11 rfl ?_
      refine aw_cV1 (d' := (6, 82)) d_R_reconnect_12 lk_R_147 cd_R_requireCurrentOwner (Nat.le_of_ble_eq_true rfl) rfl rfl ⟨Nat.le_of_ble_eq_true rfl, Nat.le_of_ble_eq_true rfl⟩ (fun _ h => nomatch h) ?_
      refine t_R_requireCurrentOwner hl hC hs5 (fun k3 => ?_) (fun k3 => ?_)
      · refine ow_next_x ?_
        exact ((hq.2 s hs rfl).2 p hp ep).1 k3
      · refine ow_next_i ?_
        refine aw_istore_n d_R_reconnect_15 (by decide) ?_
        refine aw_aload_n d_R_reconnect_16 rfl ?_
        refine mm_getr (t := 7) f_R_19 d_R_reconnect_17 (by decide) rfl rfl rfl ?_
        refine aw_iload_n d_R_reconnect_20 rfl ?_
        refine aw_iload_n d_R_reconnect_21 rfl ?_
        refine aw_cV2 (d' := (0, 0)) d_R_reconnect_22 lk_R_193 cd_B_isMember (Nat.le_of_ble_eq_true rfl) rfl rfl ⟨Nat.le_of_ble_eq_true rfl, Nat.le_of_ble_eq_true rfl⟩ (fun _ h => nomatch h) ?_
        refine t_B_isMember hs5 hp ?_
        refine ow_next_i ?_
        refine aw_if_eq (tgt := 39) d_R_reconnect_25 rfl (fun g25 => ?_) (fun g25 => ?_)
        · refine aw_throw (text := "it cannot change its ring") hl th_R_1 (by decide +kernel) (fun _ h => nomatch h) d_R_reconnect_39 d_R_reconnect_42 d_R_reconnect_43 d_R_reconnect_45 d_R_reconnect_48 ⟨by decide, Nat.le_of_ble_eq_true rfl⟩ rfl ?_
          exact ((hq.2 s hs rfl).2 p hp ep).2.1 k3 (by grind)
        · refine aw_aload_n d_R_reconnect_28 rfl ?_
          refine mm_getr (t := 1) f_R_10 d_R_reconnect_29 (by decide) rfl rfl rfl ?_
          refine aw_iload_n d_R_reconnect_32 rfl ?_
          refine aw_cV1 (d' := (0, 0)) d_R_reconnect_33 lk_R_201 cd_P_hold (Nat.le_of_ble_eq_true rfl) rfl rfl ⟨Nat.le_of_ble_eq_true rfl, Nat.le_of_ble_eq_true rfl⟩ (fun _ h => nomatch h) ?_
          refine t_P_hold hs5 ?_
          refine ow_next_i ?_
          refine aw_if_ne (tgt := 49) d_R_reconnect_36 rfl (fun g36 => ?_) (fun g36 => ?_)
          · refine aw_aload_n d_R_reconnect_49 rfl ?_
            refine aw_iload_n d_R_reconnect_50 rfl ?_
            refine aw_iload_n d_R_reconnect_51 rfl ?_
            refine aw_iload_n d_R_reconnect_52 rfl ?_
            refine aw_cV3 (d' := (7, 98)) d_R_reconnect_53 lk_R_198 cd_R_requireNoRefusal (Nat.le_of_ble_eq_true rfl) rfl rfl ⟨Nat.le_of_ble_eq_true rfl, Nat.le_of_ble_eq_true rfl⟩ (fun _ h => nomatch h) ?_
            refine t_R_requireNoRefusal hl hC hs5 hp (fun k4 => ?_) (fun k4 => ?_)
            · refine ow_next_v ?_
              refine aw_aload_n d_R_reconnect_56 rfl ?_
              refine mm_getr (t := 7) f_R_19 d_R_reconnect_57 (by decide) rfl rfl rfl ?_
              refine aw_iload_n d_R_reconnect_60 rfl ?_
              refine aw_iload_n d_R_reconnect_61 rfl ?_
              refine aw_cV2 (d' := (1, 17)) d_R_reconnect_62 lk_R_209 cd_B_takeOut (Nat.le_of_ble_eq_true rfl) rfl rfl ⟨Nat.le_of_ble_eq_true rfl, Nat.le_of_ble_eq_true rfl⟩ (fun _ h => nomatch h) ?_
              refine t_B_takeOut hs5 hp ?_
              refine ow_next_v ?_
              refine aw_aload_n d_R_reconnect_65 rfl ?_
              refine aw_iload_n d_R_reconnect_66 rfl ?_
              refine aw_iload_n d_R_reconnect_67 rfl ?_
              refine aw_iload_n d_R_reconnect_68 rfl ?_
              refine aw_cV3 (d' := (3, 56)) d_R_reconnect_69 lk_R_107 cd_R_join (Nat.le_of_ble_eq_true rfl) rfl rfl ⟨Nat.le_of_ble_eq_true rfl, Nat.le_of_ble_eq_true rfl⟩ (fun _ h => nomatch h) ?_
              refine t_R_join (hC.tak hs5) hs5 hp ?_
              refine ow_next_v ?_
              refine aw_aload_n d_R_reconnect_72 rfl ?_
              refine aw_iload_n d_R_reconnect_73 rfl ?_
              refine aw_iconst (v := 0) d_R_reconnect_74 (by decide) ?_
              refine aw_cV2 (d' := (1, 14)) d_R_reconnect_75 lk_R_111 cd_R_comeTo (Nat.le_of_ble_eq_true rfl) rfl rfl ⟨Nat.le_of_ble_eq_true rfl, Nat.le_of_ble_eq_true rfl⟩ (fun _ h => nomatch h) ?_
              refine t_R_comeTo ((hC.tak hs5).put hs5 (co_plc hC hs5)) hp ?_
              refine ow_next_v ?_
              refine aw_vret d_R_reconnect_78 rfl ?_
              exact ((hq.2 s hs rfl).2 p hp ep).2.2.2 k3 (by grind) (by grind) k4
            · refine ow_next_x ?_
              exact ((hq.2 s hs rfl).2 p hp ep).2.2.1 k3 (by grind) (by grind) k4
          · refine aw_throw (text := "it cannot change its ring") hl th_R_1 (by decide +kernel) (fun _ h => nomatch h) d_R_reconnect_39 d_R_reconnect_42 d_R_reconnect_43 d_R_reconnect_45 d_R_reconnect_48 ⟨by decide, Nat.le_of_ble_eq_true rfl⟩ rfl ?_
            exact ((hq.2 s hs rfl).2 p hp ep).2.1 k3 (by grind)
  · refine ow_next_x ?_
    exact hq.1 k1
theorem t_R_erase (hl : l.stackTraces = false) (hC : CI M tc sc) (hP : ∀ s, s < 5 → POK M s) {m : Int32}  (hq : C_erase M tc sc m (fun k M' => Q (.inr k) (mm M' K b)) (fun r M' => Q (.inl (some r)) (mm M' K (b + 1)))) : MT l Y_R_erase (7, 94) [.ref 0, .int m] (mm M K (b + 1)) Q := by
  refine mt_of (k := 2) (by decide) cd_R_erase.1 (by simp [Value.category]) rfl ?_
  refine aw_iload_n d_R_erase_0 rfl ?_
  refine aw_if_lt (tgt := 9) d_R_erase_1 rfl (fun g1 => ?_) (fun g1 => ?_)
  · refine aw_throw (text := "no such mode") hl th_R_0 (by decide +kernel) (fun _ h => nomatch h) d_R_erase_9 d_R_erase_12 d_R_erase_13 d_R_erase_15 d_R_erase_18 ⟨by decide, Nat.le_of_ble_eq_true rfl⟩ rfl ?_
    exact hq.1 (by grind)
  · refine aw_iload_n d_R_erase_4 rfl ?_
    refine aw_iconst (v := 3) d_R_erase_5 (by decide) ?_
    refine aw_icmp_le (tgt := 19) d_R_erase_6 rfl (fun g6 => ?_) (fun g6 => ?_)
    · refine aw_aload_n d_R_erase_19 rfl ?_
      refine aw_cV0 (d' := (6, 82)) d_R_erase_20 lk_R_175 cd_R_requireRunRecord (Nat.le_of_ble_eq_true rfl) rfl rfl ⟨Nat.le_of_ble_eq_true rfl, Nat.le_of_ble_eq_true rfl⟩ (fun _ h => nomatch h) ?_
      refine t_R_requireRunRecord hl (fun k2 => ?_) (fun k2 => ?_)
      · refine ow_next_x ?_
        exact (hq.2 (by grind) (by grind)).1 k2
      · obtain ⟨p, hp, ep⟩ := hC.run.resolve_left k2
        rw [ep]
        refine ow_next_i ?_
        refine aw_istore_n d_R_erase_23 (by decide) ?_
        refine aw_aload_n d_R_erase_24 rfl ?_
        refine aw_iload_n d_R_erase_25 rfl ?_
        refine aw_iload_n d_R_erase_26 rfl ?_
        refine aw_cV2 (d' := (2, 30)) d_R_erase_27 lk_R_216 cd_R_allThatGo (Nat.le_of_ble_eq_true rfl) rfl rfl ⟨Nat.le_of_ble_eq_true rfl, Nat.le_of_ble_eq_true rfl⟩ (fun _ h => nomatch h) ?_
        refine t_R_allThatGo hC hp ?_
        refine ow_next_i ?_
        refine aw_istore_n d_R_erase_30 (by decide) ?_
        refine aw_iload_n d_R_erase_31 rfl ?_
        refine aw_if_ne (tgt := 53) d_R_erase_32 rfl (fun g32 => ?_) (fun g32 => ?_)
        · refine aw_iload_n d_R_erase_53 rfl ?_
          refine aw_iconst (v := 1) d_R_erase_54 (by decide) ?_
          refine aw_icmp_ne (tgt := 76) d_R_erase_55 rfl (fun g55 => ?_) (fun g55 => ?_)
          · refine aw_aload_n d_R_erase_76 rfl ?_
            refine aw_iload_n d_R_erase_77 rfl ?_
            refine aw_cV1 (d' := (2, 34)) d_R_erase_78 lk_R_229 cd_R_standWithout (Nat.le_of_ble_eq_true rfl) rfl rfl ⟨Nat.le_of_ble_eq_true rfl, Nat.le_of_ble_eq_true rfl⟩ (fun _ h => nomatch h) ?_
            refine t_R_standWithout hC hP ?_
            refine ow_next_v ?_
            refine aw_aload_n d_R_erase_81 rfl ?_
            refine aw_iload_n d_R_erase_82 rfl ?_
            refine aw_cV1 (d' := (2, 33)) d_R_erase_83 lk_R_232 cd_R_removeAll (Nat.le_of_ble_eq_true rfl) rfl rfl ⟨Nat.le_of_ble_eq_true rfl, Nat.le_of_ble_eq_true rfl⟩ (fun _ h => nomatch h) ?_
            refine t_R_removeAll hC.kW ?_
            refine ow_next_v ?_
            refine aw_iload_n d_R_erase_86 rfl ?_
            refine aw_cS1 (d' := (0, 0)) d_R_erase_87 lk_R_235 cd_I_bitCount ⟨Nat.le_of_ble_eq_true rfl, Nat.le_of_ble_eq_true rfl⟩ (fun _ h => nomatch h) ?_
            refine t_I_bitCount ?_
            refine ow_next_i ?_
            refine aw_iret d_R_erase_90 rfl rfl ?_
            exact ((hq.2 (by grind) (by grind)).2 p hp ep).2.2 (fun hm => by first | exact k5 | exact absurd hm g32) (fun hm => by first | exact k6 | exact absurd hm g55)
          · refine aw_aload_n d_R_erase_58 rfl ?_
            refine aw_iload_n d_R_erase_59 rfl ?_
            refine aw_cV1 (d' := (2, 29)) d_R_erase_60 lk_R_224 cd_R_boundOneWouldStay (Nat.le_of_ble_eq_true rfl) rfl rfl ⟨Nat.le_of_ble_eq_true rfl, Nat.le_of_ble_eq_true rfl⟩ (fun _ h => nomatch h) ?_
            refine t_R_boundOneWouldStay hC (fun k6 => ?_) (fun k6 => ?_)
            · refine ow_next_i ?_
              refine aw_if_eq (tgt := 76) d_R_erase_63 rfl (fun g63 => ?_) (fun g63 => ?_)
              · refine aw_aload_n d_R_erase_76 rfl ?_
                refine aw_iload_n d_R_erase_77 rfl ?_
                refine aw_cV1 (d' := (2, 34)) d_R_erase_78 lk_R_229 cd_R_standWithout (Nat.le_of_ble_eq_true rfl) rfl rfl ⟨Nat.le_of_ble_eq_true rfl, Nat.le_of_ble_eq_true rfl⟩ (fun _ h => nomatch h) ?_
                refine t_R_standWithout hC hP ?_
                refine ow_next_v ?_
                refine aw_aload_n d_R_erase_81 rfl ?_
                refine aw_iload_n d_R_erase_82 rfl ?_
                refine aw_cV1 (d' := (2, 33)) d_R_erase_83 lk_R_232 cd_R_removeAll (Nat.le_of_ble_eq_true rfl) rfl rfl ⟨Nat.le_of_ble_eq_true rfl, Nat.le_of_ble_eq_true rfl⟩ (fun _ h => nomatch h) ?_
                refine t_R_removeAll hC.kW ?_
                refine ow_next_v ?_
                refine aw_iload_n d_R_erase_86 rfl ?_
                refine aw_cS1 (d' := (0, 0)) d_R_erase_87 lk_R_235 cd_I_bitCount ⟨Nat.le_of_ble_eq_true rfl, Nat.le_of_ble_eq_true rfl⟩ (fun _ h => nomatch h) ?_
                refine t_I_bitCount ?_
                refine ow_next_i ?_
                refine aw_iret d_R_erase_90 rfl rfl ?_
                exact ((hq.2 (by grind) (by grind)).2 p hp ep).2.2 (fun hm => by first | exact k5 | exact absurd hm g32) (fun hm => by first | exact k6 | exact absurd hm g55)
              · exact absurd rfl g63
            · refine ow_next_i ?_
              refine aw_if_eq (tgt := 76) d_R_erase_63 rfl (fun g63 => ?_) (fun g63 => ?_)
              · exact absurd g63 (by decide)
              · refine aw_throw (text := "a bound member would be without a ring") hl th_R_1 (by decide +kernel) (fun _ h => nomatch h) d_R_erase_66 d_R_erase_69 d_R_erase_70 d_R_erase_72 d_R_erase_75 ⟨by decide, Nat.le_of_ble_eq_true rfl⟩ rfl ?_
                exact ((hq.2 (by grind) (by grind)).2 p hp ep).2.1 (by grind) k6
        · refine aw_aload_n d_R_erase_35 rfl ?_
          refine aw_iload_n d_R_erase_36 rfl ?_
          refine aw_cV1 (d' := (1, 16)) d_R_erase_37 lk_R_219 cd_R_ownsMembers (Nat.le_of_ble_eq_true rfl) rfl rfl ⟨Nat.le_of_ble_eq_true rfl, Nat.le_of_ble_eq_true rfl⟩ (fun _ h => nomatch h) ?_
          refine t_R_ownsMembers hC (fun k5 => ?_) (fun k5 => ?_)
          · refine ow_next_i ?_
            refine aw_if_eq (tgt := 53) d_R_erase_40 rfl (fun g40 => ?_) (fun g40 => ?_)
            · refine aw_iload_n d_R_erase_53 rfl ?_
              refine aw_iconst (v := 1) d_R_erase_54 (by decide) ?_
              refine aw_icmp_ne (tgt := 76) d_R_erase_55 rfl (fun g55 => ?_) (fun g55 => ?_)
              · refine aw_aload_n d_R_erase_76 rfl ?_
                refine aw_iload_n d_R_erase_77 rfl ?_
                refine aw_cV1 (d' := (2, 34)) d_R_erase_78 lk_R_229 cd_R_standWithout (Nat.le_of_ble_eq_true rfl) rfl rfl ⟨Nat.le_of_ble_eq_true rfl, Nat.le_of_ble_eq_true rfl⟩ (fun _ h => nomatch h) ?_
                refine t_R_standWithout hC hP ?_
                refine ow_next_v ?_
                refine aw_aload_n d_R_erase_81 rfl ?_
                refine aw_iload_n d_R_erase_82 rfl ?_
                refine aw_cV1 (d' := (2, 33)) d_R_erase_83 lk_R_232 cd_R_removeAll (Nat.le_of_ble_eq_true rfl) rfl rfl ⟨Nat.le_of_ble_eq_true rfl, Nat.le_of_ble_eq_true rfl⟩ (fun _ h => nomatch h) ?_
                refine t_R_removeAll hC.kW ?_
                refine ow_next_v ?_
                refine aw_iload_n d_R_erase_86 rfl ?_
                refine aw_cS1 (d' := (0, 0)) d_R_erase_87 lk_R_235 cd_I_bitCount ⟨Nat.le_of_ble_eq_true rfl, Nat.le_of_ble_eq_true rfl⟩ (fun _ h => nomatch h) ?_
                refine t_I_bitCount ?_
                refine ow_next_i ?_
                refine aw_iret d_R_erase_90 rfl rfl ?_
                exact ((hq.2 (by grind) (by grind)).2 p hp ep).2.2 (fun hm => by first | exact k5 | exact absurd hm g32) (fun hm => by first | exact k6 | exact absurd hm g55)
              · refine aw_aload_n d_R_erase_58 rfl ?_
                refine aw_iload_n d_R_erase_59 rfl ?_
                refine aw_cV1 (d' := (2, 29)) d_R_erase_60 lk_R_224 cd_R_boundOneWouldStay (Nat.le_of_ble_eq_true rfl) rfl rfl ⟨Nat.le_of_ble_eq_true rfl, Nat.le_of_ble_eq_true rfl⟩ (fun _ h => nomatch h) ?_
                refine t_R_boundOneWouldStay hC (fun k6 => ?_) (fun k6 => ?_)
                · refine ow_next_i ?_
                  refine aw_if_eq (tgt := 76) d_R_erase_63 rfl (fun g63 => ?_) (fun g63 => ?_)
                  · refine aw_aload_n d_R_erase_76 rfl ?_
                    refine aw_iload_n d_R_erase_77 rfl ?_
                    refine aw_cV1 (d' := (2, 34)) d_R_erase_78 lk_R_229 cd_R_standWithout (Nat.le_of_ble_eq_true rfl) rfl rfl ⟨Nat.le_of_ble_eq_true rfl, Nat.le_of_ble_eq_true rfl⟩ (fun _ h => nomatch h) ?_
                    refine t_R_standWithout hC hP ?_
                    refine ow_next_v ?_
                    refine aw_aload_n d_R_erase_81 rfl ?_
                    refine aw_iload_n d_R_erase_82 rfl ?_
                    refine aw_cV1 (d' := (2, 33)) d_R_erase_83 lk_R_232 cd_R_removeAll (Nat.le_of_ble_eq_true rfl) rfl rfl ⟨Nat.le_of_ble_eq_true rfl, Nat.le_of_ble_eq_true rfl⟩ (fun _ h => nomatch h) ?_
                    refine t_R_removeAll hC.kW ?_
                    refine ow_next_v ?_
                    refine aw_iload_n d_R_erase_86 rfl ?_
                    refine aw_cS1 (d' := (0, 0)) d_R_erase_87 lk_R_235 cd_I_bitCount ⟨Nat.le_of_ble_eq_true rfl, Nat.le_of_ble_eq_true rfl⟩ (fun _ h => nomatch h) ?_
                    refine t_I_bitCount ?_
                    refine ow_next_i ?_
                    refine aw_iret d_R_erase_90 rfl rfl ?_
                    exact ((hq.2 (by grind) (by grind)).2 p hp ep).2.2 (fun hm => by first | exact k5 | exact absurd hm g32) (fun hm => by first | exact k6 | exact absurd hm g55)
                  · exact absurd rfl g63
                · refine ow_next_i ?_
                  refine aw_if_eq (tgt := 76) d_R_erase_63 rfl (fun g63 => ?_) (fun g63 => ?_)
                  · exact absurd g63 (by decide)
                  · refine aw_throw (text := "a bound member would be without a ring") hl th_R_1 (by decide +kernel) (fun _ h => nomatch h) d_R_erase_66 d_R_erase_69 d_R_erase_70 d_R_erase_72 d_R_erase_75 ⟨by decide, Nat.le_of_ble_eq_true rfl⟩ rfl ?_
                    exact ((hq.2 (by grind) (by grind)).2 p hp ep).2.1 (by grind) k6
            · exact absurd rfl g40
          · refine ow_next_i ?_
            refine aw_if_eq (tgt := 53) d_R_erase_40 rfl (fun g40 => ?_) (fun g40 => ?_)
            · exact absurd g40 (by decide)
            · refine aw_throw (text := "it owns members") hl th_R_1 (by decide +kernel) (fun _ h => nomatch h) d_R_erase_43 d_R_erase_46 d_R_erase_47 d_R_erase_49 d_R_erase_52 ⟨by decide, Nat.le_of_ble_eq_true rfl⟩ rfl ?_
              exact ((hq.2 (by grind) (by grind)).2 p hp ep).1 (by grind) k5
    · refine aw_throw (text := "no such mode") hl th_R_0 (by decide +kernel) (fun _ h => nomatch h) d_R_erase_9 d_R_erase_12 d_R_erase_13 d_R_erase_15 d_R_erase_18 ⟨by decide, Nat.le_of_ble_eq_true rfl⟩ rfl ?_
      exact hq.1 (by grind)
theorem t_R_members (hl : l.stackTraces = false) (hC : CI M tc sc) {x : Int32}  (hq : C_members M sc x (fun k M' => Q (.inr k) (mm M' K b)) (fun r M' => Q (.inl (some r)) (mm M' K (b + 1)))) : MT l Y_R_members (7, 98) [.ref 0, .int x] (mm M K (b + 1)) Q := by
  refine mt_of (k := 0) (by decide) cd_R_members.1 (by simp [Value.category]) rfl ?_
  refine aw_aload_n d_R_members_0 rfl ?_
  refine aw_iload_n d_R_members_1 rfl ?_
  refine aw_cV1 (d' := (6, 82)) d_R_members_2 lk_R_133 cd_R_requireSet (Nat.le_of_ble_eq_true rfl) rfl rfl ⟨Nat.le_of_ble_eq_true rfl, Nat.le_of_ble_eq_true rfl⟩ (fun _ h => nomatch h) ?_
  refine t_R_requireSet hl (fun k1 => ?_) (fun k1 => ?_)
  · obtain ⟨s, hs, rfl⟩ := nI_ix (n := sc) k1.1 (by rw [← hC.sc]; exact k1.2) (by have := hC.s5; omega)
    have hs5 : s < 5 := by have := hC.s5; omega
    refine ow_next_v ?_
    refine aw_aload_n d_R_members_5 rfl ?_
    refine mm_getr (t := 7) f_R_19 d_R_members_6 (by decide) rfl rfl rfl ?_
    refine aw_iload_n d_R_members_9 rfl ?_
    refine aw_aload_n d_R_members_10 rfl ?_
    refine aw_iload_n d_R_members_11 rfl ?_
    refine aw_cV1 (d' := (6, 82)) d_R_members_12 lk_R_147 cd_R_requireCurrentOwner (Nat.le_of_ble_eq_true rfl) rfl rfl ⟨Nat.le_of_ble_eq_true rfl, Nat.le_of_ble_eq_true rfl⟩ (fun _ h => nomatch h) ?_
    refine t_R_requireCurrentOwner hl hC hs5 (fun k3 => ?_) (fun k3 => ?_)
    · refine ow_next_x ?_
      exact (hq.2 s hs rfl).1 k3
    · refine ow_next_i ?_
      refine aw_cV2 (d' := (0, 0)) d_R_members_15 lk_R_240 cd_B_ringSize (Nat.le_of_ble_eq_true rfl) rfl rfl ⟨Nat.le_of_ble_eq_true rfl, Nat.le_of_ble_eq_true rfl⟩ (fun _ h => nomatch h) ?_
      refine t_B_ringSize hs5 ?_
      refine ow_next_i ?_
      refine aw_iret d_R_members_18 rfl rfl ?_
      exact (hq.2 s hs rfl).2 k3
  · refine ow_next_x ?_
    exact hq.1 k1
theorem t_R_owner (hl : l.stackTraces = false) (hC : CI M tc sc) {x y : Int32}  (hq : C_owner M sc x y (fun k M' => Q (.inr k) (mm M' K b)) (fun r M' => Q (.inl (some r)) (mm M' K (b + 1)))) : MT l Y_R_owner (7, 98) [.ref 0, .int x, .int y] (mm M K (b + 1)) Q := by
  refine mt_of (k := 0) (by decide) cd_R_owner.1 (by simp [Value.category]) rfl ?_
  refine aw_aload_n d_R_owner_0 rfl ?_
  refine aw_iload_n d_R_owner_1 rfl ?_
  refine aw_cV1 (d' := (6, 82)) d_R_owner_2 lk_R_133 cd_R_requireSet (Nat.le_of_ble_eq_true rfl) rfl rfl ⟨Nat.le_of_ble_eq_true rfl, Nat.le_of_ble_eq_true rfl⟩ (fun _ h => nomatch h) ?_
  refine t_R_requireSet hl (fun k1 => ?_) (fun k1 => ?_)
  · obtain ⟨s, hs, rfl⟩ := nI_ix (n := sc) k1.1 (by rw [← hC.sc]; exact k1.2) (by have := hC.s5; omega)
    have hs5 : s < 5 := by have := hC.s5; omega
    refine ow_next_v ?_
    refine aw_aload_n d_R_owner_5 rfl ?_
    refine mm_getr (t := 7) f_R_19 d_R_owner_6 (by decide) rfl rfl rfl ?_
    refine aw_aload_n d_R_owner_9 rfl ?_
    refine mm_getr (t := 7) f_R_19 d_R_owner_10 (by decide) rfl rfl rfl ?_
    refine mm_getr (t := 14) f_R_243 d_R_owner_13 (by decide) rfl rfl rfl ?_
    refine aw_iload_n d_R_owner_16 rfl ?_
    refine mm_aald rfl d_R_owner_17 (by decide) rfl hs5 (by decide) (rF_own hs5) ?_
    refine aw_aload_n d_R_owner_18 rfl ?_
    refine aw_iload_n d_R_owner_19 rfl ?_
    refine aw_cV1 (d' := (6, 82)) d_R_owner_20 lk_R_118 cd_R_requireRecord (Nat.le_of_ble_eq_true rfl) rfl rfl ⟨Nat.le_of_ble_eq_true rfl, Nat.le_of_ble_eq_true rfl⟩ (fun _ h => nomatch h) ?_
    refine t_R_requireRecord hl (fun k1 => ?_) (fun k hk k1 k2 k3 => ?_)
    · refine ow_next_x ?_
      exact (hq.2 s hs rfl).1 k1
    · refine ow_next_i ?_
      refine mm_iald rfl d_R_owner_23 (by omega) (kd_own hs5) (by omega) (by decide) ?_
      refine aw_cV1 (d' := (0, 0)) d_R_owner_24 lk_R_164 cd_B_keyAt (Nat.le_of_ble_eq_true rfl) rfl rfl ⟨Nat.le_of_ble_eq_true rfl, Nat.le_of_ble_eq_true rfl⟩ (fun _ h => nomatch h) ?_
      refine t_B_keyAt (hC.own hs5 hk) ?_
      refine ow_next_i ?_
      refine aw_iret d_R_owner_27 rfl rfl ?_
      exact (hq.2 s hs rfl).2 k hk ⟨k1, k2⟩ k3
  · refine ow_next_x ?_
    exact hq.1 k1
/-- R_keep -/
theorem t_R_keep (hq : Q (.inl (some (M 7 0))) (mm (cp_keep M) K b)) : MT l Y_R_keep (2, 32) [.ref 0] (mm M K b) Q := by
  refine mt_of (k := 0) (by decide) cd_R_keep.1 (by simp [Value.category]) rfl ?_
  refine aw_aload_n d_R_keep_0 rfl ?_
  refine mm_getr (t := 26) f_R_23 d_R_keep_1 (by decide) rfl rfl rfl ?_
  refine aw_aload_n d_R_keep_4 rfl ?_
  refine mm_getr (t := 7) f_R_19 d_R_keep_5 (by decide) rfl rfl rfl ?_
  refine aw_cV1 (d' := (1, 18)) d_R_keep_8 lk_R_246 cd_B_copyFrom (Nat.le_of_ble_eq_true rfl) rfl rfl ⟨Nat.le_of_ble_eq_true rfl, Nat.le_of_ble_eq_true rfl⟩ (fun _ h => nomatch h) ?_
  refine t_B_copyFrom_keep ?_
  refine ow_next_v ?_
  refine aw_aload_n d_R_keep_11 rfl ?_
  refine mm_getr (t := 7) f_R_19 d_R_keep_12 (by decide) rfl rfl rfl ?_
  refine mm_geti f_R_250 d_R_keep_15 (by decide) rfl rfl ?_
  refine aw_iret d_R_keep_18 rfl rfl ?_
  refine q_val hq ?_
  simp [cp_keep, ow_cp, ow_u]
/-- R_rollBack -/
theorem t_R_rollBack (hq : Q (.inl (some (M 26 0))) (mm (clS (cp_back M)) K b)) : MT l Y_R_rollBack (2, 32) [.ref 0] (mm M K b) Q := by
  refine mt_of (k := 0) (by decide) cd_R_rollBack.1 (by simp [Value.category]) rfl ?_
  refine aw_aload_n d_R_rollBack_0 rfl ?_
  refine mm_getr (t := 7) f_R_19 d_R_rollBack_1 (by decide) rfl rfl rfl ?_
  refine aw_aload_n d_R_rollBack_4 rfl ?_
  refine mm_getr (t := 26) f_R_23 d_R_rollBack_5 (by decide) rfl rfl rfl ?_
  refine aw_cV1 (d' := (1, 18)) d_R_rollBack_8 lk_R_246 cd_B_copyFrom (Nat.le_of_ble_eq_true rfl) rfl rfl ⟨Nat.le_of_ble_eq_true rfl, Nat.le_of_ble_eq_true rfl⟩ (fun _ h => nomatch h) ?_
  refine t_B_copyFrom_back ?_
  refine ow_next_v ?_
  refine aw_aload_n d_R_rollBack_11 rfl ?_
  refine mm_getr (t := 45) f_R_29 d_R_rollBack_12 (by decide) rfl rfl rfl ?_
  refine aw_cV0 (d' := (0, 0)) d_R_rollBack_15 lk_R_253 cd_S_clear (Nat.le_of_ble_eq_true rfl) rfl rfl ⟨Nat.le_of_ble_eq_true rfl, Nat.le_of_ble_eq_true rfl⟩ (fun _ h => nomatch h) ?_
  refine t_S_clear ?_
  refine ow_next_v ?_
  refine aw_aload_n d_R_rollBack_18 rfl ?_
  refine mm_getr (t := 7) f_R_19 d_R_rollBack_19 (by decide) rfl rfl rfl ?_
  refine mm_geti f_R_250 d_R_rollBack_22 (by decide) rfl rfl ?_
  refine aw_iret d_R_rollBack_25 rfl rfl ?_
  refine q_val hq ?_
  simp [cp_back, ow_cp, ow_u, upd]
/-- R_count -/
theorem t_R_count (hq : Q (.inl (some (M 7 0))) (mm M K b)) : MT l Y_R_count (0, 0) [.ref 0] (mm M K b) Q := by
  refine mt_of (k := 0) (by decide) cd_R_count.1 (by simp [Value.category]) rfl ?_
  refine aw_aload_n d_R_count_0 rfl ?_
  refine mm_getr (t := 7) f_R_19 d_R_count_1 (by decide) rfl rfl rfl ?_
  refine mm_geti f_R_250 d_R_count_4 (by decide) rfl rfl ?_
  refine aw_iret d_R_count_7 rfl rfl ?_
  exact hq
theorem t_R_store (hl : l.stackTraces = false) (hC : CI M tc sc) {t x y z : Int32} (hq : C_store M sc t x y z (fun k M' => Q (.inr k) (mm M' K b)) (fun r M' => Q (.inl (some r)) (mm M' K (b + 1)))) : MT l Y_R_store (9, 128) [.ref 0, .int t, .int x, .int y, .int z] (mm M K (b + 1)) Q := by
  refine mt_of (k := 2) (by decide) cd_R_store.1 (by simp [Value.category]) rfl ?_
  obtain ⟨h0, h1, h2, h3⟩ := hq
  have lp : ∀ p, p < 24 → HT M t → Q (.inl (some (stM (wrf M p x y z) p t sc 8 p))) (mm (stM (wrf M p x y z) p t sc) K (b + 1)) → ∀ i, i ≤ sc → AW l Y_R_store none (9, 128) Q 89 [some (.ref 0), some (.int t), some (.int x), some (.int y), some (.int z), some (.int (nI p)), some (.int (nI i))] [] (mm (joS (ow_u (adr (wrf M p x y z) p t) 0 4 1) t p i) K (b + 1)) := by
    intro p hp hT hq
    obtain ⟨tt, htt, ett⟩ := nI_ix (n := tc) hT.1 (by rw [← hC.tc]; exact hT.2) (by have := hC.t4; omega)
    have hC2 := (hC.wr (p := p) (x := x) (y := y) (z := z)).ad (p := p) (t := t) ⟨tt, by have := hC.t4; omega, ett⟩
    refine loop_dn sc (fun i hi ih => ?_)
    have hi6 : i ≤ 5 := by have := hC.s5; omega
    have hCi := hC2.jo (t := t) (p := p) hi6
    refine aw_iload d_R_store_89 rfl ?_
    refine aw_aload_n d_R_store_91 rfl ?_
    refine mm_getr (t := 1) f_R_10 d_R_store_92 (by decide) rfl rfl rfl ?_
    refine mm_geti f_R_69 d_R_store_95 (by decide) rfl rfl ?_
    refine aw_icmp_ge (tgt := 134) d_R_store_98 rfl (fun g98 => ?_) (fun g98 => ?_)
    · have hi2 := ge_n (n := sc) hCi.sc hi (by have := hC.s5; omega) g98
      subst hi2
      refine aw_aload_n d_R_store_134 rfl ?_
      refine aw_iload d_R_store_135 rfl ?_
      refine aw_iconst (v := 0) d_R_store_137 (by decide) ?_
      refine aw_cV2 (d' := (1, 14)) d_R_store_138 lk_R_111 cd_R_comeTo (Nat.le_of_ble_eq_true rfl) rfl rfl ⟨Nat.le_of_ble_eq_true rfl, Nat.le_of_ble_eq_true rfl⟩ (fun _ h => nomatch h) ?_
      refine t_R_comeTo hCi hp ?_
      refine ow_next_v ?_
      refine aw_aload_n d_R_store_141 rfl ?_
      refine mm_getr (t := 7) f_R_19 d_R_store_142 (by decide) rfl rfl rfl ?_
      refine mm_getr (t := 8) f_R_114 d_R_store_145 (by decide) rfl rfl rfl ?_
      refine aw_iload d_R_store_148 rfl ?_
      refine mm_iald rfl d_R_store_150 (by decide) rfl (by omega) (by decide) ?_
      refine aw_iret d_R_store_151 rfl rfl ?_
      exact hq
    · have hi2 := lt_n (n := sc) hCi.sc hi (by have := hC.s5; omega) g98
      have hi5 : i < 5 := by have := hC.s5; omega
      refine aw_aload_n d_R_store_101 rfl ?_
      refine mm_getr (t := 1) f_R_10 d_R_store_102 (by decide) rfl rfl rfl ?_
      refine aw_iload d_R_store_105 rfl ?_
      refine aw_iload_n d_R_store_107 rfl ?_
      refine aw_cV2 (d' := (0, 0)) d_R_store_108 lk_R_101 cd_P_joinsWhenStored (Nat.le_of_ble_eq_true rfl) rfl rfl ⟨Nat.le_of_ble_eq_true rfl, Nat.le_of_ble_eq_true rfl⟩ (fun _ h => nomatch h) ?_
      refine t_P_joinsWhenStored hi5 ?_
      refine ow_next_i ?_
      refine aw_if_eq (tgt := 128) d_R_store_111 rfl (fun g111 => ?_) (fun g111 => ?_)
      · refine aw_iinc (v := nI (i + 1)) d_R_store_128 rfl (nI_succ i).symm (by decide) ?_
        refine aw_goto (tgt := 89) d_R_store_131 rfl ?_
        first
          | (rw [show joS (ow_u (adr (wrf M p x y z) p t) 0 4 1) t p (i + 1) = joS (ow_u (adr (wrf M p x y z) p t) 0 4 1) t p i from by simp only [joS]; rw [if_neg (by grind)]] at ih; exact ih hi2)
          | (rw [show joS (ow_u (adr (wrf M p x y z) p t) 0 4 1) t p (i + 1) = jonM (joS (ow_u (adr (wrf M p x y z) p t) 0 4 1) t p i) i p (co (joS (ow_u (adr (wrf M p x y z) p t) 0 4 1) t p i) i) from by simp only [joS]; rw [if_pos (by grind)]] at ih; exact ih hi2)
      · refine aw_aload_n d_R_store_114 rfl ?_
        refine aw_iload d_R_store_115 rfl ?_
        refine aw_iload d_R_store_117 rfl ?_
        refine aw_aload_n d_R_store_119 rfl ?_
        refine aw_iload d_R_store_120 rfl ?_
        refine aw_cV1 (d' := (0, 0)) d_R_store_122 lk_R_104 cd_R_currentOwner (Nat.le_of_ble_eq_true rfl) rfl rfl ⟨Nat.le_of_ble_eq_true rfl, Nat.le_of_ble_eq_true rfl⟩ (fun _ h => nomatch h) ?_
        refine t_R_currentOwner hCi hi5 ?_
        refine ow_next_i ?_
        refine aw_cV3 (d' := (3, 56)) d_R_store_125 lk_R_107 cd_R_join (Nat.le_of_ble_eq_true rfl) rfl rfl ⟨Nat.le_of_ble_eq_true rfl, Nat.le_of_ble_eq_true rfl⟩ (fun _ h => nomatch h) ?_
        refine t_R_join hCi hi5 hp ?_
        refine ow_next_v ?_
        refine aw_iinc (v := nI (i + 1)) d_R_store_128 rfl (nI_succ i).symm (by decide) ?_
        refine aw_goto (tgt := 89) d_R_store_131 rfl ?_
        first
          | (rw [show joS (ow_u (adr (wrf M p x y z) p t) 0 4 1) t p (i + 1) = joS (ow_u (adr (wrf M p x y z) p t) 0 4 1) t p i from by simp only [joS]; rw [if_neg (by grind)]] at ih; exact ih hi2)
          | (rw [show joS (ow_u (adr (wrf M p x y z) p t) 0 4 1) t p (i + 1) = jonM (joS (ow_u (adr (wrf M p x y z) p t) 0 4 1) t p i) i p (co (joS (ow_u (adr (wrf M p x y z) p t) 0 4 1) t p i) i) from by simp only [joS]; rw [if_pos (by grind)]] at ih; exact ih hi2)
  refine aw_aload_n d_R_store_0 rfl ?_
  refine mm_getr (t := 1) f_R_10 d_R_store_1 (by decide) rfl rfl rfl ?_
  refine aw_iload_n d_R_store_4 rfl ?_
  refine aw_cV1 (d' := (0, 0)) d_R_store_5 lk_R_57 cd_P_hasType (Nat.le_of_ble_eq_true rfl) rfl rfl ⟨Nat.le_of_ble_eq_true rfl, Nat.le_of_ble_eq_true rfl⟩ (fun _ h => nomatch h) ?_
  refine t_P_hasType ?_
  refine ow_next_i ?_
  refine aw_if_ne (tgt := 21) d_R_store_8 rfl (fun g8 => ?_) (fun g8 => ?_)
  · have hT : HT M t := by unfold HT; grind
    refine aw_aload_n d_R_store_21 rfl ?_
    refine aw_iload_n d_R_store_22 rfl ?_
    refine aw_cV1 (d' := (7, 96)) d_R_store_23 lk_R_80 cd_R_requireOwnersToJoin (Nat.le_of_ble_eq_true rfl) rfl rfl ⟨Nat.le_of_ble_eq_true rfl, Nat.le_of_ble_eq_true rfl⟩ (fun _ h => nomatch h) ?_
    refine t_R_requireOwnersToJoin hl hC (fun k1 => ?_) (fun k1 => ?_)
    · refine ow_next_v ?_
      refine aw_aload_n d_R_store_26 rfl ?_
      refine mm_getr (t := 7) f_R_19 d_R_store_27 (by decide) rfl rfl rfl ?_
      refine aw_cV0 (d' := (0, 0)) d_R_store_30 lk_R_84 cd_B_freePlace (Nat.le_of_ble_eq_true rfl) rfl rfl ⟨Nat.le_of_ble_eq_true rfl, Nat.le_of_ble_eq_true rfl⟩ (fun _ h => nomatch h) ?_
      refine t_B_freePlace (fun k2 => ?_) (fun p hp k2 k3 => ?_)
      · refine ow_next_i ?_
        refine aw_istore d_R_store_33 (by decide) ?_
        refine aw_iload d_R_store_35 rfl ?_
        refine aw_iconst (v := -1) d_R_store_37 (by decide) ?_
        refine aw_icmp_ne (tgt := 51) d_R_store_38 rfl (fun g38 => ?_) (fun g38 => ?_)
        · exact absurd rfl g38
        · refine aw_throw (text := "there are 24 records") hl th_R_1 (by decide +kernel) (fun _ h => nomatch h) d_R_store_41 d_R_store_44 d_R_store_45 d_R_store_47 d_R_store_50 ⟨by decide, Nat.le_of_ble_eq_true rfl⟩ rfl ?_
          exact h2 hT k1 k2
      · refine ow_next_i ?_
        refine aw_istore d_R_store_33 (by decide) ?_
        refine aw_iload d_R_store_35 rfl ?_
        refine aw_iconst (v := -1) d_R_store_37 (by decide) ?_
        refine aw_icmp_ne (tgt := 51) d_R_store_38 rfl (fun g38 => ?_) (fun g38 => ?_)
        · refine aw_aload_n d_R_store_51 rfl ?_
          refine mm_getr (t := 7) f_R_19 d_R_store_52 (by decide) rfl rfl rfl ?_
          refine aw_iload d_R_store_55 rfl ?_
          refine aw_iload_n d_R_store_57 rfl ?_
          refine aw_iload_n d_R_store_58 rfl ?_
          refine aw_iload d_R_store_59 rfl ?_
          refine aw_cV4 (d' := (0, 0)) d_R_store_61 lk_R_90 cd_B_writeFields (Nat.le_of_ble_eq_true rfl) rfl rfl ⟨Nat.le_of_ble_eq_true rfl, Nat.le_of_ble_eq_true rfl⟩ (fun _ h => nomatch h) ?_
          refine t_B_writeFields hp ?_
          refine ow_next_v ?_
          refine aw_aload_n d_R_store_64 rfl ?_
          refine aw_iload_n d_R_store_65 rfl ?_
          refine aw_iload d_R_store_66 rfl ?_
          refine aw_cV2 (d' := (8, 113)) d_R_store_68 lk_R_94 cd_R_requireNoRefusalToJoin (Nat.le_of_ble_eq_true rfl) rfl rfl ⟨Nat.le_of_ble_eq_true rfl, Nat.le_of_ble_eq_true rfl⟩ (fun _ h => nomatch h) ?_
          refine t_R_requireNoRefusalToJoin hl (hC.wr (p := p) (x := x) (y := y) (z := z)) hp (fun k4 => ?_) (fun k4 => ?_)
          · refine ow_next_v ?_
            refine aw_aload_n d_R_store_71 rfl ?_
            refine mm_getr (t := 7) f_R_19 d_R_store_72 (by decide) rfl rfl rfl ?_
            refine aw_iload d_R_store_75 rfl ?_
            refine aw_iload_n d_R_store_77 rfl ?_
            refine aw_cV2 (d' := (0, 0)) d_R_store_78 lk_R_98 cd_B_addRecord (Nat.le_of_ble_eq_true rfl) rfl rfl ⟨Nat.le_of_ble_eq_true rfl, Nat.le_of_ble_eq_true rfl⟩ (fun _ h => nomatch h) ?_
            refine t_B_addRecord hp ?_
            refine ow_next_v ?_
            refine aw_aload_n d_R_store_81 rfl ?_
            refine aw_iconst (v := 1) d_R_store_82 (by decide) ?_
            refine mm_puti fw_R_33 d_R_store_83 (by decide) rfl rfl rfl rfl ?_
            refine aw_iconst (v := 0) d_R_store_86 (by decide) ?_
            refine aw_istore d_R_store_87 (by decide) ?_
            exact lp p hp hT ((h3 hT k1 p hp k2 k3).2 k4) 0 (by omega)
          · refine ow_next_x ?_
            exact (h3 hT k1 p hp k2 k3).1 k4
        · exact absurd g38 (by first | exact nI_m1 (by omega) | (intro h; exact h (nI_m1 (by omega))))
    · refine ow_next_x ?_
      exact h1 hT k1
  · refine aw_throw (text := "no such type") hl th_R_0 (by decide +kernel) (fun _ h => nomatch h) d_R_store_11 d_R_store_14 d_R_store_15 d_R_store_17 d_R_store_20 ⟨by decide, Nat.le_of_ble_eq_true rfl⟩ rfl ?_
    exact h0 (by unfold HT; grind)
end TPub
