/-! Integer.bitCount counts the bits -/
def iN (x : Int32) : Nat := x.toBitVec.toNat
theorem iN_lt (x : Int32) : iN x < 2 ^ 32 := x.toBitVec.isLt
theorem iN_inj {x y : Int32} (h : iN x = iN y) : x = y := Int32.toBitVec_inj.mp (BitVec.eq_of_toNat_eq h)
theorem iN_and (x y : Int32) : iN (x &&& y) = iN x &&& iN y := by unfold iN; rw [Int32.toBitVec_and, BitVec.toNat_and]
theorem iN_add {x y : Int32} (h : iN x + iN y < 2 ^ 32) : iN (x + y) = iN x + iN y := by
  unfold iN at *; rw [Int32.toBitVec_add, BitVec.toNat_add]; exact Nat.mod_eq_of_lt h
theorem iN_sub {x y : Int32} (h : iN y ≤ iN x) : iN (x - y) = iN x - iN y := by
  have h1 := iN_lt x
  unfold iN at *; rw [Int32.toBitVec_sub, BitVec.toNat_sub]; omega
theorem iN_ush (x c : Int32) (n : Nat) (hn : (c.toUInt32 &&& Int32.toUInt32 31).toBitVec % 32 = BitVec.ofNat 32 n) (h : n < 32) : iN (ow_ush x c) = iN x / 2 ^ n := by
  unfold iN ow_ush
  show ((x.toUInt32 >>> (c.toUInt32 &&& Int32.toUInt32 31)).toBitVec).toNat = _
  rw [UInt32.toBitVec_shiftRight]
  show (x.toBitVec >>> ((c.toUInt32 &&& Int32.toUInt32 31).toBitVec % 32)).toNat = _
  rw [hn]
  show (x.toBitVec >>> (BitVec.ofNat 32 n).toNat).toNat = _
  rw [BitVec.toNat_ofNat, Nat.mod_eq_of_lt (by omega), BitVec.toNat_ushiftRight, Nat.shiftRight_eq_div_pow]
theorem iN_nI {n : Nat} (h : n < 2 ^ 32) : iN (nI n) = n := by
  unfold iN nI
  show (BitVec.ofNat 32 n).toNat = n
  rw [BitVec.toNat_ofNat]; exact Nat.mod_eq_of_lt h
/-- a word of bytes, and what the steps do to a byte -/
theorem and_by (a b m M : Nat) (ha : a < 256) (hm : m < 256) : (a + 256 * b) &&& (m + 256 * M) = (a &&& m) + 256 * (b &&& M) := by
  have h1 := Nat.and_mod_two_pow (a := a + 256 * b) (b := m + 256 * M) (n := 8)
  have h2 := Nat.and_div_two_pow (a := a + 256 * b) (b := m + 256 * M) (n := 8)
  rw [show (2 : Nat) ^ 8 = 256 from rfl] at h1 h2
  rw [show (a + 256 * b) % 256 = a by omega, show (m + 256 * M) % 256 = m by omega] at h1
  rw [show (a + 256 * b) / 256 = b by omega, show (m + 256 * M) / 256 = M by omega] at h2
  have := Nat.div_add_mod ((a + 256 * b) &&& (m + 256 * M)) 256
  omega
def by1 (a : Nat) : Nat := a - (a / 2 &&& 85)
def by2 (a : Nat) : Nat := (a &&& 51) + (a / 4 &&& 51)
def by3 (a : Nat) : Nat := (a + a / 16) &&& 15
theorem by_t : ∀ a, a < 256 → (∀ c, c < 2 → ((a / 2 + 128 * c) &&& 85 = (a / 2 &&& 85))) ∧ (a / 2 &&& 85) ≤ a ∧ by1 a < 256 ∧ (∀ c, c < 4 → ((a / 4 + 64 * c) &&& 51 = (a / 4 &&& 51))) ∧ by2 (by1 a) < 69 ∧ by3 (by2 (by1 a)) = cn (Nat.testBit a) 8 := by decide +kernel
theorem by_u : ∀ a, a < 69 → ∀ c, c < 5 → ((a + (a / 16 + 16 * c)) &&& 15 = by3 a) := by decide +kernel
theorem by_v : ∀ a, a < 256 → by2 a < 256 ∧ (a / 16) < 16 := by decide +kernel
theorem by_w : ∀ a, a < 69 → a % 16 < 5 ∨ ¬ ∃ b, b < 256 ∧ by2 (by1 b) = a := by decide +kernel
theorem st1 {a b M : Nat} (ha : a < 256) : (a + 256 * b) / 2 &&& (85 + 256 * M) = (a / 2 &&& 85) + 256 * (b / 2 &&& M) := by
  rw [show (a + 256 * b) / 2 = (a / 2 + 128 * (b % 2)) + 256 * (b / 2) by omega, and_by _ _ _ _ (by omega) (by decide), (by_t a ha).1 (b % 2) (by omega)]
theorem st2 {a b M : Nat} (ha : a < 256) : (a + 256 * b) / 4 &&& (51 + 256 * M) = (a / 4 &&& 51) + 256 * (b / 4 &&& M) := by
  rw [show (a + 256 * b) / 4 = (a / 4 + 64 * (b % 4)) + 256 * (b / 4) by omega, and_by _ _ _ _ (by omega) (by decide), (by_t a ha).2.2.2.1 (b % 4) (by omega)]
theorem st3 {a b M : Nat} (ha : a < 69) (hb : b % 16 < 5) : (a + 256 * b) + (a + 256 * b) / 16 &&& (15 + 256 * M) = by3 a + 256 * (b + b / 16 &&& M) := by
  rw [show (a + 256 * b) + (a + 256 * b) / 16 = (a + (a / 16 + 16 * (b % 16))) + 256 * (b + b / 16) by omega, and_by _ _ _ _ (by omega) (by decide), by_u a ha (b % 16) hb]
theorem by3_le : ∀ a, a < 69 → by3 a < 16 := by decide +kernel
/-- three bytes -/
theorem pop3 {x : Int32} {a b c : Nat} (ha : a < 256) (hb : b < 256) (hc : c < 256) (hx : iN x = a + 256 * (b + 256 * c)) : bcv x = nI (cn (Nat.testBit a) 8 + cn (Nat.testBit b) 8 + cn (Nat.testBit c) 8) := by
  obtain ⟨a1, a2, a3, a4, a5, a6⟩ := by_t a ha
  obtain ⟨b1, b2, b3, b4, b5, b6⟩ := by_t b hb
  obtain ⟨c1, c2, c3, c4, c5, c6⟩ := by_t c hc
  -- the first step
  have m1 : iN (ow_ush x 1 &&& 1431655765) = (a / 2 &&& 85) + 256 * ((b / 2 &&& 85) + 256 * (c / 2 &&& 85)) := by
    rw [iN_and, iN_ush x 1 1 (by decide) (by decide), hx, show iN 1431655765 = 85 + 256 * (85 + 256 * (85 + 256 * 85)) by decide, show (2 : Nat) ^ 1 = 2 from rfl, st1 ha, st1 hb]
    rw [show c / 2 &&& (85 + 256 * 85) = c / 2 &&& 85 by
      have := st1 (a := c) (b := 0) (M := 85) hc
      rw [show c + 256 * 0 = c by omega, show 0 / 2 &&& 85 = 0 by decide] at this
      simpa using this]
  have v1 : iN (bc1 x) = by1 a + 256 * (by1 b + 256 * by1 c) := by
    unfold bc1; rw [iN_sub (by rw [m1, hx]; omega), m1, hx]; unfold by1; omega
  -- the second
  have m2 : iN (ow_ush (bc1 x) 2 &&& 858993459) = (by1 a / 4 &&& 51) + 256 * ((by1 b / 4 &&& 51) + 256 * (by1 c / 4 &&& 51)) := by
    rw [iN_and, iN_ush (bc1 x) 2 2 (by decide) (by decide), v1, show iN 858993459 = 51 + 256 * (51 + 256 * (51 + 256 * 51)) by decide, show (2 : Nat) ^ 2 = 4 from rfl, st2 a3, st2 b3]
    rw [show by1 c / 4 &&& (51 + 256 * 51) = by1 c / 4 &&& 51 by
      have := st2 (a := by1 c) (b := 0) (M := 51) c3
      rw [show by1 c + 256 * 0 = by1 c by omega, show 0 / 4 &&& 51 = 0 by decide] at this
      simpa using this]
  have n2 : iN (bc1 x &&& 858993459) = (by1 a &&& 51) + 256 * ((by1 b &&& 51) + 256 * (by1 c &&& 51)) := by
    rw [iN_and, v1, show iN 858993459 = 51 + 256 * (51 + 256 * (51 + 256 * 51)) by decide, and_by _ _ _ _ a3 (by decide), and_by _ _ _ _ b3 (by decide)]
    rw [show by1 c &&& (51 + 256 * 51) = by1 c &&& 51 by
      have := and_by (by1 c) 0 51 51 c3 (by decide)
      rw [show by1 c + 256 * 0 = by1 c by omega] at this
      simpa using this]
  have w : ∀ q, q < 256 → (by1 q &&& 51) + (by1 q / 4 &&& 51) = by2 (by1 q) := fun q _ => rfl
  have v2 : iN (bc2 (bc1 x)) = by2 (by1 a) + 256 * (by2 (by1 b) + 256 * by2 (by1 c)) := by
    have ea := w a ha; have eb := w b hb; have ec := w c hc
    unfold bc2; rw [iN_add (by rw [m2, n2]; omega), m2, n2]; omega
  -- the third
  have hb16 : by2 (by1 b) % 16 < 5 := (by_w _ b5).resolve_right (fun h => h ⟨b, hb, rfl⟩)
  have hc16 : by2 (by1 c) % 16 < 5 := (by_w _ c5).resolve_right (fun h => h ⟨c, hc, rfl⟩)
  have v3 : iN (bc3 (bc2 (bc1 x))) = by3 (by2 (by1 a)) + 256 * (by3 (by2 (by1 b)) + 256 * by3 (by2 (by1 c))) := by
    unfold bc3
    have u := iN_ush (bc2 (bc1 x)) 4 4 (by decide) (by decide)
    rw [iN_and, iN_add (by rw [u, v2]; omega), u, v2, show iN 252645135 = 15 + 256 * (15 + 256 * (15 + 256 * 15)) by decide, show (2 : Nat) ^ 4 = 16 from rfl, st3 a5 (by omega), st3 b5 (by omega)]
    rw [show by2 (by1 c) + by2 (by1 c) / 16 &&& (15 + 256 * 15) = by3 (by2 (by1 c)) by
      have := st3 (a := by2 (by1 c)) (b := 0) (M := 15) c5 (by decide)
      rw [show by2 (by1 c) + 256 * 0 = by2 (by1 c) by omega, show 0 + 0 / 16 &&& 15 = 0 by decide] at this
      simpa using this]
  rw [a6, b6, c6] at v3
  have ka := cn_le (Nat.testBit a) 8; have kb := cn_le (Nat.testBit b) 8; have kc := cn_le (Nat.testBit c) 8
  have v4 : iN (bc4 (bc3 (bc2 (bc1 x)))) = cn (Nat.testBit a) 8 + cn (Nat.testBit b) 8 + 256 * (cn (Nat.testBit b) 8 + cn (Nat.testBit c) 8 + 256 * cn (Nat.testBit c) 8) := by
    unfold bc4
    have u := iN_ush (bc3 (bc2 (bc1 x))) 8 8 (by decide) (by decide)
    rw [iN_add (by rw [u, v3]; omega), u, v3]; omega
  have v5 : iN (bc5 (bc4 (bc3 (bc2 (bc1 x))))) = cn (Nat.testBit a) 8 + cn (Nat.testBit b) 8 + cn (Nat.testBit c) 8 + 256 * (cn (Nat.testBit b) 8 + cn (Nat.testBit c) 8 + 256 * cn (Nat.testBit c) 8) := by
    unfold bc5
    have u := iN_ush (bc4 (bc3 (bc2 (bc1 x)))) 16 16 (by decide) (by decide)
    rw [iN_add (by rw [u, v4]; omega), u, v4]; omega
  apply iN_inj
  rw [iN_nI (by omega)]
  unfold bcv
  rw [iN_and, v5, show iN 63 = 2 ^ 6 - 1 by decide, Nat.and_two_pow_sub_one_eq_mod]
  omega
theorem cn_split (p : Nat → Bool) (a : Nat) : ∀ b, cn p (a + b) = cn p a + cn (fun j => p (a + j)) b := by
  intro b
  induction b with
  | zero => rfl
  | succ b ih =>
    rw [show a + (b + 1) = (a + b) + 1 by omega]
    simp only [cn]; rw [ih]; omega
theorem bcv_cn {g : Int32} (h : LO g) : bcv g = nI (cn (bt g) 24) := by
  have hb : ∀ q, bt g q = (iN g).testBit q := fun q => rfl
  have hlt : iN g < 2 ^ 24 := Nat.lt_pow_two_of_testBit _ (fun i hi => by rw [← hb]; exact h i hi)
  have e1 : cn (bt g) 24 = cn (Nat.testBit (iN g % 256)) 8 + cn (Nat.testBit (iN g / 256 % 256)) 8 + cn (Nat.testBit (iN g / 65536)) 8 := by
    rw [show 24 = 8 + 16 from rfl, cn_split, show 16 = 8 + 8 from rfl, cn_split]
    rw [Nat.add_assoc]
    congr 1
    · refine cn_congr 8 (fun j hj => ?_)
      rw [hb, show 256 = 2 ^ 8 from rfl, Nat.testBit_mod_two_pow]; simp [hj]
    · congr 1
      · refine cn_congr 8 (fun j hj => ?_)
        rw [hb, show 256 = 2 ^ 8 from rfl, Nat.testBit_mod_two_pow, Nat.testBit_div_two_pow]; simp [hj, Nat.add_comm]
      · refine cn_congr 8 (fun j hj => ?_)
        rw [hb, show 65536 = 2 ^ 16 from rfl, Nat.testBit_div_two_pow]
        congr 1; omega
  rw [e1]
  exact pop3 (by omega) (by omega) (by omega) (by omega)
