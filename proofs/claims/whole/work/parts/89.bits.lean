/-! ===== how many bits are set; whole quotients ===== -/
theorem and_sp (a b c d : Nat) (hb : b < 256) (hd : d < 256) : (256 * a + b) &&& (256 * c + d) = 256 * (a &&& c) + (b &&& d) := by
  have hbd : b &&& d < 2 ^ 8 := Nat.lt_of_le_of_lt Nat.and_le_left hb
  apply Nat.eq_of_testBit_eq
  intro j
  have e1 : (256 * a + b).testBit j = if j < 8 then b.testBit j else a.testBit (j - 8) := Nat.testBit_two_pow_mul_add (i := 8) a hb j
  have e2 : (256 * c + d).testBit j = if j < 8 then d.testBit j else c.testBit (j - 8) := Nat.testBit_two_pow_mul_add (i := 8) c hd j
  have e3 : (256 * (a &&& c) + (b &&& d)).testBit j = if j < 8 then (b &&& d).testBit j else (a &&& c).testBit (j - 8) := Nat.testBit_two_pow_mul_add (i := 8) (a &&& c) hbd j
  rw [Nat.testBit_and, e1, e2, e3]
  by_cases h : j < 8
  · rw [if_pos h, if_pos h, if_pos h, Nat.testBit_and]
  · rw [if_neg h, if_neg h, if_neg h, Nat.testBit_and]
def t3 (a b c : Nat) : Nat := 256 * (256 * c + b) + a
theorem and_t3 {a b c m : Nat} (ha : a < 256) (hb : b < 256) (hc : c < 256) (hm : m < 256) : t3 a b c &&& (256 * (256 * (256 * m + m) + m) + m) = t3 (a &&& m) (b &&& m) (c &&& m) := by
  unfold t3
  rw [and_sp _ _ _ _ ha hm, and_sp _ _ _ _ hb hm]
  have e : c &&& (256 * m + m) = c &&& m := by
    have := and_sp 0 c m m hc hm
    rw [Nat.mul_zero, Nat.zero_add, Nat.zero_and, Nat.mul_zero, Nat.zero_add] at this; exact this
  rw [e]
def g1 (b : Nat) : Nat := (b / 2) &&& 85
def g2 (b : Nat) : Nat := ((b - g1 b) &&& 51) + (((b - g1 b) / 4) &&& 51)
def g3 (b : Nat) : Nat := (g2 b + g2 b / 16) &&& 15
def pcN (n k : Nat) : Nat := fb_sm (fun c => if n.testBit c = true then 1 else 0) k
theorem bt_1 : ∀ h : Fin 2, ∀ b : Fin 256, ((128 * h.val + b.val / 2) &&& 85) = g1 b.val ∧ g1 b.val ≤ b.val := by decide +kernel
theorem bt_2 : ∀ h : Fin 4, ∀ b : Fin 256, ((64 * h.val + b.val / 4) &&& 51) = ((b.val / 4) &&& 51) := by decide +kernel
theorem bt_3 : ∀ b : Fin 256, g2 b.val ≤ 68 ∧ g2 b.val % 16 ≤ 4 ∧ g3 b.val = pcN b.val 8 ∧ g3 b.val ≤ 8 := by decide +kernel
theorem bt_4 : ∀ h : Fin 5, ∀ b : Fin 256, ((g2 b.val + (16 * h.val + g2 b.val / 16)) &&& 15) = g3 b.val := by decide +kernel
theorem bc_t3 {a b c : Nat} (ha : a < 256) (hb : b < 256) (hc : c < 256) : F_J6_bitCount_0f7a4 (nI (t3 a b c)) = nI (pcN a 8 + pcN b 8 + pcN c 8) := by
  have A1 := bt_1 ⟨b % 2, by omega⟩ ⟨a, ha⟩
  have B1 := bt_1 ⟨c % 2, by omega⟩ ⟨b, hb⟩
  have C1 := bt_1 ⟨0, by omega⟩ ⟨c, hc⟩
  have A3 := bt_3 ⟨a, ha⟩
  have B3 := bt_3 ⟨b, hb⟩
  have C3 := bt_3 ⟨c, hc⟩
  dsimp only at A1 B1 C1 A3 B3 C3
  rw [Nat.mul_zero, Nat.zero_add] at C1
  have sh : ∀ (n : Nat) (hn : n < 2 ^ 32) (s : Int32) (k : Nat) (hs : ((s.toUInt32 &&& Int32.toUInt32 31).toBitVec % 32).toNat = k), ((nI n).toUInt32 >>> (s.toUInt32 &&& Int32.toUInt32 31)).toInt32 = nI (n / 2 ^ k) := fun n hn s k hs => pk_ushrN hn s k hs
  have b0 : t3 a b c < 2 ^ 24 := by unfold t3; omega
  -- pairs
  have d1 : t3 a b c / 2 ^ 1 = t3 (128 * (b % 2) + a / 2) (128 * (c % 2) + b / 2) (c / 2) := by unfold t3; omega
  have m1 : t3 (128 * (b % 2) + a / 2) (128 * (c % 2) + b / 2) (c / 2) &&& 1431655765 = t3 (g1 a) (g1 b) (g1 c) := by
    have := and_t3 (a := 128 * (b % 2) + a / 2) (b := 128 * (c % 2) + b / 2) (c := c / 2) (m := 85) (by omega) (by omega) (by omega) (by omega)
    rw [A1.1, B1.1] at this; exact this
  have s1 : t3 a b c - t3 (g1 a) (g1 b) (g1 c) = t3 (a - g1 a) (b - g1 b) (c - g1 c) := by unfold t3; omega
  have l1 : t3 (g1 a) (g1 b) (g1 c) ≤ t3 a b c := by unfold t3; omega
  -- fours
  obtain ⟨x, hx⟩ : ∃ x, x = a - g1 a := ⟨_, rfl⟩
  obtain ⟨y, hy⟩ : ∃ y, y = b - g1 b := ⟨_, rfl⟩
  obtain ⟨z, hz⟩ : ∃ z, z = c - g1 c := ⟨_, rfl⟩
  have A2 := bt_2 ⟨y % 4, by omega⟩ ⟨x, by omega⟩
  have B2 := bt_2 ⟨z % 4, by omega⟩ ⟨y, by omega⟩
  dsimp only at A2 B2
  have b1 : t3 x y z < 2 ^ 24 := by unfold t3; omega
  have d2 : t3 x y z / 2 ^ 2 = t3 (64 * (y % 4) + x / 4) (64 * (z % 4) + y / 4) (z / 4) := by unfold t3; omega
  have m2 : t3 (64 * (y % 4) + x / 4) (64 * (z % 4) + y / 4) (z / 4) &&& 858993459 = t3 ((x / 4) &&& 51) ((y / 4) &&& 51) ((z / 4) &&& 51) := by
    have := and_t3 (a := 64 * (y % 4) + x / 4) (b := 64 * (z % 4) + y / 4) (c := z / 4) (m := 51) (by omega) (by omega) (by omega) (by omega)
    rw [A2, B2] at this; exact this
  have m2' : t3 x y z &&& 858993459 = t3 (x &&& 51) (y &&& 51) (z &&& 51) := and_t3 (m := 51) (by omega) (by omega) (by omega) (by omega)
  have s2 : t3 (x &&& 51) (y &&& 51) (z &&& 51) + t3 ((x / 4) &&& 51) ((y / 4) &&& 51) ((z / 4) &&& 51) = t3 (g2 a) (g2 b) (g2 c) := by
    have e1 : g2 a = (x &&& 51) + ((x / 4) &&& 51) := by rw [hx]; rfl
    have e2 : g2 b = (y &&& 51) + ((y / 4) &&& 51) := by rw [hy]; rfl
    have e3 : g2 c = (z &&& 51) + ((z / 4) &&& 51) := by rw [hz]; rfl
    rw [e1, e2, e3]; unfold t3; omega
  -- eights
  have A4 := bt_4 ⟨g2 b % 16, by omega⟩ ⟨a, ha⟩
  have B4 := bt_4 ⟨g2 c % 16, by omega⟩ ⟨b, hb⟩
  dsimp only at A4 B4
  have b2 : t3 (g2 a) (g2 b) (g2 c) < 2 ^ 24 := by unfold t3; omega
  have d3 : t3 (g2 a) (g2 b) (g2 c) / 2 ^ 4 = t3 (16 * (g2 b % 16) + g2 a / 16) (16 * (g2 c % 16) + g2 b / 16) (g2 c / 16) := by unfold t3; omega
  have s3 : t3 (g2 a) (g2 b) (g2 c) + t3 (16 * (g2 b % 16) + g2 a / 16) (16 * (g2 c % 16) + g2 b / 16) (g2 c / 16) = t3 (g2 a + (16 * (g2 b % 16) + g2 a / 16)) (g2 b + (16 * (g2 c % 16) + g2 b / 16)) (g2 c + g2 c / 16) := by unfold t3; omega
  have m3 : t3 (g2 a + (16 * (g2 b % 16) + g2 a / 16)) (g2 b + (16 * (g2 c % 16) + g2 b / 16)) (g2 c + g2 c / 16) &&& 252645135 = t3 (g3 a) (g3 b) (g3 c) := by
    have := and_t3 (a := g2 a + (16 * (g2 b % 16) + g2 a / 16)) (b := g2 b + (16 * (g2 c % 16) + g2 b / 16)) (c := g2 c + g2 c / 16) (m := 15) (by omega) (by omega) (by omega) (by omega)
    rw [A4, B4] at this; exact this
  obtain ⟨u, hu⟩ : ∃ u, u = g3 a := ⟨_, rfl⟩
  obtain ⟨v, hv⟩ : ∃ v, v = g3 b := ⟨_, rfl⟩
  obtain ⟨w, hw⟩ : ∃ w, w = g3 c := ⟨_, rfl⟩
  have b3 : t3 u v w < 2 ^ 24 := by unfold t3; omega
  have d4 : t3 u v w + t3 u v w / 2 ^ 8 = t3 (u + v) (v + w) w := by unfold t3; omega
  have b4 : t3 (u + v) (v + w) w < 2 ^ 24 := by unfold t3; omega
  have d5 : t3 (u + v) (v + w) w + t3 (u + v) (v + w) w / 2 ^ 16 = t3 (u + v + w) (v + w) w := by unfold t3; omega
  have m6 : t3 (u + v + w) (v + w) w &&& 63 = u + v + w := by
    rw [show (63 : Nat) = 2 ^ 6 - 1 from rfl, Nat.and_two_pow_sub_one_eq_mod]
    unfold t3; omega
  unfold F_J6_bitCount_0f7a4
  rw [lt_eq, sh _ (by omega) 1 1 (by decide), d1, show (1431655765 : Int32) = nI 1431655765 from rfl, fa_and, m1, pk_sub l1, s1, ← hx, ← hy, ← hz]
  rw [lt_eq, sh _ (by omega) 2 2 (by decide), d2, show (858993459 : Int32) = nI 858993459 from rfl, fa_and, fa_and, m2, m2', nI_add, s2]
  rw [lt_eq, sh _ (by omega) 4 4 (by decide), d3, nI_add, s3, show (252645135 : Int32) = nI 252645135 from rfl, fa_and, m3, ← hu, ← hv, ← hw]
  rw [lt_eq, sh _ (by omega) 8 8 (by decide), nI_add, d4, lt_eq, sh _ (by omega) 16 16 (by decide), nI_add, d5, show (63 : Int32) = nI 63 from rfl, fa_and, m6, hu, hv, hw, A3.2.2.1, B3.2.2.1, C3.2.2.1]
theorem pcN_t3 {a b c : Nat} (ha : a < 256) (hb : b < 256) : pcN (t3 a b c) 24 = pcN a 8 + pcN b 8 + pcN c 8 := by
  have e1 : ∀ j, (t3 a b c).testBit j = if j < 8 then a.testBit j else (256 * c + b).testBit (j - 8) := fun j => Nat.testBit_two_pow_mul_add (i := 8) (256 * c + b) ha j
  have e2 : ∀ j, (256 * c + b).testBit j = if j < 8 then b.testBit j else c.testBit (j - 8) := fun j => Nat.testBit_two_pow_mul_add (i := 8) c hb j
  unfold pcN
  rw [fb_sm_split _ 16 8, fb_sm_split _ 8 8]
  have f1 : fb_sm (fun j => if (t3 a b c).testBit j = true then 1 else 0) 8 = fb_sm (fun j => if a.testBit j = true then 1 else 0) 8 := fb_sm_cong (fun j hj => by rw [e1, if_pos hj])
  have f2 : fb_sm (fun j => if (t3 a b c).testBit (8 + j) = true then 1 else 0) 8 = fb_sm (fun j => if b.testBit j = true then 1 else 0) 8 := fb_sm_cong (fun j hj => by
    have h1 := e1 (8 + j)
    rw [if_neg (show ¬ 8 + j < 8 by omega), Nat.add_sub_cancel_left, e2, if_pos hj] at h1
    rw [h1])
  have f3 : fb_sm (fun j => if (t3 a b c).testBit (16 + j) = true then 1 else 0) 8 = fb_sm (fun j => if c.testBit j = true then 1 else 0) 8 := fb_sm_cong (fun j hj => by
    have h1 := e1 (16 + j)
    rw [if_neg (show ¬ 16 + j < 8 by omega), show 16 + j - 8 = 8 + j from by omega, e2, if_neg (show ¬ 8 + j < 8 by omega), Nat.add_sub_cancel_left] at h1
    rw [h1])
  rw [f1, f2, f3]
theorem bc_m {M : Nat} (h : M < 2 ^ 21) : F_J6_bitCount_0f7a4 (nI M) = nI (pcN M 21) := by
  have e : M = t3 (M % 256) (M / 256 % 256) (M / 65536) := by unfold t3; omega
  have k := bc_t3 (a := M % 256) (b := M / 256 % 256) (c := M / 65536) (by omega) (by omega) (by omega)
  have q := pcN_t3 (a := M % 256) (b := M / 256 % 256) (c := M / 65536) (by omega) (by omega)
  rw [← e] at k q
  rw [k, ← q]
  unfold pcN
  rw [fb_sm_split _ 21 3]
  have z : fb_sm (fun j => if M.testBit (21 + j) = true then 1 else 0) 3 = 0 := by
    rw [fb_sm_cong (g := fun _ => 0) (fun j hj => ?_), fb_sm_const, Nat.mul_zero]
    have : M.testBit (21 + j) = false := Nat.testBit_lt_two_pow (Nat.lt_of_lt_of_le h (Nat.pow_le_pow_right (by decide) (by omega)))
    rw [this]; rfl
  rw [z, Nat.add_zero]
/-! floorDiv -/
theorem xor_s (x : Int32) : (0 ≤ x ^^^ 64) ↔ (0 : Int32) ≤ x := by
  have e : ∀ y : Int32, (0 ≤ y) ↔ y.toBitVec.msb = false := fun y => by
    rw [fa_le, show (0 : Int32).toInt = 0 from by decide, BitVec.msb_eq_toInt]
    show 0 ≤ y.toInt ↔ decide (y.toInt < 0) = false
    rw [decide_eq_false_iff_not]; omega
  rw [e, e]
  show (x.toBitVec ^^^ (64 : Int32).toBitVec).msb = false ↔ _
  rw [BitVec.msb_xor, show (64 : Int32).toBitVec.msb = false from by decide, Bool.xor_false]
theorem fdiv_c {z : Int} (h : -1000000 ≤ z ∧ z ≤ 1000000) : F_J9_floorDiv_7cf53 (iI z) 64 = some (iI (z / 64)) := by
  have hz : (iI z).toInt = z := ii_t (by omega) (by omega)
  have e := Int.mul_tdiv_add_tmod z 64
  have l1 := Int.tmod_lt_of_pos z (show (0 : Int) < 64 by omega)
  have l2 := Int.lt_tmod_of_pos z (show (0 : Int) < 64 by omega)
  unfold F_J9_floorDiv_7cf53 F_J9_floorDiv_7cf53_j21
  rw [gd_t (show ¬ (64 : Int32) = 0 by decide), show (64 : Int32) = iI 64 from rfl, ii_div (by omega) (by omega), lt_eq]
  by_cases q : 0 ≤ z
  · have q0 : 0 ≤ iI z ^^^ iI 64 := (xor_s (iI z)).mpr (by rw [fa_le, hz]; exact q)
    rw [if_pos q0, Int.tdiv_eq_ediv_of_nonneg q]
  · have q0 : ¬ 0 ≤ iI z ^^^ iI 64 := fun h9 => q (by have := (xor_s (iI z)).mp h9; rw [fa_le, hz] at this; exact this)
    have l3 : z.tmod 64 ≤ 0 := by
      have := Int.tmod_nonneg (a := -z) 64 (by omega)
      rw [Int.neg_tmod] at this; omega
    rw [if_neg q0, ii_mul]
    have e2 : (iI (z.tdiv 64 * 64) = iI z) ↔ z.tdiv 64 * 64 = z := ii_eq (by omega) (by omega)
    by_cases w : z.tdiv 64 * 64 = z
    · rw [if_pos (e2.mpr w)]
      have : z / 64 = z.tdiv 64 := by omega
      rw [this]
    · rw [if_neg (fun h9 => w (e2.mp h9)), show (1 : Int32) = iI 1 from rfl, ii_sub]
      have : z / 64 = z.tdiv 64 - 1 := by omega
      rw [this]
theorem up_c {z : Int} (h : -900000 ≤ z ∧ z ≤ 900000) : F_X2_upToUnit (iI z) = some (iI ((z + 63) / 64)) := by
  unfold F_X2_upToUnit
  rw [show (iI z + 64) - 1 = iI (z + 63) from by rw [show (64 : Int32) = iI 64 from rfl, show (1 : Int32) = iI 1 from rfl, ii_add, ii_sub]; congr 1; omega, fdiv_c (by omega), obd_s]
theorem down_c {z : Int} (h : -900000 ≤ z ∧ z ≤ 900000) : F_X2_downToUnit (iI z) = some (iI (z / 64)) := by
  unfold F_X2_downToUnit
  rw [fdiv_c (by omega), obd_s]
