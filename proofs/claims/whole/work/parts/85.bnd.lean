/-! ===== how far corners lie ===== -/
/-- normals that nearly cancel are beyond every limit -/
theorem tip_lo {a b c d L1 L2 R M Q : Int} (hL1 : 0 < L1) (hL2 : 0 < L2) (hq1 : L1 * L1 ≤ 4096 * (a * a + b * b)) (hq2 : L2 * L2 ≤ 4096 * (c * c + d * d))
    (hX1 : -(Q * (L1 * L2)) ≤ R * (a * L2 + c * L1)) (hX2 : R * (a * L2 + c * L1) ≤ Q * (L1 * L2)) (hY1 : -(Q * (L1 * L2)) ≤ R * (b * L2 + d * L1)) (hY2 : R * (b * L2 + d * L1) ≤ Q * (L1 * L2)) (hM : 1 ≤ M ∧ M ≤ 100)
    (h : 0 ≤ M * (a * c + b * d) ∨ (0 ≤ M - 2 ∧ (M * (a * c + b * d)) * (M * (a * c + b * d)) ≤ (M - 2) * (M - 2) * ((a * a + b * b) * (c * c + d * d)))) : R * R ≤ 204800 * (Q * Q) := by
  obtain ⟨S, hS⟩ : ∃ S, S = (a * L2 + c * L1) * (a * L2 + c * L1) + (b * L2 + d * L1) * (b * L2 + d * L1) := ⟨_, rfl⟩
  obtain ⟨T, hT⟩ : ∃ T, T = L1 * L2 := ⟨_, rfl⟩
  obtain ⟨α, hα⟩ : ∃ α, α = (a * a + b * b) * (L2 * L2) := ⟨_, rfl⟩
  obtain ⟨β, hβ⟩ : ∃ β, β = (c * c + d * d) * (L1 * L1) := ⟨_, rfl⟩
  obtain ⟨D, hD⟩ : ∃ D, D = a * c + b * d := ⟨_, rfl⟩
  have hT0 : 0 < T := by rw [hT]; exact Int.mul_pos hL1 hL2
  have hTT : 0 < T * T := Int.mul_pos hT0 hT0
  have hS0 : 0 ≤ S := by
    have h1 := sq_nn (a * L2 + c * L1)
    have h2 := sq_nn (b * L2 + d * L1)
    omega
  have eS : S = α + β + 2 * (D * T) := by rw [hS, hα, hβ, hD, hT]; grind
  rw [← hT] at hX1 hX2 hY1 hY2
  have g1 := sq_le hX1 hX2
  have g2 := sq_le hY1 hY2
  have eRS : R * R * S = R * (a * L2 + c * L1) * (R * (a * L2 + c * L1)) + R * (b * L2 + d * L1) * (R * (b * L2 + d * L1)) := by rw [hS]; grind
  have eQ : Q * T * (Q * T) = Q * Q * (T * T) := by grind
  have a1 : T * T ≤ 4096 * α := by
    have := Int.mul_le_mul_of_nonneg_right hq1 (show 0 ≤ L2 * L2 from sq_nn L2)
    have e1 : L1 * L1 * (L2 * L2) = T * T := by rw [hT]; grind
    have e2 : 4096 * (a * a + b * b) * (L2 * L2) = 4096 * α := by rw [hα]; grind
    omega
  have b1 : T * T ≤ 4096 * β := by
    have := Int.mul_le_mul_of_nonneg_right hq2 (show 0 ≤ L1 * L1 from sq_nn L1)
    have e1 : L2 * L2 * (L1 * L1) = T * T := by rw [hT]; grind
    have e2 : 4096 * (c * c + d * d) * (L1 * L1) = 4096 * β := by rw [hβ]; grind
    omega
  have low : T * T ≤ 102400 * S := by
    rw [← hD] at h
    by_cases hD0 : 0 ≤ D
    · have : 0 ≤ D * T := Int.mul_nonneg hD0 (by omega)
      omega
    · have hMD : ¬ 0 ≤ M * D := by
        intro h9
        have : 0 < M * -D := Int.mul_pos (by omega) (by omega)
        have e : M * -D = -(M * D) := by grind
        omega
      rcases h with h | ⟨hM2, h⟩
      · exact absurd h hMD
      · obtain ⟨P, hP⟩ : ∃ P, P = -D := ⟨_, rfl⟩
        have hab : 0 ≤ α + β := by omega
        have k1 : (2 * (M * P * T)) * (2 * (M * P * T)) ≤ ((M - 2) * (α + β)) * ((M - 2) * (α + β)) := by
          have k2 : M * D * (M * D) * (T * T) ≤ (M - 2) * (M - 2) * ((a * a + b * b) * (c * c + d * d)) * (T * T) := Int.mul_le_mul_of_nonneg_right h (by omega)
          have e1 : (2 * (M * P * T)) * (2 * (M * P * T)) = 4 * (M * D * (M * D) * (T * T)) := by rw [hP]; grind
          have e2 : (M - 2) * (M - 2) * ((a * a + b * b) * (c * c + d * d)) * (T * T) = (M - 2) * (M - 2) * (α * β) := by rw [hT, hα, hβ]; grind
          have k3 : 0 ≤ (M - 2) * (M - 2) * ((α - β) * (α - β)) := Int.mul_nonneg (sq_nn _) (sq_nn _)
          have e3 : ((M - 2) * (α + β)) * ((M - 2) * (α + β)) = 4 * ((M - 2) * (M - 2) * (α * β)) + (M - 2) * (M - 2) * ((α - β) * (α - β)) := by grind
          omega
        have k4 := sq_rev (Int.mul_nonneg hM2 hab) k1
        have e5 : M * S = M * (α + β) - 2 * (M * P * T) := by rw [eS, hP]; grind
        have e6 : (M - 2) * (α + β) = M * (α + β) - 2 * (α + β) := by grind
        have k5 : M * S ≤ 100 * S := Int.mul_le_mul_of_nonneg_right hM.2 hS0
        omega
  have hRR0 : 0 ≤ R * R := sq_nn R
  have m1 : R * R * (T * T) ≤ R * R * (102400 * S) := Int.mul_le_mul_of_nonneg_left low hRR0
  have e7 : R * R * (102400 * S) = 102400 * (R * R * S) := by grind
  rcases Int.lt_or_le (204800 * (Q * Q)) (R * R) with w | w
  · have m2 : (204800 * (Q * Q) + 1) * (T * T) ≤ R * R * (T * T) := Int.mul_le_mul_of_nonneg_right (by omega) (by omega)
    have e8 : (204800 * (Q * Q) + 1) * (T * T) = 204800 * (Q * Q * (T * T)) + T * T := by grind
    omega
  · exact w
theorem rnd_q {p q B : Int} (hq : 0 < q) (h1 : -(B * q) ≤ p) (h2 : p ≤ B * q) : -B ≤ rnd p q ∧ rnd p q ≤ B := by
  obtain ⟨s1, s2⟩ := rnd_sp (p := p) hq
  constructor
  · by_cases z : -B ≤ rnd p q
    · exact z
    · have : (rnd p q + 1) * (2 * q) ≤ (-B) * (2 * q) := Int.mul_le_mul_of_nonneg_right (by omega) (by omega)
      have e : (-B) * (2 * q) = -(2 * (B * q)) := by grind
      omega
  · by_cases z : rnd p q ≤ B
    · exact z
    · have : (B + 1) * (2 * q) ≤ rnd p q * (2 * q) := Int.mul_le_mul_of_nonneg_right (by omega) (by omega)
      have e : (B + 1) * (2 * q) = 2 * (B * q) + 2 * q := by grind
      omega
def BN (B : Int) (x : Int32) : Prop := -B ≤ x.toInt ∧ x.toInt ≤ B
theorem bn_add {A B C : Int} {x y : Int32} (hx : BN A x) (hy : BN B y) (hC : A + B = C) (h : C ≤ 1000000000) : BN C (x + y) := by
  unfold BN at *
  rw [fb_addI (by omega) (by omega)]; omega
theorem bn_sub {A B C : Int} {x y : Int32} (hx : BN A x) (hy : BN B y) (hC : A + B = C) (h : C ≤ 1000000000) : BN C (x - y) := by
  unfold BN at *
  rw [fb_subI (by omega) (by omega)]; omega
theorem bn_way {B : Int} {w x : Int32} (hw : w = 1 ∨ w = -1) (hx : BN B x) (h : B ≤ 1000000000) : BN B (w * x) := by
  unfold BN at *
  rcases hw with rfl | rfl
  · rw [Int32.one_mul]; exact hx
  · have e : -1 * x = -x := by rw [Int32.neg_mul, Int32.one_mul]
    rw [e, fb_negI (by omega)]; omega
theorem bn_64 {x : Int32} (h : CO x) : BN 6400 (64 * x) := by
  unfold CO at h
  unfold BN
  have e : 64 * x = iI (64 * x.toInt) := by rw [← ii_mul, ii_of]; rfl
  rw [e, ii_t (by omega) (by omega)]; omega
def PB (q : Pc) : Prop := ∀ c, c < nc q.1 → BN 100000 (q.2.1 c) ∧ BN 100000 (q.2.2 c)
theorem bn_w {A B : Int} {x : Int32} (h : BN A x) (hAB : A ≤ B) : BN B x := by unfold BN at *; omega
theorem f4_b {a b c d : Int32} {B : Int} (ha : BN B a) (hb : BN B b) (hc : BN B c) (hd : BN B d) (i : Nat) : BN B (f4 a b c d i) := by
  unfold f4
  by_cases h0 : i = 0
  · rw [if_pos h0]; exact ha
  · rw [if_neg h0]
    by_cases h1 : i = 1
    · rw [if_pos h1]; exact hb
    · rw [if_neg h1]
      by_cases h2 : i = 2
      · rw [if_pos h2]; exact hc
      · rw [if_neg h2]; exact hd
theorem bn_0 {B : Int} (h : 0 ≤ B) : BN B 0 := by
  unfold BN
  rw [show (0 : Int32).toInt = 0 from by decide]; omega
section BND
variable {N : Nat} {p : Nat → Nat} {c m : Nat → Int32} {s k k1 k2 : Nat}
theorem len_ge (m : Nat → Int32) (s n k : Nat) : 64 * (sgx m s n k).toInt.natAbs ≤ sgl m s n k ∧ 64 * (sgy m s n k).toInt.natAbs ≤ sgl m s n k := by
  have h := (rtS_sq (4096 * sgq m s n k)).2
  have e1 : 64 * (sgx m s n k).toInt.natAbs * (64 * (sgx m s n k).toInt.natAbs) = 4096 * ((sgx m s n k).toInt.natAbs * (sgx m s n k).toInt.natAbs) := by grind
  have e2 : 64 * (sgy m s n k).toInt.natAbs * (64 * (sgy m s n k).toInt.natAbs) = 4096 * ((sgy m s n k).toInt.natAbs * (sgy m s n k).toInt.natAbs) := by grind
  have hq : sgq m s n k = (sgx m s n k).toInt.natAbs * (sgx m s n k).toInt.natAbs + (sgy m s n k).toInt.natAbs * (sgy m s n k).toInt.natAbs := rfl
  have l1 : 64 * (sgx m s n k).toInt.natAbs < rtS (4096 * sgq m s n k) + 1 := sq_lt (by omega)
  have l2 : 64 * (sgy m s n k).toInt.natAbs < rtS (4096 * sgq m s n k) + 1 := sq_lt (by omega)
  unfold sgl; omega
theorem nr_q {d w L : Int} (hw : 1 ≤ w ∧ w ≤ 40) (h1 : -L ≤ 64 * d) (h2 : 64 * d ≤ L) (hL : 0 < L) : -1280 ≤ rnd (d * (2048 * w)) L ∧ rnd (d * (2048 * w)) L ≤ 1280 := by
  have e : d * (2048 * w) = 32 * w * (64 * d) := by grind
  have m1 : 32 * w * (64 * d) ≤ 32 * w * L := Int.mul_le_mul_of_nonneg_left h2 (by omega)
  have m2 : 32 * w * -L ≤ 32 * w * (64 * d) := Int.mul_le_mul_of_nonneg_left h1 (by omega)
  have m3 : 32 * w * L ≤ 1280 * L := Int.mul_le_mul_of_nonneg_right (by omega) (by omega)
  have e2 : 32 * w * -L = -(32 * w * L) := by grind
  exact rnd_q hL (by omega) (by omega)
theorem nr_bn (hR : RW N p c m) (hs : s < N) (hk : k < p s) (hz : ¬ (sgx m s (p s) k = 0 ∧ sgy m s (p s) k = 0)) : BN 1280 (nrX m s (p s) k) ∧ BN 1280 (nrY m s (p s) k) ∧ BN 1280 (alY m s (p s) k) := by
  have hl := sgl_ge hz
  have hw := hR.st.w
  have g := len_ge m s (p s) k
  have q1 := nr_q (d := -(sgy m s (p s) k).toInt) (L := sgl m s (p s) k) hw (by omega) (by omega) (by omega)
  have q2 := nr_q (d := (sgx m s (p s) k).toInt) (L := sgl m s (p s) k) hw (by omega) (by omega) (by omega)
  have q3 := nr_q (d := (sgy m s (p s) k).toInt) (L := sgl m s (p s) k) hw (by omega) (by omega) (by omega)
  unfold BN nrX nrY alY
  rw [ii_t (by omega) (by omega), ii_t (by omega) (by omega), ii_t (by omega) (by omega)]
  exact ⟨q1, q2, q3⟩
theorem a_q {d t L : Int} (h1 : -200 ≤ d) (h2 : d ≤ 200) (ht : 0 ≤ t) (htL : t ≤ L) (hL : 0 < L) : -12800 ≤ rnd (64 * d * t) L ∧ rnd (64 * d * t) L ≤ 12800 := by
  have m1 : 64 * d * t ≤ 12800 * t := Int.mul_le_mul_of_nonneg_right (by omega) ht
  have m2 : -12800 * t ≤ 64 * d * t := Int.mul_le_mul_of_nonneg_right (by omega) ht
  exact rnd_q hL (by omega) (by omega)
theorem a_bn (hR : RW N p c m) (hs : s < N) (hk : k < p s) (hz : ¬ (sgx m s (p s) k = 0 ∧ sgy m s (p s) k = 0)) {t : Nat} (ht : t ≤ sgl m s (p s) k) : BN 19200 (aX m s (p s) k t) ∧ BN 19200 (aY m s (p s) k t) := by
  have hl := sgl_ge hz
  have hst := stp (hR.sp hs) hk
  have hxy := ((hR.sp hs).xy hk).2.2
  have q1 := a_q (d := (sgx m s (p s) k).toInt) (t := t) (L := sgl m s (p s) k) (by omega) (by omega) (by omega) (by omega) (by omega)
  have q2 := a_q (d := (sgy m s (p s) k).toInt) (t := t) (L := sgl m s (p s) k) (by omega) (by omega) (by omega) (by omega) (by omega)
  have b1 : BN 12800 (iI (rnd (64 * (sgx m s (p s) k).toInt * t) (sgl m s (p s) k))) := by unfold BN; rw [ii_t (by omega) (by omega)]; exact q1
  have b2 : BN 12800 (iI (rnd (64 * (sgy m s (p s) k).toInt * t) (sgl m s (p s) k))) := by unfold BN; rw [ii_t (by omega) (by omega)]; exact q2
  exact ⟨bn_add (bn_64 hxy.1) b1 (by omega) (by omega), bn_add (bn_64 hxy.2) b2 (by omega) (by omega)⟩
theorem near {p1 p2 q1 q2 z Q : Int} (h1 : 0 < q1) (h2 : 0 < q2) (h : rnd p1 q1 + rnd p2 q2 = z) (hz1 : -(Q - 1) ≤ z) (hz2 : z ≤ Q - 1) : -(Q * (q1 * q2)) ≤ p1 * q2 + p2 * q1 ∧ p1 * q2 + p2 * q1 ≤ Q * (q1 * q2) := by
  obtain ⟨a1, a2⟩ := rnd_sp (p := p1) h1
  obtain ⟨b1, b2⟩ := rnd_sp (p := p2) h2
  obtain ⟨r, hr⟩ : ∃ r, r = rnd p1 q1 := ⟨_, rfl⟩
  have hr2 : rnd p2 q2 = z - r := by omega
  rw [← hr] at a1 a2
  rw [hr2] at b1 b2
  have hT := Int.mul_pos h1 h2
  have c1 := Int.mul_le_mul_of_nonneg_right a1 (show 0 ≤ q2 by omega)
  have c2 := Int.mul_lt_mul_of_pos_right a2 h2
  have c3 := Int.mul_le_mul_of_nonneg_right b1 (show 0 ≤ q1 by omega)
  have c4 := Int.mul_lt_mul_of_pos_right b2 h1
  have e1 : r * (2 * q1) * q2 = 2 * (r * (q1 * q2)) := by grind
  have e2 : (2 * p1 + q1) * q2 = 2 * (p1 * q2) + q1 * q2 := by grind
  have e3 : (r + 1) * (2 * q1) * q2 = 2 * (r * (q1 * q2)) + 2 * (q1 * q2) := by grind
  have e4 : (z - r) * (2 * q2) * q1 = 2 * (z * (q1 * q2)) - 2 * (r * (q1 * q2)) := by grind
  have e5 : (2 * p2 + q2) * q1 = 2 * (p2 * q1) + q1 * q2 := by grind
  have e6 : (z - r + 1) * (2 * q2) * q1 = 2 * (z * (q1 * q2)) - 2 * (r * (q1 * q2)) + 2 * (q1 * q2) := by grind
  have m1 : z * (q1 * q2) ≤ (Q - 1) * (q1 * q2) := Int.mul_le_mul_of_nonneg_right hz2 (by omega)
  have m2 : -(Q - 1) * (q1 * q2) ≤ z * (q1 * q2) := Int.mul_le_mul_of_nonneg_right hz1 (by omega)
  have e7 : (Q - 1) * (q1 * q2) = Q * (q1 * q2) - q1 * q2 := by grind
  have e8 : -(Q - 1) * (q1 * q2) = -(Q * (q1 * q2)) + q1 * q2 := by grind
  rw [e1, e2] at c1
  rw [e2, e3] at c2
  rw [e4, e5] at c3
  rw [e5, e6] at c4
  omega
/-- the greater of two sizes -/
theorem mx {x y : Int} : ∃ z, 0 ≤ z ∧ -z ≤ x ∧ x ≤ z ∧ -z ≤ y ∧ y ≤ z ∧ z * z ≤ x * x + y * y := by
  have hx := sq_nn x
  have hy := sq_nn y
  have e1 : -x * -x = x * x := by grind
  have e2 : -y * -y = y * y := by grind
  by_cases h : y.natAbs ≤ x.natAbs
  · by_cases q : 0 ≤ x
    · exact ⟨x, by omega, by omega, by omega, by omega, by omega, by omega⟩
    · exact ⟨-x, by omega, by omega, by omega, by omega, by omega, by omega⟩
  · by_cases q : 0 ≤ y
    · exact ⟨y, by omega, by omega, by omega, by omega, by omega, by omega⟩
    · exact ⟨-y, by omega, by omega, by omega, by omega, by omega, by omega⟩
theorem tip_q {w z k2 a : Int} (hw : 1 ≤ w ∧ w ≤ 40) (hz : 0 ≤ z) (ha1 : -z ≤ a) (ha2 : a ≤ z) (hk : z * z ≤ k2) (hlo : (2048 * w) * (2048 * w) ≤ 204800 * ((z + 1) * (z + 1))) :
    0 < k2 ∧ -28000 ≤ rnd (2 * (32 * w) * (32 * w) * a) k2 ∧ rnd (2 * (32 * w) * (32 * w) * a) k2 ≤ 28000 := by
  have hw0 : 0 ≤ w * w := sq_nn w
  have h1 : 4 * w ≤ z + 1 := by
    rcases Int.lt_or_le (z + 1) (4 * w) with q | q
    · have g := Int.mul_le_mul (show z + 1 ≤ 4 * w - 1 by omega) (show z + 1 ≤ 4 * w - 1 by omega) (by omega) (by omega)
      have e : (4 * w - 1) * (4 * w - 1) = 16 * (w * w) - 8 * w + 1 := by grind
      have e2 : (2048 * w) * (2048 * w) = 4194304 * (w * w) := by grind
      omega
    · exact q
  have h2 : 3 * w ≤ z := by omega
  have e0 : 2 * (32 * w) * (32 * w) * a = 2048 * (w * w) * a := by grind
  have hww : w * w ≤ 40 * w := Int.mul_le_mul_of_nonneg_right hw.2 (by omega)
  have hwz : 3 * w * z ≤ z * z := Int.mul_le_mul_of_nonneg_right h2 hz
  have hpos : 0 < z * z := Int.mul_pos (by omega) (by omega)
  have g1 : 2048 * (w * w) * a ≤ 2048 * (w * w) * z := Int.mul_le_mul_of_nonneg_left ha2 (by omega)
  have g2 : 2048 * (w * w) * -z ≤ 2048 * (w * w) * a := Int.mul_le_mul_of_nonneg_left ha1 (by omega)
  have e3 : 2048 * (w * w) * -z = -(2048 * (w * w) * z) := by grind
  have g3 : 2048 * (w * w) * z ≤ 2048 * (40 * w) * z := Int.mul_le_mul_of_nonneg_right (by omega) hz
  have e4 : 3 * (2048 * (40 * w) * z) = 81920 * (3 * w * z) := by grind
  rw [e0]
  exact ⟨by omega, rnd_q (by omega) (by omega) (by omega)⟩
theorem tip_bn (hR : RW N p c m) (hs : s < N) (h1 : k1 < p s) (hz1 : ¬ (sgx m s (p s) k1 = 0 ∧ sgy m s (p s) k1 = 0)) (h2 : k2 < p s) (hz2 : ¬ (sgx m s (p s) k2 = 0 ∧ sgy m s (p s) k2 = 0)) (h : ¬ mit m s (p s) k1 k2 = 0) :
    BN 28000 (tip m (nrX m s (p s) k1 + nrX m s (p s) k2).toInt (nrX m s (p s) k1 + nrX m s (p s) k2).toInt (nrY m s (p s) k1 + nrY m s (p s) k2).toInt) ∧ BN 28000 (tip m (nrY m s (p s) k1 + nrY m s (p s) k2).toInt (nrX m s (p s) k1 + nrX m s (p s) k2).toInt (nrY m s (p s) k1 + nrY m s (p s) k2).toInt) := by
  have n1 := nr_b hR hs h1 hz1
  have n2 := nr_b hR hs h2 hz2
  have ex : (nrX m s (p s) k1 + nrX m s (p s) k2).toInt = (nrX m s (p s) k1).toInt + (nrX m s (p s) k2).toInt := fb_addI (by omega) (by omega)
  have ey : (nrY m s (p s) k1 + nrY m s (p s) k2).toInt = (nrY m s (p s) k1).toInt + (nrY m s (p s) k2).toInt := fb_addI (by omega) (by omega)
  obtain ⟨kx, hkx⟩ : ∃ kx, kx = (nrX m s (p s) k1 + nrX m s (p s) k2).toInt := ⟨_, rfl⟩
  obtain ⟨ky, hky⟩ : ∃ ky, ky = (nrY m s (p s) k1 + nrY m s (p s) k2).toInt := ⟨_, rfl⟩
  rw [← hkx, ← hky]
  obtain ⟨z, z0, z1, z2, z3, z4, z5⟩ := mx (x := kx) (y := ky)
  have hl1 := sgl_ge hz1
  have hl2 := sgl_ge hz2
  have hw := hR.st.w
  have hm2 := hR.st.2.2.2.1
  have o1 := near (p1 := -(sgy m s (p s) k1).toInt * (2048 * (m 0).toInt)) (p2 := -(sgy m s (p s) k2).toInt * (2048 * (m 0).toInt)) (q1 := sgl m s (p s) k1) (q2 := sgl m s (p s) k2) (z := kx) (Q := z + 1) (by omega) (by omega) (by rw [← n1.1, ← n2.1]; omega) (by omega) (by omega)
  have o2 := near (p1 := (sgx m s (p s) k1).toInt * (2048 * (m 0).toInt)) (p2 := (sgx m s (p s) k2).toInt * (2048 * (m 0).toInt)) (q1 := sgl m s (p s) k1) (q2 := sgl m s (p s) k2) (z := ky) (Q := z + 1) (by omega) (by omega) (by rw [← n1.2.1, ← n2.2.1]; omega) (by omega) (by omega)
  have hj : m 1 = 0 := by
    by_cases y : m 1 = 0
    · exact y
    · exact absurd (by unfold mit; rw [if_neg y]) h
  have hM : 1 ≤ (m 2).toInt * (m 2).toInt ∧ (m 2).toInt * (m 2).toInt ≤ 100 := by
    have e1 : (1 : Int) * 1 ≤ (m 2).toInt * (m 2).toInt := Int.mul_le_mul (by omega) (by omega) (by omega) (by omega)
    have e2 : (m 2).toInt * (m 2).toInt ≤ 10 * 10 := Int.mul_le_mul (by omega) (by omega) (by omega) (by omega)
    omega
  have db := (dtp_b hR hs h1 h2).1
  have b1 := mb (a := (m 2).toInt * (m 2).toInt) (b := dtp m s (p s) k1 k2) (A := 100) (B := 80000) (by omega) (by omega)
  have d1 := (dtp_b hR hs h1 h1).1
  have d2 := (dtp_b hR hs h2 h2).1
  have nn1 : 0 ≤ dtp m s (p s) k1 k1 := by
    have e1 := sq_nn (sgx m s (p s) k1).toInt
    have e2 := sq_nn (sgy m s (p s) k1).toInt
    unfold dtp; omega
  have nn2 : 0 ≤ dtp m s (p s) k2 k2 := by
    have e1 := sq_nn (sgx m s (p s) k2).toInt
    have e2 := sq_nn (sgy m s (p s) k2).toInt
    unfold dtp; omega
  have b2 := mb (a := dtp m s (p s) k1 k1) (b := dtp m s (p s) k2 k2) (A := 80000) (B := 80000) (by omega) (by omega)
  have b3 := mb (a := (m 2).toInt * (m 2).toInt - 2) (b := (m 2).toInt * (m 2).toInt - 2) (A := 100) (B := 100) (by omega) (by omega)
  have b4 := mb (a := ((m 2).toInt * (m 2).toInt - 2) * ((m 2).toInt * (m 2).toInt - 2)) (b := dtp m s (p s) k1 k1 * dtp m s (p s) k2 k2) (A := 10000) (B := 6400000000) (by omega) (by omega)
  have b5 : 0 ≤ ((m 2).toInt * (m 2).toInt - 2) * ((m 2).toInt * (m 2).toInt - 2) * (dtp m s (p s) k1 k1 * dtp m s (p s) k2 k2) := Int.mul_nonneg (sq_nn _) (Int.mul_nonneg nn1 nn2)
  unfold mit at h
  rw [if_pos hj, li_mul, show (2 : Int64) = lI 2 from rfl, li_sub, li_mul] at h
  have hu := up_ne (by omega) (by omega) (by omega) h
  have lo : (2048 * (m 0).toInt) * (2048 * (m 0).toInt) ≤ 204800 * ((z + 1) * (z + 1)) := by
    refine tip_lo (a := (sgx m s (p s) k1).toInt) (b := (sgy m s (p s) k1).toInt) (c := (sgx m s (p s) k2).toInt) (d := (sgy m s (p s) k2).toInt) (L1 := sgl m s (p s) k1) (L2 := sgl m s (p s) k2) (R := 2048 * (m 0).toInt) (M := (m 2).toInt * (m 2).toInt) (Q := z + 1) (by omega) (by omega) (sgl_sq _ _ _ _) (sgl_sq _ _ _ _) ?_ ?_ ?_ ?_ hM hu
    · have e : (2048 * (m 0).toInt) * ((sgx m s (p s) k1).toInt * (sgl m s (p s) k2 : Int) + (sgx m s (p s) k2).toInt * (sgl m s (p s) k1 : Int)) = (sgx m s (p s) k1).toInt * (2048 * (m 0).toInt) * (sgl m s (p s) k2 : Int) + (sgx m s (p s) k2).toInt * (2048 * (m 0).toInt) * (sgl m s (p s) k1 : Int) := by grind
      rw [e]; exact o2.1
    · have e : (2048 * (m 0).toInt) * ((sgx m s (p s) k1).toInt * (sgl m s (p s) k2 : Int) + (sgx m s (p s) k2).toInt * (sgl m s (p s) k1 : Int)) = (sgx m s (p s) k1).toInt * (2048 * (m 0).toInt) * (sgl m s (p s) k2 : Int) + (sgx m s (p s) k2).toInt * (2048 * (m 0).toInt) * (sgl m s (p s) k1 : Int) := by grind
      rw [e]; exact o2.2
    · have e : (2048 * (m 0).toInt) * ((sgy m s (p s) k1).toInt * (sgl m s (p s) k2 : Int) + (sgy m s (p s) k2).toInt * (sgl m s (p s) k1 : Int)) = -(-(sgy m s (p s) k1).toInt * (2048 * (m 0).toInt) * (sgl m s (p s) k2 : Int) + -(sgy m s (p s) k2).toInt * (2048 * (m 0).toInt) * (sgl m s (p s) k1 : Int)) := by grind
      rw [e]; have := o1.2; omega
    · have e : (2048 * (m 0).toInt) * ((sgy m s (p s) k1).toInt * (sgl m s (p s) k2 : Int) + (sgy m s (p s) k2).toInt * (sgl m s (p s) k1 : Int)) = -(-(sgy m s (p s) k1).toInt * (2048 * (m 0).toInt) * (sgl m s (p s) k2 : Int) + -(sgy m s (p s) k2).toInt * (2048 * (m 0).toInt) * (sgl m s (p s) k1 : Int)) := by grind
      rw [e]; have := o1.1; omega
  have t1 := (tip_q (a := kx) hw z0 z1 z2 z5 lo).2
  have t2 := (tip_q (a := ky) hw z0 z3 z4 z5 lo).2
  unfold BN tip
  rw [ii_t (by omega) (by omega), ii_t (by omega) (by omega)]
  exact ⟨t1, t2⟩
end BND
section BNP
variable {N : Nat} {p : Nat → Nat} {c m : Nat → Int32} {s k k1 k2 : Nat}
theorem st_pb (hR : RW N p c m) (hs : s < N) (hk : k < p s) (hz : ¬ (sgx m s (p s) k = 0 ∧ sgy m s (p s) k = 0)) {f t : Nat} (hf : f ≤ sgl m s (p s) k) (ht : t ≤ sgl m s (p s) k) : PB (stP m s (p s) k f t) := by
  have n := nr_bn hR hs hk hz
  have a1 := a_bn hR hs hk hz hf
  have a2 := a_bn hR hs hk hz ht
  intro i _
  exact ⟨bn_w (f4_b (bn_add a1.1 n.1 rfl (by omega)) (bn_add a2.1 n.1 rfl (by omega)) (bn_sub a2.1 n.1 rfl (by omega)) (bn_sub a1.1 n.1 rfl (by omega)) i) (by omega), bn_w (f4_b (bn_add a1.2 n.2.1 rfl (by omega)) (bn_add a2.2 n.2.1 rfl (by omega)) (bn_sub a2.2 n.2.1 rfl (by omega)) (bn_sub a1.2 n.2.1 rfl (by omega)) i) (by omega)⟩
theorem ds_pb {x y : Int32} (hx : BN 100000 x) (hy : BN 100000 y) : PB (dsP x y) := fun _ _ => ⟨hx, hy⟩
theorem pb_1 {q : Pc} (h : PB q) : ∀ r ∈ [q], PB r := fun r hr => by rw [List.mem_singleton.mp hr]; exact h
theorem pb_0 : ∀ r ∈ ([] : List Pc), PB r := fun r hr => absurd hr (by simp)
theorem pb_ap {l l' : List Pc} (h : ∀ r ∈ l, PB r) (h' : ∀ r ∈ l', PB r) : ∀ r ∈ l ++ l', PB r := fun r hr => by
  rcases List.mem_append.mp hr with y | y
  · exact h r y
  · exact h' r y
theorem cp_pb (hR : RW N p c m) (hs : s < N) (hk : k < p s) (hz : ¬ (sgx m s (p s) k = 0 ∧ sgy m s (p s) k = 0)) {t : Nat} (ht : t ≤ sgl m s (p s) k) {w : Int32} (hw : w = 1 ∨ w = -1) : ∀ r ∈ cpP m s (p s) k t w, PB r := by
  have n := nr_bn hR hs hk hz
  have a := a_bn hR hs hk hz ht
  unfold cpP
  by_cases q1 : m 3 = 1
  · rw [if_pos q1]
    exact pb_1 (ds_pb (bn_w a.1 (by omega)) (bn_w a.2 (by omega)))
  · rw [if_neg q1]
    by_cases q2 : m 3 = 2
    · rw [if_pos q2]
      have e1 := bn_way hw n.2.1 (by omega)
      have e2 := bn_way hw n.2.2 (by omega)
      have x1 := bn_add a.1 n.1 rfl (by omega)
      have x2 := bn_sub a.1 n.1 rfl (by omega)
      have y1 := bn_add a.2 n.2.1 rfl (by omega)
      have y2 := bn_sub a.2 n.2.1 rfl (by omega)
      refine pb_1 (fun i _ => ⟨?_, ?_⟩)
      · exact f4_b (bn_w x1 (by omega)) (bn_w (bn_add x1 e1 rfl (by omega)) (by omega)) (bn_w (bn_add x2 e1 rfl (by omega)) (by omega)) (bn_w x2 (by omega)) i
      · exact f4_b (bn_w y1 (by omega)) (bn_w (bn_add y1 e2 rfl (by omega)) (by omega)) (bn_w (bn_add y2 e2 rfl (by omega)) (by omega)) (bn_w y2 (by omega)) i
    · rw [if_neg q2]; exact pb_0
theorem dt_pb (hR : RW N p c m) (hs : s < N) : ∀ r ∈ dtP m s, PB r := by
  have g := hR.sp hs
  have hxy := (g.xy (k := 0) (by have := g.1; omega)).2.2
  have x := bn_64 hxy.1
  have y := bn_64 hxy.2
  have hw := hR.st.w
  have hh : BN 1280 (32 * m 0) := by
    have e3 : m 0 = iI (m 0).toInt := (ii_of _).symm
    unfold BN
    rw [e3, show (32 : Int32) = iI 32 from rfl, ii_mul, ii_t (by omega) (by omega)]; omega
  unfold dtP
  by_cases q1 : m 3 = 1
  · rw [if_pos q1]
    exact pb_1 (ds_pb (bn_w x (by omega)) (bn_w y (by omega)))
  · rw [if_neg q1]
    by_cases q2 : m 3 = 2
    · rw [if_pos q2]
      have x1 := bn_w (B := 100000) (bn_add x hh rfl (by omega)) (by omega)
      have x2 := bn_w (B := 100000) (bn_sub x hh rfl (by omega)) (by omega)
      have y1 := bn_w (B := 100000) (bn_add y hh rfl (by omega)) (by omega)
      have y2 := bn_w (B := 100000) (bn_sub y hh rfl (by omega)) (by omega)
      exact pb_1 (fun i _ => ⟨f4_b x2 x1 x1 x2 i, f4_b y2 y2 y1 y1 i⟩)
    · rw [if_neg q2]; exact pb_0
theorem jn_pb (hR : RW N p c m) (hs : s < N) (h1 : k1 < p s) (hz1 : ¬ (sgx m s (p s) k1 = 0 ∧ sgy m s (p s) k1 = 0)) (h2 : k2 < p s) (hz2 : ¬ (sgx m s (p s) k2 = 0 ∧ sgy m s (p s) k2 = 0)) : ∀ r ∈ jnP m s (p s) k1 k2, PB r := by
  have n1 := nr_bn hR hs h1 hz1
  have n2 := nr_bn hR hs h2 hz2
  have hxy := ((hR.sp hs).xy h2).2.2
  have x := bn_64 hxy.1
  have y := bn_64 hxy.2
  unfold jnP
  by_cases q0 : crs m s (p s) k1 k2 = 0 ∧ (0 < dtp m s (p s) k1 k2 ∨ m 1 ≠ 1)
  · rw [if_pos q0]; exact pb_0
  · rw [if_neg q0]
    by_cases q1 : m 1 = 1
    · rw [if_pos q1]
      exact pb_1 (ds_pb (bn_w x (by omega)) (bn_w y (by omega)))
    · rw [if_neg q1]
      have hw : (if 0 < crs m s (p s) k1 k2 then (-1 : Int32) else 1) = 1 ∨ (if 0 < crs m s (p s) k1 k2 then (-1 : Int32) else 1) = -1 := by
        by_cases z : 0 < crs m s (p s) k1 k2
        · rw [if_pos z]; exact Or.inr rfl
        · rw [if_neg z]; exact Or.inl rfl
      have vx := bn_w (B := 100000) x (by omega)
      have vy := bn_w (B := 100000) y (by omega)
      have ax := bn_w (B := 100000) (bn_add x (bn_way hw n1.1 (by omega)) rfl (by omega)) (by omega)
      have ay := bn_w (B := 100000) (bn_add y (bn_way hw n1.2.1 (by omega)) rfl (by omega)) (by omega)
      have bx := bn_w (B := 100000) (bn_add x (bn_way hw n2.1 (by omega)) rfl (by omega)) (by omega)
      have bY := bn_w (B := 100000) (bn_add y (bn_way hw n2.2.1 (by omega)) rfl (by omega)) (by omega)
      by_cases q2 : mit m s (p s) k1 k2 = 0
      · simp only [if_pos q2]
        exact pb_1 (fun i _ => ⟨f4_b vx ax bx (bn_0 (by omega)) i, f4_b vy ay bY (bn_0 (by omega)) i⟩)
      · simp only [if_neg q2]
        have t := tip_bn hR hs h1 hz1 h2 hz2 q2
        have tx := bn_w (B := 100000) (bn_add x (bn_way hw t.1 (by omega)) rfl (by omega)) (by omega)
        have ty := bn_w (B := 100000) (bn_add y (bn_way hw t.2 (by omega)) rfl (by omega)) (by omega)
        exact pb_1 (fun i _ => ⟨f4_b vx ax tx bx i, f4_b vy ay ty bY i⟩)
theorem sg_kk {g : Nat} (hg : g < (sg N p m s).length) : kk N p m s g < p s ∧ ¬ (sgx m s (p s) (kk N p m s g) = 0 ∧ sgy m s (p s) (kk N p m s g) = 0) ∧ sA N p m s (g + 1) - sA N p m s g = sgl m s (p s) (kk N p m s g) := by
  obtain ⟨k, hk⟩ := hx_at hg
  have h := sg_at hk
  have hA := sA_s (N := N) (p := p) (m := m) hk
  rw [kk_e hk]
  exact ⟨h.1, h.2, by omega⟩
theorem run_pb (hR : RW N p c m) (hs : s < N) {i : Nat} {r : Run} (hr : (fin N p m s)[i]? = some r) : ∀ q ∈ runP N p m s r, PB q := by
  have hne := fin_ne hR hr
  have cu : ∀ k, k < r.2.2.2.length → kk N p m s (cz r k).1 < p s ∧ ¬ (sgx m s (p s) (kk N p m s (cz r k).1) = 0 ∧ sgy m s (p s) (kk N p m s (cz r k).1) = 0) ∧ (cz r k).2.1 ≤ sgl m s (p s) (kk N p m s (cz r k).1) ∧ (cz r k).2.2 ≤ sgl m s (p s) (kk N p m s (cz r k).1) := fun k hk => by
    obtain ⟨z, hz⟩ := hx_at hk
    have hc := fin_cut hR hr hz
    rw [cz_e hz]
    have h := sg_kk (N := N) (p := p) (m := m) (s := s) hc.1
    exact ⟨h.1, h.2.1, by omega, by omega⟩
  have jp : ∀ k k', k < r.2.2.2.length → k' < r.2.2.2.length → ∀ q ∈ jj N p m s r k k', PB q := fun k k' h1 h2 => by
    unfold jj
    by_cases z : (cz r k').1 = (cz r k).1
    · rw [if_pos z]; exact pb_0
    · rw [if_neg z]
      exact jn_pb hR hs (cu k h1).1 (cu k h1).2.1 (cu k' h2).1 (cu k' h2).2.1
  have rr : ∀ k, k ≤ r.2.2.2.length → ∀ q ∈ rp N p m s r k, PB q := by
    intro k
    induction k with
    | zero => intro _; exact pb_0
    | succ k ih =>
      intro hk
      rw [rp_s]
      have c0 := cu k (by omega)
      refine pb_ap (pb_ap (ih (by omega)) (pb_1 (st_pb hR hs c0.1 c0.2.1 c0.2.2.1 c0.2.2.2))) ?_
      unfold jo
      by_cases z : k + 1 < r.2.2.2.length
      · rw [if_pos z]; exact jp k (k + 1) (by omega) z
      · rw [if_neg z]
        by_cases z2 : r.2.2.1 = 1
        · rw [if_pos z2]; exact jp k 0 (by omega) hne
        · rw [if_neg z2]; exact pb_0
  unfold runP rcp
  refine pb_ap (rr _ (Nat.le_refl _)) ?_
  by_cases z2 : r.2.2.1 = 1
  · rw [if_pos z2]; exact pb_0
  · rw [if_neg z2]
    have c0 := cu 0 hne
    have c1 := cu (r.2.2.2.length - 1) (by omega)
    exact pb_ap (cp_pb hR hs c0.1 c0.2.1 c0.2.2.1 (Or.inr rfl)) (cp_pb hR hs c1.1 c1.2.1 c1.2.2.2 (Or.inl rfl))
theorem pcs_pb (hR : RW N p c m) : ∀ s, s ≤ N → ∀ q ∈ pcs N p m s, PB q := by
  intro s
  induction s with
  | zero => intro _; exact pb_0
  | succ s ih =>
    intro hs
    rw [pcs_s]
    refine pb_ap (ih (by omega)) ?_
    have fm : ∀ k, k ≤ (fin N p m s).length → ∀ q ∈ fmP N p m s k, PB q := by
      intro k
      induction k with
      | zero =>
        intro _
        rw [fmP_0]
        by_cases z : (sg N p m s).length = 0
        · rw [if_pos z]; exact dt_pb hR (by omega)
        · rw [if_neg z]; exact pb_0
      | succ k ih2 =>
        intro hk
        obtain ⟨r, hr⟩ := hx_at (show k < (fin N p m s).length by omega)
        rw [fmP_s hr]
        exact pb_ap (ih2 (by omega)) (run_pb hR (by omega) hr)
    exact fm _ (Nat.le_refl _)
theorem pcs_at (hR : RW N p c m) {i : Nat} {q : Pc} (h : (pcs N p m N)[i]? = some q) : PB q := pcs_pb hR N (Nat.le_refl _) q (List.mem_of_getElem? h)
end BNP
