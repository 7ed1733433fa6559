/-! ===== limits and tips, alike in both ===== -/
theorem lg_nge (x : Int64) : (lg_cmp x 0 < 0) = ¬ (0 ≤ lg_cmp x 0) := by
  refine propext ?_
  rw [lg_cmp_lt, lg_cmp_ge, fa_lt64, fa_le64]; omega
/-- the class's limit is the reference's -/
theorem lim_eq (v : Int32) (d q : Int64) : F_X10_isInLimit v d q = F_X12_isUp (v.toInt64 * v.toInt64 * d) (v.toInt64 * v.toInt64 - 2) q := by
  unfold F_X10_isInLimit F_X10_isInLimit_j44 F_X10_isInLimit_j56 F_X12_isUp F_X12_isUp_j14 F_X12_isUp_j28
  simp only [lt_eq, lg_nge]
  by_cases h1 : 0 ≤ lg_cmp (v.toInt64 * v.toInt64 * d) 0
  · by_cases h2 : 0 ≤ lg_cmp (v.toInt64 * v.toInt64 - 2) 0
    · simp [h1, h2]
    · simp [h1, h2]
  · by_cases h2 : 0 ≤ lg_cmp (v.toInt64 * v.toInt64 - 2) 0
    · simp [h1, h2]
    · simp [h1, h2]
theorem up_ne {x y z : Int} (hx : -100000000 ≤ x ∧ x ≤ 100000000) (hy : -100000000 ≤ y ∧ y ≤ 100000000) (hyz : 0 ≤ y * y * z ∧ y * y * z ≤ 1000000000000000000) (h : ¬ F_X12_isUp (lI x) (lI y) (lI z) = 0) : 0 ≤ x ∨ (0 ≤ y ∧ x * x ≤ y * y * z) := by
  have hxx : 0 ≤ x * x ∧ x * x ≤ 10000000000000000 := by
    refine ⟨sq_nn x, ?_⟩
    have := sq_le (u := x) (T := 100000000) (by omega) (by omega)
    omega
  by_cases q : 0 ≤ x
  · exact Or.inl q
  · right
    have n1 : ¬ (0 ≤ lg_cmp (lI x) 0) := by
      rw [lg_cmp_ge, show (0 : Int64) = lI 0 from rfl, li_le (by constructor <;> omega) (by constructor <;> omega)]; exact q
    unfold F_X12_isUp F_X12_isUp_j14 F_X12_isUp_j28 at h
    simp only [lg_nge] at h
    by_cases q2 : 0 ≤ y
    · refine ⟨q2, ?_⟩
      have n2 : 0 ≤ lg_cmp (lI y) 0 := by
        rw [lg_cmp_ge, show (0 : Int64) = lI 0 from rfl, li_le (by constructor <;> omega) (by constructor <;> omega)]; exact q2
      simp only [n1, n2, not_false_eq_true, if_true, if_false, ite_true, ite_false] at h
      rw [li_mul, li_mul, li_mul] at h
      by_cases w : lg_cmp (lI (y * y * z)) (lI (x * x)) < 0
      · rw [if_pos w] at h; exact absurd rfl h
      · rw [lg_cmp_lt, li_lt (by constructor <;> omega) (by constructor <;> omega)] at w; omega
    · have n2 : ¬ (0 ≤ lg_cmp (lI y) 0) := by
        rw [lg_cmp_ge, show (0 : Int64) = lI 0 from rfl, li_le (by constructor <;> omega) (by constructor <;> omega)]; exact q2
      simp only [n1, n2, not_false_eq_true, if_true, if_false, ite_true, ite_false] at h
      exact absurd trivial h
theorem rnd_sp {p q : Int} (hq : 0 < q) : rnd p q * (2 * q) ≤ 2 * p + q ∧ 2 * p + q < (rnd p q + 1) * (2 * q) := by
  unfold rnd
  exact ⟨Int.ediv_mul_le _ (by omega), Int.lt_ediv_add_one_mul_self _ (by omega)⟩
theorem rnd_b {p q B : Int} (hq : 0 < q) (hB : 0 ≤ B) (h1 : -B ≤ p) (h2 : p ≤ B) : -B - 1 ≤ rnd p q ∧ rnd p q ≤ B + 1 := by
  obtain ⟨s1, s2⟩ := rnd_sp (p := p) hq
  have hBq : B * 1 ≤ B * q := Int.mul_le_mul_of_nonneg_left (by omega) hB
  constructor
  · by_cases z : -B - 1 ≤ rnd p q
    · exact z
    · have : (rnd p q + 1) * (2 * q) ≤ (-B - 1) * (2 * q) := Int.mul_le_mul_of_nonneg_right (by omega) (by omega)
      have e : (-B - 1) * (2 * q) = -(2 * (B * q)) - 2 * q := by grind
      omega
  · by_cases z : rnd p q ≤ B + 1
    · exact z
    · have : (B + 2) * (2 * q) ≤ rnd p q * (2 * q) := Int.mul_le_mul_of_nonneg_right (by omega) (by omega)
      have e : (B + 2) * (2 * q) = 2 * (B * q) + 4 * q := by grind
      omega
theorem opp {p1 p2 q1 q2 : Int} (h1 : 0 < q1) (h2 : 0 < q2) (h : rnd p1 q1 + rnd p2 q2 = 0) : -(q1 * q2) ≤ p1 * q2 + p2 * q1 ∧ p1 * q2 + p2 * q1 ≤ q1 * q2 := by
  obtain ⟨a1, a2⟩ := rnd_sp (p := p1) h1
  obtain ⟨b1, b2⟩ := rnd_sp (p := p2) h2
  obtain ⟨r, hr⟩ : ∃ r, r = rnd p1 q1 := ⟨_, rfl⟩
  have hr2 : rnd p2 q2 = -r := by omega
  rw [← hr] at a1 a2
  rw [hr2] at b1 b2
  have c1 := Int.mul_le_mul_of_nonneg_right a1 (show 0 ≤ q2 by omega)
  have c2 := Int.mul_lt_mul_of_pos_right a2 h2
  have c3 := Int.mul_le_mul_of_nonneg_right b1 (show 0 ≤ q1 by omega)
  have c4 := Int.mul_lt_mul_of_pos_right b2 h1
  have e1 : r * (2 * q1) * q2 = 2 * (r * (q1 * q2)) := by grind
  have e2 : (2 * p1 + q1) * q2 = 2 * (p1 * q2) + q1 * q2 := by grind
  have e3 : (r + 1) * (2 * q1) * q2 = 2 * (r * (q1 * q2)) + 2 * (q1 * q2) := by grind
  have e4 : -r * (2 * q2) * q1 = -(2 * (r * (q1 * q2))) := by grind
  have e5 : (2 * p2 + q2) * q1 = 2 * (p2 * q1) + q1 * q2 := by grind
  have e6 : (-r + 1) * (2 * q2) * q1 = -(2 * (r * (q1 * q2))) + 2 * (q1 * q2) := by grind
  rw [e1, e2] at c1
  rw [e2, e3] at c2
  rw [e4, e5] at c3
  rw [e5, e6] at c4
  omega
section TIP
variable {N : Nat} {p : Nat → Nat} {c m : Nat → Int32} {s k k1 k2 : Nat}
theorem nr_b (hR : RW N p c m) (hs : s < N) (hk : k < p s) (hz : ¬ (sgx m s (p s) k = 0 ∧ sgy m s (p s) k = 0)) :
    (nrX m s (p s) k).toInt = rnd (-(sgy m s (p s) k).toInt * (2048 * (m 0).toInt)) (sgl m s (p s) k) ∧ (nrY m s (p s) k).toInt = rnd ((sgx m s (p s) k).toInt * (2048 * (m 0).toInt)) (sgl m s (p s) k) ∧
    (-16384001 ≤ (nrX m s (p s) k).toInt ∧ (nrX m s (p s) k).toInt ≤ 16384001) ∧ (-16384001 ≤ (nrY m s (p s) k).toInt ∧ (nrY m s (p s) k).toInt ≤ 16384001) := by
  have hst := stp (hR.sp hs) hk
  have hl := sgl_ge hz
  have hw := hR.st.w
  have b1 := mb (a := -(sgy m s (p s) k).toInt) (b := 2048 * (m 0).toInt) (A := 200) (B := 81920) (by omega) (by omega)
  have b2 := mb (a := (sgx m s (p s) k).toInt) (b := 2048 * (m 0).toInt) (A := 200) (B := 81920) (by omega) (by omega)
  have c1 := rnd_b (p := -(sgy m s (p s) k).toInt * (2048 * (m 0).toInt)) (q := sgl m s (p s) k) (B := 16384000) (by omega) (by omega) (by omega) (by omega)
  have c2 := rnd_b (p := (sgx m s (p s) k).toInt * (2048 * (m 0).toInt)) (q := sgl m s (p s) k) (B := 16384000) (by omega) (by omega) (by omega) (by omega)
  have e1 : (nrX m s (p s) k).toInt = rnd (-(sgy m s (p s) k).toInt * (2048 * (m 0).toInt)) (sgl m s (p s) k) := ii_t (by omega) (by omega)
  have e2 : (nrY m s (p s) k).toInt = rnd ((sgx m s (p s) k).toInt * (2048 * (m 0).toInt)) (sgl m s (p s) k) := ii_t (by omega) (by omega)
  exact ⟨e1, e2, by omega, by omega⟩
theorem sgl_sq (m : Nat → Int32) (s n k : Nat) : (sgl m s n k : Int) * sgl m s n k ≤ 4096 * ((sgx m s n k).toInt * (sgx m s n k).toInt + (sgy m s n k).toInt * (sgy m s n k).toInt) := by
  have h := (rtS_sq (4096 * sgq m s n k)).1
  have e : ((sgq m s n k : Nat) : Int) = (sgx m s n k).toInt * (sgx m s n k).toInt + (sgy m s n k).toInt * (sgy m s n k).toInt := by
    unfold sgq
    rw [Int.natCast_add, Int.natAbs_mul_self, Int.natAbs_mul_self]
  rw [← e]
  have h2 : (((sgl m s n k) * (sgl m s n k) : Nat) : Int) ≤ ((4096 * sgq m s n k : Nat) : Int) := Int.ofNat_le.mpr h
  rw [Int.natCast_mul] at h2
  omega
theorem dtp_b (hR : RW N p c m) (hs : s < N) (h1 : k1 < p s) (h2 : k2 < p s) : (-80000 ≤ dtp m s (p s) k1 k2 ∧ dtp m s (p s) k1 k2 ≤ 80000) ∧ (-80000 ≤ crs m s (p s) k1 k2 ∧ crs m s (p s) k1 k2 ≤ 80000) := by
  have a := stp (hR.sp hs) h1
  have b := stp (hR.sp hs) h2
  have c1 := mb (a := (sgx m s (p s) k1).toInt) (b := (sgx m s (p s) k2).toInt) (A := 200) (B := 200) (by omega) (by omega)
  have c2 := mb (a := (sgy m s (p s) k1).toInt) (b := (sgy m s (p s) k2).toInt) (A := 200) (B := 200) (by omega) (by omega)
  have c3 := mb (a := (sgx m s (p s) k1).toInt) (b := (sgy m s (p s) k2).toInt) (A := 200) (B := 200) (by omega) (by omega)
  have c4 := mb (a := (sgy m s (p s) k1).toInt) (b := (sgx m s (p s) k2).toInt) (A := 200) (B := 200) (by omega) (by omega)
  unfold dtp crs
  omega
theorem tip_pos (hR : RW N p c m) (hs : s < N) (h1 : k1 < p s) (hz1 : ¬ (sgx m s (p s) k1 = 0 ∧ sgy m s (p s) k1 = 0)) (h2 : k2 < p s) (hz2 : ¬ (sgx m s (p s) k2 = 0 ∧ sgy m s (p s) k2 = 0)) (h : ¬ mit m s (p s) k1 k2 = 0) :
    0 < (nrX m s (p s) k1 + nrX m s (p s) k2).toInt * (nrX m s (p s) k1 + nrX m s (p s) k2).toInt + (nrY m s (p s) k1 + nrY m s (p s) k2).toInt * (nrY m s (p s) k1 + nrY m s (p s) k2).toInt ∧
    (-33000000 ≤ (nrX m s (p s) k1 + nrX m s (p s) k2).toInt ∧ (nrX m s (p s) k1 + nrX m s (p s) k2).toInt ≤ 33000000) ∧ (-33000000 ≤ (nrY m s (p s) k1 + nrY m s (p s) k2).toInt ∧ (nrY m s (p s) k1 + nrY m s (p s) k2).toInt ≤ 33000000) := by
  have n1 := nr_b hR hs h1 hz1
  have n2 := nr_b hR hs h2 hz2
  have ex : (nrX m s (p s) k1 + nrX m s (p s) k2).toInt = (nrX m s (p s) k1).toInt + (nrX m s (p s) k2).toInt := fb_addI (by omega) (by omega)
  have ey : (nrY m s (p s) k1 + nrY m s (p s) k2).toInt = (nrY m s (p s) k1).toInt + (nrY m s (p s) k2).toInt := fb_addI (by omega) (by omega)
  refine ⟨?_, by omega, by omega⟩
  obtain ⟨kx, hkx⟩ : ∃ kx, kx = (nrX m s (p s) k1 + nrX m s (p s) k2).toInt := ⟨_, rfl⟩
  obtain ⟨ky, hky⟩ : ∃ ky, ky = (nrY m s (p s) k1 + nrY m s (p s) k2).toInt := ⟨_, rfl⟩
  rw [← hkx, ← hky]
  have q1 := sq_nn kx
  have q2 := sq_nn ky
  rcases Int.lt_or_le 0 (kx * kx + ky * ky) with w | w
  · exact w
  · exfalso
    have z1 : kx = 0 := by
      have : kx * kx = 0 := by omega
      rcases Int.mul_eq_zero.mp this with y | y <;> exact y
    have z2 : ky = 0 := by
      have : ky * ky = 0 := by omega
      rcases Int.mul_eq_zero.mp this with y | y <;> exact y
    have hl1 := sgl_ge hz1
    have hl2 := sgl_ge hz2
    have hw := hR.st.w
    have hm2 := hR.st.2.2.2.1
    have o1 := opp (p1 := -(sgy m s (p s) k1).toInt * (2048 * (m 0).toInt)) (p2 := -(sgy m s (p s) k2).toInt * (2048 * (m 0).toInt)) (q1 := sgl m s (p s) k1) (q2 := sgl m s (p s) k2) (by omega) (by omega) (by rw [← n1.1, ← n2.1]; omega)
    have o2 := opp (p1 := (sgx m s (p s) k1).toInt * (2048 * (m 0).toInt)) (p2 := (sgx m s (p s) k2).toInt * (2048 * (m 0).toInt)) (q1 := sgl m s (p s) k1) (q2 := sgl m s (p s) k2) (by omega) (by omega) (by rw [← n1.2.1, ← n2.2.1]; omega)
    have hj : m 1 = 0 := by
      by_cases y : m 1 = 0
      · exact y
      · exact absurd (by unfold mit; rw [if_neg y]) h
    have hM : 1 ≤ (m 2).toInt * (m 2).toInt ∧ (m 2).toInt * (m 2).toInt ≤ 100 := by
      have e1 : (1 : Int) * 1 ≤ (m 2).toInt * (m 2).toInt := Int.mul_le_mul (by omega) (by omega) (by omega) (by omega)
      have e2 : (m 2).toInt * (m 2).toInt ≤ 10 * 10 := Int.mul_le_mul (by omega) (by omega) (by omega) (by omega)
      omega
    have db := (dtp_b hR hs h1 h2).1
    have b1 := mb (a := (m 2).toInt * (m 2).toInt) (b := dtp m s (p s) k1 k2) (A := 100) (B := 80000) (by omega) (by omega)
    have d1 := (dtp_b hR hs h1 h1).1
    have d2 := (dtp_b hR hs h2 h2).1
    have nn1 : 0 ≤ dtp m s (p s) k1 k1 := by
      have e1 := sq_nn (sgx m s (p s) k1).toInt
      have e2 := sq_nn (sgy m s (p s) k1).toInt
      unfold dtp; omega
    have nn2 : 0 ≤ dtp m s (p s) k2 k2 := by
      have e1 := sq_nn (sgx m s (p s) k2).toInt
      have e2 := sq_nn (sgy m s (p s) k2).toInt
      unfold dtp; omega
    have b2 := mb (a := dtp m s (p s) k1 k1) (b := dtp m s (p s) k2 k2) (A := 80000) (B := 80000) (by omega) (by omega)
    have b3 := mb (a := (m 2).toInt * (m 2).toInt - 2) (b := (m 2).toInt * (m 2).toInt - 2) (A := 100) (B := 100) (by omega) (by omega)
    have b4 := mb (a := ((m 2).toInt * (m 2).toInt - 2) * ((m 2).toInt * (m 2).toInt - 2)) (b := dtp m s (p s) k1 k1 * dtp m s (p s) k2 k2) (A := 10000) (B := 6400000000) (by omega) (by omega)
    have b5 : 0 ≤ ((m 2).toInt * (m 2).toInt - 2) * ((m 2).toInt * (m 2).toInt - 2) * (dtp m s (p s) k1 k1 * dtp m s (p s) k2 k2) := Int.mul_nonneg (sq_nn _) (Int.mul_nonneg nn1 nn2)
    unfold mit at h
    rw [if_pos hj, li_mul, show (2 : Int64) = lI 2 from rfl, li_sub, li_mul] at h
    have hu := up_ne (by omega) (by omega) (by omega) h
    refine tip_no (a := (sgx m s (p s) k1).toInt) (b := (sgy m s (p s) k1).toInt) (c := (sgx m s (p s) k2).toInt) (d := (sgy m s (p s) k2).toInt) (L1 := sgl m s (p s) k1) (L2 := sgl m s (p s) k2) (R := 2048 * (m 0).toInt) (M := (m 2).toInt * (m 2).toInt) (by omega) (by omega) (sgl_sq _ _ _ _) (sgl_sq _ _ _ _) (by omega) ?_ ?_ ?_ ?_ hM hu
    · have e : (2048 * (m 0).toInt) * ((sgx m s (p s) k1).toInt * (sgl m s (p s) k2 : Int) + (sgx m s (p s) k2).toInt * (sgl m s (p s) k1 : Int)) = (sgx m s (p s) k1).toInt * (2048 * (m 0).toInt) * (sgl m s (p s) k2 : Int) + (sgx m s (p s) k2).toInt * (2048 * (m 0).toInt) * (sgl m s (p s) k1 : Int) := by grind
      rw [e]; exact o2.1
    · have e : (2048 * (m 0).toInt) * ((sgx m s (p s) k1).toInt * (sgl m s (p s) k2 : Int) + (sgx m s (p s) k2).toInt * (sgl m s (p s) k1 : Int)) = (sgx m s (p s) k1).toInt * (2048 * (m 0).toInt) * (sgl m s (p s) k2 : Int) + (sgx m s (p s) k2).toInt * (2048 * (m 0).toInt) * (sgl m s (p s) k1 : Int) := by grind
      rw [e]; exact o2.2
    · have e : (2048 * (m 0).toInt) * ((sgy m s (p s) k1).toInt * (sgl m s (p s) k2 : Int) + (sgy m s (p s) k2).toInt * (sgl m s (p s) k1 : Int)) = -(-(sgy m s (p s) k1).toInt * (2048 * (m 0).toInt) * (sgl m s (p s) k2 : Int) + -(sgy m s (p s) k2).toInt * (2048 * (m 0).toInt) * (sgl m s (p s) k1 : Int)) := by grind
      rw [e]; have := o1.2; omega
    · have e : (2048 * (m 0).toInt) * ((sgy m s (p s) k1).toInt * (sgl m s (p s) k2 : Int) + (sgy m s (p s) k2).toInt * (sgl m s (p s) k1 : Int)) = -(-(sgy m s (p s) k1).toInt * (2048 * (m 0).toInt) * (sgl m s (p s) k2 : Int) + -(sgy m s (p s) k2).toInt * (2048 * (m 0).toInt) * (sgl m s (p s) k1 : Int)) := by grind
      rw [e]; have := o1.1; omega
end TIP
