/-! ===== covering ===== -/
def cvN (r : Int32) (x y : Int32) (q : Pc) : Nat := if cvB r q x y = true then 1 else 0
theorem b2_t {b : Bool} (h : b = true) : ¬ b2 b = 0 := fun e => by rw [h] at e; exact absurd e (by decide)
theorem b2_f {b : Bool} (h : ¬ b = true) : b2 b = 0 := (b2_0 b).mpr (by cases b with | false => rfl | true => exact absurd rfl h)
section CVG
variable {L : List Pc} {K X Y R : Nat → Int32}
theorem around_c (h : HoP L K X Y) (hL : L.length ≤ 2792) (hp : ∀ (i : Nat) (q : Pc), L[i]? = some q → PB q) {hh : Int} (h1 : 0 ≤ hh ∧ hh ≤ 1280) (x y : Int32) {n : Nat} (hn : 10000 ≤ n) : F_X7_countAround n (nI L.length) (iI hh) K X Y x y = some (nI (sumf (cvN (iI hh) x y) L)) := by
  have key : lpq (F_X7_countAround_b5 n (nI L.length) (iI hh) K X Y x y) n (nI (sumf (cvN (iI hh) x y) (L.take 0)), nI 0) = some (nI (sumf (cvN (iI hh) x y) (L.take L.length))) := by
    refine lpq_run L.length (fun i => (nI (sumf (cvN (iI hh) x y) (L.take i)), nI i)) (fun i hi => ?_) ?_ (by omega)
    · obtain ⟨q, hq⟩ := hx_at hi
      unfold F_X7_countAround_b5 F_X7_countAround_j28
      show (if nI L.length ≤ nI i then _ else obd (F_X7_covers n (iI hh) K X Y (nI i) x y) _) = _
      rw [if_neg (nI_ge hi (by omega)), cov_c h hL hq (hp i q hq) h1 x y (by omega), obd_s, sumf_t hq]
      by_cases z : cvB (iI hh) q x y = true
      · have e : cvN (iI hh) x y q = 1 := if_pos z
        rw [if_neg (b2_t z), lt_eq, lt_eq, e, ← nI_add, ← nI_add i 1]; rfl
      · have e : cvN (iI hh) x y q = 0 := if_neg z
        rw [if_pos (b2_f z), lt_eq, e, Nat.add_zero, ← nI_add i 1]; rfl
    · unfold F_X7_countAround_b5
      exact if_pos (nI_le (Nat.le_refl _) (by omega))
  rw [List.take_length] at key
  unfold F_X7_countAround F_X7_countAround_j5 F_X7_countAround_j34
  have key' : lpq (F_X7_countAround_b5 n (nI L.length) (iI hh) K X Y x y) n (0, 0) = some (nI (sumf (cvN (iI hh) x y) L)) := key
  rw [key', obd_s]
theorem around_m (h : HoQ L R) (hL : L.length ≤ 2792) {m' : Nat → Int32} {r : Int32} (hm : F_X12_half m' = some r) (x y : Int32) {n : Nat} (hn : 10000 ≤ n) : lpq (F_X12_covering_b49 n (nI L.length) m' R x y) n (0, 0) = some (nI (sumf (cvN r x y) L)) := by
  have key : lpq (F_X12_covering_b49 n (nI L.length) m' R x y) n (nI (sumf (cvN r x y) (L.take 0)), nI 0) = some (nI (sumf (cvN r x y) (L.take L.length))) := by
    refine lpq_run L.length (fun i => (nI (sumf (cvN r x y) (L.take i)), nI i)) (fun i hi => ?_) ?_ (by omega)
    · obtain ⟨q, hq⟩ := hx_at hi
      unfold F_X12_covering_b49 F_X12_covering_j75
      show (if nI L.length ≤ nI i then _ else obd (F_X12_covers n m' R (nI i) x y) _) = _
      rw [if_neg (nI_ge hi (by omega)), cov_m h hL hq hm x y (by omega), obd_s, sumf_t hq]
      by_cases z : cvB r q x y = true
      · have e : cvN r x y q = 1 := if_pos z
        rw [if_neg (b2_t z), lt_eq, lt_eq, e, ← nI_add, ← nI_add i 1]; rfl
      · have e : cvN r x y q = 0 := if_neg z
        rw [if_pos (b2_f z), lt_eq, lt_eq, e, ← nI_add _ 0, ← nI_add i 1]; rfl
    · unfold F_X12_covering_b49
      exact if_pos (nI_le (Nat.le_refl _) (by omega))
  rw [List.take_length] at key
  exact key
end CVG
set_option maxHeartbeats 4000000 in
theorem ag_covering : Ag_covering (Inv (CAg WS PS)) := by
  unfold Ag_covering
  intro d0 d1 d2 d3 d4 d5 d6 d7 d8 d9 d10 d11 d12 d13 d14 d15 d16 d17 d18 d19 d20 d21 d22 d23 d24 d25 d26 d27 d28 d29 d30 d31 d32 d33 d34 d35 d36 d37 d38 d39 d40 d41 d42 d43 d44 d45 d46 d47 d48 d49 d50 m0 m1 m2 m3 m4 m5 m6 m7 m8 m9 m10 m11 m12 m13 m14 m15 m16 m17 m18 m19 m20 m21 m22 m23 m24 m25 m26 m27 m28 m29 m30 p1 p2 hI
  obtain ⟨N, p, hR, hH, hT, hC⟩ := Inv_un hI
  have hN4 := hR.1
  have c13 := hR.c13
  have m13 := hR.m13
  have hL := pcs_len hR.red N
  have hL' : (pcs N p (red m14) N).length ≤ 2792 := by omega
  have hw := hR.red.st.w
  have hp : ∀ (i : Nat) (q : Pc), (pcs N p (red m14) N)[i]? = some q → PB q := fun i q h => pcs_at hR.red h
  have hh : 0 ≤ 32 * (red m14 0).toInt ∧ 32 * (red m14 0).toInt ≤ 1280 := by omega
  by_cases h1 : -20000 ≤ p1 ∧ p1 ≤ 20000
  · have hck : F_X11_checkRange p1 (-20000) 20000 = some (.inl ()) := ck_in h1
    have hwi : F_X12_within p1 (-20000) 20000 = 1 := wi_in h1
    by_cases h2 : -20000 ≤ p2 ∧ p2 ≤ 20000
    · have hck2 : F_X11_checkRange p2 (-20000) 20000 = some (.inl ()) := ck_in h2
      have hwi2 : F_X12_within p2 (-20000) 20000 = 1 := wi_in h2
      obtain ⟨e12, e13, e14, e15, e16, e44, e45, e46, e47, e48, e49, e28, e29, e30, e31, e32, e33, e34, e35, e36, e37, e38, e39, e40, e41, e42, e43, e17, e18, e19, e20, e21, e22, e23, e24, e25, e26, e27, k1, ⟨k2, k2b, k2c⟩, k3⟩ := outd hR hC (n := 200000) (by omega)
      obtain ⟨y12, y13, y16, y17, y21, b6, b7, b8, b9, b10, b11, b14, b15, b18, b19, b20, R', k4, k5⟩ := lp_m hR.red (red_E m14) (n := 200000) (by omega) m3 m4 m5 m6 m7 m17 m18 m19 m20 m21 m22 m23 m24 m25 m26 m27 m28
      rw [hf_e hR.red.st] at k2b
      refine Or.inl ⟨200000, 200000, (nI (sumf (cvN (iI (32 * (red m14 0).toInt)) p1 p2) (pcs N p (red m14) N)), e12, e13, e14, e15, e16, e44, e45, e46, e47, e48, e49, e28, e29, e30, e31, e32, e33, e34, e35, e36, e37, e38, e39, e40, e41, e42, e43, e17, e18, e19, e20, e21, e22, e23, e24, e25, e26, e27), (nI (sumf (cvN (iI (32 * (red m14 0).toInt)) p1 p2) (pcs N p (red m14) N)), 0, y12, y13, y16, y17, y21, nI (pcs N p (red m14) N).length, b6, b7, b8, b9, b10, b11, b14, b15, b18, b19, b20, R'), ?_, ?_, rfl, rfl, Inv_mk hR hH hT k3⟩
      · unfold F_X11_covering
        rw [hck, obx_l, hck2, obx_l, k1, obd_s]
        show obd (F_X7_countAround 200000 e44 e46 e47 e48 e49 p1 p2) _ = _
        rw [k2, k2b, around_c k2c hL' hp hh p1 p2 (by omega), obd_s, ← k2b, ← k2]
      · unfold F_X12_covering F_X12_covering_j32 F_X12_covering_j49 F_X12_covering_j83
        rw [hwi, lt_eq, if_neg (by decide), hwi2, lt_eq, if_neg (by decide), rf_0, lt_eq, if_pos rfl, k4, obd_s]
        show obd (lpq (F_X12_covering_b49 200000 (nI (pcs N p (red m14) N).length) m14 R' p1 p2) 200000 (0, 0)) _ = _
        rw [around_m k5 hL' (m' := m14) (by rw [hf_m (red_E m14), hf_e hR.red.st]) p1 p2 (by omega), obd_s]
    · refine Or.inr ⟨0, 0, (1, d12, d13, d14, d15, d16, d44, d45, d46, d47, d48, d49, d28, d29, d30, d31, d32, d33, d34, d35, d36, d37, d38, d39, d40, d41, d42, d43, d17, d18, d19, d20, d21, d22, d23, d24, d25, d26, d27), (0, 1, m3, m4, m5, m6, m7, m8, m17, m18, m19, m20, m21, m22, m23, m24, m25, m26, m27, m28), ?_, rfl, ?_, rfl, Inv_mk hR hH hT hC⟩
      · unfold F_X11_covering
        rw [hck, obx_l, ck_out h2, obx_r]
      · unfold F_X12_covering F_X12_covering_j31 F_X12_covering_j32
        rw [hwi, lt_eq, if_neg (by decide), wi_out h2, lt_eq, if_pos rfl, rf_1, lt_eq, if_neg (by decide)]
  · refine Or.inr ⟨0, 0, (1, d12, d13, d14, d15, d16, d44, d45, d46, d47, d48, d49, d28, d29, d30, d31, d32, d33, d34, d35, d36, d37, d38, d39, d40, d41, d42, d43, d17, d18, d19, d20, d21, d22, d23, d24, d25, d26, d27), (0, 1, m3, m4, m5, m6, m7, m8, m17, m18, m19, m20, m21, m22, m23, m24, m25, m26, m27, m28), ?_, rfl, ?_, rfl, Inv_mk hR hH hT hC⟩
    · unfold F_X11_covering
      rw [ck_out h1, obx_r]
    · unfold F_X12_covering F_X12_covering_j31 F_X12_covering_j32
      rw [wi_out h1, lt_eq, if_pos rfl, rf_1, lt_eq, if_neg (by decide)]
