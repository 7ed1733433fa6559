/-! ===== covered, alike ===== -/
theorem CAg_50 {W : TW} {P : TP} {N : Nat} {p : Nat → Nat} {m : Nat → Int32} {d12 d13 d14 d15 d16 d17 : Int32} {d18 d19 d20 d21 d22 d23 d24 d25 d26 d27 : Nat → Int32} {d28 d29 : Int32} {d30 d31 d32 d33 d34 d35 d36 d37 d38 : Nat → Int32} {d39 d40 d41 d42 : Int32} {d43 : Nat → Int32} {d44 d45 d46 : Int32} {d47 d48 d49 d50 : Nat → Int32} (x : Nat → Int32)
    (h : CAg W P N p m (d12, d13, d14, d15, d16, d17, d18, d19, d20, d21, d22, d23, d24, d25, d26, d27, d28, d29, d30, d31, d32, d33, d34, d35, d36, d37, d38, d39, d40, d41, d42, d43, d44, d45, d46, d47, d48, d49, d50)) : CAg W P N p m (d12, d13, d14, d15, d16, d17, d18, d19, d20, d21, d22, d23, d24, d25, d26, d27, d28, d29, d30, d31, d32, d33, d34, d35, d36, d37, d38, d39, d40, d41, d42, d43, d44, d45, d46, d47, d48, d49, x) := by
  obtain ⟨st, h0, h1, h2, h3, h4⟩ := h
  exact ⟨st, h0, h1, h2, h3, h4⟩
set_option maxHeartbeats 4000000 in
theorem ag_covered : Ag_covered (Inv (CAg WS PS)) := by
  unfold Ag_covered
  intro d0 d1 d2 d3 d4 d5 d6 d7 d8 d9 d10 d11 d12 d13 d14 d15 d16 d17 d18 d19 d20 d21 d22 d23 d24 d25 d26 d27 d28 d29 d30 d31 d32 d33 d34 d35 d36 d37 d38 d39 d40 d41 d42 d43 d44 d45 d46 d47 d48 d49 d50 m0 m1 m2 m3 m4 m5 m6 m7 m8 m9 m10 m11 m12 m13 m14 m15 m16 m17 m18 m19 m20 m21 m22 m23 m24 m25 m26 m27 m28 m29 m30 p1 p2 p3 p4 hI
  obtain ⟨N, p, hR, hH, hT, hC⟩ := Inv_un hI
  have hN4 := hR.1
  have c13 := hR.c13
  have m13 := hR.m13
  obtain ⟨nn, hnn⟩ : ∃ nn : Nat, 200000 ≤ nn := ⟨200000, Nat.le_refl _⟩
  have hL := pcs_len hR.red N
  have hL' : (pcs N p (red m14) N).length ≤ 2792 := by omega
  have hw := hR.red.st.w
  have hp : ∀ (i : Nat) (q : Pc), (pcs N p (red m14) N)[i]? = some q → PB q := fun i q h => pcs_at hR.red h
  have hh : 0 ≤ 32 * (red m14 0).toInt ∧ 32 * (red m14 0).toInt ≤ 1280 := by omega
  by_cases h12 : (-100 ≤ p1 ∧ p1 ≤ 100) ∧ (-100 ≤ p2 ∧ p2 ≤ 100)
  · have ck1 : F_X11_checkRange p1 (-100) 100 = some (.inl ()) := ck_in h12.1
    have ck2 : F_X11_checkRange p2 (-100) 100 = some (.inl ()) := ck_in h12.2
    have ip : F_X12_isPlace p1 p2 = 1 := ip_in h12.1 h12.2
    by_cases h3 : 0 ≤ p3 ∧ p3 ≤ 20
    · have ck3 : F_X11_checkRange p3 0 20 = some (.inl ()) := ck_in h3
      have wi3 : F_X12_within p3 0 20 = 1 := wi_in h3
      by_cases h4 : 0 ≤ p4 ∧ p4 ≤ 20
      · have ck4 : F_X11_checkRange p4 0 20 = some (.inl ()) := ck_in h4
        have wi4 : F_X12_within p4 0 20 = 1 := wi_in h4
        have c1 := co_of h12.1
        have c2 := co_of h12.2
        unfold CO at c1 c2
        obtain ⟨px, hpx⟩ : ∃ px, px = p1.toInt := ⟨_, rfl⟩
        obtain ⟨py, hpy⟩ : ∃ py, py = p2.toInt := ⟨_, rfl⟩
        have e1 : p1 = iI px := by rw [hpx, ii_of]
        have e2 : p2 = iI py := by rw [hpy, ii_of]
        rw [← hpx] at c1
        rw [← hpy] at c2
        clear hpx hpy
        subst e1
        subst e2
        obtain ⟨wd, hwd, rfl⟩ := ix_le (N := 20) (by omega) h3
        obtain ⟨ht, hht, rfl⟩ := ix_le (N := 20) (by omega) h4
        obtain ⟨e12, e13, e14, e15, e16, e44, e45, e46, e47, e48, e49, e28, e29, e30, e31, e32, e33, e34, e35, e36, e37, e38, e39, e40, e41, e42, e43, e17, e18, e19, e20, e21, e22, e23, e24, e25, e26, e27, k1, ⟨k2, k2b, k2c⟩, k3⟩ := outd hR hC (n := nn) (by omega)
        obtain ⟨y12, y13, y16, y17, y21, b6, b7, b8, b9, b10, b11, b14, b15, b18, b19, b20, R', k4, k5⟩ := lp_m hR.red (red_E m14) (n := nn) (by omega) m3 m4 m5 m6 m7 m17 m18 m19 m20 m21 m22 m23 m24 m25 m26 m27 m28
        rw [hf_e hR.red.st] at k2b
        obtain ⟨w', k6⟩ := marked_c k2c hL' hp hh c1 c2 hwd hht d50 (n := nn) (by omega)
        have k7 := cols_m k5 hL' (m' := m14) (by rw [hf_m (red_E m14), hf_e hR.red.st]) c1 c2 hwd hht (n := nn) (by omega)
        obtain ⟨z, hz⟩ : ∃ z : Int32, z = nI (fb_sm (fun c => fb_sm (fun r => if cvS (32 * (red m14 0).toInt) px py (pcs N p (red m14) N) r c = true then 1 else 0) (ht + 1)) (wd + 1)) := ⟨_, rfl⟩
        rw [← hz] at k6 k7
        clear hz
        refine Or.inl ⟨nn, nn, (z, w', e12, e13, e14, e15, e16, e44, e45, e46, e47, e48, e49, e28, e29, e30, e31, e32, e33, e34, e35, e36, e37, e38, e39, e40, e41, e42, e43, e17, e18, e19, e20, e21, e22, e23, e24, e25, e26, e27), (z, 0, y12, y13, y16, y17, y21, nI (pcs N p (red m14) N).length, b6, b7, b8, b9, b10, b11, b14, b15, b18, b19, b20, R'), ?_, ?_, rfl, rfl, Inv_mk hR hH hT (CAg_50 w' k3)⟩
        · unfold F_X11_covered
          rw [ck1, obx_l, ck2, obx_l, ck3, obx_l, ck4, obx_l, k1, obd_s]
          show obd (F_X2_countMarked nn d50 e44 e46 e47 e48 e49 (iI px) (iI py) (nI wd) (nI ht)) _ = _
          rw [k2, k2b, k6, obd_s, ← k2b, ← k2]
        · unfold F_X12_covered F_X12_covered_j35 F_X12_covered_j53 F_X12_covered_j112
          rw [ip, lt_eq, if_neg (by decide), wi3, lt_eq, if_neg (by decide), wi4, lt_eq, if_neg (by decide), rf_0, lt_eq, if_pos rfl, k4, obd_s]
          show obd (lpq (F_X12_covered_b53 nn (nI (pcs N p (red m14) N).length) m14 R' (iI px) (iI py) (nI wd) (nI ht)) nn (0, iI px)) _ = _
          rw [k7, obd_s]
      · refine Or.inr ⟨0, 0, (1, d50, d12, d13, d14, d15, d16, d44, d45, d46, d47, d48, d49, d28, d29, d30, d31, d32, d33, d34, d35, d36, d37, d38, d39, d40, d41, d42, d43, d17, d18, d19, d20, d21, d22, d23, d24, d25, d26, d27), (0, 1, m3, m4, m5, m6, m7, m8, m17, m18, m19, m20, m21, m22, m23, m24, m25, m26, m27, m28), ?_, rfl, ?_, rfl, Inv_mk hR hH hT hC⟩
        · unfold F_X11_covered
          rw [ck1, obx_l, ck2, obx_l, ck3, obx_l, ck_out h4, obx_r]
        · unfold F_X12_covered F_X12_covered_j34 F_X12_covered_j35
          rw [ip, lt_eq, if_neg (by decide), wi3, lt_eq, if_neg (by decide), wi_out h4, lt_eq, if_pos rfl, rf_1, lt_eq, if_neg (by decide)]
    · refine Or.inr ⟨0, 0, (1, d50, d12, d13, d14, d15, d16, d44, d45, d46, d47, d48, d49, d28, d29, d30, d31, d32, d33, d34, d35, d36, d37, d38, d39, d40, d41, d42, d43, d17, d18, d19, d20, d21, d22, d23, d24, d25, d26, d27), (0, 1, m3, m4, m5, m6, m7, m8, m17, m18, m19, m20, m21, m22, m23, m24, m25, m26, m27, m28), ?_, rfl, ?_, rfl, Inv_mk hR hH hT hC⟩
      · unfold F_X11_covered
        rw [ck1, obx_l, ck2, obx_l, ck_out h3, obx_r]
      · unfold F_X12_covered F_X12_covered_j34 F_X12_covered_j35
        rw [ip, lt_eq, if_neg (by decide), wi_out h3, lt_eq, if_pos rfl, rf_1, lt_eq, if_neg (by decide)]
  · refine Or.inr ⟨0, 0, (1, d50, d12, d13, d14, d15, d16, d44, d45, d46, d47, d48, d49, d28, d29, d30, d31, d32, d33, d34, d35, d36, d37, d38, d39, d40, d41, d42, d43, d17, d18, d19, d20, d21, d22, d23, d24, d25, d26, d27), (0, 1, m3, m4, m5, m6, m7, m8, m17, m18, m19, m20, m21, m22, m23, m24, m25, m26, m27, m28), ?_, rfl, ?_, rfl, Inv_mk hR hH hT hC⟩
    · unfold F_X11_covered
      by_cases h1 : -100 ≤ p1 ∧ p1 ≤ 100
      · have ck1 : F_X11_checkRange p1 (-100) 100 = some (.inl ()) := ck_in h1
        rw [ck1, obx_l, ck_out (fun h2 => h12 ⟨h1, h2⟩), obx_r]
      · rw [ck_out h1, obx_r]
    · unfold F_X12_covered F_X12_covered_j34 F_X12_covered_j35
      rw [ip_out h12, lt_eq, if_pos rfl, rf_1, lt_eq, if_neg (by decide)]
