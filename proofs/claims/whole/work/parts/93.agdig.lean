/-! ===== digest, alike ===== -/
set_option maxHeartbeats 4000000 in
theorem ag_digest : Ag_digest (Inv (CAg WS PS)) := by
  unfold Ag_digest
  intro d0 d1 d2 d3 d4 d5 d6 d7 d8 d9 d10 d11 d12 d13 d14 d15 d16 d17 d18 d19 d20 d21 d22 d23 d24 d25 d26 d27 d28 d29 d30 d31 d32 d33 d34 d35 d36 d37 d38 d39 d40 d41 d42 d43 d44 d45 d46 d47 d48 d49 d50 m0 m1 m2 m3 m4 m5 m6 m7 m8 m9 m10 m11 m12 m13 m14 m15 m16 m17 m18 m19 m20 m21 m22 m23 m24 m25 m26 m27 m28 m29 m30  hI
  obtain ⟨N, p, hR, hH, hT, hC⟩ := Inv_un hI
  have hN4 := hR.1
  have c13 := hR.c13
  have m13 := hR.m13
  obtain ⟨nn, hnn⟩ : ∃ nn : Nat, 200000 ≤ nn := ⟨200000, Nat.le_refl _⟩
  have hL := pcs_len hR.red N
  have hL' : (pcs N p (red m14) N).length ≤ 2792 := by omega
  have hD := nD_e hR.red.st
  have hT2 := hT
  obtain ⟨len, hl, rfl, rfl, hb⟩ := hT2
  have hH2 := hH
  obtain ⟨hs, hs4, rfl, rfl, _⟩ := hH2
  obtain ⟨e12, e13, e14, e15, e16, e44, e45, e46, e47, e48, e49, e28, e29, e30, e31, e32, e33, e34, e35, e36, e37, e38, e39, e40, e41, e42, e43, e17, e18, e19, e20, e21, e22, e23, e24, e25, e26, e27, k1, ⟨k2, k2b, k2c⟩, k3⟩ := outd hR hC (n := nn) (by omega)
  obtain ⟨H1, hH1⟩ : ∃ H1, H1 = mxf (fun i => red m14 (0 + i)) (mxv 2903 (nI len)) (7 + nD (red m14)) := ⟨_, rfl⟩
  obtain ⟨g12, g28, g29, g30, g31, g32, g33, g34, g35, g36, g37, g38, g39, g40, g41, g42, g43, g17, g18, g19, g20, g21, g22, g23, g24, g25, g26, g27, q1, q2⟩ := msubs_c hR k3 (n := nn) (by omega) (mxv H1 (nI N))
  obtain ⟨y12, y13, y16, y17, y21, b6, b7, b8, b9, b10, b11, b14, b15, b18, b19, b20, r1⟩ := msubs_m hR.red (red_E m14) (n := nn) (by omega) (mxv H1 (nI N)) m3 m4 m5 m6 m7 m17 m18 m19 m20 m21 m22 m23 m24 m25 m26 m27
  obtain ⟨z12, z13, z16, z17, z21, f6, f7, f8, f9, f10, f11, f14, f15, f18, f19, f20, R', k4, k5⟩ := lp_m hR.red (red_E m14) (n := nn) (by omega) y12 y13 y16 y17 y21 b6 b7 b8 b9 b10 b11 b14 b15 b18 b19 b20 m28
  obtain ⟨HH, hHH⟩ : ∃ HH, HH = mxv (pcF (pcs N p (red m14) N) (mxv (sbF N p (red m14) (mxv H1 (nI N)) N) (nI (pcs N p (red m14) N).length)) (pcs N p (red m14) N).length) (nI hs) := ⟨_, rfl⟩
  refine ⟨nn, nn, (HH, g12, e13, e14, e15, e16, e44, e45, e46, e47, e48, e49, g28, g29, g30, g31, g32, g33, g34, g35, g36, g37, g38, g39, g40, g41, g42, g43, g17, g18, g19, g20, g21, g22, g23, g24, g25, g26, g27), (HH, 0, z12, z13, z16, z17, z21, nI (pcs N p (red m14) N).length, HH, f6, f7, f8, f9, f10, f11, f14, f15, f18, f19, f20, R'), ?_, ?_, rfl, Inv_mk hR hH hT q2⟩
  · unfold F_X11_digest F_X5_length F_X11_digest_j49 F_X11_digest_j83 F_X11_digest_j96 F_X11_digest_j119 F_X7_size F_X3_size
    rw [k1, obd_s]
    dsimp only
    rw [lt_eq, lt_eq, mix_c, style_c hR.red _ (by omega), obd_s, X1_count, obd_s, c13, lt_eq, mix_c, ← hH1, q1, obd_s]
    dsimp only
    rw [lt_eq, lt_eq, mix_c, k2, mpcs_c k2c hL' _ (by omega), obd_s, lt_eq, lt_eq, mix_c, ← hHH, ← k2]
  · have ha : F_X12_mixAll nn (mxv 2903 (nI len)) m14 0 (nI (7 + nD (red m14))) = some H1 := by rw [hH1]; exact all_mx (red_E m14) _ (a := 0) (by omega) (by omega)
    unfold F_X12_digest F_X12_digest_j48 F_X12_digest_j70 F_X12_digest_j84 F_X12_digest_j144
    rw [mix_m, lt_eq, gd_in' (z := 6) (i := 6) rfl (by decide) (by decide), cl_6, red_E m14 6 (by decide), hD.2, zl_7, nI_add, ha, obd_s, gd_13, cl_13, m13, lt_eq, mix_m, r1, obd_s]
    dsimp only
    rw [k4, obd_s]
    dsimp only
    rw [lt_eq, mix_m, mpcs_m k5 hL' _ (by omega), obd_s, lt_eq, mix_m, ← hHH]
