/-! ===== piece, corner ===== -/
def ars (q : Pc) : Nat → Int64
  | 0 => 0
  | k + 1 => ars q k + ((q.2.1 k).toInt64 * (q.2.2 ((k + 1) % nc q.1)).toInt64 - (q.2.1 ((k + 1) % nc q.1)).toInt64 * (q.2.2 k).toInt64)
def arA (x : Int64) : Int64 := if 0 < x then x else -x
theorem arA_eq (x : Int64) : (if 0 ≤ lg_cmp x 0 then some x else some (-x)) = some (arA x) := by
  unfold arA
  have eg : (0 ≤ lg_cmp x 0) ↔ (0 : Int64) ≤ x := by rw [lg_cmp_ge]
  by_cases h : 0 < x
  · rw [if_pos h, if_pos (eg.mpr (show (0 : Int64) ≤ x from by rw [fa_le64]; rw [fa_lt64] at h; omega))]
  · rw [if_neg h]
    by_cases h2 : (0 : Int64) ≤ x
    · rw [if_pos (eg.mpr h2)]
      have e : x = 0 := by
        rw [fa_le64] at h2
        rw [fa_lt64] at h
        rw [fa_eq64]; omega
      rw [e]; rfl
    · rw [if_neg (fun h => h2 (eg.mp h))]
section ARE
variable {L : List Pc} {K X Y R : Nat → Int32} {i : Nat} {q : Pc}
theorem area_c (h : HoP L K X Y) (hL : L.length ≤ 2792) (hq : L[i]? = some q) {n : Nat} (hn : 1000 ≤ n) : F_X7_doubleArea n K X Y (nI i) = some (arA (ars q (nc q.1))) := by
  have h4 := nc_le q.1
  have h1 := nc_pos q.1
  unfold F_X7_doubleArea F_X7_doubleArea_j12 F_X7_doubleArea_j84
  rw [cc_c h hL hq, obd_s]
  have key : lpq (F_X7_doubleArea_b12 X Y (nI i) (nI (nc q.1))) n (ars q 0, nI 0) = some (ars q (nc q.1)) := by
    refine lpq_run (nc q.1) (fun k => (ars q k, nI k)) (fun k hk => ?_) ?_ (by omega)
    · have stp : ∀ t, t < nc q.1 → (k + 1) % nc q.1 = t → F_X7_doubleArea_j36 X Y (nI i) (ars q k) (nI k) (nI t) = some (.inl (ars q (k + 1), nI (k + 1))) := fun t ht e => by
        unfold F_X7_doubleArea_j36
        rw [(cx_c h hL hq hk).1, obd_s, (cx_c h hL hq ht).2, obd_s, lt_eq, (cx_c h hL hq ht).1, obd_s, (cx_c h hL hq hk).2, obd_s, lt_eq, lt_eq, zl_1, nI_add]
        rw [ars, e, Int64.sub_eq_add_neg, Int64.sub_eq_add_neg, Int64.add_assoc]
      unfold F_X7_doubleArea_b12
      show (if nI (nc q.1) ≤ nI k then _ else if nI (nc q.1) ≤ nI k + 1 then F_X7_doubleArea_j36 X Y (nI i) (ars q k) (nI k) (nI 0) else F_X7_doubleArea_j36 X Y (nI i) (ars q k) (nI k) (nI k + 1)) = _
      rw [if_neg (nI_ge hk (by omega)), zl_1, nI_add]
      by_cases z : k + 1 = nc q.1
      · rw [if_pos (nI_le (by omega) (by omega))]
        exact stp 0 (by omega) (by rw [z, Nat.mod_self])
      · rw [if_neg (nI_ge (by omega) (by omega))]
        exact stp (k + 1) (by omega) (Nat.mod_eq_of_lt (by omega))
    · unfold F_X7_doubleArea_b12
      exact if_pos (nI_le (Nat.le_refl _) (by omega))
  have key' : lpq (F_X7_doubleArea_b12 X Y (nI i) (nI (nc q.1))) n (0, 0) = some (ars q (nc q.1)) := key
  rw [key', obd_s]; rfl
theorem area_m (h : HoQ L R) (hL : L.length ≤ 2792) (hq : L[i]? = some q) {n : Nat} (hn : 1000 ≤ n) : F_X12_area n R (nI i) = some (arA (ars q (nc q.1))) := by
  have h4 := nc_le q.1
  have h1 := nc_pos q.1
  unfold F_X12_area F_X12_area_j5 F_X12_area_j63
  have key : lpq (F_X12_area_b5 R (nI i)) n (ars q 0, nI 0) = some (ars q (nc q.1)) := by
    refine lpq_run (nc q.1) (fun k => (ars q k, nI k)) (fun k hk => ?_) ?_ (by omega)
    · have c0 := cx_m h hL hq (c := k) (by omega)
      have c1 := cx_m h hL hq (c := k + 1) (by omega)
      rw [Nat.mod_eq_of_lt hk] at c0
      unfold F_X12_area_b5
      rw [cc_m h hL hq, obd_s]
      show (if nI (nc q.1) ≤ nI k then _ else obd (F_X12_cornerX R (nI i) (nI k)) _) = _
      rw [if_neg (nI_ge hk (by omega)), c0.1, obd_s]
      show obd (F_X12_cornerY R (nI i) (nI k + 1)) _ = _
      rw [zl_1, nI_add, c1.2, obd_s, c1.1, obd_s]
      show obd (F_X12_cornerY R (nI i) (nI k)) _ = _
      rw [c0.2, obd_s, lt_eq, lt_eq]; rfl
    · unfold F_X12_area_b5
      rw [cc_m h hL hq, obd_s]
      exact if_pos (nI_le (Nat.le_refl _) (by omega))
  have key' : lpq (F_X12_area_b5 R (nI i)) n (0, 0) = some (ars q (nc q.1)) := key
  rw [key', obd_s]
  exact arA_eq _
end ARE
set_option maxHeartbeats 4000000 in
theorem ag_piece : Ag_piece (Inv (CAg WS PS)) := by
  unfold Ag_piece
  intro d0 d1 d2 d3 d4 d5 d6 d7 d8 d9 d10 d11 d12 d13 d14 d15 d16 d17 d18 d19 d20 d21 d22 d23 d24 d25 d26 d27 d28 d29 d30 d31 d32 d33 d34 d35 d36 d37 d38 d39 d40 d41 d42 d43 d44 d45 d46 d47 d48 d49 d50 m0 m1 m2 m3 m4 m5 m6 m7 m8 m9 m10 m11 m12 m13 m14 m15 m16 m17 m18 m19 m20 m21 m22 m23 m24 m25 m26 m27 m28 m29 m30 p1 p2 hI
  obtain ⟨N, p, hR, hH, hT, hC⟩ := Inv_un hI
  have hN4 := hR.1
  have c13 := hR.c13
  have m13 := hR.m13
  have hL := pcs_len hR.red N
  have hL' : (pcs N p (red m14) N).length ≤ 2792 := by omega
  obtain ⟨e12, e13, e14, e15, e16, e44, e45, e46, e47, e48, e49, e28, e29, e30, e31, e32, e33, e34, e35, e36, e37, e38, e39, e40, e41, e42, e43, e17, e18, e19, e20, e21, e22, e23, e24, e25, e26, e27, k1, ⟨k2, k2b, k2c⟩, k3⟩ := outd hR hC (n := 200000) (by omega)
  obtain ⟨y12, y13, y16, y17, y21, b6, b7, b8, b9, b10, b11, b14, b15, b18, b19, b20, R', k4, k5⟩ := lp_m hR.red (red_E m14) (n := 200000) (by omega) m3 m4 m5 m6 m7 m17 m18 m19 m20 m21 m22 m23 m24 m25 m26 m27 m28
  by_cases h1 : 0 ≤ p1 ∧ p1 < nI (pcs N p (red m14) N).length
  · obtain ⟨i, hi, rfl⟩ : ∃ j, j < (pcs N p (red m14) N).length ∧ p1 = nI j := by
      rcases pk_ix p1 (n := (pcs N p (red m14) N).length) (by omega) with q | q | q
      · exact absurd q (by rw [fa_lt]; have := (fa_le 0 p1).mp h1.1; omega)
      · exact absurd h1.2 (by rw [fa_lt]; have := (fa_le _ _).mp q; omega)
      · exact q
    obtain ⟨q, hq⟩ := hx_at hi
    have hwi : F_X12_within (nI i) 0 (nI (pcs N p (red m14) N).length - 1) = 1 := wx_in (by omega) hi
    by_cases h2 : 0 ≤ p2 ∧ p2 ≤ 2
    · have hck : F_X11_checkRange p2 0 2 = some (.inl ()) := ck_in h2
      have hw2 : F_X12_within p2 0 2 = 1 := wi_in h2
      obtain ⟨w, hw, rfl⟩ := ix_le (N := 2) (by omega) h2
      obtain ⟨z, hz⟩ : ∃ z : Int64, z = if w = 0 then (nI q.1).toInt64 else if w = 1 then (nI (nc q.1)).toInt64 else arA (ars q (nc q.1)) := ⟨_, rfl⟩
      refine Or.inl ⟨200000, 200000, (z, e12, e13, e14, e15, e16, e44, e45, e46, e47, e48, e49, e28, e29, e30, e31, e32, e33, e34, e35, e36, e37, e38, e39, e40, e41, e42, e43, e17, e18, e19, e20, e21, e22, e23, e24, e25, e26, e27), (z, 0, y12, y13, y16, y17, y21, nI (pcs N p (red m14) N).length, b6, b7, b8, b9, b10, b11, b14, b15, b18, b19, b20, R'), ?_, ?_, rfl, rfl, Inv_mk hR hH hT k3⟩
      · unfold F_X11_piece F_X7_size
        rw [k1, obd_s, lt_eq]
        dsimp only
        rw [k2, ci_in hi (by omega), obx_l, hck, obx_l]
        have hw3 : w = 0 ∨ w = 1 ∨ w = 2 := by omega
        rcases hw3 with rfl | rfl | rfl
        · rw [if_pos (show nI 0 = 0 from rfl), kd_c k2c hL' hq, obd_s, hz]; rfl
        · rw [if_neg (show ¬ nI 1 = 0 by decide), if_pos (show nI 1 = 1 from rfl), cc_c k2c hL' hq, obd_s, hz]; rfl
        · rw [if_neg (show ¬ nI 2 = 0 by decide), if_neg (show ¬ nI 2 = 1 by decide), area_c k2c hL' hq (by omega), obd_s, hz]; rfl
      · unfold F_X12_piece F_X12_piece_j37
        rw [k4, obd_s]
        dsimp only
        rw [hwi, lt_eq, if_neg (by decide), hw2, lt_eq, if_neg (by decide), rf_0, lt_eq, if_pos rfl]
        have hw3 : w = 0 ∨ w = 1 ∨ w = 2 := by omega
        rcases hw3 with rfl | rfl | rfl
        · rw [if_pos (show nI 0 = 0 from rfl), kd_m k5 hL' hq, obd_s, hz]; rfl
        · rw [if_neg (show ¬ nI 1 = 0 by decide), if_pos (show nI 1 = 1 from rfl), cc_m k5 hL' hq, obd_s, hz]; rfl
        · rw [if_neg (show ¬ nI 2 = 0 by decide), if_neg (show ¬ nI 2 = 1 by decide), area_m k5 hL' hq (by omega), obd_s, hz]; rfl
    · refine Or.inr (Or.inr ⟨200000, 200000, (1, e12, e13, e14, e15, e16, e44, e45, e46, e47, e48, e49, e28, e29, e30, e31, e32, e33, e34, e35, e36, e37, e38, e39, e40, e41, e42, e43, e17, e18, e19, e20, e21, e22, e23, e24, e25, e26, e27), (0, 2, y12, y13, y16, y17, y21, nI (pcs N p (red m14) N).length, b6, b7, b8, b9, b10, b11, b14, b15, b18, b19, b20, R'), ?_, rfl, ?_, rfl, Inv_mk hR hH hT k3⟩)
      · unfold F_X11_piece F_X7_size
        rw [k1, obd_s, lt_eq]
        dsimp only
        rw [k2, ci_in hi (by omega), obx_l, ck_out h2, obx_r]
      · unfold F_X12_piece F_X12_piece_j37
        rw [k4, obd_s]
        dsimp only
        rw [hwi, lt_eq, if_neg (by decide), wi_out h2, lt_eq, if_pos rfl, rf_2, lt_eq, if_neg (by decide)]
  · refine Or.inr (Or.inl ⟨200000, 200000, (3, e12, e13, e14, e15, e16, e44, e45, e46, e47, e48, e49, e28, e29, e30, e31, e32, e33, e34, e35, e36, e37, e38, e39, e40, e41, e42, e43, e17, e18, e19, e20, e21, e22, e23, e24, e25, e26, e27), (0, 1, y12, y13, y16, y17, y21, nI (pcs N p (red m14) N).length, b6, b7, b8, b9, b10, b11, b14, b15, b18, b19, b20, R'), ?_, rfl, ?_, rfl, Inv_mk hR hH hT k3⟩)
    · unfold F_X11_piece F_X7_size
      rw [k1, obd_s, lt_eq]
      dsimp only
      rw [k2, ci_out h1, obx_r]
    · unfold F_X12_piece F_X12_piece_j37
      rw [k4, obd_s]
      dsimp only
      rw [wx_out (by omega) h1, lt_eq, if_pos rfl, rf_1, lt_eq, if_neg (by decide)]
set_option maxHeartbeats 4000000 in
theorem ag_corner : Ag_corner (Inv (CAg WS PS)) := by
  unfold Ag_corner
  intro d0 d1 d2 d3 d4 d5 d6 d7 d8 d9 d10 d11 d12 d13 d14 d15 d16 d17 d18 d19 d20 d21 d22 d23 d24 d25 d26 d27 d28 d29 d30 d31 d32 d33 d34 d35 d36 d37 d38 d39 d40 d41 d42 d43 d44 d45 d46 d47 d48 d49 d50 m0 m1 m2 m3 m4 m5 m6 m7 m8 m9 m10 m11 m12 m13 m14 m15 m16 m17 m18 m19 m20 m21 m22 m23 m24 m25 m26 m27 m28 m29 m30 p1 p2 p3 hI
  obtain ⟨N, p, hR, hH, hT, hC⟩ := Inv_un hI
  have hN4 := hR.1
  have c13 := hR.c13
  have m13 := hR.m13
  intro hb
  have hL := pcs_len hR.red N
  have hL' : (pcs N p (red m14) N).length ≤ 2792 := by omega
  obtain ⟨e12, e13, e14, e15, e16, e44, e45, e46, e47, e48, e49, e28, e29, e30, e31, e32, e33, e34, e35, e36, e37, e38, e39, e40, e41, e42, e43, e17, e18, e19, e20, e21, e22, e23, e24, e25, e26, e27, k1, ⟨k2, k2b, k2c⟩, k3⟩ := outd hR hC (n := 200000) (by omega)
  obtain ⟨y12, y13, y16, y17, y21, b6, b7, b8, b9, b10, b11, b14, b15, b18, b19, b20, R', k4, k5⟩ := lp_m hR.red (red_E m14) (n := 200000) (by omega) m3 m4 m5 m6 m7 m17 m18 m19 m20 m21 m22 m23 m24 m25 m26 m27 m28
  by_cases h1 : 0 ≤ p1 ∧ p1 < nI (pcs N p (red m14) N).length
  · obtain ⟨i, hi, rfl⟩ : ∃ j, j < (pcs N p (red m14) N).length ∧ p1 = nI j := by
      rcases pk_ix p1 (n := (pcs N p (red m14) N).length) (by omega) with q | q | q
      · exact absurd q (by rw [fa_lt]; have := (fa_le 0 p1).mp h1.1; omega)
      · exact absurd h1.2 (by rw [fa_lt]; have := (fa_le _ _).mp q; omega)
      · exact q
    obtain ⟨q, hq⟩ := hx_at hi
    have h4 := nc_le q.1
    have hwi : F_X12_within (nI i) 0 (nI (pcs N p (red m14) N).length - 1) = 1 := wx_in (by omega) hi
    by_cases h2 : 0 ≤ p2 ∧ p2 < nI (nc q.1)
    · obtain ⟨c, hc, rfl⟩ := ix_of (by omega) h2
      have cm := cx_m k5 hL' hq (c := c) (by omega)
      rw [Nat.mod_eq_of_lt hc] at cm
      obtain ⟨z, hz⟩ : ∃ z : Int32, z = if p3 = 0 then q.2.1 c else q.2.2 c := ⟨_, rfl⟩
      refine Or.inl ⟨200000, 200000, (z, e12, e13, e14, e15, e16, e44, e45, e46, e47, e48, e49, e28, e29, e30, e31, e32, e33, e34, e35, e36, e37, e38, e39, e40, e41, e42, e43, e17, e18, e19, e20, e21, e22, e23, e24, e25, e26, e27), (z, 0, y12, y13, y16, y17, y21, nI (pcs N p (red m14) N).length, b6, b7, b8, b9, b10, b11, b14, b15, b18, b19, b20, R'), ?_, ?_, rfl, rfl, Inv_mk hR hH hT k3⟩
      · unfold F_X11_corner F_X7_size
        rw [k1, obd_s, lt_eq]
        dsimp only
        rw [k2, ci_in hi (by omega), obx_l, cc_c k2c hL' hq, obd_s, ci_in hc (by omega), obx_l]
        by_cases b : p3 = 0
        · rw [if_pos b, (cx_c k2c hL' hq hc).1, obd_s, hz, if_pos b]
        · rw [if_neg b, (cx_c k2c hL' hq hc).2, obd_s, hz, if_neg b]
      · unfold F_X12_corner F_X12_corner_j39
        rw [k4, obd_s]
        dsimp only
        rw [hwi, lt_eq, if_neg (by decide), cc_m k5 hL' hq, obd_s, wx_in (by omega) hc, lt_eq, if_neg (by decide), rf_0, lt_eq, if_pos rfl]
        by_cases b : p3 = 0
        · rw [if_pos b, cm.1, obd_s, hz, if_pos b]
        · rw [if_neg b, cm.2, obd_s, hz, if_neg b]
    · refine Or.inr ⟨200000, 200000, (3, e12, e13, e14, e15, e16, e44, e45, e46, e47, e48, e49, e28, e29, e30, e31, e32, e33, e34, e35, e36, e37, e38, e39, e40, e41, e42, e43, e17, e18, e19, e20, e21, e22, e23, e24, e25, e26, e27), (0, 1, y12, y13, y16, y17, y21, nI (pcs N p (red m14) N).length, b6, b7, b8, b9, b10, b11, b14, b15, b18, b19, b20, R'), ?_, rfl, ?_, rfl, Inv_mk hR hH hT k3⟩
      · unfold F_X11_corner F_X7_size
        rw [k1, obd_s, lt_eq]
        dsimp only
        rw [k2, ci_in hi (by omega), obx_l, cc_c k2c hL' hq, obd_s, ci_out h2, obx_r]
      · unfold F_X12_corner F_X12_corner_j38 F_X12_corner_j39
        rw [k4, obd_s]
        dsimp only
        rw [hwi, lt_eq, if_neg (by decide), cc_m k5 hL' hq, obd_s, wx_out (by omega) h2, lt_eq, if_pos rfl, rf_1, lt_eq, if_neg (by decide)]
  · refine Or.inr ⟨200000, 200000, (3, e12, e13, e14, e15, e16, e44, e45, e46, e47, e48, e49, e28, e29, e30, e31, e32, e33, e34, e35, e36, e37, e38, e39, e40, e41, e42, e43, e17, e18, e19, e20, e21, e22, e23, e24, e25, e26, e27), (0, 1, y12, y13, y16, y17, y21, nI (pcs N p (red m14) N).length, b6, b7, b8, b9, b10, b11, b14, b15, b18, b19, b20, R'), ?_, rfl, ?_, rfl, Inv_mk hR hH hT k3⟩
    · unfold F_X11_corner F_X7_size
      rw [k1, obd_s, lt_eq]
      dsimp only
      rw [k2, ci_out h1, obx_r]
    · unfold F_X12_corner F_X12_corner_j38 F_X12_corner_j39
      rw [k4, obd_s]
      dsimp only
      rw [wx_out (by omega) h1, lt_eq, if_pos rfl, rf_1, lt_eq, if_neg (by decide)]
