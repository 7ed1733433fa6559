/-! ===== the simple calls: both sides alike ===== -/
set_option maxHeartbeats 1000000 in
theorem ag_moveTo {CA : Nat → (Nat → Nat) → (Nat → Int32) → SC → Prop} (hz : CAz CA) : Ag_moveTo (Inv CA) := by
  unfold Ag_moveTo
  intro d0 d1 d2 d3 d4 d5 d6 d7 d8 d9 d10 d11 d12 d13 d14 d15 d16 d17 d18 d19 d20 d21 d22 d23 d24 d25 d26 d27 d28 d29 d30 d31 d32 d33 d34 d35 d36 d37 d38 d39 d40 d41 d42 d43 d44 d45 d46 d47 d48 d49 d50 m0 m1 m2 m3 m4 m5 m6 m7 m8 m9 m10 m11 m12 m13 m14 m15 m16 m17 m18 m19 m20 m21 m22 m23 m24 m25 m26 m27 m28 m29 m30 p1 p2 hI
  obtain ⟨N, p, hR, hH, hT, hC⟩ := Inv_un hI
  have hN4 := hR.1
  have c13 := hR.c13
  have m13 := hR.m13
  by_cases hx : (-100 ≤ p1 ∧ p1 ≤ 100) ∧ (-100 ≤ p2 ∧ p2 ≤ 100)
  · by_cases hN : N < 4
    · obtain ⟨y, a', b', s1, s2, s3⟩ := save_both (n := 1000) (by omega) hR hH
      obtain ⟨U, V, p', u1, u2, u3, -, -⟩ := start_both hR hN (co_of hx.1) (co_of hx.2)
      refine Or.inl ⟨0, 1000, (nI N, U, y, a', 0), (nI N, y, 0, V, b'), ?_, ?_, rfl, rfl, Inv_mk u3 s3 hT (hz _ _ _ _)⟩
      · unfold F_X11_moveTo F_X11_moveTo_j32
        rw [ck_in hx.1, obx_l, ck_in hx.2, obx_l, X1_count, obd_s, c13, if_neg (show ¬ (4 : Int32) ≤ nI N from nI_ge (b := 4) hN (by omega)), cs_1, obx_l, s1, obd_s, u1, obd_s, X1_last u3.c13, obd_s]
      · unfold F_X12_moveTo F_X12_moveTo_j29
        rw [ip_in hx.1 hx.2, lt_eq, if_neg (by decide), gd_13, cl_13, m13, if_neg (show ¬ nI N = 4 from nI_ne (b := 4) (by omega) (by omega) (by omega)), rf_0, lt_eq, if_pos rfl, s2, obd_s, u2, obd_s, gd_13, u3.m13, nI_pred]
    · refine Or.inr (Or.inr ⟨0, 0, (2, d0, d2, d3, d12), (0, m0, 2, m14, m15), ?_, rfl, ?_, rfl, Inv_mk hR hH hT hC⟩)
      · unfold F_X11_moveTo F_X11_moveTo_j32
        rw [ck_in hx.1, obx_l, ck_in hx.2, obx_l, X1_count, obd_s, c13, if_pos (show (4 : Int32) ≤ nI N from nI_le (a := 4) (by omega) (by omega)), cs_0, obx_r]
      · unfold F_X12_moveTo F_X12_moveTo_j29
        have e : N = 4 := by omega
        subst e
        rw [ip_in hx.1 hx.2, lt_eq, if_neg (by decide), gd_13, cl_13, m13, if_pos (show nI 4 = 4 from rfl), rf_2, lt_eq, if_neg (by decide)]
  · refine Or.inr (Or.inl ⟨0, 0, (1, d0, d2, d3, d12), (0, m0, 1, m14, m15), ?_, rfl, ?_, rfl, Inv_mk hR hH hT hC⟩)
    · unfold F_X11_moveTo
      by_cases q : -100 ≤ p1 ∧ p1 ≤ 100
      · rw [ck_in q, obx_l, ck_out (fun q2 => hx ⟨q, q2⟩), obx_r]
      · rw [ck_out q, obx_r]
    · unfold F_X12_moveTo F_X12_moveTo_j29
      rw [ip_out hx, lt_eq, if_pos rfl, rf_1, lt_eq, if_neg (by decide)]
set_option maxHeartbeats 1000000 in
theorem ag_subpaths {CA : Nat → (Nat → Nat) → (Nat → Int32) → SC → Prop} (hz : CAz CA) : Ag_subpaths (Inv CA) := by
  unfold Ag_subpaths
  intro d0 d1 d2 d3 d4 d5 d6 d7 d8 d9 d10 d11 d12 d13 d14 d15 d16 d17 d18 d19 d20 d21 d22 d23 d24 d25 d26 d27 d28 d29 d30 d31 d32 d33 d34 d35 d36 d37 d38 d39 d40 d41 d42 d43 d44 d45 d46 d47 d48 d49 d50 m0 m1 m2 m3 m4 m5 m6 m7 m8 m9 m10 m11 m12 m13 m14 m15 m16 m17 m18 m19 m20 m21 m22 m23 m24 m25 m26 m27 m28 m29 m30  hI
  obtain ⟨N, p, hR, hH, hT, hC⟩ := Inv_un hI
  have hN4 := hR.1
  have c13 := hR.c13
  have m13 := hR.m13
  refine ⟨0, 0, nI N, (nI N, 0), ?_, ?_, rfl, Inv_mk hR hH hT hC⟩
  · unfold F_X11_subpaths; rw [X1_count, obd_s, c13]
  · unfold F_X12_subpaths; rw [gd_13, cl_13, m13]
set_option maxHeartbeats 1000000 in
theorem ag_clearText {CA : Nat → (Nat → Nat) → (Nat → Int32) → SC → Prop} (hz : CAz CA) : Ag_clearText (Inv CA) := by
  unfold Ag_clearText
  intro d0 d1 d2 d3 d4 d5 d6 d7 d8 d9 d10 d11 d12 d13 d14 d15 d16 d17 d18 d19 d20 d21 d22 d23 d24 d25 d26 d27 d28 d29 d30 d31 d32 d33 d34 d35 d36 d37 d38 d39 d40 d41 d42 d43 d44 d45 d46 d47 d48 d49 d50 m0 m1 m2 m3 m4 m5 m6 m7 m8 m9 m10 m11 m12 m13 m14 m15 m16 m17 m18 m19 m20 m21 m22 m23 m24 m25 m26 m27 m28 m29 m30  hI
  obtain ⟨N, p, hR, hH, hT, hC⟩ := Inv_un hI
  have hN4 := hR.1
  have c13 := hR.c13
  have m13 := hR.m13
  exact ⟨0, 0, (d4, 0), (m2, 0, 0), rfl, rfl, by obtain ⟨k, _, e1, e2, _⟩ := hT; show d4 = m2; rw [e1, e2], Inv_mk hR hH ⟨0, by omega, rfl, rfl, fun i hi => absurd hi (by omega)⟩ hC⟩
set_option maxHeartbeats 1000000 in
theorem ag_append {CA : Nat → (Nat → Nat) → (Nat → Int32) → SC → Prop} (hz : CAz CA) : Ag_append (Inv CA) := by
  unfold Ag_append
  intro d0 d1 d2 d3 d4 d5 d6 d7 d8 d9 d10 d11 d12 d13 d14 d15 d16 d17 d18 d19 d20 d21 d22 d23 d24 d25 d26 d27 d28 d29 d30 d31 d32 d33 d34 d35 d36 d37 d38 d39 d40 d41 d42 d43 d44 d45 d46 d47 d48 d49 d50 m0 m1 m2 m3 m4 m5 m6 m7 m8 m9 m10 m11 m12 m13 m14 m15 m16 m17 m18 m19 m20 m21 m22 m23 m24 m25 m26 m27 m28 m29 m30 p1 hI
  obtain ⟨N, p, hR, hH, hT, hC⟩ := Inv_un hI
  have hN4 := hR.1
  have c13 := hR.c13
  have m13 := hR.m13
  obtain ⟨k, hk, e1, e2, e3⟩ := hT
  by_cases hx : 0 ≤ p1 ∧ p1 ≤ 127
  · by_cases hk2 : k < 150
    · refine Or.inl ⟨0, 0, (nI (k + 1), nI (k + 1), upd d9 k p1), (nI (k + 1), 0, nI (k + 1), upd m16 k p1), ?_, ?_, rfl, rfl, Inv_mk hR hH ⟨k + 1, by omega, rfl, rfl, fun i hi => ?_⟩ hC⟩
      · unfold F_X11_append F_X11_append_j22 F_X5_isFull
        rw [ck_in hx, obx_l, e1, if_pos (show nI k < 150 from nI_lt (b := 150) hk2 (by omega)), lt_eq, if_pos rfl, cs_1, obx_l]
        unfold F_X5_add F_X5_length
        rw [if_neg (nI_pos (by omega)), if_neg (show ¬ (150 : Int32) ≤ nI k from nI_ge (b := 150) hk2 (by omega)), gd_in hk2 (by decide), nI_clamp (by omega), lt_eq, lt_eq, obd_s, lt_eq, zl_1, nI_add]
      · unfold F_X12_append F_X12_append_j30
        rw [wi_in hx, lt_eq, if_neg (by decide), e2, if_neg (show ¬ nI k = 150 from nI_ne (b := 150) (by omega) (by omega) (by omega)), rf_0, lt_eq, if_pos rfl, gd_in hk2 (by decide), nI_clamp (by omega), lt_eq, lt_eq, zl_1, nI_add]
      · by_cases q : i = k
        · subst q; show upd d9 i p1 i = upd m16 i p1 i; rw [ud_e rfl, ud_e rfl]
        · show upd d9 k p1 i = upd m16 k p1 i; rw [ud_n q, ud_n q]; exact e3 i (by omega)
    · have e : k = 150 := by omega
      subst e
      refine Or.inr (Or.inr ⟨0, 0, (2, d4, d9), (0, 2, m2, m16), ?_, rfl, ?_, rfl, Inv_mk hR hH ⟨150, by omega, e1, e2, e3⟩ hC⟩)
      · unfold F_X11_append F_X11_append_j22 F_X5_isFull
        rw [ck_in hx, obx_l, e1, if_neg (show ¬ nI 150 < 150 from by decide), lt_eq, if_neg (by decide), cs_0, obx_r]
      · unfold F_X12_append F_X12_append_j30
        rw [wi_in hx, lt_eq, if_neg (by decide), e2, if_pos (show nI 150 = 150 from rfl), rf_2, lt_eq, if_neg (by decide)]
  · refine Or.inr (Or.inl ⟨0, 0, (1, d4, d9), (0, 1, m2, m16), ?_, rfl, ?_, rfl, Inv_mk hR hH ⟨k, hk, e1, e2, e3⟩ hC⟩)
    · unfold F_X11_append; rw [ck_out hx, obx_r]
    · unfold F_X12_append F_X12_append_j30
      rw [wi_out hx, lt_eq, if_pos rfl, rf_1, lt_eq, if_neg (by decide)]
set_option maxHeartbeats 1000000 in
theorem ag_lineTo {CA : Nat → (Nat → Nat) → (Nat → Int32) → SC → Prop} (hz : CAz CA) : Ag_lineTo (Inv CA) := by
  unfold Ag_lineTo
  intro d0 d1 d2 d3 d4 d5 d6 d7 d8 d9 d10 d11 d12 d13 d14 d15 d16 d17 d18 d19 d20 d21 d22 d23 d24 d25 d26 d27 d28 d29 d30 d31 d32 d33 d34 d35 d36 d37 d38 d39 d40 d41 d42 d43 d44 d45 d46 d47 d48 d49 d50 m0 m1 m2 m3 m4 m5 m6 m7 m8 m9 m10 m11 m12 m13 m14 m15 m16 m17 m18 m19 m20 m21 m22 m23 m24 m25 m26 m27 m28 m29 m30 p1 p2 hI
  obtain ⟨N, p, hR, hH, hT, hC⟩ := Inv_un hI
  have hN4 := hR.1
  have c13 := hR.c13
  have m13 := hR.m13
  by_cases hx : (-100 ≤ p1 ∧ p1 ≤ 100) ∧ (-100 ≤ p2 ∧ p2 ≤ 100)
  · by_cases hok : ∃ l, N = l + 1 ∧ m14 (15 + 18 * l) = 0 ∧ p l < 8
    · obtain ⟨l, rfl, ho, hp⟩ := hok
      have g := hR.sp (s := l) (by omega)
      have hoc : d0 (15 + 18 * l) = 0 := by rw [g.cl]; exact ho
      obtain ⟨y, a', b', s1, s2, s3⟩ := save_both (n := 1000) (by omega) hR hH
      obtain ⟨U, V, p', u1, u2, u3, u4, -⟩ := add_both hR hp (co_of hx.1) (co_of hx.2)
      refine Or.inl ⟨0, 1000, (nI (p l + 1), U, y, a', 0), (nI (p l + 1), y, 0, V, b'), ?_, ?_, rfl, rfl, Inv_mk u3 s3 hT (hz _ _ _ _)⟩
      · unfold F_X11_lineTo F_X11_lineTo_j57
        rw [ck_in hx.1, obx_l, ck_in hx.2, obx_l, X1_last c13, obd_s, if_neg (nI_pos (by omega)), X1_clo c13 (by omega) hN4, obd_s, hoc, if_neg (show ¬ (0 : Int32) = 1 from by decide), if_pos rfl, X1_pts c13 (by omega) hN4, obd_s, g.pc, if_neg (show ¬ (8 : Int32) ≤ nI (p l) from nI_ge (b := 8) hp (by omega)), cs_1, obx_l, s1, obd_s, u1, obd_s, X1_pts u3.c13 (by omega) hN4, obd_s, (u3.sp (s := l) (by omega)).pc, u4]
      · unfold F_X12_lineTo F_X12_lineTo_j43 F_X12_isOpen
        rw [ip_in hx.1 hx.2, lt_eq, if_neg (by decide), gd_13, cl_13, m13, if_neg (nI_nle (by omega) (by omega)), gd_13, nI_pred, m_clo (by omega), obd_s, ho, if_neg (show ¬ (0 : Int32) = 1 from by decide), if_pos rfl, obd_s, if_neg (by decide), gd_13, m_pts (by omega), obd_s, g.pm, if_neg (show ¬ nI (p l) = 8 from nI_ne (b := 8) (by omega) (by omega) (by omega)), rf_0, lt_eq, if_pos rfl, s2, obd_s, u2, obd_s, gd_13, u3.m13, nI_pred, m_pts (by omega), obd_s, (u3.sp (s := l) (by omega)).pm, u4]
    · refine Or.inr (Or.inr ⟨0, 0, (2, d0, d2, d3, d12), (0, m0, 2, m14, m15), ?_, rfl, ?_, rfl, Inv_mk hR hH hT hC⟩)
      · unfold F_X11_lineTo F_X11_lineTo_j56 F_X11_lineTo_j57
        rw [ck_in hx.1, obx_l, ck_in hx.2, obx_l]
        cases N with
        | zero => rw [X1_last0 c13, obd_s, if_pos (by decide), cs_0, obx_r]
        | succ l =>
          have g := hR.sp (s := l) (by omega)
          rw [X1_last c13, obd_s, if_neg (nI_pos (by omega)), X1_clo c13 (by omega) hN4, obd_s, g.cl]
          rcases g.bo with ho | ho
          · have hp : ¬ p l < 8 := fun hp => hok ⟨l, rfl, ho, hp⟩
            rw [ho, if_neg (show ¬ (0 : Int32) = 1 from by decide), if_pos rfl, X1_pts c13 (by omega) hN4, obd_s, g.pc, if_pos (show (8 : Int32) ≤ nI (p l) from nI_le (a := 8) (by omega) (by have := g.2.1; omega)), cs_0, obx_r]
          · rw [ho, if_pos rfl, if_neg (by decide), cs_0, obx_r]
      · unfold F_X12_lineTo F_X12_lineTo_j38 F_X12_lineTo_j43 F_X12_isOpen F_X12_isOpen_j30
        rw [ip_in hx.1 hx.2, lt_eq, if_neg (by decide), gd_13, cl_13, m13]
        cases N with
        | zero => rw [if_pos (by decide), obd_s, if_pos rfl, rf_2, lt_eq, if_neg (by decide)]
        | succ l =>
          have g := hR.sp (s := l) (by omega)
          rw [if_neg (nI_nle (by omega) (by omega)), gd_13, nI_pred, m_clo (by omega), obd_s]
          rcases g.bo with ho | ho
          · have hp : ¬ p l < 8 := fun hp => hok ⟨l, rfl, ho, hp⟩
            have h8 : p l = 8 := by have := g.2.1; omega
            rw [ho, if_neg (show ¬ (0 : Int32) = 1 from by decide), if_pos rfl, obd_s, if_neg (by decide), gd_13, m_pts (by omega), obd_s, g.pm, h8, if_pos (show nI 8 = 8 from rfl), rf_2, lt_eq, if_neg (by decide)]
          · rw [ho, if_pos rfl, if_neg (by decide), obd_s, if_pos rfl, rf_2, lt_eq, if_neg (by decide)]
  · refine Or.inr (Or.inl ⟨0, 0, (1, d0, d2, d3, d12), (0, m0, 1, m14, m15), ?_, rfl, ?_, rfl, Inv_mk hR hH hT hC⟩)
    · unfold F_X11_lineTo
      by_cases q : -100 ≤ p1 ∧ p1 ≤ 100
      · rw [ck_in q, obx_l, ck_out (fun q2 => hx ⟨q, q2⟩), obx_r]
      · rw [ck_out q, obx_r]
    · unfold F_X12_lineTo F_X12_lineTo_j43
      rw [ip_out hx, lt_eq, if_pos rfl, rf_1, lt_eq, if_neg (by decide)]
set_option maxHeartbeats 1000000 in
theorem ag_setStyle {CA : Nat → (Nat → Nat) → (Nat → Int32) → SC → Prop} (hz : CAz CA) : Ag_setStyle (Inv CA) := by
  unfold Ag_setStyle
  intro d0 d1 d2 d3 d4 d5 d6 d7 d8 d9 d10 d11 d12 d13 d14 d15 d16 d17 d18 d19 d20 d21 d22 d23 d24 d25 d26 d27 d28 d29 d30 d31 d32 d33 d34 d35 d36 d37 d38 d39 d40 d41 d42 d43 d44 d45 d46 d47 d48 d49 d50 m0 m1 m2 m3 m4 m5 m6 m7 m8 m9 m10 m11 m12 m13 m14 m15 m16 m17 m18 m19 m20 m21 m22 m23 m24 m25 m26 m27 m28 m29 m30 p1 p2 p3 p4 hI
  obtain ⟨N, p, hR, hH, hT, hC⟩ := Inv_un hI
  have hN4 := hR.1
  have c13 := hR.c13
  have m13 := hR.m13
  by_cases hx : ((1 ≤ p1 ∧ p1 ≤ 40) ∧ (0 ≤ p2 ∧ p2 ≤ 2)) ∧ (1 ≤ p3 ∧ p3 ≤ 10) ∧ (0 ≤ p4 ∧ p4 ≤ 2)
  · obtain ⟨y, a', b', s1, s2, s3⟩ := save_both (n := 1000) (by omega) hR hH
    have hv : d0 0 = m14 0 := hR.st.1 0 (by omega)
    have hU : ∃ U V, U = upd (upd (upd (upd d0 0 p1) 1 p2) 2 p3) 3 p4 ∧ V = upd (upd (upd (upd m14 0 p1) 1 p2) 2 p3) 3 p4 := ⟨_, _, rfl, rfl⟩
    obtain ⟨U, V, eU, eV⟩ := hU
    have hR' : RW N p U V := by
      refine RW_style hR ?_ (fun i hi => by rw [eU]; simp (disch := omega) only [ud_n]) (fun i hi => by rw [eV]; simp (disch := omega) only [ud_n])
      obtain ⟨g0, g1, g2, g3, g4, g5, g6, g7, g8⟩ := hR.st
      have v0 : V 0 = p1 := by rw [eV]; simp (disch := omega) only [ud_n, ud_e]
      have v1 : V 1 = p2 := by rw [eV]; simp (disch := omega) only [ud_n, ud_e]
      have v2 : V 2 = p3 := by rw [eV]; simp (disch := omega) only [ud_n, ud_e]
      have v3 : V 3 = p4 := by rw [eV]; simp (disch := omega) only [ud_n, ud_e]
      have vr : ∀ i, 4 ≤ i → V i = m14 i := fun i hi => by rw [eV]; simp (disch := omega) only [ud_n]
      have ur : ∀ i, 4 ≤ i → U i = d0 i := fun i hi => by rw [eU]; simp (disch := omega) only [ud_n]
      refine ⟨fun i hi => ?_, ?_⟩
      · by_cases q : 4 ≤ i
        · rw [ur i q, vr i q]; exact g0 i hi
        · have : i = 0 ∨ i = 1 ∨ i = 2 ∨ i = 3 := by omega
          rcases this with rfl | rfl | rfl | rfl <;> rw [eU, eV] <;> simp (disch := omega) only [ud_n, ud_e]
      · rw [v0, v1, v2, v3, vr 4 (by omega), vr 5 (by omega), vr 6 (by omega)]
        refine ⟨rg_of hx.1.1, rg_of hx.1.2, rg_of hx.2.1, rg_of hx.2.2, g5, g6, g7, fun k hk => ?_⟩
        rw [vr (7 + k) (by omega)]; exact g8 k hk
    refine Or.inl ⟨0, 1000, (m14 0, U, y, a', 0), (m14 0, y, 0, V, b'), ?_, ?_, rfl, rfl, Inv_mk hR' s3 hT (hz _ _ _ _)⟩
    · unfold F_X11_setStyle
      rw [ck_in hx.1.1, obx_l, ck_in hx.1.2, obx_l, ck_in hx.2.1, obx_l, ck_in hx.2.2, obx_l, s1, obd_s, c1_l (z := 0) (i := 0) rfl (by decide), obd_s, p1_l (z := 0) (i := 0) rfl (by decide), obd_s, p1_l (z := 1) (i := 1) rfl (by decide), obd_s, p1_l (z := 2) (i := 2) rfl (by decide), obd_s, p1_l (z := 3) (i := 3) rfl (by decide), obd_s, ← eU, hv]
    · unfold F_X12_setStyle F_X12_setStyle_j45
      rw [wi_in hx.1.1, lt_eq, if_neg (by decide), wi_in hx.1.2, lt_eq, if_neg (by decide), wi_in hx.2.1, lt_eq, if_neg (by decide), wi_in hx.2.2, lt_eq, if_neg (by decide), rf_0, lt_eq, if_pos rfl, s2, obd_s]
      rw [gd_in' (z := 0) (i := 0) rfl (by decide) (by decide), lt_eq, gd_in' (z := 0) (i := 0) rfl (by decide) (by decide), lt_eq, gd_in' (z := 1) (i := 1) rfl (by decide) (by decide), lt_eq, gd_in' (z := 2) (i := 2) rfl (by decide) (by decide), lt_eq, gd_in' (z := 3) (i := 3) rfl (by decide) (by decide), lt_eq, cl_0, cl_1, cl_2, cl_3, ← eV]
  · refine Or.inr ⟨0, 0, (1, d0, d2, d3, d12), (0, m0, 1, m14, m15), ?_, rfl, ?_, rfl, Inv_mk hR hH hT hC⟩
    · unfold F_X11_setStyle
      by_cases q1 : 1 ≤ p1 ∧ p1 ≤ 40
      · rw [ck_in q1, obx_l]
        by_cases q2 : 0 ≤ p2 ∧ p2 ≤ 2
        · rw [ck_in q2, obx_l]
          by_cases q3 : 1 ≤ p3 ∧ p3 ≤ 10
          · rw [ck_in q3, obx_l, ck_out (fun q4 => hx ⟨⟨q1, q2⟩, q3, q4⟩), obx_r]
          · rw [ck_out q3, obx_r]
        · rw [ck_out q2, obx_r]
      · rw [ck_out q1, obx_r]
    · unfold F_X12_setStyle F_X12_setStyle_j44 F_X12_setStyle_j45
      by_cases q1 : 1 ≤ p1 ∧ p1 ≤ 40
      · rw [wi_in q1, lt_eq, if_neg (by decide)]
        by_cases q2 : 0 ≤ p2 ∧ p2 ≤ 2
        · rw [wi_in q2, lt_eq, if_neg (by decide)]
          by_cases q3 : 1 ≤ p3 ∧ p3 ≤ 10
          · rw [wi_in q3, lt_eq, if_neg (by decide), wi_out (fun q4 => hx ⟨⟨q1, q2⟩, q3, q4⟩), lt_eq, if_pos rfl, rf_1, lt_eq, if_neg (by decide)]
          · rw [wi_out q3, lt_eq, if_pos rfl, rf_1, lt_eq, if_neg (by decide)]
        · rw [wi_out q2, lt_eq, if_pos rfl, rf_1, lt_eq, if_neg (by decide)]
      · rw [wi_out q1, lt_eq, if_pos rfl, rf_1, lt_eq, if_neg (by decide)]
set_option maxHeartbeats 1000000 in
theorem ag_setDashes {CA : Nat → (Nat → Nat) → (Nat → Int32) → SC → Prop} (hz : CAz CA) : Ag_setDashes (Inv CA) := by
  unfold Ag_setDashes
  intro d0 d1 d2 d3 d4 d5 d6 d7 d8 d9 d10 d11 d12 d13 d14 d15 d16 d17 d18 d19 d20 d21 d22 d23 d24 d25 d26 d27 d28 d29 d30 d31 d32 d33 d34 d35 d36 d37 d38 d39 d40 d41 d42 d43 d44 d45 d46 d47 d48 d49 d50 m0 m1 m2 m3 m4 m5 m6 m7 m8 m9 m10 m11 m12 m13 m14 m15 m16 m17 m18 m19 m20 m21 m22 m23 m24 m25 m26 m27 m28 m29 m30 p1 p2 hI
  obtain ⟨N, p, hR, hH, hT, hC⟩ := Inv_un hI
  have hN4 := hR.1
  have c13 := hR.c13
  have m13 := hR.m13
  intro hb
  by_cases hx : 0 ≤ p1 ∧ p1 ≤ 600
  · obtain ⟨y, a', b', s1, s2, s3⟩ := save_both (n := 1000) (by omega) hR hH
    have hv : d0 6 = m14 6 := hR.st.1 6 (by omega)
    obtain ⟨w, hw, hw2⟩ : ∃ w : Int32, (w = 0 ∨ w = 1) ∧ w = if p2 = 0 then 0 else 1 := ⟨_, by by_cases q : p2 = 0; exact Or.inl (if_pos q); exact Or.inr (if_neg q), rfl⟩
    obtain ⟨U, V, eU, eV⟩ : ∃ U V, U = upd (upd (upd d0 4 p1) 5 w) 6 0 ∧ V = upd (upd (upd m14 6 0) 4 p1) 5 w := ⟨_, _, rfl, rfl⟩
    have hR' : RW N p U V := by
      refine RW_style hR ?_ (fun i hi => by rw [eU]; simp (disch := omega) only [ud_n]) (fun i hi => by rw [eV]; simp (disch := omega) only [ud_n])
      obtain ⟨g0, g1, g2, g3, g4, g5, g6, g7, g8⟩ := hR.st
      have v4 : V 4 = p1 := by rw [eV]; simp (disch := omega) only [ud_n, ud_e]
      have v5 : V 5 = w := by rw [eV]; simp (disch := omega) only [ud_n, ud_e]
      have v6 : V 6 = 0 := by rw [eV]; simp (disch := omega) only [ud_n, ud_e]
      have vr : ∀ i, i < 4 ∨ 6 < i → V i = m14 i := fun i hi => by rw [eV]; simp (disch := omega) only [ud_n]
      have ur : ∀ i, i < 4 ∨ 6 < i → U i = d0 i := fun i hi => by rw [eU]; simp (disch := omega) only [ud_n]
      refine ⟨fun i hi => ?_, ?_⟩
      · by_cases q : i < 4 ∨ 6 < i
        · rw [ur i q, vr i q]; exact g0 i hi
        · have : i = 4 ∨ i = 5 ∨ i = 6 := by omega
          rcases this with rfl | rfl | rfl <;> rw [eU, eV] <;> simp (disch := omega) only [ud_n, ud_e]
      · rw [v4, v5, v6, vr 0 (by omega), vr 1 (by omega), vr 2 (by omega), vr 3 (by omega)]
        refine ⟨g1, g2, g3, g4, rg_of hx, hw, ⟨by decide, by decide⟩, fun k hk => ?_⟩
        rw [show (0 : Int32).toInt = 0 from by decide] at hk; omega
    refine Or.inl ⟨0, 1000, (m14 6, U, y, a', 0), (m14 6, y, 0, V, b'), ?_, ?_, rfl, rfl, Inv_mk hR' s3 hT (hz _ _ _ _)⟩
    · unfold F_X11_setDashes F_X11_setDashes_j45
      rw [ck_in hx, obx_l, s1, obd_s, c1_l (z := 6) (i := 6) rfl (by decide), obd_s, p1_l (z := 4) (i := 4) rfl (by decide), obd_s, p1_l (z := 5) (i := 5) rfl (by decide), obd_s, p1_l (z := 6) (i := 6) rfl (by decide), obd_s, p1_l (z := 5) (i := 5) rfl (by decide), obd_s, p1_l (z := 6) (i := 6) rfl (by decide), obd_s, hv]
      by_cases q : p2 = 0
      · rw [if_pos q] at hw2 ⊢; rw [eU, hw2]
      · rw [if_neg q] at hw2 ⊢; rw [eU, hw2]
    · unfold F_X12_setDashes F_X12_setDashes_j17 F_X12_setDashes_j66
      rw [wi_in hx, lt_eq, if_neg (by decide), rf_0, lt_eq, if_pos rfl, s2, obd_s]
      rw [gd_in' (z := 6) (i := 6) rfl (by decide) (by decide), lt_eq, gd_in' (z := 6) (i := 6) rfl (by decide) (by decide), lt_eq, gd_in' (z := 4) (i := 4) rfl (by decide) (by decide), lt_eq]
      by_cases q : p2 = 0
      · rw [if_pos q] at hw2 ⊢; rw [gd_in' (z := 5) (i := 5) rfl (by decide) (by decide), lt_eq, cl_6, cl_4, cl_5, eV, hw2]
      · rw [if_neg q] at hw2 ⊢; rw [gd_in' (z := 5) (i := 5) rfl (by decide) (by decide), lt_eq, cl_6, cl_4, cl_5, eV, hw2]
  · refine Or.inr ⟨0, 0, (1, d0, d2, d3, d12), (0, m0, 1, m14, m15), ?_, rfl, ?_, rfl, Inv_mk hR hH hT hC⟩
    · unfold F_X11_setDashes; rw [ck_out hx, obx_r]
    · unfold F_X12_setDashes F_X12_setDashes_j17
      rw [wi_out hx, lt_eq, if_pos rfl, rf_1, lt_eq, if_neg (by decide)]
