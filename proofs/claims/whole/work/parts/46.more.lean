/-! ===== addDash, undo, point, nearest ===== -/
theorem nn_i {x : Int32} {b : Int} (h0 : 0 ≤ x.toInt) (h : x.toInt ≤ b) : ∃ k : Nat, (k : Int) ≤ b ∧ x = nI k := by
  have r := fb_rng x
  refine ⟨x.toInt.toNat, by omega, ?_⟩
  rw [fa_eq, nI_toInt (by omega)]; omega
theorem ST.nd {c m : Nat → Int32} (h : ST c m) : ∃ k : Nat, k ≤ 6 ∧ m 6 = nI k := by
  obtain ⟨k, a, b⟩ := nn_i h.2.2.2.2.2.2.2.1.1 h.2.2.2.2.2.2.2.1.2
  exact ⟨k, by omega, b⟩
set_option maxHeartbeats 1000000 in
theorem ag_addDash {CA : Nat → (Nat → Nat) → (Nat → Int32) → SC → Prop} (hz : CAz CA) : Ag_addDash (Inv CA) := by
  unfold Ag_addDash
  intro d0 d1 d2 d3 d4 d5 d6 d7 d8 d9 d10 d11 d12 d13 d14 d15 d16 d17 d18 d19 d20 d21 d22 d23 d24 d25 d26 d27 d28 d29 d30 d31 d32 d33 d34 d35 d36 d37 d38 d39 d40 d41 d42 d43 d44 d45 d46 d47 d48 d49 d50 m0 m1 m2 m3 m4 m5 m6 m7 m8 m9 m10 m11 m12 m13 m14 m15 m16 m17 m18 m19 m20 m21 m22 m23 m24 m25 m26 m27 m28 m29 m30 p1 hI
  obtain ⟨N, p, hR, hH, hT, hC⟩ := Inv_un hI
  have hN4 := hR.1
  have c13 := hR.c13
  have m13 := hR.m13
  obtain ⟨g0, g1, g2, g3, g4, g5, g6, g7, g8⟩ := hR.st
  obtain ⟨k, hk, e6⟩ := hR.st.nd
  have c6 : d0 6 = nI k := by rw [g0 6 (by omega), e6]
  by_cases hx : 5 ≤ p1 ∧ p1 ≤ 100
  · by_cases h6 : k < 6
    · obtain ⟨y, a', b', s1, s2, s3⟩ := save_both (n := 1000) (by omega) hR hH
      obtain ⟨U, V, eU, eV⟩ : ∃ U V, U = upd (upd d0 (7 + k) p1) 6 (nI (k + 1)) ∧ V = upd (upd m14 (7 + k) p1) 6 (nI (k + 1)) := ⟨_, _, rfl, rfl⟩
      have v6 : V 6 = nI (k + 1) := by rw [eV]; simp (disch := omega) only [ud_n, ud_e]
      have v7 : V (7 + k) = p1 := by rw [eV]; simp (disch := omega) only [ud_n, ud_e]
      have vr : ∀ i, i ≠ 6 → i ≠ 7 + k → V i = m14 i := fun i h1 h2 => by rw [eV]; simp (disch := omega) only [ud_n]
      have ur : ∀ i, i ≠ 6 → i ≠ 7 + k → U i = d0 i := fun i h1 h2 => by rw [eU]; simp (disch := omega) only [ud_n]
      have hR' : RW N p U V := by
        refine RW_style hR ⟨fun i hi => ?_, ?_⟩ (fun i hi => ur i (by omega) (by omega)) (fun i hi => vr i (by omega) (by omega))
        · by_cases q : i = 6
          · subst q; rw [v6, eU]; simp (disch := omega) only [ud_n, ud_e]
          · by_cases q2 : i = 7 + k
            · subst q2; rw [v7, eU]; simp (disch := omega) only [ud_n, ud_e]
            · rw [ur i q q2, vr i q q2]; exact g0 i hi
        · rw [v6, vr 0 (by omega) (by omega), vr 1 (by omega) (by omega), vr 2 (by omega) (by omega), vr 3 (by omega) (by omega), vr 4 (by omega) (by omega), vr 5 (by omega) (by omega), nI_toInt (by omega)]
          refine ⟨g1, g2, g3, g4, g5, g6, ⟨by omega, by omega⟩, fun j hj => ?_⟩
          by_cases q : j = k
          · subst q; rw [v7]; exact rg_of hx
          · rw [vr (7 + j) (by omega) (by omega)]
            refine g8 j ?_
            rw [e6, nI_toInt (by omega)]; omega
      refine Or.inl ⟨0, 1000, (nI (k + 1), U, y, a', 0), (nI (k + 1), y, 0, V, b'), ?_, ?_, rfl, rfl, Inv_mk hR' s3 hT (hz _ _ _ _)⟩
      · unfold F_X11_addDash F_X11_addDash_j28
        rw [ck_in hx, obx_l, c1_l (z := 6) (i := 6) rfl (by decide), obd_s, c6, if_neg (show ¬ (6 : Int32) ≤ nI k from nI_ge (b := 6) h6 (by omega)), cs_1, obx_l, s1, obd_s]
        simp only [zl_7, zl_1, nI_add]
        rw [p1_in (by omega), obd_s, p1_l (z := 6) (i := 6) rfl (by decide), obd_s, eU]
      · unfold F_X12_addDash F_X12_addDash_j32
        rw [wi_in hx, lt_eq, if_neg (by decide), gd_in' (z := 6) (i := 6) rfl (by decide) (by decide), cl_6, e6, if_neg (show ¬ nI k = 6 from nI_ne (b := 6) (by omega) (by omega) (by omega)), rf_0, lt_eq, if_pos rfl, s2, obd_s]
        rw [gd_in' (z := 6) (i := 6) rfl (by decide) (by decide), lt_eq, zl_7, nI_add, gd_in (by omega) (by decide), nI_clamp (by omega), lt_eq, gd_in' (z := 6) (i := 6) rfl (by decide) (by decide), lt_eq, gd_in' (z := 6) (i := 6) rfl (by decide) (by decide), lt_eq, gd_in' (z := 6) (i := 6) rfl (by decide) (by decide), show upd m14 (7 + k) p1 6 = nI k from by rw [ud_n (by omega), e6], zl_1, nI_add, ud_e rfl, eV]
    · have h6 : k = 6 := by omega
      subst h6
      refine Or.inr (Or.inr ⟨0, 0, (2, d0, d2, d3, d12), (0, m0, 2, m14, m15), ?_, rfl, ?_, rfl, Inv_mk hR hH hT hC⟩)
      · unfold F_X11_addDash F_X11_addDash_j28
        rw [ck_in hx, obx_l, c1_l (z := 6) (i := 6) rfl (by decide), obd_s, c6, if_pos (show (6 : Int32) ≤ nI 6 from by decide), cs_0, obx_r]
      · unfold F_X12_addDash F_X12_addDash_j32
        rw [wi_in hx, lt_eq, if_neg (by decide), gd_in' (z := 6) (i := 6) rfl (by decide) (by decide), cl_6, e6, if_pos (show nI 6 = 6 from rfl), rf_2, lt_eq, if_neg (by decide)]
  · refine Or.inr (Or.inl ⟨0, 0, (1, d0, d2, d3, d12), (0, m0, 1, m14, m15), ?_, rfl, ?_, rfl, Inv_mk hR hH hT hC⟩)
    · unfold F_X11_addDash; rw [ck_out hx, obx_r]
    · unfold F_X12_addDash F_X12_addDash_j32
      rw [wi_out hx, lt_eq, if_pos rfl, rf_1, lt_eq, if_neg (by decide)]
theorem back_c {h : Nat} (hh : h < 4) (a c : Nat → Int32) : ∃ r, F_X3_bringBack (nI (h + 1)) a c = some (nI h, r) ∧ ∀ i, i < 86 → r i = a (86 * h + i) := by
  unfold F_X3_bringBack
  have e1 : (nI (h * 86)).toNatClampNeg = h * 86 := nI_clamp (by omega)
  have e2 : Int32.ofNat 344 - 86 = nI 258 := by decide
  have e3 : (nI (h * 86)).toInt = ((h * 86 : Nat) : Int) := nI_toInt (by omega)
  have e4 : (86 : Int32).toInt = 86 := by decide
  have e5 : (0 : Int32).toInt = 0 := by decide
  rw [if_neg (nI_nle (by omega) (by omega)), nI_pred, lt_eq, zl_86, pk_mul]
  unfold F_X1_copyFrom
  rw [if_neg (nI_pos (by omega)), e2, if_neg (nI_nlt (by omega) (by omega)), gd_t ⟨by omega, by omega, by omega, by omega, by omega⟩, lt_eq, obd_s]
  refine ⟨_, rfl, fun i hi => ?_⟩
  show (if (0 : Int32).toNatClampNeg ≤ i ∧ i < (0 : Int32).toNatClampNeg + (86 : Int32).toNatClampNeg then a ((nI (h * 86)).toNatClampNeg + (i - (0 : Int32).toNatClampNeg)) else c i) = _
  rw [e1, show (86 : Int32).toNatClampNeg = 86 from by decide, cl_0, if_pos (by omega)]
  exact congrArg a (by omega)
theorem back_m {n : Nat} (hn : 1000 ≤ n) {h : Nat} (hh : h < 4) (a m : Nat → Int32) : ∃ r, F_X12_undo n (nI (h + 1)) m a = some (nI h, nI h, 0, r) ∧ ∀ i, i < 86 → r i = a (86 * h + i) := by
  unfold F_X12_undo F_X12_undo_j13 F_X12_undo_j33
  have key : lpq (F_X12_undo_b33 (nI h) a) n (nI 0, fb_put m (fun k => a (86 * h + k)) 0 0) = some (fb_put m (fun k => a (86 * h + k)) 0 86) := by
    refine lpq_run 86 (fun k => (nI k, fb_put m (fun k => a (86 * h + k)) 0 k)) (fun i hi => ?_) ?_ (by omega)
    · unfold F_X12_undo_b33
      simp only [zl_86, lt_eq, pk_mul, nI_add]
      have e := fb_put_succ m (fun k => a (86 * h + k)) 0 i
      rw [Nat.zero_add] at e
      rw [if_neg (nI_ge hi (by omega)), gd_in (by omega) (by decide), gd_in hi (by decide), nI_clamp (by omega), nI_clamp (by omega), e, zl_1, nI_add]
    · unfold F_X12_undo_b33
      exact if_pos (show (86 : Int32) ≤ nI 86 from by decide)
  rw [fb_put_0] at key
  rw [if_neg (show ¬ nI (h + 1) = 0 from nI_ne0 (by omega) (by omega)), rf_0, lt_eq, if_pos rfl, nI_pred, lt_eq, show (0 : Int32) = nI 0 from rfl, key, obd_s]
  unfold F_X12_undo_j65
  refine ⟨_, rfl, fun i hi => ?_⟩
  rw [fb_put_in (by omega) (by omega)]
  exact congrArg a (by omega)
set_option maxHeartbeats 1000000 in
theorem ag_undo {CA : Nat → (Nat → Nat) → (Nat → Int32) → SC → Prop} (hz : CAz CA) : Ag_undo (Inv CA) := by
  unfold Ag_undo
  intro d0 d1 d2 d3 d4 d5 d6 d7 d8 d9 d10 d11 d12 d13 d14 d15 d16 d17 d18 d19 d20 d21 d22 d23 d24 d25 d26 d27 d28 d29 d30 d31 d32 d33 d34 d35 d36 d37 d38 d39 d40 d41 d42 d43 d44 d45 d46 d47 d48 d49 d50 m0 m1 m2 m3 m4 m5 m6 m7 m8 m9 m10 m11 m12 m13 m14 m15 m16 m17 m18 m19 m20 m21 m22 m23 m24 m25 m26 m27 m28 m29 m30  hI
  obtain ⟨N, p, hR, hH, hT, hC⟩ := Inv_un hI
  have hN4 := hR.1
  have c13 := hR.c13
  have m13 := hR.m13
  obtain ⟨h, h4, e2, e0, hh⟩ := hH
  cases h with
  | zero =>
    refine Or.inr ⟨0, 0, (2, d0, d2, d12), (0, m0, 1, m14), ?_, rfl, ?_, rfl, Inv_mk hR ⟨0, h4, e2, e0, hh⟩ hT hC⟩
    · unfold F_X11_undo F_X11_undo_j15 F_X3_size
      rw [lt_eq, e2, if_pos (by decide), cs_0, obx_r]
    · unfold F_X12_undo F_X12_undo_j13
      rw [e0, if_pos (show nI 0 = 0 from rfl), rf_1, lt_eq, if_neg (by decide)]
  | succ h =>
    obtain ⟨r, r1, r2⟩ := back_c (h := h) (by omega) d3 d0
    obtain ⟨t, t1, t2⟩ := back_m (n := 1000) (by omega) (h := h) (by omega) m15 m14
    obtain ⟨N', p', hR'⟩ := hh h (by omega)
    refine Or.inl ⟨0, 1000, (nI h, r, nI h, 0), (nI h, nI h, 0, t), ?_, by rw [e0]; exact t1, rfl, rfl, Inv_mk (hR'.i86 (fun i hi => r2 i hi) (fun i hi => t2 i hi)) ⟨h, by omega, rfl, rfl, fun q hq => hh q (by omega)⟩ hT (hz _ _ _ _)⟩
    unfold F_X11_undo F_X11_undo_j15 F_X3_size F_X10_forget
    rw [lt_eq, e2, if_neg (nI_nle (by omega) (by omega)), cs_1, obx_l, lt_eq, r1, obd_s, lt_eq]
set_option maxHeartbeats 1000000 in
theorem ag_point {CA : Nat → (Nat → Nat) → (Nat → Int32) → SC → Prop} (hz : CAz CA) : Ag_point (Inv CA) := by
  unfold Ag_point
  intro d0 d1 d2 d3 d4 d5 d6 d7 d8 d9 d10 d11 d12 d13 d14 d15 d16 d17 d18 d19 d20 d21 d22 d23 d24 d25 d26 d27 d28 d29 d30 d31 d32 d33 d34 d35 d36 d37 d38 d39 d40 d41 d42 d43 d44 d45 d46 d47 d48 d49 d50 m0 m1 m2 m3 m4 m5 m6 m7 m8 m9 m10 m11 m12 m13 m14 m15 m16 m17 m18 m19 m20 m21 m22 m23 m24 m25 m26 m27 m28 m29 m30 p1 p2 p3 hI
  obtain ⟨N, p, hR, hH, hT, hC⟩ := Inv_un hI
  have hN4 := hR.1
  have c13 := hR.c13
  have m13 := hR.m13
  intro hb
  by_cases h1 : 0 ≤ p1 ∧ p1 < nI N
  · obtain ⟨s, hs, rfl⟩ := ix_of (by omega) h1
    have g := hR.sp hs
    have hp8 := g.2.1
    have hs4 : s < 4 := by omega
    by_cases h2 : 0 ≤ p2 ∧ p2 < nI (p s)
    · obtain ⟨k, hk, rfl⟩ := ix_of (by have := g.2.1; omega) h2
      have hk8 : k < 8 := by have := g.2.1; omega
      have x := g.xy hk
      refine Or.inl ⟨0, 0, if p3 = 0 then m14 (16 + 18 * s + 2 * k) else m14 (17 + 18 * s + 2 * k), (if p3 = 0 then m14 (16 + 18 * s + 2 * k) else m14 (17 + 18 * s + 2 * k), 0), ?_, ?_, rfl, rfl, Inv_mk hR hH hT hC⟩
      · unfold F_X11_point
        rw [X1_count, obd_s, c13, ci_in hs (by omega), obx_l, X1_pts c13 hs hN4, obd_s, g.pc, ci_in hk (by omega), obx_l, X1_x hs4 hk8, X1_y hs4 hk8, obd_s, obd_s, x.1, x.2.1]
        by_cases q : p3 = 0
        · rw [if_pos q, if_pos q]
        · rw [if_neg q, if_neg q]
      · unfold F_X12_point F_X12_point_j29
        rw [is_in m13 hs hN4, obd_s, if_neg (by decide), m_pts hs4, obd_s, g.pm, zl_1, pk_sub g.1, wi_in ⟨nI_pos' (by omega), nI_le (by omega) (by omega)⟩, lt_eq, if_neg (by decide), rf_0, lt_eq, if_pos rfl, m_x hs4 hk8, m_y hs4 hk8, obd_s, obd_s]
        by_cases q : p3 = 0
        · rw [if_pos q, if_pos q]
        · rw [if_neg q, if_neg q]
    · refine Or.inr ⟨0, 0, 3, (0, 1), ?_, rfl, ?_, rfl, Inv_mk hR hH hT hC⟩
      · unfold F_X11_point
        rw [X1_count, obd_s, c13, ci_in hs (by omega), obx_l, X1_pts c13 hs hN4, obd_s, g.pc, ci_out h2, obx_r]
      · unfold F_X12_point F_X12_point_j28 F_X12_point_j29
        rw [is_in m13 hs hN4, obd_s, if_neg (by decide), m_pts hs4, obd_s, g.pm, wi_out, lt_eq, if_pos rfl, rf_1, lt_eq, if_neg (by decide)]
        rintro ⟨a, b⟩
        refine h2 ⟨a, ?_⟩
        rw [fa_le] at b
        rw [fa_lt, nI_toInt (by have := g.2.1; omega)]
        have e : (nI (p s) - 1).toInt = (p s : Int) - 1 := by
          rw [zl_1, pk_sub_toInt (by have := g.2.1; omega) (by omega)]; rfl
        omega
  · refine Or.inr ⟨0, 0, 3, (0, 1), ?_, rfl, ?_, rfl, Inv_mk hR hH hT hC⟩
    · unfold F_X11_point; rw [X1_count, obd_s, c13, ci_out h1, obx_r]
    · unfold F_X12_point F_X12_point_j28 F_X12_point_j29
      rw [is_out m13 hN4 h1, obd_s, if_pos rfl, rf_1, lt_eq, if_neg (by decide)]
/-! nearest -/
def nrD (m : Nat → Int32) (x y : Int32) (s k : Nat) : Int32 := (m (16 + 18 * s + 2 * k) - x) * (m (16 + 18 * s + 2 * k) - x) + (m (17 + 18 * s + 2 * k) - y) * (m (17 + 18 * s + 2 * k) - y)
def nrS (m : Nat → Int32) (x y : Int32) (s : Nat) (a : Int32) : Nat → Int32
  | 0 => a
  | k + 1 => if nrS m x y s a k = -1 then nrD m x y s k else if nrD m x y s k < nrS m x y s a k then nrD m x y s k else nrS m x y s a k
def nrA (m : Nat → Int32) (p : Nat → Nat) (x y : Int32) : Nat → Int32
  | 0 => -1
  | s + 1 => nrS m x y s (nrA m p x y s) (p s)
theorem near_c {n : Nat} (hn : 1000 ≤ n) {N : Nat} {p : Nat → Nat} {c m : Nat → Int32} (hR : RW N p c m) (x y : Int32) : F_X1_leastSquare n c x y = some (nrA m p x y N) := by
  unfold F_X1_leastSquare F_X1_leastSquare_j5
  have hN4 := hR.1
  have key : lpq (F_X1_leastSquare_b5 n c x y) n (nrA m p x y 0, nI 0) = some (nrA m p x y N) := by
    refine lpq_run N (fun s => (nrA m p x y s, nI s)) (fun s hs => ?_) ?_ (by omega)
    · have g := hR.sp hs
      have h8 := g.2.1
      unfold F_X1_leastSquare_b5
      rw [X1_count, obd_s, hR.c13]
      show (if nI N ≤ nI s then _ else _) = _
      rw [if_neg (nI_ge hs (by omega))]
      unfold F_X1_leastSquare_j17
      have k2 : lpq (F_X1_leastSquare_b17 c x y (nI s)) n (nrS m x y s (nrA m p x y s) 0, nI 0) = some (nrS m x y s (nrA m p x y s) (p s)) := by
        refine lpq_run (p s) (fun k => (nrS m x y s (nrA m p x y s) k, nI k)) (fun k hk => ?_) ?_ (by omega)
        · unfold F_X1_leastSquare_b17 F_X1_leastSquare_j81
          rw [X1_pts hR.c13 hs hN4, obd_s, g.pc]
          show (if nI (p s) ≤ nI k then _ else obd (F_X1_xOf c (nI s) (nI k)) _) = _
          rw [if_neg (nI_ge hk (by omega)), X1_x (by omega) (by omega), obd_s, lt_eq]
          show obd (F_X1_yOf c (nI s) (nI k)) _ = _
          rw [X1_y (by omega) (by omega), obd_s, lt_eq, lt_eq, (g.xy hk).1, (g.xy hk).2.1]
          simp only [lt_eq, zl_1, nI_add]
          show (if nrS m x y s (nrA m p x y s) k = -1 then some (Sum.inl (nrD m x y s k, nI (k + 1))) else some (Sum.inl (if nrD m x y s k < nrS m x y s (nrA m p x y s) k then nrD m x y s k else nrS m x y s (nrA m p x y s) k, nI (k + 1)))) = some (Sum.inl (nrS m x y s (nrA m p x y s) (k + 1), nI (k + 1)))
          rw [nrS]
          by_cases q : nrS m x y s (nrA m p x y s) k = -1
          · rw [if_pos q, if_pos q]
          · rw [if_neg q, if_neg q]
        · unfold F_X1_leastSquare_b17
          rw [X1_pts hR.c13 hs hN4, obd_s, g.pc]
          exact if_pos (nI_le (Nat.le_refl _) (by omega))
      have k3 : lpq (F_X1_leastSquare_b17 c x y (nI s)) n (nrA m p x y s, 0) = some (nrS m x y s (nrA m p x y s) (p s)) := k2
      show obd (lpq (F_X1_leastSquare_b17 c x y (nI s)) n (nrA m p x y s, 0)) _ = _
      rw [k3, obd_s]
      unfold F_X1_leastSquare_j88
      rw [lt_eq]
      show some (Sum.inl (nrS m x y s (nrA m p x y s) (p s), nI s + 1)) = _
      rw [zl_1, nI_add]; rfl
    · unfold F_X1_leastSquare_b5
      rw [X1_count, obd_s, hR.c13]
      exact if_pos (nI_le (Nat.le_refl _) (by omega))
  have key2 : lpq (F_X1_leastSquare_b5 n c x y) n (-1, 0) = some (nrA m p x y N) := key
  rw [key2, obd_s]; rfl
theorem near_m {n : Nat} (hn : 1000 ≤ n) {N : Nat} {p : Nat → Nat} {c m : Nat → Int32} (hR : RW N p c m) (x y z : Int32) : F_X12_nearest_j27 n z m x y (-1) 0 = some (nrA m p x y N, z) := by
  unfold F_X12_nearest_j27
  have hN4 := hR.1
  have key : lpq (F_X12_nearest_b27 n m x y) n (nrA m p x y 0, nI 0) = some (nrA m p x y N) := by
    refine lpq_run N (fun s => (nrA m p x y s, nI s)) (fun s hs => ?_) ?_ (by omega)
    · have g := hR.sp hs
      have h8 := g.2.1
      unfold F_X12_nearest_b27
      rw [gd_13, cl_13, hR.m13]
      show (if nI N ≤ nI s then _ else _) = _
      rw [if_neg (nI_ge hs (by omega))]
      unfold F_X12_nearest_j42
      have k2 : lpq (F_X12_nearest_b42 m x y (nI s)) n (nrS m x y s (nrA m p x y s) 0, nI 0) = some (nrS m x y s (nrA m p x y s) (p s)) := by
        refine lpq_run (p s) (fun k => (nrS m x y s (nrA m p x y s) k, nI k)) (fun k hk => ?_) ?_ (by omega)
        · unfold F_X12_nearest_b42 F_X12_nearest_j97 F_X12_nearest_j112
          rw [m_pts (by omega), obd_s, g.pm]
          show (if nI (p s) ≤ nI k then _ else obd (F_X12_x m (nI s) (nI k)) _) = _
          rw [if_neg (nI_ge hk (by omega)), m_x (by omega) (by omega), obd_s, lt_eq]
          show obd (F_X12_y m (nI s) (nI k)) _ = _
          rw [m_y (by omega) (by omega), obd_s, lt_eq]
          simp only [lt_eq, zl_1, nI_add]
          show (if nrS m x y s (nrA m p x y s) k = -1 then some (Sum.inl (nrD m x y s k, nI (k + 1))) else if nrS m x y s (nrA m p x y s) k ≤ nrD m x y s k then some (Sum.inl (nrS m x y s (nrA m p x y s) k, nI (k + 1))) else some (Sum.inl (nrD m x y s k, nI (k + 1)))) = some (Sum.inl (nrS m x y s (nrA m p x y s) (k + 1), nI (k + 1)))
          rw [nrS]
          by_cases q : nrS m x y s (nrA m p x y s) k = -1
          · rw [if_pos q, if_pos q]
          · rw [if_neg q, if_neg q]
            by_cases q2 : nrS m x y s (nrA m p x y s) k ≤ nrD m x y s k
            · rw [if_pos q2, if_neg (fun q3 => absurd ((fa_le _ _).mp q2) (by have := (fa_lt _ _).mp q3; omega))]
            · rw [if_neg q2, if_pos (fa_of_nle q2)]
        · unfold F_X12_nearest_b42
          rw [m_pts (by omega), obd_s, g.pm]
          exact if_pos (nI_le (Nat.le_refl _) (by omega))
      have k3 : lpq (F_X12_nearest_b42 m x y (nI s)) n (nrA m p x y s, 0) = some (nrS m x y s (nrA m p x y s) (p s)) := k2
      show obd (lpq (F_X12_nearest_b42 m x y (nI s)) n (nrA m p x y s, 0)) _ = _
      rw [k3, obd_s]
      unfold F_X12_nearest_j119
      rw [lt_eq]
      show some (Sum.inl (nrS m x y s (nrA m p x y s) (p s), nI s + 1)) = _
      rw [zl_1, nI_add]; rfl
    · unfold F_X12_nearest_b27
      rw [gd_13, cl_13, hR.m13]
      exact if_pos (nI_le (Nat.le_refl _) (by omega))
  have key2 : lpq (F_X12_nearest_b27 n m x y) n (-1, 0) = some (nrA m p x y N) := key
  rw [key2, obd_s]; rfl
set_option maxHeartbeats 1000000 in
theorem ag_nearest {CA : Nat → (Nat → Nat) → (Nat → Int32) → SC → Prop} (hz : CAz CA) : Ag_nearest (Inv CA) := by
  unfold Ag_nearest
  intro d0 d1 d2 d3 d4 d5 d6 d7 d8 d9 d10 d11 d12 d13 d14 d15 d16 d17 d18 d19 d20 d21 d22 d23 d24 d25 d26 d27 d28 d29 d30 d31 d32 d33 d34 d35 d36 d37 d38 d39 d40 d41 d42 d43 d44 d45 d46 d47 d48 d49 d50 m0 m1 m2 m3 m4 m5 m6 m7 m8 m9 m10 m11 m12 m13 m14 m15 m16 m17 m18 m19 m20 m21 m22 m23 m24 m25 m26 m27 m28 m29 m30 p1 p2 hI
  obtain ⟨N, p, hR, hH, hT, hC⟩ := Inv_un hI
  have hN4 := hR.1
  have c13 := hR.c13
  have m13 := hR.m13
  by_cases hx : (-100 ≤ p1 ∧ p1 ≤ 100) ∧ (-100 ≤ p2 ∧ p2 ≤ 100)
  · refine Or.inl ⟨1000, 1000, nrA m14 p p1 p2 N, (nrA m14 p p1 p2 N, 0), ?_, ?_, rfl, rfl, Inv_mk hR hH hT hC⟩
    · unfold F_X11_nearest
      rw [ck_in hx.1, obx_l, ck_in hx.2, obx_l, near_c (by omega) hR, obd_s]
    · unfold F_X12_nearest F_X12_nearest_j14
      rw [ip_in hx.1 hx.2, lt_eq, if_neg (by decide), rf_0, lt_eq, if_pos rfl]
      exact near_m (by omega) hR p1 p2 0
  · refine Or.inr ⟨0, 0, 1, (0, 1), ?_, rfl, ?_, rfl, Inv_mk hR hH hT hC⟩
    · unfold F_X11_nearest
      by_cases q : -100 ≤ p1 ∧ p1 ≤ 100
      · rw [ck_in q, obx_l, ck_out (fun q2 => hx ⟨q, q2⟩), obx_r]
      · rw [ck_out q, obx_r]
    · unfold F_X12_nearest F_X12_nearest_j14
      rw [ip_out hx, lt_eq, if_pos rfl, rf_1, lt_eq, if_neg (by decide)]
