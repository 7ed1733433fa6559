/-! ===== close, subpath, pointAt ===== -/
def abt (N : Nat) (p : Nat → Nat) (m : Nat → Int32) (s w : Nat) : Int32 := if w = 0 then nI (p s) else if w = 1 then m (15 + 18 * s) else if w = 2 then nI (sg N p m s).length else nI (sW N p m s)
theorem cl01 {s n : Nat} {c m : Nat → Int32} (h : SP s n c m) : (if m (15 + 18 * s) = 1 then (1 : Int32) else 0) = m (15 + 18 * s) := by
  rcases h.bo with e | e
  · rw [e]; decide
  · rw [e]; decide
theorem about_c {W : TW} {P : TP} {N : Nat} {p : Nat → Nat} {c m : Nat → Int32} {d12 d13 d14 d15 d16 d17 : Int32} {d18 d19 d20 d21 d22 d23 d24 d25 d26 d27 : Nat → Int32} {d28 d29 : Int32} {d30 d31 d32 d33 d34 d35 d36 d37 d38 : Nat → Int32} {d39 d40 d41 d42 : Int32} {d43 : Nat → Int32} {d44 d45 d46 : Int32} {d47 d48 d49 d50 : Nat → Int32}
    (hR : RW N p c m) (hC : CAg W P N p m (d12, d13, d14, d15, d16, d17, d18, d19, d20, d21, d22, d23, d24, d25, d26, d27, d28, d29, d30, d31, d32, d33, d34, d35, d36, d37, d38, d39, d40, d41, d42, d43, d44, d45, d46, d47, d48, d49, d50)) {n : Nat} (hn : 100000 ≤ n) {s w : Nat} (hs : s < N) (hw : w < 4) :
    ∃ e12 e17 e18 e19 e20 e21 e22 e23 e24 e25 e26 e27, F_X11_aboutSubpath n c d12 d17 d18 d19 d20 d21 d22 d23 d24 d25 d26 d27 (nI s) (nI w) = some (abt N p (red m) s w, e12, e17, e18, e19, e20, e21, e22, e23, e24, e25, e26, e27) ∧
      CAg W P N p m (e12, d13, d14, d15, d16, e17, e18, e19, e20, e21, e22, e23, e24, e25, e26, e27, d28, d29, d30, d31, d32, d33, d34, d35, d36, d37, d38, d39, d40, d41, d42, d43, d44, d45, d46, d47, d48, d49, d50) := by
  have hN4 := hR.1
  have g := hR.red.sp hs
  unfold F_X11_aboutSubpath
  have hw4 : w = 0 ∨ w = 1 ∨ w = 2 ∨ w = 3 := by omega
  rcases hw4 with rfl | rfl | rfl | rfl
  · rw [if_pos (show nI 0 = 0 from rfl), X1_pts hR.c13 hs hN4, obd_s, g.pc]
    exact ⟨_, _, _, _, _, _, _, _, _, _, _, _, rfl, hC⟩
  · rw [if_neg (by decide), if_pos (show nI 1 = 1 from rfl), X1_clo hR.c13 hs hN4, obd_s, g.cl, cl01 g, show abt N p (red m) s 1 = red m (15 + 18 * s) from rfl]
    rcases g.bo with e | e
    · rw [e, if_pos rfl]
      exact ⟨_, _, _, _, _, _, _, _, _, _, _, _, rfl, hC⟩
    · rw [e, if_neg (by decide)]
      exact ⟨_, _, _, _, _, _, _, _, _, _, _, _, rfl, hC⟩
  · obtain ⟨e12, e17, e18, e19, e20, e21, e22, e23, e24, e25, e26, e27, k1, k2, k3⟩ := measd hR hC hn
    rw [if_neg (by decide), if_neg (by decide), k1, obd_s, if_pos (show nI 2 = 2 from rfl), k2.co (by omega), obd_s]
    exact ⟨_, _, _, _, _, _, _, _, _, _, _, _, rfl, k3⟩
  · obtain ⟨e12, e17, e18, e19, e20, e21, e22, e23, e24, e25, e26, e27, k1, k2, k3⟩ := measd hR hC hn
    rw [if_neg (by decide), if_neg (by decide), k1, obd_s, if_neg (by decide), k2.lo hR.red (by omega) (by omega), obd_s]
    exact ⟨_, _, _, _, _, _, _, _, _, _, _, _, rfl, k3⟩
theorem tell_m {n : Nat} (hn : 200000 ≤ n) {N : Nat} {p : Nat → Nat} {c m m' : Nat → Int32} (hR : RW N p c m) (hm : E86 m' m) {s w : Nat} (hs : s < N) (hw : w < 4) (a17 a18 a19 a20 a21 a22 : Nat → Int32) :
    ∃ b17 b18 b19 b20 b21 b22, F_X12_tellSubpath n m' a17 a18 a19 a20 a21 a22 (nI s) (nI w) = some (abt N p m s w, nI (sg N p m s).length, nI (sW N p m s), b17, b18, b19, b20, b21, b22) ∧ HoR m s (p s) (sg N p m s) b17 b18 b19 b20 b21 b22 := by
  have hN4 := hR.1
  have g := hR.sp hs
  obtain ⟨b17, b18, b19, b20, b21, b22, k1, k2⟩ := lays_m hn hR hm hs a17 a18 a19 a20 a21 a22
  refine ⟨b17, b18, b19, b20, b21, b22, ?_, k2⟩
  unfold F_X12_tellSubpath
  rw [k1, obd_s]
  have hw4 : w = 0 ∨ w = 1 ∨ w = 2 ∨ w = 3 := by omega
  rcases hw4 with rfl | rfl | rfl | rfl
  · rw [if_pos (show nI 0 = 0 from rfl), m_pts' hm (by omega), obd_s, g.pm]; rfl
  · rw [if_neg (by decide), if_pos (show nI 1 = 1 from rfl), at_12, lt_eq, zl_1, nI_add, lt_eq, gd_in (by omega) (by decide), nI_clamp (by omega), hm _ (by omega), show 14 + 18 * s + 1 = 15 + 18 * s from by omega]; rfl
  · rw [if_neg (by decide), if_neg (by decide), if_pos (show nI 2 = 2 from rfl)]; rfl
  · rw [if_neg (by decide), if_neg (by decide), if_neg (by decide)]; rfl
theorem ix_le {p : Int32} {N : Nat} (hN : N ≤ 1000000) (h : 0 ≤ p ∧ p ≤ nI N) : ∃ j, j ≤ N ∧ p = nI j := by
  have h2 := (fa_le _ _).mp h.2
  have h1 := (fa_le _ _).mp h.1
  rw [nI_toInt (by omega)] at h2
  obtain ⟨k, a, b⟩ := nn_i (x := p) (b := N) (by rw [show (0 : Int32).toInt = 0 from by decide] at h1; omega) h2
  exact ⟨k, by omega, b⟩
set_option maxHeartbeats 2000000 in
theorem ag_subpath {WW : TW} {PP : TP} : Ag_subpath (Inv (CAg WW PP)) := by
  unfold Ag_subpath
  intro d0 d1 d2 d3 d4 d5 d6 d7 d8 d9 d10 d11 d12 d13 d14 d15 d16 d17 d18 d19 d20 d21 d22 d23 d24 d25 d26 d27 d28 d29 d30 d31 d32 d33 d34 d35 d36 d37 d38 d39 d40 d41 d42 d43 d44 d45 d46 d47 d48 d49 d50 m0 m1 m2 m3 m4 m5 m6 m7 m8 m9 m10 m11 m12 m13 m14 m15 m16 m17 m18 m19 m20 m21 m22 m23 m24 m25 m26 m27 m28 m29 m30 p1 p2 hI
  obtain ⟨N, p, hR, hH, hT, hC⟩ := Inv_un hI
  have hN4 := hR.1
  have c13 := hR.c13
  have m13 := hR.m13
  by_cases h1 : 0 ≤ p1 ∧ p1 < nI N
  · obtain ⟨s, hs, rfl⟩ := ix_of (by omega) h1
    by_cases h2 : 0 ≤ p2 ∧ p2 ≤ 3
    · obtain ⟨w, hw, rfl⟩ := ix_le (N := 3) (by omega) h2
      obtain ⟨e12, e17, e18, e19, e20, e21, e22, e23, e24, e25, e26, e27, k1, k2⟩ := about_c hR hC (n := 200000) (by omega) hs (show w < 4 by omega)
      obtain ⟨b17, b18, b19, b20, b21, b22, k3, k4⟩ := tell_m (n := 200000) (by omega) hR.red (red_E m14) hs (show w < 4 by omega) m17 m18 m19 m20 m21 m22
      refine Or.inl ⟨200000, 200000, (abt N p (red m14) s w, e12, e17, e18, e19, e20, e21, e22, e23, e24, e25, e26, e27), (abt N p (red m14) s w, 0, nI (sg N p (red m14) s).length, nI (sW N p (red m14) s), b17, b18, b19, b20, b21, b22), ?_, ?_, rfl, rfl, Inv_mk hR hH hT k2⟩
      · unfold F_X11_subpath
        rw [X1_count, obd_s, c13, ci_in hs (by omega), obx_l, ck_in h2, obx_l, k1, obd_s]
      · unfold F_X12_subpath F_X12_subpath_j27
        rw [is_in m13 hs hN4, obd_s, if_neg (by decide), wi_in h2, lt_eq, if_neg (by decide), rf_0, lt_eq, if_pos rfl, k3, obd_s]
    · refine Or.inr (Or.inr ⟨0, 0, (1, d12, d17, d18, d19, d20, d21, d22, d23, d24, d25, d26, d27), (0, 2, m3, m4, m17, m18, m19, m20, m21, m22), ?_, rfl, ?_, rfl, Inv_mk hR hH hT hC⟩)
      · unfold F_X11_subpath
        rw [X1_count, obd_s, c13, ci_in hs (by omega), obx_l, ck_out h2, obx_r]
      · unfold F_X12_subpath F_X12_subpath_j27
        rw [is_in m13 hs hN4, obd_s, if_neg (by decide), wi_out h2, lt_eq, if_pos rfl, rf_2, lt_eq, if_neg (by decide)]
  · refine Or.inr (Or.inl ⟨0, 0, (3, d12, d17, d18, d19, d20, d21, d22, d23, d24, d25, d26, d27), (0, 1, m3, m4, m17, m18, m19, m20, m21, m22), ?_, rfl, ?_, rfl, Inv_mk hR hH hT hC⟩)
    · unfold F_X11_subpath
      rw [X1_count, obd_s, c13, ci_out h1, obx_r]
    · unfold F_X12_subpath F_X12_subpath_j27
      rw [is_out m13 hN4 h1, obd_s, if_pos rfl, rf_1, lt_eq, if_neg (by decide)]
set_option maxHeartbeats 2000000 in
theorem ag_close {WW : TW} {PP : TP} : Ag_close (Inv (CAg WW PP)) := by
  unfold Ag_close
  intro d0 d1 d2 d3 d4 d5 d6 d7 d8 d9 d10 d11 d12 d13 d14 d15 d16 d17 d18 d19 d20 d21 d22 d23 d24 d25 d26 d27 d28 d29 d30 d31 d32 d33 d34 d35 d36 d37 d38 d39 d40 d41 d42 d43 d44 d45 d46 d47 d48 d49 d50 m0 m1 m2 m3 m4 m5 m6 m7 m8 m9 m10 m11 m12 m13 m14 m15 m16 m17 m18 m19 m20 m21 m22 m23 m24 m25 m26 m27 m28 m29 m30  hI
  obtain ⟨N, p, hR, hH, hT, hC⟩ := Inv_un hI
  have hN4 := hR.1
  have c13 := hR.c13
  have m13 := hR.m13
  by_cases hok : ∃ l, N = l + 1 ∧ m14 (15 + 18 * l) = 0
  · obtain ⟨l, rfl, ho⟩ := hok
    have g := hR.sp (s := l) (by omega)
    have hoc : d0 (15 + 18 * l) = 0 := by rw [g.cl]; exact ho
    obtain ⟨y, a', b', s1, s2, s3⟩ := save_both (n := 200000) (by omega) hR hH
    have hR' := RW_close hR (v := 1) (Or.inr rfl)
    obtain ⟨e17, e18, e19, e20, e21, e22, e23, e24, e25, e26, e27, k1, k2⟩ := meas_c (n := 200000) (by omega) hR'.red d18 d19 d20 d21 d22 d23 d24 d25 d26 d27
    obtain ⟨b17, b18, b19, b20, b21, b22, k3, k4⟩ := lays_m (n := 200000) (by omega) hR'.red (red_E _) (s := l) (by omega) m17 m18 m19 m20 m21 m22
    refine Or.inl ⟨200000, 200000, (nI (sg (l + 1) p (red (upd m14 (15 + 18 * l) 1)) l).length, upd d0 (15 + 18 * l) 1, y, a', 1, e17, e18, e19, e20, e21, e22, e23, e24, e25, e26, e27),
      (nI (sg (l + 1) p (red (upd m14 (15 + 18 * l) 1)) l).length, y, 0, nI (sg (l + 1) p (red (upd m14 (15 + 18 * l) 1)) l).length, nI (sW (l + 1) p (red (upd m14 (15 + 18 * l) 1)) l), upd m14 (15 + 18 * l) 1, b', b17, b18, b19, b20, b21, b22), ?_, ?_, rfl, rfl, Inv_mk hR' s3 hT (CAg_mk 1 (by omega) rfl (fun _ => k2) (fun h => absurd h (by omega)) (fun h => absurd h (by omega)))⟩
    · unfold F_X11_close F_X11_close_j28 F_X10_measured F_X10_measured_j21
      rw [X1_last c13, obd_s, if_neg (nI_pos (by omega)), X1_clo c13 (by omega) hN4, obd_s, hoc, if_neg (show ¬ (0 : Int32) = 1 from by decide), if_pos rfl, cs_1, obx_l, s1, obd_s, cls_c c13 (by omega), obd_s, if_neg (show ¬ (1 : Int32) ≤ 0 from by decide), k1, obd_s, obd_s, k2.co (by omega), obd_s]
    · unfold F_X12_close F_X12_close_j13 F_X12_isOpen
      rw [gd_13, cl_13, m13, if_neg (nI_nle (by omega) (by omega)), gd_13, nI_pred, m_clo (by omega), obd_s, ho, if_neg (show ¬ (0 : Int32) = 1 from by decide), if_pos rfl, obd_s, if_neg (by decide), rf_0, lt_eq, if_pos rfl, s2, obd_s, gd_13, lt_eq, at_12, lt_eq, zl_1, nI_add, lt_eq, gd_in (by omega) (by decide), nI_clamp (by omega), lt_eq, show 14 + 18 * l + 1 = 15 + 18 * l from by omega, ← zl_1, k3, obd_s]
  · refine Or.inr ⟨0, 0, (2, d0, d2, d3, d12, d17, d18, d19, d20, d21, d22, d23, d24, d25, d26, d27), (0, m0, 1, m3, m4, m14, m15, m17, m18, m19, m20, m21, m22), ?_, rfl, ?_, rfl, Inv_mk hR hH hT hC⟩
    · unfold F_X11_close F_X11_close_j27 F_X11_close_j28
      cases N with
      | zero => rw [X1_last0 c13, obd_s, if_pos (by decide), cs_0, obx_r]
      | succ l =>
        have g := hR.sp (s := l) (by omega)
        rw [X1_last c13, obd_s, if_neg (nI_pos (by omega)), X1_clo c13 (by omega) hN4, obd_s, g.cl]
        rcases g.bo with ho | ho
        · exact absurd ⟨l, rfl, ho⟩ hok
        · rw [ho, if_pos rfl, if_neg (by decide), cs_0, obx_r]
    · unfold F_X12_close F_X12_close_j13 F_X12_isOpen F_X12_isOpen_j30
      rw [gd_13, cl_13, m13]
      cases N with
      | zero => rw [if_pos (by decide), obd_s, if_pos rfl, rf_1, lt_eq, if_neg (by decide)]
      | succ l =>
        have g := hR.sp (s := l) (by omega)
        rw [if_neg (nI_nle (by omega) (by omega)), gd_13, nI_pred, m_clo (by omega), obd_s]
        rcases g.bo with ho | ho
        · exact absurd ⟨l, rfl, ho⟩ hok
        · rw [ho, if_pos rfl, if_neg (by decide), obd_s, if_pos rfl, rf_1, lt_eq, if_neg (by decide)]
/-! pointAt -/
theorem sg_find {N : Nat} {p : Nat → Nat} {m : Nat → Int32} {s d : Nat} (h0 : 0 < (sg N p m s).length) (hd : d ≤ sW N p m s) : ∃ g, g < (sg N p m s).length ∧ d ≤ sA N p m s (g + 1) ∧ sA N p m s g ≤ d ∧ ∀ j, j < g → ¬ d ≤ sA N p m s (j + 1) := by
  obtain ⟨g, h1, h2, h3⟩ := fb_first (p := fun i => d ≤ sA N p m s (i + 1)) (n := (sg N p m s).length) ⟨(sg N p m s).length - 1, by omega, by show d ≤ sA N p m s ((sg N p m s).length - 1 + 1); rw [Nat.sub_add_cancel h0]; exact hd⟩
  refine ⟨g, h1, h2, ?_, h3⟩
  cases g with
  | zero => rw [sA_0]; omega
  | succ g => have := h3 g (by omega); omega
section SGA
variable {N : Nat} {p : Nat → Nat} {c m : Nat → Int32} {d17 : Int32} {d18 d19 d20 d21 d22 d23 d24 d25 d26 d27 : Nat → Int32}
theorem MS.sz (hR : RW N p c m) (h : MS N p m d17 d18 d19 d20 d21 d22 d23 d24 d25 d26 d27) {s g k : Nat} (hs : s < 4) (hk : (sg N p m s)[g]? = some k) : F_X9_size d23 (nI (SF N p m s + g)) = some (nI (sgl m s (p s) k)) := by
  unfold F_X9_size
  rw [at_in (SF_g hR hs hk) (by decide), obd_s, (h.at hs hk).2.2.2.2.1]
theorem MS.sa (hR : RW N p c m) (h : MS N p m d17 d18 d19 d20 d21 d22 d23 d24 d25 d26 d27) {n : Nat} (hn : 1000 ≤ n) {s g d : Nat} (hs : s < 4) (hd : d ≤ sW N p m s) (hg : g < (sg N p m s).length) (h1 : d ≤ sA N p m s (g + 1)) (h2 : ∀ j, j < g → ¬ d ≤ sA N p m s (j + 1)) : F_X9_segmentAt n d18 d23 (nI s) (nI d) = some (nI (SF N p m s + g)) := by
  have h8 := sg_len hR s
  have hSF := SF_32 hR (s := s + 1) (by omega)
  rw [SF_s] at hSF
  have hW := sW_le hR s
  unfold F_X9_segmentAt F_X9_segmentAt_j9
  rw [h.fo (by omega), obd_s]
  have key : lpq (F_X9_segmentAt_b9 d18 d23 (nI s) (nI d)) n (nI (sA N p m s 0), nI (SF N p m s + 0)) = some (.inl (nI (SF N p m s + g))) := by
    have st : ∀ i, i < (sg N p m s).length → F_X9_segmentAt_b9 d18 d23 (nI s) (nI d) (nI (sA N p m s i), nI (SF N p m s + i)) = if d ≤ sA N p m s (i + 1) then some (.inr (.inl (nI (SF N p m s + i)))) else some (.inl (nI (sA N p m s (i + 1)), nI (SF N p m s + (i + 1)))) := fun i hi => by
      obtain ⟨k, hk⟩ := hx_at hi
      have hw := sA_w (N := N) (p := p) (m := m) (s := s) (g := i + 1) (by omega)
      unfold F_X9_segmentAt_b9
      rw [h.eo hs, obd_s, SF_s]
      show (if nI (SF N p m s + (sg N p m s).length) ≤ nI (SF N p m s + i) then _ else obd (F_X9_size d23 (nI (SF N p m s + i))) _) = _
      rw [if_neg (nI_ge (by omega) (by omega)), h.sz hR hs hk, obd_s]
      simp only [lt_eq, zl_1, nI_add]
      rw [← sA_s hk]
      by_cases q : d ≤ sA N p m s (i + 1)
      · rw [if_neg (nI_nlt q (by omega)), if_pos q]
      · rw [if_pos (nI_lt (by omega) (by omega)), if_neg q]; rfl
    refine lpq_run g (fun i => (nI (sA N p m s i), nI (SF N p m s + i))) (fun i hi => ?_) ?_ (by omega)
    · rw [st i (by omega), if_neg (h2 i hi)]
    · rw [st g hg, if_pos h1]
  rw [sA_0, Nat.add_zero] at key
  rw [show (0 : Int32) = nI 0 from rfl, key]; rfl
theorem MS.s0 (hR : RW N p c m) (h : MS N p m d17 d18 d19 d20 d21 d22 d23 d24 d25 d26 d27) {n : Nat} (hn : 1000 ≤ n) {s d : Nat} (hs : s < 4) (h0 : (sg N p m s).length = 0) : F_X9_segmentAt n d18 d23 (nI s) (nI d) = some (-1) := by
  have hSF := SF_32 hR (s := s) (by omega)
  unfold F_X9_segmentAt F_X9_segmentAt_j9
  rw [h.fo (by omega), obd_s]
  have key : lpq (F_X9_segmentAt_b9 d18 d23 (nI s) (nI d)) n (0, nI (SF N p m s)) = some (.inr ()) := by
    refine lpq_run 0 (fun _ => (0, nI (SF N p m s))) (fun i hi => absurd hi (by omega)) ?_ (by omega)
    unfold F_X9_segmentAt_b9
    rw [h.eo hs, obd_s, SF_s, h0]
    exact if_pos (nI_le (by omega) (by omega))
  rw [key]; rfl
theorem HoR.fi (hR : RW N p c m) {s : Nat} {ax ay bx bz sl sa : Nat → Int32} (h : HoR m s (p s) (sg N p m s) ax ay bx bz sl sa) {n : Nat} (hn : 1000 ≤ n) {g d : Nat} (hd : d ≤ sW N p m s) (hg : g < (sg N p m s).length) (h1 : d ≤ sA N p m s (g + 1)) (h2 : ∀ j, j < g → ¬ d ≤ sA N p m s (j + 1)) : lpq (F_X12_pointAt_b73 sl sa (nI d)) n 0 = some (nI g) := by
  have h8 := sg_len hR s
  have hW := sW_le hR s
  have st : ∀ i, i < (sg N p m s).length → F_X12_pointAt_b73 sl sa (nI d) (nI i) = if d ≤ sA N p m s (i + 1) then some (.inr (nI i)) else some (.inl (nI (i + 1))) := fun i hi => by
    obtain ⟨k, hk⟩ := hx_at hi
    have ha := h i k hk
    have hw := sA_w (N := N) (p := p) (m := m) (s := s) (g := i + 1) (by omega)
    unfold F_X12_pointAt_b73
    rw [gd_in (by omega) (by decide), gd_in (by omega) (by decide), nI_clamp (by omega), ha.2.2.2.2.1, ha.2.2.2.2.2, nI_add, lt_eq, zl_1, nI_add]
    show (if nI d ≤ nI (sA N p m s i + sgl m s (p s) k) then _ else _) = _
    rw [← sA_s hk]
    by_cases q : d ≤ sA N p m s (i + 1)
    · rw [if_pos (nI_le q (by omega)), if_pos q]
    · rw [if_neg (nI_ge (by omega) (by omega)), if_neg q]
  refine lpq_run g (fun i => nI i) (fun i hi => ?_) ?_ (by omega)
  · rw [st i (by omega), if_neg (h2 i hi)]
  · rw [st g hg, if_pos h1]
end SGA
set_option maxHeartbeats 4000000 in
theorem ag_pointAt {WW : TW} {PP : TP} : Ag_pointAt (Inv (CAg WW PP)) := by
  unfold Ag_pointAt
  intro d0 d1 d2 d3 d4 d5 d6 d7 d8 d9 d10 d11 d12 d13 d14 d15 d16 d17 d18 d19 d20 d21 d22 d23 d24 d25 d26 d27 d28 d29 d30 d31 d32 d33 d34 d35 d36 d37 d38 d39 d40 d41 d42 d43 d44 d45 d46 d47 d48 d49 d50 m0 m1 m2 m3 m4 m5 m6 m7 m8 m9 m10 m11 m12 m13 m14 m15 m16 m17 m18 m19 m20 m21 m22 m23 m24 m25 m26 m27 m28 m29 m30 p1 p2 p3 hI
  obtain ⟨N, p, hR, hH, hT, hC⟩ := Inv_un hI
  have hN4 := hR.1
  have c13 := hR.c13
  have m13 := hR.m13
  intro hb
  by_cases h1 : 0 ≤ p1 ∧ p1 < nI N
  · obtain ⟨s, hs, rfl⟩ := ix_of (by omega) h1
    obtain ⟨e12, e17, e18, e19, e20, e21, e22, e23, e24, e25, e26, e27, k1, k2, k3⟩ := measd hR hC (n := 200000) (by omega)
    obtain ⟨b17, b18, b19, b20, b21, b22, k4, k5⟩ := tell_m (n := 200000) (by omega) hR.red (red_E m14) hs (show 3 < 4 by omega) m17 m18 m19 m20 m21 m22
    have hlo := k2.lo hR.red (n := 200000) (by omega) (show s < 4 by omega)
    have hW := sW_le hR.red s
    have k4' : F_X12_tellSubpath 200000 m14 m17 m18 m19 m20 m21 m22 (nI s) 3 = some (nI (sW N p (red m14) s), nI (sg N p (red m14) s).length, nI (sW N p (red m14) s), b17, b18, b19, b20, b21, b22) := k4
    by_cases h2 : 0 ≤ p2 ∧ p2 ≤ nI (sW N p (red m14) s)
    · have hck : F_X11_checkRange p2 0 (nI (sW N p (red m14) s)) = some (.inl ()) := ck_in h2
      have hwi : F_X12_within p2 0 (nI (sW N p (red m14) s)) = 1 := wi_in h2
      obtain ⟨d, hd, rfl⟩ := ix_le (by omega) h2
      by_cases h0 : 0 < (sg N p (red m14) s).length
      · obtain ⟨g, g1, g2, g3, g4⟩ := sg_find h0 hd
        obtain ⟨k, hk⟩ := hx_at g1
        have h8 := sg_len hR.red s
        have hSF := SF_g hR.red (show s < 4 by omega) hk
        have hsl : d - sA N p (red m14) s g ≤ 18101 := by
          have := sA_s hk
          have := sgl_le (hR.red.sp hs) (sg_at hk).1
          omega
        have eC : F_X11_pointAt 200000 d0 d12 d17 d18 d19 d20 d21 d22 d23 d24 d25 d26 d27 (nI s) (nI d) p3 = some (.inl (if p3 = 0 then aX (red m14) s (p s) k (d - sA N p (red m14) s g) else aY (red m14) s (p s) k (d - sA N p (red m14) s g), e12, e17, e18, e19, e20, e21, e22, e23, e24, e25, e26, e27)) := by
          unfold F_X11_pointAt
          rw [X1_count, obd_s, c13, ci_in hs (by omega), obx_l, k1, obd_s, hlo, obd_s, hck, obx_l, k2.sa hR.red (by omega) (by omega) hd g1 g2 g4, obd_s, if_neg (show ¬ nI (SF N p (red m14) s + g) = -1 from fun e => absurd ((fa_eq _ _).mp e) (by rw [nI_toInt (by omega), show (-1 : Int32).toInt = -1 from by decide]; omega)), k2.so hR.red (by omega) (by omega) (by omega), obd_s, pk_sub g3, lt_eq, k2.xa hR.red (by omega) hk hsl, k2.ya hR.red (by omega) hk hsl, obd_s, obd_s]
          by_cases q : p3 = 0
          · rw [if_pos q, if_pos q]
          · rw [if_neg q, if_neg q]
        have eM : F_X12_pointAt 200000 m3 m4 m14 m17 m18 m19 m20 m21 m22 (nI s) (nI d) p3 = some (if p3 = 0 then aX (red m14) s (p s) k (d - sA N p (red m14) s g) else aY (red m14) s (p s) k (d - sA N p (red m14) s g), 0, nI (sg N p (red m14) s).length, nI (sW N p (red m14) s), b17, b18, b19, b20, b21, b22) := by
          unfold F_X12_pointAt F_X12_pointAt_j32 F_X12_pointAt_j73 F_X12_pointAt_j98
          rw [is_in m13 hs hN4, obd_s, if_neg (by decide), k4', obd_s, hwi, lt_eq, if_neg (by decide), rf_0, lt_eq, if_pos rfl, if_neg (show ¬ nI (sg N p (red m14) s).length = 0 from nI_ne0 h0 (by omega)), k5.fi hR.red (by omega) hd g1 g2 g4, obd_s, gd_in (by omega) (by decide), gd_in (by omega) (by decide), nI_clamp (by omega)]
          show (if p3 = 0 then obd (F_X12_alongX b17 b19 b21 (nI g) (nI d - b22 g)) _ else obd (F_X12_alongY b18 b20 b21 (nI g) (nI d - b22 g)) _) = _
          rw [show b22 g = nI (sA N p (red m14) s g) from (k5 g k hk).2.2.2.2.2, pk_sub g3, k5.xa hR.red hk hsl, k5.ya hR.red hk hsl, obd_s, obd_s]
          by_cases q : p3 = 0
          · rw [if_pos q, if_pos q]
          · rw [if_neg q, if_neg q]
        exact Or.inl ⟨_, _, _, _, eC, eM, rfl, rfl, Inv_mk hR hH hT k3⟩
      · have h0' : (sg N p (red m14) s).length = 0 := by omega
        have g := hR.red.sp hs
        have x := g.xy (k := 0) (by have := g.1; omega)
        have eC : F_X11_pointAt 200000 d0 d12 d17 d18 d19 d20 d21 d22 d23 d24 d25 d26 d27 (nI s) (nI d) p3 = some (.inl (if p3 = 0 then 64 * red m14 (16 + 18 * s + 2 * 0) else 64 * red m14 (17 + 18 * s + 2 * 0), e12, e17, e18, e19, e20, e21, e22, e23, e24, e25, e26, e27)) := by
          unfold F_X11_pointAt F_X11_pointAt_j77
          rw [X1_count, obd_s, c13, ci_in hs (by omega), obx_l, k1, obd_s, hlo, obd_s, hck, obx_l, k2.s0 hR.red (by omega) (by omega) h0', obd_s, if_pos rfl, zl_0, X1_x (by omega) (by omega), X1_y (by omega) (by omega), obd_s, obd_s, x.1, x.2.1]
          by_cases q : p3 = nI 0
          · rw [if_pos q, if_pos q]
          · rw [if_neg q, if_neg q]
        have eM : F_X12_pointAt 200000 m3 m4 m14 m17 m18 m19 m20 m21 m22 (nI s) (nI d) p3 = some (if p3 = 0 then 64 * red m14 (16 + 18 * s + 2 * 0) else 64 * red m14 (17 + 18 * s + 2 * 0), 0, nI (sg N p (red m14) s).length, nI (sW N p (red m14) s), b17, b18, b19, b20, b21, b22) := by
          unfold F_X12_pointAt F_X12_pointAt_j32 F_X12_pointAt_j68
          rw [is_in m13 hs hN4, obd_s, if_neg (by decide), k4', obd_s, hwi, lt_eq, if_neg (by decide), rf_0, lt_eq, if_pos rfl, h0', if_pos (show nI 0 = 0 from rfl), zl_0, m_x' (red_E m14) (by omega) (by omega), m_y' (red_E m14) (by omega) (by omega), obd_s, obd_s]
          by_cases q : p3 = nI 0
          · rw [if_pos q, if_pos q]
          · rw [if_neg q, if_neg q]
        exact Or.inl ⟨_, _, _, _, eC, eM, rfl, rfl, Inv_mk hR hH hT k3⟩
    · refine Or.inr (Or.inr ⟨200000, 200000, (1, e12, e17, e18, e19, e20, e21, e22, e23, e24, e25, e26, e27), (0, 2, nI (sg N p (red m14) s).length, nI (sW N p (red m14) s), b17, b18, b19, b20, b21, b22), ?_, rfl, ?_, rfl, Inv_mk hR hH hT k3⟩)
      · unfold F_X11_pointAt
        rw [X1_count, obd_s, c13, ci_in hs (by omega), obx_l, k1, obd_s, hlo, obd_s, ck_out h2, obx_r]
      · unfold F_X12_pointAt F_X12_pointAt_j32
        rw [is_in m13 hs hN4, obd_s, if_neg (by decide), k4', obd_s, show F_X12_within p2 0 (nI (sW N p (red m14) s), nI (sg N p (red m14) s).length, nI (sW N p (red m14) s), b17, b18, b19, b20, b21, b22).1 = 0 from wi_out h2, lt_eq, if_pos rfl, rf_2, lt_eq, if_neg (by decide)]
  · refine Or.inr (Or.inl ⟨0, 0, (3, d12, d17, d18, d19, d20, d21, d22, d23, d24, d25, d26, d27), (0, 1, m3, m4, m17, m18, m19, m20, m21, m22), ?_, rfl, ?_, rfl, Inv_mk hR hH hT hC⟩)
    · unfold F_X11_pointAt
      rw [X1_count, obd_s, c13, ci_out h1, obx_r]
    · unfold F_X12_pointAt F_X12_pointAt_j32
      rw [is_out m13 hN4 h1, obd_s, if_pos rfl, rf_1, lt_eq, if_neg (by decide)]
