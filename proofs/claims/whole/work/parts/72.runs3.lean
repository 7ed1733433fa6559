/-! ===== runs, run, dashed ===== -/
section RUN
variable {N : Nat} {p : Nat → Nat} {c m : Nat → Int32} {d28 d29 : Int32} {d30 d31 d32 d33 d34 d35 d36 d37 d38 : Nat → Int32}
theorem flR_pre (s : Nat) : ∀ (j i : Nat) (q : BR), (flR N p m s)[i]? = some q → (flR N p m (s + j))[i]? = some q := by
  intro j
  induction j with
  | zero => intro i q h; exact h
  | succ j ih =>
    intro i q h
    have h2 := ih i q h
    rw [show s + (j + 1) = s + j + 1 from rfl, flR, List.getElem?_append_left (hx_lt h2)]; exact h2
theorem flR_at {s t i : Nat} {r : Run} (hst : s < t) (h : (fin N p m s)[i]? = some r) : (flR N p m t)[RF N p m s + i]? = some (SF N p m s, r) := by
  have e : (flR N p m (s + 1))[RF N p m s + i]? = some (SF N p m s, r) := by
    rw [flR, List.getElem?_append_right (by unfold RF; omega), show RF N p m s + i - (flR N p m s).length = i from by unfold RF; omega]
    unfold bse
    rw [List.getElem?_map, h]; rfl
  have := flR_pre (s + 1) (t - (s + 1)) _ _ e
  rwa [show s + 1 + (t - (s + 1)) = t from by omega] at this
theorem RF_mono (s : Nat) : ∀ j, RF N p m s ≤ RF N p m (s + j) := by
  intro j
  induction j with
  | zero => exact Nat.le_refl _
  | succ j ih => rw [show s + (j + 1) = s + j + 1 from rfl, RF_s]; omega
theorem RF_i (hR : RW N p c m) {s i : Nat} {r : Run} (hs : s < 4) (h : (fin N p m s)[i]? = some r) : RF N p m s + i < RF N p m 4 ∧ RF N p m 4 ≤ 908 := by
  have h1 := hx_lt h
  have h2 := RF_s N p m s
  have h3 := RF_mono (N := N) (p := p) (m := m) (s + 1) (4 - (s + 1))
  rw [show s + 1 + (4 - (s + 1)) = 4 from by omega] at h3
  have h4 := RF_le hR 4
  omega
theorem WS.fo (hR : RW N p c m) (h : WS N p m d28 d29 d30 d31 d32 d33 d34 d35 d36 d37 d38) {s : Nat} (hs : s ≤ 4) : F_X8_firstOf d30 (nI s) = some (nI (RF N p m s)) := by
  unfold F_X8_firstOf; rw [at_in (by omega) (by decide), obd_s, h.2.1 s hs]
theorem WS.co (hR : RW N p c m) (h : WS N p m d28 d29 d30 d31 d32 d33 d34 d35 d36 d37 d38) {s : Nat} (hs : s < 4) : F_X8_countOf d30 (nI s) = some (nI (fin N p m s).length) := by
  unfold F_X8_countOf
  rw [zl_1, nI_add, at_in (by omega) (by decide), obd_s, h.fo hR (by omega), obd_s, h.2.1 (s + 1) (by omega), RF_s, pk_sub (by omega)]
  congr 2; omega
theorem WS.at (h : WS N p m d28 d29 d30 d31 d32 d33 d34 d35 d36 d37 d38) {s i : Nat} {r : Run} (hs : s < 4) (hr : (fin N p m s)[i]? = some r) : ∃ sp, sp ≤ 1024 ∧ RH (SF N p m s) d31 d32 d33 d34 d35 d36 d37 d38 sp (RF N p m s + i) r := by
  obtain ⟨sp, h1, _, h2⟩ := h.2.2
  exact ⟨sp, h1, h2 _ _ (flR_at hs hr)⟩
theorem WS.ab (hR : RW N p c m) (h : WS N p m d28 d29 d30 d31 d32 d33 d34 d35 d36 d37 d38) {s i w : Nat} {r : Run} (hs : s < 4) (hr : (fin N p m s)[i]? = some r) (hw : w < 4) : F_X8_about d31 d32 d33 d35 (nI (RF N p m s + i)) (nI w) = some (nI (rvl r w)) := by
  obtain ⟨sp, h1, h2⟩ := h.at hs hr
  have h3 := RF_i hR hs hr
  unfold F_X8_about F_X8_spansOf
  have hw4 : w = 0 ∨ w = 1 ∨ w = 2 ∨ w = 3 := by omega
  rcases hw4 with rfl | rfl | rfl | rfl
  · rw [if_pos (show nI 0 = 0 from rfl), at_in (by omega) (by decide), obd_s, h2.1]; rfl
  · rw [if_neg (by decide), if_pos (show nI 1 = 1 from rfl), at_in (by omega) (by decide), obd_s, h2.2.1]; rfl
  · rw [if_neg (by decide), if_neg (by decide), if_pos (show nI 2 = 2 from rfl), at_in (by omega) (by decide), obd_s, obd_s, h2.2.2.2.1]; rfl
  · rw [if_neg (by decide), if_neg (by decide), if_neg (by decide), at_in (by omega) (by decide), obd_s, h2.2.2.1]; rfl
end RUN
theorem wx_in {L k : Nat} (hL : L < 100000) (h : k < L) : F_X12_within (nI k) 0 (nI L - 1) = 1 := by
  rw [zl_1, pk_sub (by omega)]
  exact wi_in ⟨nI_pos' (by omega), nI_le (by omega) (by omega)⟩
theorem wx_out {p2 : Int32} {L : Nat} (hL : L < 100000) (h : ¬ (0 ≤ p2 ∧ p2 < nI L)) : F_X12_within p2 0 (nI L - 1) = 0 := by
  refine wi_out ?_
  rintro ⟨a, b⟩
  refine h ⟨a, ?_⟩
  rw [fa_le] at b
  rw [fa_lt, nI_toInt (by omega)]
  have e : (nI L - 1).toInt = (L : Int) - 1 := by
    rw [zl_1, pk_sub_toInt (by omega) (by omega)]; rfl
  omega
set_option maxHeartbeats 4000000 in
theorem ag_runs {PP : TP} : Ag_runs (Inv (CAg WS PP)) := by
  unfold Ag_runs
  intro d0 d1 d2 d3 d4 d5 d6 d7 d8 d9 d10 d11 d12 d13 d14 d15 d16 d17 d18 d19 d20 d21 d22 d23 d24 d25 d26 d27 d28 d29 d30 d31 d32 d33 d34 d35 d36 d37 d38 d39 d40 d41 d42 d43 d44 d45 d46 d47 d48 d49 d50 m0 m1 m2 m3 m4 m5 m6 m7 m8 m9 m10 m11 m12 m13 m14 m15 m16 m17 m18 m19 m20 m21 m22 m23 m24 m25 m26 m27 m28 m29 m30 p1 hI
  obtain ⟨N, p, hR, hH, hT, hC⟩ := Inv_un hI
  have hN4 := hR.1
  have c13 := hR.c13
  have m13 := hR.m13
  by_cases h1 : 0 ≤ p1 ∧ p1 < nI N
  · obtain ⟨s, hs, rfl⟩ := ix_of (by omega) h1
    obtain ⟨e12, e28, e29, e30, e31, e32, e33, e34, e35, e36, e37, e38, e39, e40, e41, e42, e43, e17, e18, e19, e20, e21, e22, e23, e24, e25, e26, e27, k1, k2, k3, k4⟩ := walkd hR hC (n := 200000) (by omega)
    obtain ⟨f, b17, b18, b19, b20, b21, b22, r23, r24, k5, k6, k7, k8⟩ := lr_m (n := 200000) (by omega) hR.red (red_E m14) hs m3 m4 m17 m18 m19 m20 m21 m22 m23 m24
    refine Or.inl ⟨200000, 200000, (nI (fin N p (red m14) s).length, e12, e28, e29, e30, e31, e32, e33, e34, e35, e36, e37, e38, e39, e40, e41, e42, e43, e17, e18, e19, e20, e21, e22, e23, e24, e25, e26, e27), (nI (fin N p (red m14) s).length, 0, nI (sg N p (red m14) s).length, nI (sW N p (red m14) s), nI (fin N p (red m14) s).length, nI f, b17, b18, b19, b20, b21, b22, r23, r24), ?_, ?_, rfl, rfl, Inv_mk hR hH hT k4⟩
    · unfold F_X11_runs
      rw [X1_count, obd_s, c13, ci_in hs (by omega), obx_l, k1, obd_s, k3.co hR.red (by omega), obd_s]
    · unfold F_X12_runs F_X12_runs_j14
      rw [is_in m13 hs hN4, obd_s, if_neg (by decide), rf_0, lt_eq, if_pos rfl, k5, obd_s]
  · refine Or.inr ⟨0, 0, (3, d12, d28, d29, d30, d31, d32, d33, d34, d35, d36, d37, d38, d39, d40, d41, d42, d43, d17, d18, d19, d20, d21, d22, d23, d24, d25, d26, d27), (0, 1, m3, m4, m5, m6, m17, m18, m19, m20, m21, m22, m23, m24), ?_, rfl, ?_, rfl, Inv_mk hR hH hT hC⟩
    · unfold F_X11_runs
      rw [X1_count, obd_s, c13, ci_out h1, obx_r]
    · unfold F_X12_runs F_X12_runs_j14
      rw [is_out m13 hN4 h1, obd_s, if_pos rfl, rf_1, lt_eq, if_neg (by decide)]
set_option maxHeartbeats 4000000 in
theorem ag_run {PP : TP} : Ag_run (Inv (CAg WS PP)) := by
  unfold Ag_run
  intro d0 d1 d2 d3 d4 d5 d6 d7 d8 d9 d10 d11 d12 d13 d14 d15 d16 d17 d18 d19 d20 d21 d22 d23 d24 d25 d26 d27 d28 d29 d30 d31 d32 d33 d34 d35 d36 d37 d38 d39 d40 d41 d42 d43 d44 d45 d46 d47 d48 d49 d50 m0 m1 m2 m3 m4 m5 m6 m7 m8 m9 m10 m11 m12 m13 m14 m15 m16 m17 m18 m19 m20 m21 m22 m23 m24 m25 m26 m27 m28 m29 m30 p1 p2 p3 hI
  obtain ⟨N, p, hR, hH, hT, hC⟩ := Inv_un hI
  have hN4 := hR.1
  have c13 := hR.c13
  have m13 := hR.m13
  by_cases h1 : 0 ≤ p1 ∧ p1 < nI N
  · obtain ⟨s, hs, rfl⟩ := ix_of (by omega) h1
    obtain ⟨e12, e28, e29, e30, e31, e32, e33, e34, e35, e36, e37, e38, e39, e40, e41, e42, e43, e17, e18, e19, e20, e21, e22, e23, e24, e25, e26, e27, k1, k2, k3, k4⟩ := walkd hR hC (n := 200000) (by omega)
    obtain ⟨f, b17, b18, b19, b20, b21, b22, r23, r24, k5, k6, k7, k8⟩ := lr_m (n := 200000) (by omega) hR.red (red_E m14) hs m3 m4 m17 m18 m19 m20 m21 m22 m23 m24
    have hfl := fin_len hR.red s
    by_cases h2 : 0 ≤ p2 ∧ p2 < nI (fin N p (red m14) s).length
    · obtain ⟨i, hi, rfl⟩ := ix_of (by omega) h2
      obtain ⟨r, hr⟩ := hx_at hi
      by_cases h3 : 0 ≤ p3 ∧ p3 ≤ 3
      · have hck : F_X11_checkRange p3 0 3 = some (.inl ()) := ck_in h3
        have hwi : F_X12_within p3 0 3 = 1 := wi_in h3
        obtain ⟨w, hw, rfl⟩ := ix_le (N := 3) (by omega) h3
        obtain ⟨y21, co, cf, ct, k9⟩ := tr_m (n := 200000) (by omega) hR.red k6 k7 k8 hr (show w < 4 by omega) m7 m25 m26 m27
        refine Or.inl ⟨200000, 200000, (nI (rvl r w), e12, e28, e29, e30, e31, e32, e33, e34, e35, e36, e37, e38, e39, e40, e41, e42, e43, e17, e18, e19, e20, e21, e22, e23, e24, e25, e26, e27), (nI (rvl r w), 0, nI (sg N p (red m14) s).length, nI (sW N p (red m14) s), nI (fin N p (red m14) s).length, nI f, y21, b17, b18, b19, b20, b21, b22, r23, r24, co, cf, ct), ?_, ?_, rfl, rfl, Inv_mk hR hH hT k4⟩
        · unfold F_X11_run
          rw [X1_count, obd_s, c13, ci_in hs (by omega), obx_l, k1, obd_s, k3.co hR.red (by omega), obd_s, ci_in hi (by omega), obx_l, hck, obx_l, k3.fo hR.red (by omega), obd_s, nI_add, k3.ab hR.red (by omega) hr (by omega), obd_s]
        · unfold F_X12_run F_X12_run_j13 F_X12_run_j54
          rw [is_in m13 hs hN4, obd_s, if_neg (by decide), k5, obd_s, obd_s, if_neg (by decide), wx_in (by omega) hi, lt_eq, if_neg (by decide), hwi, lt_eq, if_neg (by decide), rf_0, lt_eq, if_pos rfl, k9, obd_s]
      · refine Or.inr (Or.inr ⟨200000, 200000, (1, e12, e28, e29, e30, e31, e32, e33, e34, e35, e36, e37, e38, e39, e40, e41, e42, e43, e17, e18, e19, e20, e21, e22, e23, e24, e25, e26, e27), (0, 2, nI (sg N p (red m14) s).length, nI (sW N p (red m14) s), nI (fin N p (red m14) s).length, nI f, m7, b17, b18, b19, b20, b21, b22, r23, r24, m25, m26, m27), ?_, rfl, ?_, rfl, Inv_mk hR hH hT k4⟩)
        · unfold F_X11_run
          rw [X1_count, obd_s, c13, ci_in hs (by omega), obx_l, k1, obd_s, k3.co hR.red (by omega), obd_s, ci_in hi (by omega), obx_l, ck_out h3, obx_r]
        · unfold F_X12_run F_X12_run_j13 F_X12_run_j54
          rw [is_in m13 hs hN4, obd_s, if_neg (by decide), k5, obd_s, obd_s, if_neg (by decide), wx_in (by omega) hi, lt_eq, if_neg (by decide), wi_out h3, lt_eq, if_pos rfl, rf_2, lt_eq, if_neg (by decide)]
    · refine Or.inr (Or.inl ⟨200000, 200000, (3, e12, e28, e29, e30, e31, e32, e33, e34, e35, e36, e37, e38, e39, e40, e41, e42, e43, e17, e18, e19, e20, e21, e22, e23, e24, e25, e26, e27), (0, 1, nI (sg N p (red m14) s).length, nI (sW N p (red m14) s), nI (fin N p (red m14) s).length, nI f, m7, b17, b18, b19, b20, b21, b22, r23, r24, m25, m26, m27), ?_, rfl, ?_, rfl, Inv_mk hR hH hT k4⟩)
      · unfold F_X11_run
        rw [X1_count, obd_s, c13, ci_in hs (by omega), obx_l, k1, obd_s, k3.co hR.red (by omega), obd_s, ci_out h2, obx_r]
      · unfold F_X12_run F_X12_run_j13 F_X12_run_j36 F_X12_run_j54
        rw [is_in m13 hs hN4, obd_s, if_neg (by decide), k5, obd_s, obd_s, if_neg (by decide), wx_out (by omega) h2, lt_eq, if_pos rfl, rf_1, lt_eq, if_neg (by decide)]
  · refine Or.inr (Or.inl ⟨0, 0, (3, d12, d28, d29, d30, d31, d32, d33, d34, d35, d36, d37, d38, d39, d40, d41, d42, d43, d17, d18, d19, d20, d21, d22, d23, d24, d25, d26, d27), (0, 1, m3, m4, m5, m6, m7, m17, m18, m19, m20, m21, m22, m23, m24, m25, m26, m27), ?_, rfl, ?_, rfl, Inv_mk hR hH hT hC⟩)
    · unfold F_X11_run
      rw [X1_count, obd_s, c13, ci_out h1, obx_r]
    · unfold F_X12_run F_X12_run_j13 F_X12_run_j36 F_X12_run_j54
      rw [is_out m13 hN4 h1, obd_s, if_pos rfl, obd_s, if_pos rfl, rf_1, lt_eq, if_neg (by decide)]
/-! dashed -/
def sumf {α : Type} (f : α → Nat) (L : List α) : Nat := (L.map f).sum
theorem sumf_ap {α : Type} (f : α → Nat) (L M : List α) : sumf f (L ++ M) = sumf f L + sumf f M := by
  unfold sumf; rw [List.map_append, List.sum_append]
theorem sumf_1 {α : Type} (f : α → Nat) (L : List α) (a : α) : sumf f (L ++ [a]) = sumf f L + f a := by
  rw [sumf_ap]; unfold sumf; simp
theorem sumf_t {α : Type} {f : α → Nat} {L : List α} {k : Nat} {a : α} (h : L[k]? = some a) : sumf f (L.take (k + 1)) = sumf f (L.take k) + f a := by
  rw [take_s h, sumf_1]
def rl1 (r : Run) : Nat := r.2.1
def rl2 (q : BR) : Nat := q.2.2.1
def sl2 (p : Nat → Nat) (m : Nat → Int32) (q : Nat × Nat) : Nat := sgl m q.1 (p q.1) q.2
section DSH
variable {N : Nat} {p : Nat → Nat} {c m : Nat → Int32}
theorem rs_s (s : Nat) : sumf rl2 (flR N p m (s + 1)) = sumf rl2 (flR N p m s) + sumf rl1 (fin N p m s) := by
  rw [flR, sumf_ap]
  unfold bse sumf
  rw [List.map_map]; rfl
theorem ss_s (s : Nat) : sumf (sl2 p m) (flS N p m (s + 1)) = sumf (sl2 p m) (flS N p m s) + sW N p m s := by
  rw [flS, sumf_ap]
  unfold sumf sW sA sgS
  rw [List.map_map, List.take_length]; rfl
theorem rs_out (hR : RW N p c m) : ∀ k, sumf rl2 (flR N p m (N + k)) = sumf rl2 (flR N p m N) := by
  intro k
  induction k with
  | zero => rfl
  | succ k ih =>
    rw [show N + (k + 1) = N + k + 1 from rfl, rs_s, ih, fin_open hR (fun h => absurd h.1 (by omega)), rawR_out hR (by omega)]; rfl
theorem ss_out : ∀ k, sumf (sl2 p m) (flS N p m (N + k)) = sumf (sl2 p m) (flS N p m N) := by
  intro k
  induction k with
  | zero => rfl
  | succ k ih =>
    have e3 : sg N p m (N + k) = [] := if_neg (by omega)
    rw [show N + (k + 1) = N + k + 1 from rfl, ss_s, ih]
    unfold sW sA; rw [e3]; rfl
theorem WS.tl (hR : RW N p c m) {d28 d29 : Int32} {d30 d31 d32 d33 d34 d35 d36 d37 d38 : Nat → Int32} (h : WS N p m d28 d29 d30 d31 d32 d33 d34 d35 d36 d37 d38) {n : Nat} (hn : 10000 ≤ n) : F_X8_totalLength n d28 d32 = some (nI (sumf rl2 (flR N p m N))) := by
  have hN4 := hR.1
  have h4 := RF_le hR 4
  obtain ⟨sp, _, _, hW⟩ := h.2.2
  have key : lpq (F_X8_totalLength_b4 d28 d32) n (nI (sumf rl2 ((flR N p m 4).take 0)), nI 0) = some (nI (sumf rl2 (flR N p m 4))) := by
    refine lpq_run (RF N p m 4) (fun i => (nI (sumf rl2 ((flR N p m 4).take i)), nI i)) (fun i hi => ?_) ?_ (by omega)
    · obtain ⟨q, hq⟩ := hx_at (show i < (flR N p m 4).length from hi)
      unfold F_X8_totalLength_b4
      rw [h.1]
      show (if nI (RF N p m 4) ≤ nI i then _ else obd (F_X4_at 928 d32 (nI i)) _) = _
      rw [if_neg (nI_ge hi (by omega)), at_in (by omega) (by decide), obd_s, (hW i q hq).2.1]
      simp only [lt_eq, zl_1, nI_add]
      rw [sumf_t hq]; rfl
    · unfold F_X8_totalLength_b4
      rw [h.1]
      rw [show (nI (sumf rl2 ((flR N p m 4).take (RF N p m 4))), nI (RF N p m 4)).2 = nI (RF N p m 4) from rfl, if_pos (nI_le (Nat.le_refl _) (by omega))]
      have e : (flR N p m 4).take (RF N p m 4) = flR N p m 4 := List.take_length
      rw [e]
  have e4 := rs_out hR (4 - N)
  rw [show N + (4 - N) = 4 from by omega] at e4
  unfold F_X8_totalLength F_X8_totalLength_j4 F_X8_totalLength_j29
  have key' : lpq (F_X8_totalLength_b4 d28 d32) n (0, 0) = some (nI (sumf rl2 (flR N p m 4))) := key
  rw [key', obd_s, e4]
theorem MS.tl (hR : RW N p c m) {d17 : Int32} {d18 d19 d20 d21 d22 d23 d24 d25 d26 d27 : Nat → Int32} (h : MS N p m d17 d18 d19 d20 d21 d22 d23 d24 d25 d26 d27) {n : Nat} (hn : 10000 ≤ n) : F_X9_totalLength n d17 d23 = some (nI (sumf (sl2 p m) (flS N p m N))) := by
  have hN4 := hR.1
  have h4 := SF_32 hR (s := 4) (by omega)
  have key : lpq (F_X9_totalLength_b4 d17 d23) n (nI (sumf (sl2 p m) ((flS N p m 4).take 0)), nI 0) = some (nI (sumf (sl2 p m) (flS N p m 4))) := by
    refine lpq_run (SF N p m 4) (fun i => (nI (sumf (sl2 p m) ((flS N p m 4).take i)), nI i)) (fun i hi => ?_) ?_ (by omega)
    · obtain ⟨q, hq⟩ := hx_at (show i < (flS N p m 4).length from hi)
      unfold F_X9_totalLength_b4 F_X9_size
      rw [h.1]
      show (if nI (SF N p m 4) ≤ nI i then _ else obd (obd (F_X4_at 32 d23 (nI i)) _) _) = _
      rw [if_neg (nI_ge hi (by omega)), at_in (by omega) (by decide), obd_s, obd_s, (h.2.2 i q hq).2.2.2.2.1]
      simp only [lt_eq, zl_1, nI_add]
      rw [sumf_t hq]; rfl
    · unfold F_X9_totalLength_b4
      rw [h.1]
      rw [show (nI (sumf (sl2 p m) ((flS N p m 4).take (SF N p m 4))), nI (SF N p m 4)).2 = nI (SF N p m 4) from rfl, if_pos (nI_le (Nat.le_refl _) (by omega))]
      have e : (flS N p m 4).take (SF N p m 4) = flS N p m 4 := List.take_length
      rw [e]
  have e4 := ss_out (N := N) (p := p) (m := m) (4 - N)
  rw [show N + (4 - N) = 4 from by omega] at e4
  unfold F_X9_totalLength F_X9_totalLength_j4 F_X9_totalLength_j26
  have key' : lpq (F_X9_totalLength_b4 d17 d23) n (0, 0) = some (nI (sumf (sl2 p m) (flS N p m 4))) := key
  rw [key', obd_s, e4]
theorem das_m {n : Nat} (hn : 200000 ≤ n) {m' : Nat → Int32} (hR : RW N p c m) (hm : E86 m' m) (x3 x4 x5 x6 : Int32) (a17 a18 a19 a20 a21 a22 a23 a24 : Nat → Int32) :
    ∃ y3 y4 y5 y6 b17 b18 b19 b20 b21 b22 r23 r24, lpq (F_X12_dashed_b12 n m') n (0, 0, 0, x3, x4, x5, x6, a17, a18, a19, a20, a21, a22, a23, a24) = some (nI (sumf rl2 (flR N p m N)), nI (sumf (sl2 p m) (flS N p m N)), y3, y4, y5, y6, b17, b18, b19, b20, b21, b22, r23, r24) := by
  have hN4 := hR.1
  have key : ∃ w, lpq (F_X12_dashed_b12 n m') n (0, 0, 0, x3, x4, x5, x6, a17, a18, a19, a20, a21, a22, a23, a24) = some w ∧ ∃ y3 y4 y5 y6 b17 b18 b19 b20 b21 b22 r23 r24, w = (nI (sumf rl2 (flR N p m N)), nI (sumf (sl2 p m) (flS N p m N)), y3, y4, y5, y6, b17, b18, b19, b20, b21, b22, r23, r24) := by
    refine lpq_i0 (fun s x => ∃ y3 y4 y5 y6 b17 b18 b19 b20 b21 b22 r23 r24, x = (nI (sumf rl2 (flR N p m s)), nI (sumf (sl2 p m) (flS N p m s)), nI s, y3, y4, y5, y6, b17, b18, b19, b20, b21, b22, r23, r24)) _ N ?_ (by omega) ⟨x3, x4, x5, x6, a17, a18, a19, a20, a21, a22, a23, a24, rfl⟩
    rintro s x hs ⟨y3, y4, y5, y6, b17, b18, b19, b20, b21, b22, r23, r24, rfl⟩
    unfold F_X12_dashed_b12
    rw [gd_13, cl_13, hm 13 (by decide), hR.m13]
    by_cases q : s = N
    · left
      subst q
      exact ⟨_, if_pos (nI_le (Nat.le_refl _) (by omega)), _, _, _, _, _, _, _, _, _, _, _, _, rfl⟩
    · right
      refine ⟨by omega, ?_⟩
      obtain ⟨f, c17, c18, c19, c20, c21, c22, s23, s24, k1, k2, k3, k4⟩ := lr_m hn hR hm (s := s) (by omega) y3 y4 b17 b18 b19 b20 b21 b22 r23 r24
      have hfl := fin_len hR s
      show ∃ x', (if nI N ≤ nI s then _ else obd (F_X12_laysRuns n y3 y4 m' b17 b18 b19 b20 b21 b22 r23 r24 (nI s)) _) = _ ∧ _
      rw [if_neg (nI_ge (by omega) (by omega)), k1, obd_s]
      have kin : lpq (F_X12_dashed_b40 (nI (fin N p m s).length) s24) n (nI (sumf rl2 (flR N p m s) + sumf rl1 ((fin N p m s).take 0)), nI 0) = some (nI (sumf rl2 (flR N p m s) + sumf rl1 (fin N p m s))) := by
        refine lpq_run (fin N p m s).length (fun i => (nI (sumf rl2 (flR N p m s) + sumf rl1 ((fin N p m s).take i)), nI i)) (fun i hi => ?_) ?_ (by omega)
        · obtain ⟨r, hr⟩ := hx_at hi
          unfold F_X12_dashed_b40
          show (if nI (fin N p m s).length ≤ nI i then _ else gd (decide (vpi (nI i) 240)) (lt (_ + s24 (nI i).toNatClampNeg) _)) = _
          rw [if_neg (nI_ge hi (by omega)), gd_in (by omega) (by decide), nI_clamp (by omega), (k4 i r hr).2.1]
          simp only [lt_eq, zl_1, nI_add]
          rw [sumf_t hr, Nat.add_assoc]; rfl
        · unfold F_X12_dashed_b40
          rw [show (nI (sumf rl2 (flR N p m s) + sumf rl1 ((fin N p m s).take (fin N p m s).length)), nI (fin N p m s).length).2 = nI (fin N p m s).length from rfl, if_pos (nI_le (Nat.le_refl _) (by omega)), List.take_length]
      have kin' : lpq (F_X12_dashed_b40 (nI (fin N p m s).length) s24) n (nI (sumf rl2 (flR N p m s)), 0) = some (nI (sumf rl2 (flR N p m s) + sumf rl1 (fin N p m s))) := kin
      rw [lt_eq, nI_add]
      unfold F_X12_dashed_j40
      show ∃ x', obd (lpq (F_X12_dashed_b40 (nI (fin N p m s).length) s24) n (nI (sumf rl2 (flR N p m s)), 0)) _ = _ ∧ _
      rw [kin', obd_s]
      unfold F_X12_dashed_j65
      rw [lt_eq]
      refine ⟨_, rfl, nI (sg N p m s).length, nI (sW N p m s), nI (fin N p m s).length, nI f, c17, c18, c19, c20, c21, c22, s23, s24, ?_⟩
      rw [rs_s, ss_s, ← nI_add s 1]
      rfl
  obtain ⟨w, e, y3, y4, y5, y6, b17, b18, b19, b20, b21, b22, r23, r24, rfl⟩ := key
  exact ⟨y3, y4, y5, y6, b17, b18, b19, b20, b21, b22, r23, r24, e⟩
end DSH
set_option maxHeartbeats 4000000 in
theorem ag_dashed {PP : TP} : Ag_dashed (Inv (CAg WS PP)) := by
  unfold Ag_dashed
  intro d0 d1 d2 d3 d4 d5 d6 d7 d8 d9 d10 d11 d12 d13 d14 d15 d16 d17 d18 d19 d20 d21 d22 d23 d24 d25 d26 d27 d28 d29 d30 d31 d32 d33 d34 d35 d36 d37 d38 d39 d40 d41 d42 d43 d44 d45 d46 d47 d48 d49 d50 m0 m1 m2 m3 m4 m5 m6 m7 m8 m9 m10 m11 m12 m13 m14 m15 m16 m17 m18 m19 m20 m21 m22 m23 m24 m25 m26 m27 m28 m29 m30 p1 hI
  obtain ⟨N, p, hR, hH, hT, hC⟩ := Inv_un hI
  have hN4 := hR.1
  have c13 := hR.c13
  have m13 := hR.m13
  intro hb
  obtain ⟨e12, e28, e29, e30, e31, e32, e33, e34, e35, e36, e37, e38, e39, e40, e41, e42, e43, e17, e18, e19, e20, e21, e22, e23, e24, e25, e26, e27, k1, k2, k3, k4⟩ := walkd hR hC (n := 200000) (by omega)
  obtain ⟨y3, y4, y5, y6, b17, b18, b19, b20, b21, b22, r23, r24, k5⟩ := das_m (n := 200000) (by omega) hR.red (red_E m14) m3 m4 m5 m6 m17 m18 m19 m20 m21 m22 m23 m24
  have kt := k3.tl hR.red (n := 200000) (by omega)
  by_cases q : p1 = 0
  · obtain ⟨f12, f17, f18, f19, f20, f21, f22, f23, f24, f25, f26, f27, g1, g2, g3⟩ := measd hR k4 (n := 200000) (by omega)
    refine ⟨200000, 200000, (nI (sumf (sl2 p (red m14)) (flS N p (red m14) N)) - nI (sumf rl2 (flR N p (red m14) N)), f12, e28, e29, e30, e31, e32, e33, e34, e35, e36, e37, e38, e39, e40, e41, e42, e43, f17, f18, f19, f20, f21, f22, f23, f24, f25, f26, f27), (nI (sumf (sl2 p (red m14)) (flS N p (red m14) N)) - nI (sumf rl2 (flR N p (red m14) N)), 0, y3, y4, y5, y6, b17, b18, b19, b20, b21, b22, r23, r24), ?_, ?_, rfl, Inv_mk hR hH hT g3⟩
    · unfold F_X11_dashed
      rw [k1, obd_s, kt, obd_s, if_pos q]
      show obd (F_X10_measured 200000 e12 e17 e18 e19 e20 e21 e22 e23 e24 e25 e26 e27 d0) _ = _
      rw [g1, obd_s, g2.tl hR.red (by omega), obd_s]
    · unfold F_X12_dashed F_X12_dashed_j12 F_X12_dashed_j71
      rw [k5, obd_s, if_pos q]
  · refine ⟨200000, 200000, (nI (sumf rl2 (flR N p (red m14) N)), e12, e28, e29, e30, e31, e32, e33, e34, e35, e36, e37, e38, e39, e40, e41, e42, e43, e17, e18, e19, e20, e21, e22, e23, e24, e25, e26, e27), (nI (sumf rl2 (flR N p (red m14) N)), 0, y3, y4, y5, y6, b17, b18, b19, b20, b21, b22, r23, r24), ?_, ?_, rfl, Inv_mk hR hH hT k4⟩
    · unfold F_X11_dashed
      rw [k1, obd_s, kt, obd_s, if_neg q]
    · unfold F_X12_dashed F_X12_dashed_j12 F_X12_dashed_j71
      rw [k5, obd_s, if_neg q]
