/-! ===== remove, reverse ===== -/
theorem SP.mv {s t p : Nat} {c m c' m' : Nat → Int32} (h : SP s p c m) (e1 : ∀ j, j < 18 → c' (14 + 18 * t + j) = c (14 + 18 * s + j)) (e2 : ∀ j, j < 18 → m' (14 + 18 * t + j) = m (14 + 18 * s + j)) : SP t p c' m' := by
  have c0 := e1 0 (by omega)
  have m0 := e2 0 (by omega)
  have c1 := e1 1 (by omega)
  have m1 := e2 1 (by omega)
  rw [Nat.add_zero, Nat.add_zero] at c0 m0
  rw [show 14 + 18 * t + 1 = 15 + 18 * t from by omega, show 14 + 18 * s + 1 = 15 + 18 * s from by omega] at c1 m1
  obtain ⟨h1, h2, h3, h4, h5, h6, h7⟩ := h
  refine ⟨h1, h2, by rw [c0, h3], by rw [m0, h4], by rw [c1, m1, h5], by rw [m1]; exact h6, fun k hk => ?_⟩
  have c2 := e1 (2 + 2 * k) (by omega)
  have m2 := e2 (2 + 2 * k) (by omega)
  have c3 := e1 (3 + 2 * k) (by omega)
  have m3 := e2 (3 + 2 * k) (by omega)
  rw [show 14 + 18 * t + (2 + 2 * k) = 16 + 18 * t + 2 * k from by omega, show 14 + 18 * s + (2 + 2 * k) = 16 + 18 * s + 2 * k from by omega] at c2 m2
  rw [show 14 + 18 * t + (3 + 2 * k) = 17 + 18 * t + 2 * k from by omega, show 14 + 18 * s + (3 + 2 * k) = 17 + 18 * s + 2 * k from by omega] at c3 m3
  rw [c2, c3, m2, m3]
  exact h7 k hk
def drp (c : Nat → Int32) (s i : Nat) : Nat → Int32 := fb_put c (fun k => c (14 + 18 * s + k + 18)) (14 + 18 * s) i
theorem drp_s (c : Nat → Int32) (s i : Nat) : upd (drp c s i) (14 + 18 * s + i) (c (14 + 18 * s + i + 18)) = drp c s (i + 1) := fb_put_succ c (fun k => c (14 + 18 * s + k + 18)) (14 + 18 * s) i
theorem drp_in {c : Nat → Int32} {s i j : Nat} (h1 : 14 + 18 * s ≤ j) (h2 : j < 14 + 18 * s + i) : drp c s i j = c (j + 18) := by
  unfold drp; rw [fb_put_in h1 h2]; exact congrArg c (by omega)
theorem drp_out {c : Nat → Int32} {s i j : Nat} (h : j < 14 + 18 * s ∨ 14 + 18 * s + i ≤ j) : drp c s i j = c j := fb_put_out h
theorem drop_c {n : Nat} (hn : 1000 ≤ n) {c : Nat → Int32} {l s : Nat} (h : c 13 = nI (l + 1)) (hs : s ≤ l) (hl : l < 4) : F_X1_dropSubpath n c (nI s) = some (upd (drp c s (18 * (l - s))) 13 (nI l)) := by
  unfold F_X1_dropSubpath F_X1_dropSubpath_j10
  rw [X1_last h, obd_s, lt_eq, co_1]
  have key : lpq (F_X1_dropSubpath_b10 (nI l)) n (nI (14 + 18 * s + 0), drp c s 0) = some (drp c s (18 * (l - s))) := by
    refine lpq_run (18 * (l - s)) (fun i => (nI (14 + 18 * s + i), drp c s i)) (fun i hi => ?_) ?_ (by omega)
    · unfold F_X1_dropSubpath_b10
      simp only [lt_eq, co_1, zl_18, nI_add]
      rw [if_neg (nI_ge (by omega) (by omega)), c1_in (by omega), obd_s, p1_in (by omega), obd_s, drp_out (by omega), drp_s, zl_1, nI_add]
      rfl
    · unfold F_X1_dropSubpath_b10
      rw [lt_eq, co_1]
      exact if_pos (nI_le (by omega) (by omega))
  rw [Nat.add_zero, show drp c s 0 = c from fb_put_0 _ _ _] at key
  rw [key, obd_s]
  unfold F_X1_dropSubpath_j37
  rw [p1_l (z := 13) (i := 13) rfl (by decide), obd_s]
theorem drop_m {n : Nat} (hn : 1000 ≤ n) {m : Nat → Int32} {l s : Nat} (h : m 13 = nI l) (hs : s ≤ l) (hl : l < 4) : lpq F_X12_remove_b42 n (nI (14 + 18 * s), m) = some (drp m s (18 * (l - s))) := by
  have key : lpq F_X12_remove_b42 n (nI (14 + 18 * s + 0), drp m s 0) = some (drp m s (18 * (l - s))) := by
    refine lpq_run (18 * (l - s)) (fun i => (nI (14 + 18 * s + i), drp m s i)) (fun i hi => ?_) ?_ (by omega)
    · unfold F_X12_remove_b42
      rw [gd_13, cl_13]
      simp only [lt_eq]
      rw [show drp m s i 13 = nI l from by rw [drp_out (by omega), h], at_12]
      simp only [zl_18, nI_add]
      rw [if_neg (nI_ge (by omega) (by omega)), gd_in (by omega) (by decide), gd_in (by omega) (by decide), nI_clamp (by omega), nI_clamp (by omega), drp_out (by omega), drp_s, zl_1, nI_add]
      rfl
    · unfold F_X12_remove_b42
      rw [gd_13, cl_13, lt_eq]
      show (if F_X12_at (drp m s (18 * (l - s)) 13) ≤ nI (14 + 18 * s + 18 * (l - s)) then _ else _) = _
      rw [show drp m s (18 * (l - s)) 13 = nI l from by rw [drp_out (by omega), h], at_12]
      exact if_pos (nI_le (by omega) (by omega))
  rw [Nat.add_zero, show drp m s 0 = m from fb_put_0 _ _ _] at key
  exact key
theorem RW_drop {l s : Nat} {p : Nat → Nat} {c m c' m' : Nat → Int32} (h : RW (l + 1) p c m) (hs : s ≤ l)
    (c1 : c' 13 = nI l) (c2 : ∀ j, j < 14 + 18 * s → j ≠ 13 → c' j = c j) (c3 : ∀ j, 14 + 18 * s ≤ j → j < 14 + 18 * l → c' j = c (j + 18))
    (m1 : m' 13 = nI l) (m2 : ∀ j, j < 14 + 18 * s → j ≠ 13 → m' j = m j) (m3 : ∀ j, 14 + 18 * s ≤ j → j < 14 + 18 * l → m' j = m (j + 18)) :
    RW l (fun t => if t < s then p t else p (t + 1)) c' m' := by
  have h4 := h.1
  refine ⟨by omega, c1, m1, h.st.fr (fun i hi => c2 i (by omega) (by omega)) (fun i hi => m2 i (by omega) (by omega)), fun t ht => ?_⟩
  by_cases q : t < s
  · show SP t (if t < s then p t else p (t + 1)) c' m'
    rw [if_pos q]
    exact (h.sp (s := t) (by omega)).fr (fun i _ _ => c2 i (by omega) (by omega)) (fun i _ _ => m2 i (by omega) (by omega))
  · show SP t (if t < s then p t else p (t + 1)) c' m'
    rw [if_neg q]
    exact (h.sp (s := t + 1) (by omega)).mv (fun j hj => by rw [c3 _ (by omega) (by omega)]; exact congrArg c (by omega)) (fun j hj => by rw [m3 _ (by omega) (by omega)]; exact congrArg m (by omega))
set_option maxHeartbeats 1000000 in
theorem ag_remove {CA : Nat → (Nat → Nat) → (Nat → Int32) → SC → Prop} (hz : CAz CA) : Ag_remove (Inv CA) := by
  unfold Ag_remove
  intro d0 d1 d2 d3 d4 d5 d6 d7 d8 d9 d10 d11 d12 d13 d14 d15 d16 d17 d18 d19 d20 d21 d22 d23 d24 d25 d26 d27 d28 d29 d30 d31 d32 d33 d34 d35 d36 d37 d38 d39 d40 d41 d42 d43 d44 d45 d46 d47 d48 d49 d50 m0 m1 m2 m3 m4 m5 m6 m7 m8 m9 m10 m11 m12 m13 m14 m15 m16 m17 m18 m19 m20 m21 m22 m23 m24 m25 m26 m27 m28 m29 m30 p1 hI
  obtain ⟨N, p, hR, hH, hT, hC⟩ := Inv_un hI
  have hN4 := hR.1
  have c13 := hR.c13
  have m13 := hR.m13
  by_cases h1 : 0 ≤ p1 ∧ p1 < nI N
  · obtain ⟨s, hs, rfl⟩ := ix_of (by omega) h1
    obtain ⟨l, rfl⟩ : ∃ l, N = l + 1 := ⟨N - 1, by omega⟩
    obtain ⟨y, a', b', s1, s2, s3⟩ := save_both (n := 1000) (by omega) hR hH
    have e1 := drop_c (n := 1000) (by omega) c13 (show s ≤ l by omega) (by omega)
    have e2 := drop_m (n := 1000) (by omega) (m := upd m14 13 (nI l)) (l := l) (s := s) (ud_e rfl) (by omega) (by omega)
    obtain ⟨U, V, eU, eV⟩ : ∃ U V, U = upd (drp d0 s (18 * (l - s))) 13 (nI l) ∧ V = drp (upd m14 13 (nI l)) s (18 * (l - s)) := ⟨_, _, rfl, rfl⟩
    rw [← eU] at e1
    rw [← eV] at e2
    have hR' : RW l (fun t => if t < s then p t else p (t + 1)) U V := by
      refine RW_drop hR (by omega) (by rw [eU, ud_e rfl]) (fun j h1 h2 => by rw [eU, ud_n h2, drp_out (by omega)]) (fun j h1 h2 => by rw [eU, ud_n (by omega), drp_in h1 (by omega)])
        (by rw [eV, drp_out (by omega), ud_e rfl]) (fun j h1 h2 => by rw [eV, drp_out (by omega), ud_n h2]) (fun j h1 h2 => by rw [eV, drp_in h1 (by omega), ud_n (by omega)])
    refine Or.inl ⟨1000, 1000, (nI l, U, y, a', 0), (nI l, y, 0, V, b'), ?_, ?_, rfl, rfl, Inv_mk hR' s3 hT (hz _ _ _ _)⟩
    · unfold F_X11_remove
      rw [X1_count, obd_s, c13, ci_in hs (by omega), obx_l, s1, obd_s, e1, obd_s, X1_count, obd_s, hR'.c13]
    · unfold F_X12_remove F_X12_remove_j14 F_X12_remove_j42 F_X12_remove_j77
      rw [is_in m13 hs hN4, obd_s, if_neg (by decide), rf_0, lt_eq, if_pos rfl, s2, obd_s, gd_13, cl_13, m13, nI_pred, lt_eq, gd_13, lt_eq, at_12, lt_eq, e2, obd_s, gd_13, hR'.m13]
  · refine Or.inr ⟨0, 0, (3, d0, d2, d3, d12), (0, m0, 1, m14, m15), ?_, rfl, ?_, rfl, Inv_mk hR hH hT hC⟩
    · unfold F_X11_remove; rw [X1_count, obd_s, c13, ci_out h1, obx_r]
    · unfold F_X12_remove F_X12_remove_j14
      rw [is_out m13 hN4 h1, obd_s, if_pos rfl, rf_1, lt_eq, if_neg (by decide)]
/-! reverse -/
def rvR (c : Nat → Int32) (s n i : Nat) : Nat → Int32 := fun j =>
  if (16 + 18 * s ≤ j ∧ j < 16 + 18 * s + 2 * i) ∨ (16 + 18 * s + 2 * (n - i) ≤ j ∧ j < 16 + 18 * s + 2 * n) then c (30 + 36 * s + 2 * n + 2 * (j % 2) - j) else c j
theorem rv_in {c : Nat → Int32} {s n i j : Nat} (h : (16 + 18 * s ≤ j ∧ j < 16 + 18 * s + 2 * i) ∨ (16 + 18 * s + 2 * (n - i) ≤ j ∧ j < 16 + 18 * s + 2 * n)) : rvR c s n i j = c (30 + 36 * s + 2 * n + 2 * (j % 2) - j) := if_pos h
theorem rv_out {c : Nat → Int32} {s n i j : Nat} (h : ¬ ((16 + 18 * s ≤ j ∧ j < 16 + 18 * s + 2 * i) ∨ (16 + 18 * s + 2 * (n - i) ≤ j ∧ j < 16 + 18 * s + 2 * n))) : rvR c s n i j = c j := if_neg h
theorem rv_next {c r : Nat → Int32} {s n i : Nat} (hi : i < n / 2)
    (h1 : r (16 + 18 * s + 2 * i) = rvR c s n i (16 + 18 * s + 2 * (n - 1 - i))) (h2 : r (17 + 18 * s + 2 * i) = rvR c s n i (17 + 18 * s + 2 * (n - 1 - i)))
    (h3 : r (16 + 18 * s + 2 * (n - 1 - i)) = rvR c s n i (16 + 18 * s + 2 * i)) (h4 : r (17 + 18 * s + 2 * (n - 1 - i)) = rvR c s n i (17 + 18 * s + 2 * i))
    (h5 : ∀ j, j ≠ 16 + 18 * s + 2 * i → j ≠ 17 + 18 * s + 2 * i → j ≠ 16 + 18 * s + 2 * (n - 1 - i) → j ≠ 17 + 18 * s + 2 * (n - 1 - i) → r j = rvR c s n i j) : r = rvR c s n (i + 1) := by
  funext j
  by_cases q1 : j = 16 + 18 * s + 2 * i
  · rw [q1, h1, rv_out (by omega), rv_in (by omega)]; exact congrArg c (by omega)
  · by_cases q2 : j = 17 + 18 * s + 2 * i
    · rw [q2, h2, rv_out (by omega), rv_in (by omega)]; exact congrArg c (by omega)
    · by_cases q3 : j = 16 + 18 * s + 2 * (n - 1 - i)
      · rw [q3, h3, rv_out (by omega), rv_in (by omega)]; exact congrArg c (by omega)
      · by_cases q4 : j = 17 + 18 * s + 2 * (n - 1 - i)
        · rw [q4, h4, rv_out (by omega), rv_in (by omega)]; exact congrArg c (by omega)
        · rw [h5 j q1 q2 q3 q4]
          by_cases q : (16 + 18 * s ≤ j ∧ j < 16 + 18 * s + 2 * i) ∨ (16 + 18 * s + 2 * (n - i) ≤ j ∧ j < 16 + 18 * s + 2 * n)
          · rw [rv_in q, rv_in (by omega)]
          · rw [rv_out q, rv_out (by omega)]
theorem rv_0 (c : Nat → Int32) (s n : Nat) : rvR c s n 0 = c := funext fun j => rv_out (by omega)
theorem turn_c {n : Nat} (hn : 1000 ≤ n) {c : Nat → Int32} {N s k : Nat} (h : c 13 = nI N) (hs : s < N) (hN : N ≤ 4) (hk : c (14 + 18 * s) = nI k) (h1 : 1 ≤ k) (h8 : k ≤ 8) : F_X1_turnAround n c (nI s) = some (rvR c s k (k / 2)) := by
  unfold F_X1_turnAround F_X1_turnAround_j10
  rw [X1_pts h hs hN, obd_s, hk, zl_1, pk_sub h1, lt_eq]
  have key : lpq (F_X1_turnAround_b10 (nI s)) n (nI 0, nI (k - 1 - 0), rvR c s k 0) = some (rvR c s k (k / 2)) := by
    refine lpq_run (k / 2) (fun i => (nI i, nI (k - 1 - i), rvR c s k i)) (fun i hi => ?_) ?_ (by omega)
    · unfold F_X1_turnAround_b10
      show (if nI (k - 1 - i) ≤ nI i then _ else obd (F_X1_xOf (rvR c s k i) (nI s) (nI i)) _) = _
      rw [if_neg (nI_ge (by omega) (by omega)), X1_x (by omega) (by omega), obd_s]
      show obd (F_X1_yOf (rvR c s k i) (nI s) (nI i)) _ = _
      rw [X1_y (by omega) (by omega), obd_s]
      show obd (F_X1_xOf (rvR c s k i) (nI s) (nI (k - 1 - i))) _ = _
      rw [X1_x (by omega) (by omega), obd_s]
      show obd (F_X1_yOf (rvR c s k i) (nI s) (nI (k - 1 - i))) _ = _
      rw [X1_y (by omega) (by omega), obd_s]
      show obd (F_X1_putPoint (rvR c s k i) (nI s) (nI i) _ _) _ = _
      rw [X1_pp (by omega) (by omega), obd_s]
      show obd (F_X1_putPoint _ (nI s) (nI (k - 1 - i)) _ _) _ = _
      rw [X1_pp (by omega) (by omega), obd_s, lt_eq, lt_eq]
      show some (Sum.inl (nI i + 1, nI (k - 1 - i) + -1, _)) = some (Sum.inl (nI (i + 1), nI (k - 1 - (i + 1)), rvR c s k (i + 1)))
      obtain ⟨w, hw⟩ : ∃ w, k - 1 - i = w + 1 := ⟨k - 1 - i - 1, by omega⟩
      rw [show k - 1 - (i + 1) = w from by omega, show nI i + 1 = nI (i + 1) from by rw [zl_1, nI_add], show nI (k - 1 - i) + -1 = nI w from by rw [hw, pk_m1]]
      have e : ∀ r : Nat → Int32, r = rvR c s k (i + 1) → some (Sum.inl (nI (i + 1), nI w, r) : Sum (Int32 × Int32 × (Nat → Int32)) (Nat → Int32)) = some (Sum.inl (nI (i + 1), nI w, rvR c s k (i + 1))) := fun r hr => by rw [hr]
      refine e _ (rv_next hi ?_ ?_ ?_ ?_ (fun j q1 q2 q3 q4 => ?_)) <;> simp (disch := omega) only [ud_n, ud_e]
    · unfold F_X1_turnAround_b10
      exact if_pos (nI_le (by omega) (by omega))
  rw [rv_0, Nat.sub_zero] at key
  rw [show (0 : Int32) = nI 0 from rfl, show nI (k - 1) = nI (k - 1) from rfl, key, obd_s]
theorem turn_m {n : Nat} (hn : 1000 ≤ n) {m : Nat → Int32} {s k : Nat} (hs : s < 4) (h1 : 1 ≤ k) (h8 : k ≤ 8) : lpq (F_X12_reverse_b34 (nI s) (nI k)) n (nI 0, m) = some (rvR m s k (k / 2)) := by
  have key : lpq (F_X12_reverse_b34 (nI s) (nI k)) n (nI 0, rvR m s k 0) = some (rvR m s k (k / 2)) := by
    have e2 : nI k / 2 = nI (k / 2) := by rw [zl_2, pk_div (by omega) (by decide) (by decide)]
    refine lpq_run (k / 2) (fun i => (nI i, rvR m s k i)) (fun i hi => ?_) ?_ (by omega)
    · unfold F_X12_reverse_b34
      simp only [e2]
      rw [if_neg (nI_ge hi (by omega)), zl_1, pk_sub h1, pk_sub (by omega)]
      rw [m_x hs (by omega), obd_s, m_y hs (by omega), obd_s, m_x hs (by omega), obd_s, m_y hs (by omega), obd_s, m_pp hs (by omega), obd_s, m_pp hs (by omega), obd_s, lt_eq, nI_add]
      have e : ∀ r : Nat → Int32, r = rvR m s k (i + 1) → some (Sum.inl (nI (i + 1), r) : Sum (Int32 × (Nat → Int32)) (Nat → Int32)) = some (Sum.inl (nI (i + 1), rvR m s k (i + 1))) := fun r hr => by rw [hr]
      refine e _ (rv_next hi ?_ ?_ ?_ ?_ (fun j q1 q2 q3 q4 => ?_)) <;> simp (disch := omega) only [ud_n, ud_e]
    · unfold F_X12_reverse_b34
      simp only [e2]
      exact if_pos (nI_le (by omega) (by omega))
  rw [rv_0] at key
  exact key
theorem RW_rev {N s : Nat} {p : Nat → Nat} {c m : Nat → Int32} (h : RW N p c m) (hs : s < N) : RW N p (rvR c s (p s) (p s / 2)) (rvR m s (p s) (p s / 2)) := by
  have g := h.sp hs
  have g8 := g.2.1
  have g1 := g.1
  have h4 := h.1
  have out : ∀ (r : Nat → Int32) j, j < 16 + 18 * s ∨ 16 + 18 * s + 2 * p s ≤ j → rvR r s (p s) (p s / 2) j = r j := fun r j hj => rv_out (by omega)
  have ins : ∀ (r : Nat → Int32) j, 16 + 18 * s ≤ j → j < 16 + 18 * s + 2 * p s → rvR r s (p s) (p s / 2) j = r (30 + 36 * s + 2 * p s + 2 * (j % 2) - j) := fun r j h1 h2 => by
    by_cases q : (16 + 18 * s ≤ j ∧ j < 16 + 18 * s + 2 * (p s / 2)) ∨ (16 + 18 * s + 2 * (p s - p s / 2) ≤ j ∧ j < 16 + 18 * s + 2 * p s)
    · exact rv_in q
    · rw [rv_out q]; exact congrArg r (by omega)
  refine ⟨h.1, by rw [out _ _ (by omega)]; exact h.c13, by rw [out _ _ (by omega)]; exact h.m13, h.st.fr (fun i hi => out _ _ (by omega)) (fun i hi => out _ _ (by omega)), fun t ht => ?_⟩
  by_cases q : t = s
  · subst q
    refine ⟨g.1, g.2.1, by rw [out _ _ (by omega)]; exact g.pc, by rw [out _ _ (by omega)]; exact g.pm, by rw [out _ _ (by omega), out _ _ (by omega)]; exact g.cl, by rw [out _ _ (by omega)]; exact g.bo, fun k hk => ?_⟩
    rw [ins _ _ (by omega) (by omega), ins _ _ (by omega) (by omega), ins _ _ (by omega) (by omega), ins _ _ (by omega) (by omega)]
    have x := g.xy (k := p t - 1 - k) (by omega)
    rw [show 30 + 36 * t + 2 * p t + 2 * ((16 + 18 * t + 2 * k) % 2) - (16 + 18 * t + 2 * k) = 16 + 18 * t + 2 * (p t - 1 - k) from by omega,
      show 30 + 36 * t + 2 * p t + 2 * ((17 + 18 * t + 2 * k) % 2) - (17 + 18 * t + 2 * k) = 17 + 18 * t + 2 * (p t - 1 - k) from by omega]
    exact x
  · exact (h.sp ht).fr (fun i h1 h2 => out _ _ (by omega)) (fun i h1 h2 => out _ _ (by omega))
set_option maxHeartbeats 1000000 in
theorem ag_reverse {CA : Nat → (Nat → Nat) → (Nat → Int32) → SC → Prop} (hz : CAz CA) : Ag_reverse (Inv CA) := by
  unfold Ag_reverse
  intro d0 d1 d2 d3 d4 d5 d6 d7 d8 d9 d10 d11 d12 d13 d14 d15 d16 d17 d18 d19 d20 d21 d22 d23 d24 d25 d26 d27 d28 d29 d30 d31 d32 d33 d34 d35 d36 d37 d38 d39 d40 d41 d42 d43 d44 d45 d46 d47 d48 d49 d50 m0 m1 m2 m3 m4 m5 m6 m7 m8 m9 m10 m11 m12 m13 m14 m15 m16 m17 m18 m19 m20 m21 m22 m23 m24 m25 m26 m27 m28 m29 m30 p1 hI
  obtain ⟨N, p, hR, hH, hT, hC⟩ := Inv_un hI
  have hN4 := hR.1
  have c13 := hR.c13
  have m13 := hR.m13
  by_cases h1 : 0 ≤ p1 ∧ p1 < nI N
  · obtain ⟨s, hs, rfl⟩ := ix_of (by omega) h1
    have g := hR.sp hs
    obtain ⟨y, a', b', s1, s2, s3⟩ := save_both (n := 1000) (by omega) hR hH
    have e1 := turn_c (n := 1000) (by omega) c13 hs hN4 g.pc g.1 g.2.1
    have e2 := turn_m (n := 1000) (by omega) (m := m14) (s := s) (by omega) g.1 g.2.1
    have hR' := RW_rev hR hs
    refine Or.inl ⟨1000, 1000, (nI (p s), rvR d0 s (p s) (p s / 2), y, a', 0), (nI (p s), y, 0, rvR m14 s (p s) (p s / 2), b'), ?_, ?_, rfl, rfl, Inv_mk hR' s3 hT (hz _ _ _ _)⟩
    · unfold F_X11_reverse
      rw [X1_count, obd_s, c13, ci_in hs (by omega), obx_l, s1, obd_s, e1, obd_s, X1_pts hR'.c13 hs hN4, obd_s, (hR'.sp hs).pc]
    · unfold F_X12_reverse F_X12_reverse_j14 F_X12_reverse_j34 F_X12_reverse_j103
      rw [is_in m13 hs hN4, obd_s, if_neg (by decide), rf_0, lt_eq, if_pos rfl, s2, obd_s, m_pts (by omega), obd_s, g.pm, show (0 : Int32) = nI 0 from rfl, e2, obd_s]
  · refine Or.inr ⟨0, 0, (3, d0, d2, d3, d12), (0, m0, 1, m14, m15), ?_, rfl, ?_, rfl, Inv_mk hR hH hT hC⟩
    · unfold F_X11_reverse; rw [X1_count, obd_s, c13, ci_out h1, obx_r]
    · unfold F_X12_reverse F_X12_reverse_j14
      rw [is_out m13 hN4 h1, obd_s, if_pos rfl, rf_1, lt_eq, if_neg (by decide)]
