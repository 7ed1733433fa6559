/-! ===== rows of cells: reading, writing, and what they hold ===== -/
theorem zl_0 : (0 : Int32) = nI 0 := rfl
theorem zl_1 : (1 : Int32) = nI 1 := rfl
theorem zl_2 : (2 : Int32) = nI 2 := rfl
theorem zl_3 : (3 : Int32) = nI 3 := rfl
theorem zl_4 : (4 : Int32) = nI 4 := rfl
theorem zl_5 : (5 : Int32) = nI 5 := rfl
theorem zl_6 : (6 : Int32) = nI 6 := rfl
theorem zl_7 : (7 : Int32) = nI 7 := rfl
theorem zl_8 : (8 : Int32) = nI 8 := rfl
theorem zl_13 : (13 : Int32) = nI 13 := rfl
theorem zl_14 : (14 : Int32) = nI 14 := rfl
theorem zl_18 : (18 : Int32) = nI 18 := rfl
theorem zl_32 : (32 : Int32) = nI 32 := rfl
theorem zl_64 : (64 : Int32) = nI 64 := rfl
theorem zl_86 : (86 : Int32) = nI 86 := rfl
theorem zl_73 : (73 : Int32) = nI 73 := rfl
theorem zl_258 : (258 : Int32) = nI 258 := rfl
theorem nI_ne {a b : Nat} (h : a ≠ b) (ha : a < 2 ^ 31) (hb : b < 2 ^ 31) : ¬ nI a = nI b := fun q => h ((nI_eq ha hb).mp q)
theorem ud_e {f : Nat → Int32} {k j : Nat} {x : Int32} (h : j = k) : upd f k x j = x := by subst h; exact pk_us
theorem ud_n {f : Nat → Int32} {k j : Nat} {x : Int32} (h : j ≠ k) : upd f k x j = f j := pk_un h
theorem gd_in {α : Type} {x : Option α} {i N : Nat} (h : i < N) (hN : N < 2 ^ 31) : gd (decide (vpi (nI i) N)) x = x :=
  gd_t ⟨by rw [nI_toInt (by omega)]; omega, by rw [nI_toInt (by omega)]; omega⟩
theorem gd_in' {α : Type} {x : Option α} {z : Int32} {i N : Nat} (e : z = nI i) (h : i < N) (hN : N < 2 ^ 31) : gd (decide (vpi z N)) x = x := by subst e; exact gd_in h hN
theorem gd_13 {α : Type} {x : Option α} : gd (decide (vpi 13 86)) x = x := gd_in (i := 13) (by decide) (by decide)
theorem cl_13 : (13 : Int32).toNatClampNeg = 13 := by decide
theorem cl_0 : (0 : Int32).toNatClampNeg = 0 := by decide
theorem cl_1 : (1 : Int32).toNatClampNeg = 1 := by decide
theorem cl_2 : (2 : Int32).toNatClampNeg = 2 := by decide
theorem cl_3 : (3 : Int32).toNatClampNeg = 3 := by decide
theorem cl_4 : (4 : Int32).toNatClampNeg = 4 := by decide
theorem cl_5 : (5 : Int32).toNatClampNeg = 5 := by decide
theorem cl_6 : (6 : Int32).toNatClampNeg = 6 := by decide
/-! the class's cells -/
theorem c1_in {c : Nat → Int32} {i : Nat} (h : i < 86) : F_X1_cell c (nI i) = some (c i) := by
  unfold F_X1_cell
  rw [if_neg (nI_pos (by omega)), if_neg (show ¬ (86 : Int32) ≤ nI i from nI_ge (b := 86) h (by omega)), gd_in h (by decide), nI_clamp (by omega)]
theorem c1_l {c : Nat → Int32} {z : Int32} {i : Nat} (e : z = nI i) (h : i < 86) : F_X1_cell c z = some (c i) := by subst e; exact c1_in h
theorem p1_in {c : Nat → Int32} {i : Nat} {v : Int32} (h : i < 86) : F_X1_put c (nI i) v = some (upd c i v) := by
  unfold F_X1_put
  rw [if_neg (nI_pos (by omega)), if_neg (show ¬ (86 : Int32) ≤ nI i from nI_ge (b := 86) h (by omega)), gd_in h (by decide), nI_clamp (by omega), lt_eq]
theorem p1_l {c : Nat → Int32} {z v : Int32} {i : Nat} (e : z = nI i) (h : i < 86) : F_X1_put c z v = some (upd c i v) := by subst e; exact p1_in h
theorem co_1 (s : Nat) : F_X1_cellOf (nI s) = nI (14 + 18 * s) := by
  unfold F_X1_cellOf; simp only [zl_14, zl_18, pk_mul, nI_add, Nat.mul_comm s]
theorem pcl_1 (s k : Nat) : F_X1_pointCell (nI s) (nI k) = nI (16 + 18 * s + 2 * k) := by
  unfold F_X1_pointCell; simp only [zl_14, zl_18, zl_2, pk_mul, nI_add]; congr 1; omega
theorem at_12 (s : Nat) : F_X12_at (nI s) = nI (14 + 18 * s) := by
  unfold F_X12_at; simp only [zl_14, zl_18, pk_mul, nI_add]
theorem X1_count {c : Nat → Int32} : F_X1_subpathCount c = some (c 13) := by
  unfold F_X1_subpathCount; rw [c1_l (z := 13) (i := 13) rfl (by decide), obd_s]
theorem X1_last {c : Nat → Int32} {N : Nat} (h : c 13 = nI (N + 1)) : F_X1_lastSubpath c = some (nI N) := by
  unfold F_X1_lastSubpath; rw [c1_l (z := 13) (i := 13) rfl (by decide), obd_s, h, nI_pred]
theorem X1_last0 {c : Nat → Int32} (h : c 13 = nI 0) : F_X1_lastSubpath c = some (-1) := by
  unfold F_X1_lastSubpath; rw [c1_l (z := 13) (i := 13) rfl (by decide), obd_s, h]; rfl
theorem X1_pts {c : Nat → Int32} {N s : Nat} (h : c 13 = nI N) (hs : s < N) (hN : N ≤ 4) : F_X1_pointCount c (nI s) = some (c (14 + 18 * s)) := by
  unfold F_X1_pointCount
  rw [c1_l (z := 13) (i := 13) rfl (by decide), obd_s, h, if_neg (nI_ge hs (by omega)), lt_eq, co_1, zl_0, nI_add, c1_in (by omega), obd_s, Nat.add_zero]
theorem X1_ptsO {c : Nat → Int32} {N s : Nat} (h : c 13 = nI N) (hs : N ≤ s) (hs2 : s < 2 ^ 31) : F_X1_pointCount c (nI s) = some (nI 0) := by
  unfold F_X1_pointCount
  rw [c1_l (z := 13) (i := 13) rfl (by decide), obd_s, h, if_pos (nI_le hs hs2)]; rfl
theorem X1_clo {c : Nat → Int32} {N s : Nat} (h : c 13 = nI N) (hs : s < N) (hN : N ≤ 4) : F_X1_isClosed c (nI s) = some (if c (15 + 18 * s) = 1 then 1 else 0) := by
  unfold F_X1_isClosed F_X1_isClosed_j28
  rw [c1_l (z := 13) (i := 13) rfl (by decide), obd_s, h, if_neg (nI_ge hs (by omega)), lt_eq, co_1, zl_1, nI_add, c1_in (by omega), obd_s, show 14 + 18 * s + 1 = 15 + 18 * s from by omega]
  by_cases q : c (15 + 18 * s) = nI 1
  · rw [if_pos q, if_pos q]
  · rw [if_neg q, if_neg q]
theorem X1_cloO {c : Nat → Int32} {N s : Nat} (h : c 13 = nI N) (hs : N ≤ s) (hs2 : s < 2 ^ 31) : F_X1_isClosed c (nI s) = some 0 := by
  unfold F_X1_isClosed F_X1_isClosed_j28
  rw [c1_l (z := 13) (i := 13) rfl (by decide), obd_s, h, if_pos (nI_le hs hs2)]
theorem X1_x {c : Nat → Int32} {s k : Nat} (hs : s < 4) (hk : k < 8) : F_X1_xOf c (nI s) (nI k) = some (c (16 + 18 * s + 2 * k)) := by
  unfold F_X1_xOf; rw [lt_eq, pcl_1, c1_in (by omega), obd_s]
theorem X1_y {c : Nat → Int32} {s k : Nat} (hs : s < 4) (hk : k < 8) : F_X1_yOf c (nI s) (nI k) = some (c (17 + 18 * s + 2 * k)) := by
  unfold F_X1_yOf; rw [lt_eq, pcl_1, zl_1, nI_add, c1_in (by omega), obd_s, show 16 + 18 * s + 2 * k + 1 = 17 + 18 * s + 2 * k from by omega]
theorem X1_pp {c : Nat → Int32} {s k : Nat} {x y : Int32} (hs : s < 4) (hk : k < 8) : F_X1_putPoint c (nI s) (nI k) x y = some (upd (upd c (16 + 18 * s + 2 * k) x) (17 + 18 * s + 2 * k) y) := by
  unfold F_X1_putPoint; rw [lt_eq, pcl_1, p1_in (by omega), obd_s, lt_eq, zl_1, nI_add, p1_in (by omega), obd_s, show 16 + 18 * s + 2 * k + 1 = 17 + 18 * s + 2 * k from by omega]
/-! the reference's -/
theorem m_pts {m : Nat → Int32} {s : Nat} (hs : s < 4) : F_X12_points m (nI s) = some (m (14 + 18 * s)) := by
  unfold F_X12_points; rw [lt_eq, at_12, gd_in (by omega) (by decide), nI_clamp (by omega)]
theorem m_clo {m : Nat → Int32} {s : Nat} (hs : s < 4) : F_X12_isClosed m (nI s) = some (if m (15 + 18 * s) = 1 then 1 else 0) := by
  unfold F_X12_isClosed
  rw [lt_eq, at_12, lt_eq, zl_1, nI_add, gd_in (by omega) (by decide), nI_clamp (by omega), show 14 + 18 * s + 1 = 15 + 18 * s from by omega]
  by_cases q : m (15 + 18 * s) = nI 1
  · rw [if_pos q, if_pos q]
  · rw [if_neg q, if_neg q]
theorem m_x {m : Nat → Int32} {s k : Nat} (hs : s < 4) (hk : k < 8) : F_X12_x m (nI s) (nI k) = some (m (16 + 18 * s + 2 * k)) := by
  unfold F_X12_x
  simp only [lt_eq, at_12, zl_2, pk_mul, nI_add]
  rw [gd_in (by omega) (by decide), nI_clamp (by omega), show 14 + 18 * s + 2 + 2 * k = 16 + 18 * s + 2 * k from by omega]
theorem m_y {m : Nat → Int32} {s k : Nat} (hs : s < 4) (hk : k < 8) : F_X12_y m (nI s) (nI k) = some (m (17 + 18 * s + 2 * k)) := by
  unfold F_X12_y
  simp only [lt_eq, at_12, zl_2, zl_3, pk_mul, nI_add]
  rw [gd_in (by omega) (by decide), nI_clamp (by omega), show 14 + 18 * s + 3 + 2 * k = 17 + 18 * s + 2 * k from by omega]
theorem m_pp {m : Nat → Int32} {s k : Nat} {x y : Int32} (hs : s < 4) (hk : k < 8) : F_X12_puts m (nI s) (nI k) x y = some (upd (upd m (16 + 18 * s + 2 * k) x) (17 + 18 * s + 2 * k) y) := by
  unfold F_X12_puts
  simp only [lt_eq, at_12, zl_2, zl_3, pk_mul, nI_add]
  rw [gd_in (by omega) (by decide), nI_clamp (by omega), gd_in (by omega) (by decide), nI_clamp (by omega), show 14 + 18 * s + 2 + 2 * k = 16 + 18 * s + 2 * k from by omega, show 14 + 18 * s + 3 + 2 * k = 17 + 18 * s + 2 * k from by omega]
/-! what is checked -/
theorem ck_in {p a b : Int32} (h : a ≤ p ∧ p ≤ b) : F_X11_checkRange p a b = some (.inl ()) := by
  unfold F_X11_checkRange
  rw [if_neg (by rw [fa_lt]; have := (fa_le a p).mp h.1; omega), if_pos h.2]
theorem ck_out {p a b : Int32} (h : ¬ (a ≤ p ∧ p ≤ b)) : F_X11_checkRange p a b = some (.inr 1) := by
  unfold F_X11_checkRange F_X11_checkRange_j10
  by_cases q : p < a
  · rw [if_pos q]
  · rw [if_neg q, if_neg (fun q2 => h ⟨fa_of_nlt q, q2⟩)]
theorem cs_1 : F_X11_checkState 1 = some (.inl ()) := rfl
theorem cs_0 : F_X11_checkState 0 = some (.inr 2) := rfl
theorem ci_in {j N : Nat} (h : j < N) (hN : N < 2 ^ 31) : F_X11_checkIndex (nI j) (nI N) = some (.inl ()) := by
  unfold F_X11_checkIndex
  rw [if_neg (nI_pos (by omega)), if_pos (nI_lt h hN)]
theorem ci_out {p z : Int32} (h : ¬ (0 ≤ p ∧ p < z)) : F_X11_checkIndex p z = some (.inr 3) := by
  unfold F_X11_checkIndex F_X11_checkIndex_j9
  by_cases q : p < 0
  · rw [if_pos q]
  · rw [if_neg q, if_neg (fun q2 => h ⟨fa_of_nlt q, q2⟩)]
theorem wi_in {p a b : Int32} (h : a ≤ p ∧ p ≤ b) : F_X12_within p a b = 1 := by
  unfold F_X12_within
  rw [if_neg (by rw [fa_lt]; have := (fa_le a p).mp h.1; omega), if_neg (by rw [fa_lt]; have := (fa_le p b).mp h.2; omega)]
theorem wi_out {p a b : Int32} (h : ¬ (a ≤ p ∧ p ≤ b)) : F_X12_within p a b = 0 := by
  unfold F_X12_within F_X12_within_j14
  by_cases q : p < a
  · rw [if_pos q]
  · rw [if_neg q, if_pos]
    rw [fa_lt]
    have h2 : ¬ p ≤ b := fun q2 => h ⟨fa_of_nlt q, q2⟩
    rw [fa_le] at h2; omega
theorem ip_in {x y : Int32} (h : -100 ≤ x ∧ x ≤ 100) (h2 : -100 ≤ y ∧ y ≤ 100) : F_X12_isPlace x y = 1 := by
  unfold F_X12_isPlace
  rw [wi_in h, lt_eq, if_neg (by decide), wi_in h2, lt_eq, if_neg (by decide)]
theorem ip_out {x y : Int32} (h : ¬ ((-100 ≤ x ∧ x ≤ 100) ∧ (-100 ≤ y ∧ y ≤ 100))) : F_X12_isPlace x y = 0 := by
  unfold F_X12_isPlace F_X12_isPlace_j26
  by_cases q : -100 ≤ x ∧ x ≤ 100
  · rw [wi_in q, lt_eq, if_neg (by decide), wi_out (fun q2 => h ⟨q, q2⟩), lt_eq, if_pos rfl]
  · rw [wi_out q, lt_eq, if_pos rfl]
theorem rf_0 : F_X12_refused 0 = (0, 0) := rfl
theorem rf_1 : F_X12_refused 1 = (1, 1) := rfl
theorem rf_2 : F_X12_refused 2 = (1, 2) := rfl
theorem is_in {m : Nat → Int32} {j N : Nat} (h13 : m 13 = nI N) (h : j < N) (hN : N ≤ 4) : F_X12_isSubpath m (nI j) = some 1 := by
  unfold F_X12_isSubpath
  rw [gd_13, cl_13, h13, zl_1, pk_sub (by omega), wi_in ⟨nI_pos' (by omega), nI_le (by omega) (by omega)⟩, lt_eq]; rfl
theorem is_out {m : Nat → Int32} {p : Int32} {N : Nat} (h13 : m 13 = nI N) (hN : N ≤ 4) (h : ¬ (0 ≤ p ∧ p < nI N)) : F_X12_isSubpath m p = some 0 := by
  unfold F_X12_isSubpath
  rw [gd_13, cl_13, h13, wi_out, lt_eq]
  rintro ⟨a, b⟩
  refine h ⟨a, ?_⟩
  rw [fa_le] at b
  rw [fa_lt, nI_toInt (by omega)]
  have e : (nI N - 1).toInt = (N : Int) - 1 := by
    rw [zl_1, pk_sub_toInt (by omega) (by omega)]; rfl
  omega
theorem ix_of {p : Int32} {N : Nat} (hN : N ≤ 1000) (h : 0 ≤ p ∧ p < nI N) : ∃ j, j < N ∧ p = nI j := by
  rcases pk_ix p (n := N) (by omega) with q | q | q
  · exact absurd q (by rw [fa_lt]; have := (fa_le 0 p).mp h.1; omega)
  · exact absurd h.2 (by rw [fa_lt]; have := (fa_le _ _).mp q; omega)
  · exact q
/-! a coordinate -/
def CO (x : Int32) : Prop := -100 ≤ x.toInt ∧ x.toInt ≤ 100
theorem co_of {x : Int32} (h : -100 ≤ x ∧ x ≤ 100) : CO x := by
  have h1 := (fa_le _ _).mp h.1
  have h2 := (fa_le _ _).mp h.2
  have e1 : (-100 : Int32).toInt = -100 := by decide
  have e2 : (100 : Int32).toInt = 100 := by decide
  unfold CO; omega
theorem co_to {x : Int32} (h : CO x) : -100 ≤ x ∧ x ≤ 100 := by
  have e1 : (-100 : Int32).toInt = -100 := by decide
  have e2 : (100 : Int32).toInt = 100 := by decide
  unfold CO at h
  rw [fa_le, fa_le, e1, e2]; exact h
theorem rg_of {x a b : Int32} (h : a ≤ x ∧ x ≤ b) : a.toInt ≤ x.toInt ∧ x.toInt ≤ b.toInt := ⟨(fa_le _ _).mp h.1, (fa_le _ _).mp h.2⟩
/-- a subpath of p points, alike in both rows -/
def SP (s p : Nat) (c m : Nat → Int32) : Prop :=
  1 ≤ p ∧ p ≤ 8 ∧ c (14 + 18 * s) = nI p ∧ m (14 + 18 * s) = nI p ∧ c (15 + 18 * s) = m (15 + 18 * s) ∧ (m (15 + 18 * s) = 0 ∨ m (15 + 18 * s) = 1) ∧
  ∀ k, k < p → c (16 + 18 * s + 2 * k) = m (16 + 18 * s + 2 * k) ∧ c (17 + 18 * s + 2 * k) = m (17 + 18 * s + 2 * k) ∧ CO (m (16 + 18 * s + 2 * k)) ∧ CO (m (17 + 18 * s + 2 * k))
/-- the style, alike in both rows -/
def ST (c m : Nat → Int32) : Prop :=
  (∀ i, i < 13 → c i = m i) ∧ (1 ≤ (m 0).toInt ∧ (m 0).toInt ≤ 40) ∧ (0 ≤ (m 1).toInt ∧ (m 1).toInt ≤ 2) ∧ (1 ≤ (m 2).toInt ∧ (m 2).toInt ≤ 10) ∧ (0 ≤ (m 3).toInt ∧ (m 3).toInt ≤ 2) ∧
  (0 ≤ (m 4).toInt ∧ (m 4).toInt ≤ 600) ∧ (m 5 = 0 ∨ m 5 = 1) ∧ (0 ≤ (m 6).toInt ∧ (m 6).toInt ≤ 6) ∧ ∀ k : Nat, (k : Int) < (m 6).toInt → 5 ≤ (m (7 + k)).toInt ∧ (m (7 + k)).toInt ≤ 100
/-- a drawing of N subpaths, p s points each, alike in both rows -/
def RW (N : Nat) (p : Nat → Nat) (c m : Nat → Int32) : Prop :=
  N ≤ 4 ∧ c 13 = nI N ∧ m 13 = nI N ∧ ST c m ∧ ∀ s, s < N → SP s (p s) c m
theorem SP.fr {s p : Nat} {c m c' m' : Nat → Int32} (h : SP s p c m) (e1 : ∀ i, 14 + 18 * s ≤ i → i < 32 + 18 * s → c' i = c i) (e2 : ∀ i, 14 + 18 * s ≤ i → i < 32 + 18 * s → m' i = m i) : SP s p c' m' := by
  obtain ⟨h1, h2, h3, h4, h5, h6, h7⟩ := h
  refine ⟨h1, h2, by rw [e1 _ (by omega) (by omega), h3], by rw [e2 _ (by omega) (by omega), h4], by rw [e1 _ (by omega) (by omega), e2 _ (by omega) (by omega), h5], by rw [e2 _ (by omega) (by omega)]; exact h6, fun k hk => ?_⟩
  rw [e1 _ (by omega) (by omega), e1 _ (by omega) (by omega), e2 _ (by omega) (by omega), e2 _ (by omega) (by omega)]
  exact h7 k hk
theorem ST.fr {c m c' m' : Nat → Int32} (h : ST c m) (e1 : ∀ i, i < 13 → c' i = c i) (e2 : ∀ i, i < 13 → m' i = m i) : ST c' m' := by
  obtain ⟨h0, h1, h2, h3, h4, h5, h6, h7, h8⟩ := h
  refine ⟨fun i hi => by rw [e1 i hi, e2 i hi]; exact h0 i hi, ?_⟩
  rw [e2 0 (by omega), e2 1 (by omega), e2 2 (by omega), e2 3 (by omega), e2 4 (by omega), e2 5 (by omega), e2 6 (by omega)]
  refine ⟨h1, h2, h3, h4, h5, h6, h7, fun k hk => ?_⟩
  rw [e2 (7 + k) (by omega)]; exact h8 k hk
theorem RW.fr {N : Nat} {p : Nat → Nat} {c m c' m' : Nat → Int32} (h : RW N p c m) (e1 : ∀ i, i < 14 + 18 * N → c' i = c i) (e2 : ∀ i, i < 14 + 18 * N → m' i = m i) : RW N p c' m' := by
  obtain ⟨h1, h2, h3, h4, h5⟩ := h
  refine ⟨h1, by rw [e1 13 (by omega), h2], by rw [e2 13 (by omega), h3], h4.fr (fun i hi => e1 i (by omega)) (fun i hi => e2 i (by omega)), fun s hs => (h5 s hs).fr (fun i _ hi => e1 i (by omega)) (fun i _ hi => e2 i (by omega))⟩
theorem RW.i86 {N : Nat} {p : Nat → Nat} {c m c' m' : Nat → Int32} (h : RW N p c m) (e1 : ∀ i, i < 86 → c' i = c i) (e2 : ∀ i, i < 86 → m' i = m i) : RW N p c' m' :=
  h.fr (fun i hi => e1 i (by have := h.1; omega)) (fun i hi => e2 i (by have := h.1; omega))
