/-! ===== written ===== -/
theorem lpq_two {S X T Y : Type} {b1 : S → Option (Sum S X)} {b2 : T → Option (Sum T Y)} {R : Nat → S → T → Prop} {Q : X → Y → Prop} {k : Nat}
    (step : ∀ i s t, i < k → R i s t → ∃ s' t', b1 s = some (.inl s') ∧ b2 t = some (.inl t') ∧ R (i + 1) s' t')
    (fin : ∀ s t, R k s t → ∃ x y, b1 s = some (.inr x) ∧ b2 t = some (.inr y) ∧ Q x y) :
    ∀ (j i n1 n2 : Nat) (s : S) (t : T), i + j = k → j < n1 → j < n2 → R i s t → ∃ x y, lpq b1 n1 s = some x ∧ lpq b2 n2 t = some y ∧ Q x y := by
  intro j
  induction j with
  | zero =>
    intro i n1 n2 s t hi h1 h2 hr
    obtain ⟨a, rfl⟩ : ∃ a, n1 = a + 1 := ⟨n1 - 1, by omega⟩
    obtain ⟨b, rfl⟩ : ∃ b, n2 = b + 1 := ⟨n2 - 1, by omega⟩
    obtain rfl : i = k := by omega
    obtain ⟨x, y, e1, e2, q⟩ := fin s t hr
    exact ⟨x, y, lpq_en e1, lpq_en e2, q⟩
  | succ j ih =>
    intro i n1 n2 s t hi h1 h2 hr
    obtain ⟨a, rfl⟩ : ∃ a, n1 = a + 1 := ⟨n1 - 1, by omega⟩
    obtain ⟨b, rfl⟩ : ∃ b, n2 = b + 1 := ⟨n2 - 1, by omega⟩
    obtain ⟨s', t', e1, e2, q⟩ := step i s t (by omega) hr
    obtain ⟨x, y, f1, f2, f3⟩ := ih (i + 1) a b s' t' (by omega) (by omega) (by omega) q
    exact ⟨x, y, lpq_st e1 f1, lpq_st e2 f2, f3⟩
theorem lpq_t0 {S X T Y : Type} {b1 : S → Option (Sum S X)} {b2 : T → Option (Sum T Y)} (R : Nat → S → T → Prop) (Q : X → Y → Prop) (k : Nat)
    (step : ∀ i s t, i < k → R i s t → ∃ s' t', b1 s = some (.inl s') ∧ b2 t = some (.inl t') ∧ R (i + 1) s' t')
    (fin : ∀ s t, R k s t → ∃ x y, b1 s = some (.inr x) ∧ b2 t = some (.inr y) ∧ Q x y)
    {n1 n2 : Nat} {s : S} {t : T} (h1 : k < n1) (h2 : k < n2) (h0 : R 0 s t) : ∃ x y, lpq b1 n1 s = some x ∧ lpq b2 n2 t = some y ∧ Q x y :=
  lpq_two step fin k 0 n1 n2 s t (by omega) h1 h2 h0
/-- the same first L elements -/
def SM1 (L : Nat) (U V : Nat → Int32) : Prop := ∀ i, i < L → U i = V i
theorem SM1.up {L : Nat} {U V : Nat → Int32} (h : SM1 L U V) (v : Int32) : SM1 (L + 1) (upd U L v) (upd V L v) := fun i hi => by
  by_cases q : i = L
  · rw [ud_e q, ud_e q]
  · rw [ud_n q, ud_n q]; exact h i (by omega)
theorem wr_c {L : Nat} (h : L < 324) (U : Nat → Int32) (v : Int32) : F_X6_write (nI L) U v = some (nI (L + 1), upd U L v) := by
  unfold F_X6_write
  rw [if_neg (nI_pos (by omega)), if_neg (show ¬ (324 : Int32) ≤ nI L from nI_ge (b := 324) h (by omega)), gd_in h (by decide), nI_clamp (by omega), lt_eq, lt_eq, zl_1, nI_add]
theorem wr_m {L : Nat} (h : L < 400) (U : Nat → Int32) (v : Int32) : F_X12_writes (nI L) U v = some (nI (L + 1), upd U L v) := by
  unfold F_X12_writes
  rw [gd_in h (by decide), nI_clamp (by omega), lt_eq, lt_eq, zl_1, nI_add]
theorem zl_10 : (10 : Int32) = nI 10 := rfl
theorem zl_48 : (48 : Int32) = nI 48 := rfl
theorem zl_100 : (100 : Int32) = nI 100 := rfl
theorem wb_skip {k b L : Nat} {V : Nat → Int32} (h : k < b) (h1 : b ≠ 1) (hb : b ≤ 100) : F_X12_writesNumber_b24 (nI k) (nI b, nI L, V) = some (.inl (nI (b / 10), nI L, V)) := by
  unfold F_X12_writesNumber_b24 F_X12_writesNumber_j51
  show (if nI b ≤ 0 then _ else if nI b ≤ nI k then _ else if nI b = 1 then _ else _) = _
  rw [if_neg (nI_nle (by omega) (by omega)), if_neg (nI_ge h (by omega)), if_neg (show ¬ nI b = 1 from nI_ne (b := 1) h1 (by omega) (by decide)), lt_eq, zl_10, pk_div (by omega) (by decide) (by decide)]
theorem wb_put {k b L : Nat} {V : Nat → Int32} (h : b ≤ k ∨ b = 1) (h0 : 0 < b) (hb : b ≤ 100) (hk : k ≤ 100) (hL : L < 400) : F_X12_writesNumber_b24 (nI k) (nI b, nI L, V) = some (.inl (nI (b / 10), nI (L + 1), upd V L (nI (48 + k / b % 10)))) := by
  have e : F_X12_writesNumber_j38 (nI L) V (nI k) (nI b) = some (.inl (nI (b / 10), nI (L + 1), upd V L (nI (48 + k / b % 10)))) := by
    unfold F_X12_writesNumber_j38 F_X12_writesNumber_j51
    have d : k / b ≤ k := Nat.div_le_self _ _
    rw [gd_t (show ¬ nI b = 0 from nI_ne0 h0 (by omega)), lt_eq, pk_div (by omega) h0 (by omega), zl_10, pk_rem (by omega) (by decide) (by decide), zl_48, nI_add, wr_m hL, obd_s, lt_eq]
    show some (Sum.inl (nI b / nI 10, nI (L + 1), upd V L (nI (48 + k / b % 10)))) = _
    rw [pk_div (by omega) (by decide) (by decide)]
  unfold F_X12_writesNumber_b24
  show (if nI b ≤ 0 then _ else if nI b ≤ nI k then F_X12_writesNumber_j38 (nI L) V (nI k) (nI b) else if nI b = 1 then F_X12_writesNumber_j38 (nI L) V (nI k) (nI b) else _) = _
  rw [if_neg (nI_nle h0 (by omega)), e]
  by_cases q : b ≤ k
  · rw [if_pos (nI_le q (by omega))]
  · have hb1 : b = 1 := by omega
    subst hb1
    rw [if_neg (nI_ge (by omega) (by omega)), if_pos (show nI 1 = 1 from rfl)]
theorem wb_end {k L : Nat} {V : Nat → Int32} : F_X12_writesNumber_b24 (nI k) (nI 0, nI L, V) = some (.inr (nI L, V)) := by
  unfold F_X12_writesNumber_b24
  exact if_pos (show nI 0 ≤ 0 from by decide)
/-- the digits, both sides -/
theorem dig_both {n : Nat} (hn : 1000 ≤ n) {k L : Nat} {U V : Nat → Int32} (hk : k ≤ 100) (hL : L + 3 ≤ 324) (h : SM1 L U V) :
    ∃ L' U' V', (if nI k < 100 then F_X6_writeNumber_j32 (nI L) U (nI k) else obd (F_X6_write (nI L) U (48 + (nI k / 100))) (fun u_7 => F_X6_writeNumber_j32 u_7.1 u_7.2 (nI k))) = some (nI L', U') ∧
      F_X12_writesNumber_j21 n (nI L) V (nI k) = some (nI L', V') ∧ SM1 L' U' V' ∧ L' ≤ L + 3 := by
  have e32 : ∀ L U, L < 323 → F_X6_writeNumber_j32 (nI L) U (nI k) = if k < 10 then some (nI (L + 1), upd U L (nI (48 + k % 10))) else some (nI (L + 2), upd (upd U L (nI (48 + k / 10 % 10))) (L + 1) (nI (48 + k % 10))) := fun L U hL => by
    have e52 : ∀ L U, L < 324 → F_X6_writeNumber_j52 (nI L) U (nI k) = some (nI (L + 1), upd U L (nI (48 + k % 10))) := fun L U hL => by
      unfold F_X6_writeNumber_j52
      rw [zl_10, pk_rem (by omega) (by decide) (by decide), zl_48, nI_add, wr_c hL, obd_s]
    unfold F_X6_writeNumber_j32
    by_cases q : k < 10
    · rw [if_pos (show nI k < 10 from nI_lt (b := 10) q (by decide)), if_pos q, e52 _ _ (by omega)]
    · rw [if_neg (show ¬ nI k < 10 from nI_nlt (b := 10) (by omega) (by omega)), if_neg q, lt_eq, zl_10, pk_div (by omega) (by decide) (by decide), pk_rem (by omega) (by decide) (by decide), zl_48, nI_add, wr_c (by omega), obd_s]
      exact e52 (L + 1) _ (by omega)
  unfold F_X12_writesNumber_j21 F_X12_writesNumber_j24
  obtain ⟨n, rfl⟩ : ∃ n', n = n' + 4 := ⟨n - 4, by omega⟩
  have z1 : nI (1 / 10) = nI 0 := rfl
  by_cases q1 : k < 10
  · rw [if_pos (show nI k < 100 from nI_lt (b := 100) (by omega) (by decide)), e32 L U (by omega), if_pos q1]
    refine ⟨L + 1, _, upd V L (nI (48 + k / 1 % 10)), rfl, ?_, by rw [Nat.div_one]; exact h.up _, by omega⟩
    rw [show lpq (F_X12_writesNumber_b24 (nI k)) (n + 4) (100, nI L, V) = some (nI (L + 1), upd V L (nI (48 + k / 1 % 10))) from
      lpq_st (wb_skip (b := 100) (by omega) (by decide) (by decide)) (lpq_st (wb_skip (b := 10) (by omega) (by decide) (by decide)) (lpq_st (wb_put (b := 1) (Or.inr rfl) (by decide) (by decide) hk (by omega)) (lpq_en wb_end))), obd_s]
  · by_cases q2 : k < 100
    · rw [if_pos (show nI k < 100 from nI_lt (b := 100) (by omega) (by decide)), e32 L U (by omega), if_neg q1]
      refine ⟨L + 2, _, upd (upd V L (nI (48 + k / 10 % 10))) (L + 1) (nI (48 + k / 1 % 10)), rfl, ?_, by rw [Nat.div_one]; exact (h.up _).up _, by omega⟩
      rw [show lpq (F_X12_writesNumber_b24 (nI k)) (n + 4) (100, nI L, V) = some (nI (L + 2), upd (upd V L (nI (48 + k / 10 % 10))) (L + 1) (nI (48 + k / 1 % 10))) from
        lpq_st (wb_skip (b := 100) (by omega) (by decide) (by decide)) (lpq_st (wb_put (b := 10) (Or.inl (by omega)) (by decide) (by decide) hk (by omega)) (lpq_st (wb_put (b := 1) (Or.inr rfl) (by decide) (by decide) hk (by omega)) (lpq_en wb_end))), obd_s]
    · have hk : k = 100 := by omega
      subst hk
      rw [if_neg (show ¬ nI 100 < 100 from by decide), show (48 : Int32) + nI 100 / 100 = nI (48 + 100 / 100 % 10) from by decide, wr_c (by omega), obd_s]
      show ∃ L' U' V', F_X6_writeNumber_j32 (nI (L + 1)) (upd U L (nI (48 + 100 / 100 % 10))) (nI 100) = _ ∧ _
      rw [e32 (L + 1) _ (by omega), if_neg q1]
      refine ⟨L + 1 + 2, _, upd (upd (upd V L (nI (48 + 100 / 100 % 10))) (L + 1) (nI (48 + 100 / 10 % 10))) (L + 1 + 1) (nI (48 + 100 / 1 % 10)), rfl, ?_, by rw [Nat.div_one]; exact ((h.up _).up _).up _, by omega⟩
      rw [show lpq (F_X12_writesNumber_b24 (nI 100)) (n + 4) (100, nI L, V) = some (nI (L + 1 + 2), upd (upd (upd V L (nI (48 + 100 / 100 % 10))) (L + 1) (nI (48 + 100 / 10 % 10))) (L + 1 + 1) (nI (48 + 100 / 1 % 10))) from
        lpq_st (wb_put (b := 100) (Or.inl (by omega)) (by decide) (by decide) (by decide) (by omega)) (lpq_st (wb_put (b := 10) (Or.inl (by omega)) (by decide) (by decide) (by decide) (by omega)) (lpq_st (wb_put (b := 1) (Or.inr rfl) (by decide) (by decide) (by decide) (by omega)) (lpq_en wb_end))), obd_s]
theorem num_both {n : Nat} (hn : 1000 ≤ n) {L : Nat} {U V : Nat → Int32} {z : Int32} (hz : CO z) (hL : L + 4 ≤ 324) (h : SM1 L U V) :
    ∃ L' U' V', F_X6_writeNumber (nI L) U z = some (nI L', U') ∧ F_X12_writesNumber n (nI L) V z = some (nI L', V') ∧ SM1 L' U' V' ∧ L' ≤ L + 4 := by
  have e0 : (0 : Int32).toInt = 0 := by decide
  unfold CO at hz
  by_cases q : 0 ≤ z
  · have q2 := (fa_le _ _).mp q
    obtain ⟨k, k1, rfl⟩ := nn_i (x := z) (b := 100) (by omega) hz.2
    obtain ⟨L', U', V', e1, e2, e3, e4⟩ := dig_both hn (k := k) (by omega) (show L + 3 ≤ 324 by omega) h
    refine ⟨L', U', V', ?_, ?_, e3, by omega⟩
    · unfold F_X6_writeNumber F_X6_writeNumber_j10
      rw [if_pos q, if_pos q, lt_eq]; exact e1
    · unfold F_X12_writesNumber F_X12_writesNumber_j10
      rw [if_pos q, if_pos q]; exact e2
  · have q2 : z.toInt < 0 := by
      have : ¬ (0 : Int32).toInt ≤ z.toInt := fun w => q ((fa_le _ _).mpr w)
      omega
    obtain ⟨k, k1, hk⟩ := nn_i (x := -z) (b := 100) (by rw [fb_negI (by omega)]; omega) (by rw [fb_negI (by omega)]; omega)
    have hs : 0 - z = nI k := by rw [← hk]; grind
    obtain ⟨L', U', V', e1, e2, e3, e4⟩ := dig_both hn (k := k) (by omega) (show L + 1 + 3 ≤ 324 by omega) (h.up 45)
    refine ⟨L', U', V', ?_, ?_, e3, by omega⟩
    · unfold F_X6_writeNumber F_X6_writeNumber_j10
      rw [if_neg q, wr_c (by omega), obd_s, if_neg q, lt_eq, hs]; exact e1
    · unfold F_X12_writesNumber F_X12_writesNumber_j10
      rw [if_neg q, if_neg q, wr_m (by omega), obd_s, hk]; exact e2
theorem pt_both {n : Nat} (hn : 1000 ≤ n) {c m : Nat → Int32} {s q k : Nat} (hs : s < 4) (g : SP s q c m) (hk : k < q) {L : Nat} {U V : Nat → Int32} (hL : L + 10 ≤ 324) (h : SM1 L U V) (v : Int32) :
    ∃ L' U' V', F_X6_writeSubpath_j23 (nI L) U c (nI s) (nI k) v = some (.inl (nI (k + 1), nI L', U')) ∧ F_X12_written_j59 n (nI L) m V (nI s) (nI k) v = some (.inl (nI (k + 1), nI L', V')) ∧ SM1 L' U' V' ∧ L' ≤ L + 10 := by
  have h8 := g.2.1
  have x := g.xy hk
  obtain ⟨L1, U1, V1, a1, a2, a3, a4⟩ := num_both hn x.2.2.1 (show L + 1 + 4 ≤ 324 by omega) (h.up v)
  obtain ⟨L2, U2, V2, b1, b2, b3, b4⟩ := num_both hn x.2.2.2 (show L1 + 1 + 4 ≤ 324 by omega) (a3.up 44)
  refine ⟨L2, U2, V2, ?_, ?_, b3, by omega⟩
  · unfold F_X6_writeSubpath_j23
    rw [wr_c (by omega), obd_s, X1_x hs (by omega), obd_s, x.1]
    show obd (F_X6_writeNumber (nI (L + 1)) (upd U L v) _) _ = _
    rw [a1, obd_s]
    show obd (F_X6_write (nI L1) U1 44) _ = _
    rw [wr_c (by omega), obd_s, X1_y hs (by omega), obd_s, x.2.1]
    show obd (F_X6_writeNumber (nI (L1 + 1)) (upd U1 L1 44) _) _ = _
    rw [b1, obd_s, lt_eq, zl_1, nI_add]
  · unfold F_X12_written_j59
    rw [wr_m (by omega), obd_s, m_x hs (by omega), obd_s]
    show obd (F_X12_writesNumber n (nI (L + 1)) (upd V L v) _) _ = _
    rw [a2, obd_s]
    show obd (F_X12_writes (nI L1) V1 44) _ = _
    rw [wr_m (by omega), obd_s, m_y hs (by omega), obd_s]
    show obd (F_X12_writesNumber n (nI (L1 + 1)) (upd V1 L1 44) _) _ = _
    rw [b2, obd_s, lt_eq, zl_1, nI_add]
theorem sub_both {n : Nat} (hn : 1000 ≤ n) {N : Nat} {p : Nat → Nat} {c m : Nat → Int32} (hR : RW N p c m) {s : Nat} (hs : s < N) {L : Nat} {U V : Nat → Int32} (hL : L + 81 ≤ 324) (h : SM1 L U V) :
    ∃ L' U' V', F_X6_writeSubpath n (nI L) U c (nI s) = some (nI L', U') ∧ F_X12_written_j38 n (nI L) m V (nI s) 0 = some (.inl (nI (s + 1), nI L', V')) ∧ SM1 L' U' V' ∧ L' ≤ L + 81 := by
  have hN4 := hR.1
  have g := hR.sp hs
  have h8 := g.2.1
  unfold F_X6_writeSubpath F_X6_writeSubpath_j2 F_X12_written_j38
  obtain ⟨x, y, e1, e2, L1, U1, V1, e3, e4, e5, e6⟩ := lpq_t0 (b1 := F_X6_writeSubpath_b2 c (nI s)) (b2 := F_X12_written_b38 n m (nI s)) (n1 := n) (n2 := n) (s := (nI 0, nI L, U)) (t := (nI 0, nI L, V))
    (fun k s t => ∃ L' U' V', s = (nI k, nI L', U') ∧ t = (nI k, nI L', V') ∧ SM1 L' U' V' ∧ L' ≤ L + 10 * k)
    (fun x y => ∃ L' U' V', x = (nI L', U') ∧ y = (nI L', V') ∧ SM1 L' U' V' ∧ L' ≤ L + 10 * p s) (p s)
    (by
      rintro k s1 t1 hk ⟨L', U', V', rfl, rfl, h1, h2⟩
      obtain ⟨L2, U2, V2, a1, a2, a3, a4⟩ := pt_both hn (show s < 4 by omega) g hk (show L' + 10 ≤ 324 by omega) h1 (if k = 0 then 77 else 76)
      refine ⟨_, _, ?_, ?_, L2, U2, V2, rfl, rfl, a3, by omega⟩
      · unfold F_X6_writeSubpath_b2
        rw [X1_pts hR.c13 hs hN4, obd_s, g.pc]
        show (if nI (p s) ≤ nI k then _ else if nI k = 0 then F_X6_writeSubpath_j23 (nI L') U' c (nI s) (nI k) 77 else F_X6_writeSubpath_j23 (nI L') U' c (nI s) (nI k) 76) = _
        rw [if_neg (nI_ge hk (by omega))]
        by_cases q : k = 0
        · rw [if_pos (show nI k = 0 from by rw [q]; rfl)]; rw [if_pos q] at a1; exact a1
        · rw [if_neg (show ¬ nI k = 0 from nI_ne0 (by omega) (by omega))]; rw [if_neg q] at a1; exact a1
      · unfold F_X12_written_b38
        rw [m_pts (by omega), obd_s, g.pm]
        show (if nI (p s) ≤ nI k then _ else if nI k = 0 then F_X12_written_j59 n (nI L') m V' (nI s) (nI k) 77 else F_X12_written_j59 n (nI L') m V' (nI s) (nI k) 76) = _
        rw [if_neg (nI_ge hk (by omega))]
        by_cases q : k = 0
        · rw [if_pos (show nI k = 0 from by rw [q]; rfl)]; rw [if_pos q] at a2; exact a2
        · rw [if_neg (show ¬ nI k = 0 from nI_ne0 (by omega) (by omega))]; rw [if_neg q] at a2; exact a2)
    (by
      rintro s1 t1 ⟨L', U', V', rfl, rfl, h1, h2⟩
      refine ⟨_, _, ?_, ?_, L', U', V', rfl, rfl, h1, h2⟩
      · unfold F_X6_writeSubpath_b2
        rw [X1_pts hR.c13 hs hN4, obd_s, g.pc]
        exact if_pos (nI_le (Nat.le_refl _) (by omega))
      · unfold F_X12_written_b38
        rw [m_pts (by omega), obd_s, g.pm]
        exact if_pos (nI_le (Nat.le_refl _) (by omega)))
    (by omega) (by omega) ⟨L, U, V, rfl, rfl, h, by omega⟩
  subst e3
  subst e4
  rw [show (0 : Int32) = nI 0 from rfl, e1, e2, obd_s, obd_s]
  have hc1 : F_X1_isClosed c (nI s) = some (if m (15 + 18 * s) = 1 then 1 else 0) := by rw [X1_clo hR.c13 hs hN4, g.cl]
  have hc2 := m_clo (m := m) (s := s) (by omega)
  unfold F_X6_writeSubpath_j58 F_X12_written_j94 F_X12_written_j108
  rw [hc1, hc2, obd_s, obd_s]
  rcases g.bo with o | o
  · rw [o, if_neg (show ¬ (0 : Int32) = 1 from by decide)]
    refine ⟨L1, U1, V1, if_pos rfl, ?_, e5, by omega⟩
    rw [if_pos rfl, lt_eq, zl_1, nI_add]
  · rw [o, if_pos rfl]
    refine ⟨L1 + 1, upd U1 L1 90, upd V1 L1 90, ?_, ?_, e5.up _, by omega⟩
    · rw [if_neg (by decide), wr_c (by omega), obd_s]
    · rw [if_neg (by decide), wr_m (by omega), obd_s, lt_eq, zl_1, nI_add]
theorem path_both {n : Nat} (hn : 1000 ≤ n) {N : Nat} {p : Nat → Nat} {c m : Nat → Int32} (hR : RW N p c m) (U V : Nat → Int32) :
    ∃ L U' V', lpq (F_X6_byteOf_b7 n c) n (0, 0, U) = some (nI L, U') ∧ lpq (F_X12_written_b25 n m) n (0, 0, V) = some (nI L, V') ∧ SM1 L U' V' ∧ L ≤ 324 := by
  have hN4 := hR.1
  obtain ⟨x, y, e1, e2, L1, U1, V1, e3, e4, e5, e6⟩ := lpq_t0 (b1 := F_X6_byteOf_b7 n c) (b2 := F_X12_written_b25 n m) (n1 := n) (n2 := n) (s := (nI 0, nI 0, U)) (t := (nI 0, nI 0, V))
    (fun k s t => ∃ L' U' V', s = (nI k, nI L', U') ∧ t = (nI k, nI L', V') ∧ SM1 L' U' V' ∧ L' ≤ 81 * k)
    (fun x y => ∃ L' U' V', x = (nI L', U') ∧ y = (nI L', V') ∧ SM1 L' U' V' ∧ L' ≤ 324) N
    (by
      rintro k s1 t1 hk ⟨L', U', V', rfl, rfl, h1, h2⟩
      obtain ⟨L2, U2, V2, a1, a2, a3, a4⟩ := sub_both hn hR hk (show L' + 81 ≤ 324 by omega) h1
      refine ⟨(nI (k + 1), nI L2, U2), _, ?_, ?_, L2, U2, V2, rfl, rfl, a3, by omega⟩
      · unfold F_X6_byteOf_b7
        rw [X1_count, obd_s, hR.c13]
        show (if nI N ≤ nI k then _ else obd (F_X6_writeSubpath n (nI L') U' c (nI k)) _) = _
        rw [if_neg (nI_ge hk (by omega)), a1, obd_s, lt_eq]
        show some (Sum.inl (nI k + 1, nI L2, U2)) = _
        rw [zl_1, nI_add]
      · unfold F_X12_written_b25
        rw [gd_13, cl_13, hR.m13]
        show (if nI N ≤ nI k then _ else F_X12_written_j38 n (nI L') m V' (nI k) 0) = _
        rw [if_neg (nI_ge hk (by omega)), a2])
    (by
      rintro s1 t1 ⟨L', U', V', rfl, rfl, h1, h2⟩
      refine ⟨_, _, ?_, ?_, L', U', V', rfl, rfl, h1, by omega⟩
      · unfold F_X6_byteOf_b7
        rw [X1_count, obd_s, hR.c13]
        exact if_pos (nI_le (Nat.le_refl _) (by omega))
      · unfold F_X12_written_b25
        rw [gd_13, cl_13, hR.m13]
        exact if_pos (nI_le (Nat.le_refl _) (by omega)))
    (by omega) (by omega) ⟨0, U, V, rfl, rfl, fun i hi => absurd hi (by omega), by omega⟩
  subst e3
  subst e4
  exact ⟨L1, U1, V1, e1, e2, e5, e6⟩
theorem at_4 {N : Nat} {f : Nat → Int32} {i : Nat} (h : i < N) (hN : N < 2 ^ 31) : F_X4_at N f (nI i) = some (f i) := by
  unfold F_X4_at
  rw [if_neg (nI_pos (by omega)), if_neg (show ¬ Int32.ofNat N ≤ nI i from nI_ge h hN), gd_in h hN, nI_clamp (by omega)]
theorem at_4o {N : Nat} {f : Nat → Int32} {i : Nat} (h : N ≤ i) (hi : i < 2 ^ 31) : F_X4_at N f (nI i) = some 0 := by
  unfold F_X4_at F_X4_at_j16
  rw [if_neg (nI_pos (by omega)), if_pos (show Int32.ofNat N ≤ nI i from nI_le h hi)]
set_option maxHeartbeats 1000000 in
theorem ag_written {CA : Nat → (Nat → Nat) → (Nat → Int32) → SC → Prop} (hz : CAz CA) : Ag_written (Inv CA) := by
  unfold Ag_written
  intro d0 d1 d2 d3 d4 d5 d6 d7 d8 d9 d10 d11 d12 d13 d14 d15 d16 d17 d18 d19 d20 d21 d22 d23 d24 d25 d26 d27 d28 d29 d30 d31 d32 d33 d34 d35 d36 d37 d38 d39 d40 d41 d42 d43 d44 d45 d46 d47 d48 d49 d50 m0 m1 m2 m3 m4 m5 m6 m7 m8 m9 m10 m11 m12 m13 m14 m15 m16 m17 m18 m19 m20 m21 m22 m23 m24 m25 m26 m27 m28 m29 m30 p1 hI
  obtain ⟨N, p, hR, hH, hT, hC⟩ := Inv_un hI
  have hN4 := hR.1
  have c13 := hR.c13
  have m13 := hR.m13
  by_cases hx : 0 ≤ p1
  · obtain ⟨L, U, V, e1, e2, e3, e4⟩ := path_both (n := 1000) (by omega) hR d11 m30
    have neg : ¬ p1 < 0 := by
      rw [fa_lt]; have := (fa_le _ _).mp hx; omega
    rcases pk_ix p1 (n := L) (by omega) with q | q | ⟨j, hj, rfl⟩
    · exact absurd q neg
    · refine Or.inl ⟨1000, 1000, (-1, nI L, U), (-1, 0, nI L, V), ?_, ?_, rfl, rfl, Inv_mk hR hH hT hC⟩
      · unfold F_X11_written F_X6_byteOf F_X6_byteOf_j7
        rw [if_pos hx, e1, obd_s]
        unfold F_X6_byteOf_j27 F_X6_byteOf_j50
        rw [if_neg neg, if_pos q, obd_s]
      · unfold F_X12_written F_X12_written_j10 F_X12_written_j25
        rw [if_pos hx, rf_0, lt_eq, if_pos rfl, e2, obd_s]
        unfold F_X12_written_j114
        rw [if_pos q]
    · refine Or.inl ⟨1000, 1000, (U j, nI L, U), (U j, 0, nI L, V), ?_, ?_, rfl, rfl, Inv_mk hR hH hT hC⟩
      · unfold F_X11_written F_X6_byteOf F_X6_byteOf_j7
        rw [if_pos hx, e1, obd_s]
        unfold F_X6_byteOf_j27
        rw [if_neg neg, if_neg (nI_ge hj (by omega)), at_4 (by omega) (by decide), obd_s, obd_s]
      · unfold F_X12_written F_X12_written_j10 F_X12_written_j25
        rw [if_pos hx, rf_0, lt_eq, if_pos rfl, e2, obd_s]
        unfold F_X12_written_j114
        rw [if_neg (nI_ge hj (by omega)), gd_in (by omega) (by decide), nI_clamp (by omega), e3 j hj]
  · refine Or.inr ⟨0, 0, (1, d10, d11), (0, 1, m12, m30), ?_, rfl, ?_, rfl, Inv_mk hR hH hT hC⟩
    · unfold F_X11_written; rw [if_neg hx]
    · unfold F_X12_written F_X12_written_j10
      rw [if_neg hx, rf_1, lt_eq, if_neg (by decide)]
