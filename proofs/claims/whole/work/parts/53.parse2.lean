/-! ===== the path of a text ===== -/
def ov (c m : Nat → Int32) : Nat → Int32 := fun i => if i < 13 then m i else c i
theorem ov_hi {c m : Nat → Int32} {i : Nat} (h : 13 ≤ i) : ov c m i = c i := if_neg (by omega)
theorem ov_lo {c m : Nat → Int32} {i : Nat} (h : i < 13) : ov c m i = m i := if_pos h
/-- the class's draft and the reference's row, alike in the path; the style is that of m0 -/
def PW (m0 : Nat → Int32) (N : Nat) (p : Nat → Nat) (c m : Nat → Int32) : Prop := RW N p (ov c m) m ∧ ∀ i, i < 13 → m i = m0 i
section PP
variable {m0 c m : Nat → Int32} {N : Nat} {p : Nat → Nat}
theorem PW.c13 (h : PW m0 N p c m) : c 13 = nI N := by have := h.1.c13; rw [ov_hi (by omega)] at this; exact this
theorem PW.pc (h : PW m0 N p c m) {s : Nat} (hs : s < N) : c (14 + 18 * s) = nI (p s) := by have := (h.1.sp hs).pc; rw [ov_hi (by omega)] at this; exact this
theorem PW_start (h : PW m0 N p c m) (hN : N < 4) {x y : Int32} (hx : CO x) (hy : CO y) :
    ∃ U V p', F_X1_startSubpath c x y = some U ∧ F_X12_begins m x y = some V ∧ PW m0 (N + 1) p' U V ∧ p' N = 1 ∧ V (15 + 18 * N) = 0 := by
  refine ⟨_, _, _, st_c h.c13 hN, beg_m h.1.m13 hN, ⟨RW_start h.1 hN hx hy ?_ ?_ ?_ ?_ ?_ (fun i h1 h2 => ?_) ?_ ?_ ?_ ?_ ?_ (fun i h1 h2 => ?_), fun i hi => ?_⟩, if_pos rfl, ?_⟩
  · rw [ov_hi (by omega)]; simp (disch := omega) only [ud_n, ud_e]
  · rw [ov_hi (by omega)]; simp (disch := omega) only [ud_n, ud_e]
  · rw [ov_hi (by omega)]; simp (disch := omega) only [ud_n, ud_e]
  · rw [ov_hi (by omega)]; simp (disch := omega) only [ud_n, ud_e]
  · rw [ov_hi (by omega)]; simp (disch := omega) only [ud_n, ud_e]
  · by_cases q : i < 13
    · rw [ov_lo q, ov_lo q]; simp (disch := omega) only [ud_n]
    · rw [ov_hi (by omega), ov_hi (by omega)]; simp (disch := omega) only [ud_n]
  · simp (disch := omega) only [ud_n, ud_e]
  · simp (disch := omega) only [ud_n, ud_e]
  · simp (disch := omega) only [ud_n, ud_e]
  · simp (disch := omega) only [ud_n, ud_e]
  · simp (disch := omega) only [ud_n, ud_e]
  · simp (disch := omega) only [ud_n]
  · simp (disch := omega) only [ud_n]; exact h.2 i hi
  · simp (disch := omega) only [ud_n, ud_e]; rfl
theorem PW_add {l : Nat} (h : PW m0 (l + 1) p c m) (hk : p l < 8) {x y : Int32} (hx : CO x) (hy : CO y) :
    ∃ U V p', F_X1_addPoint c x y = some U ∧ F_X12_follows m x y = some V ∧ PW m0 (l + 1) p' U V ∧ p' l = p l + 1 ∧ V (15 + 18 * l) = m (15 + 18 * l) := by
  have h4 := h.1.1
  refine ⟨_, _, _, add_c h.c13 (by omega) (h.pc (by omega)) hk, fol_m h.1.m13 (by omega) (h.1.sp (by omega)).pm hk, ⟨(RW_add h.1 hk hx hy).i86 (fun i hi => ?_) (fun i hi => rfl), fun i hi => ?_⟩, if_pos rfl, ?_⟩
  · by_cases q : i < 13
    · rw [ov_lo q]; simp (disch := omega) only [ud_n]; rw [ov_lo q]
    · rw [ov_hi (by omega)]
      by_cases q1 : i = 14 + 18 * l
      · rw [ud_e q1, ud_e q1]
      · rw [ud_n q1, ud_n q1]
        by_cases q2 : i = 17 + 18 * l + 2 * p l
        · rw [ud_e q2, ud_e q2]
        · rw [ud_n q2, ud_n q2]
          by_cases q3 : i = 16 + 18 * l + 2 * p l
          · rw [ud_e q3, ud_e q3]
          · rw [ud_n q3, ud_n q3, ov_hi (by omega)]
  · simp (disch := omega) only [ud_n]; exact h.2 i hi
  · simp (disch := omega) only [ud_n]
theorem PW_close {l : Nat} (h : PW m0 (l + 1) p c m) (hl : l < 4) {v : Int32} (hv : v = 0 ∨ v = 1) : PW m0 (l + 1) p (upd c (15 + 18 * l) v) (upd m (15 + 18 * l) v) := by
  refine ⟨(RW_close h.1 hv).i86 (fun i hi => ?_) (fun i hi => rfl), fun i hi => by rw [ud_n (by omega)]; exact h.2 i hi⟩
  by_cases q : i < 13
  · rw [ov_lo q, ud_n (by omega), ud_n (by omega), ov_lo q]
  · rw [ov_hi (by omega)]
    by_cases q1 : i = 15 + 18 * l
    · rw [ud_e q1, ud_e q1]
    · rw [ud_n q1, ud_n q1, ov_hi (by omega)]
end PP
section PL
variable {m0 : Nat → Int32} {len : Nat} {bc bm : Nat → Int32}
/-- the points behind the first of a subpath -/
theorem points_rd (hl : len ≤ 150) (hb : ∀ i, i < len → bc i = bm i) {w : Nat} (hw : 1000 ≤ w) {l : Nat} :
    ∀ (j k a : Nat) (p : Nat → Nat) (c m : Nat → Int32) (rx ry r25 r26 : Int32) (f1 f2 : Nat), k + j = 8 → PW m0 (l + 1) p c m → p l = k → m (15 + 18 * l) = 0 → a ≤ len → j + 1 < f1 → j < f2 →
    ∃ at' fl' rx' ry' U, lpq (F_X5_readSubpath_b24 w (nI len) bc) f1 (nI k, nI a, -1, rx, ry, c) = some (at', fl', rx', ry', U) ∧
      ((∃ a2 V p' r25' r26', at' = nI a2 ∧ fl' = -1 ∧ lpq (F_X12_readsPath_b65 w (nI len) bm) f2 (nI a, r25, r26, m) = some (.inr (nI a2, r25', r26', V)) ∧ PW m0 (l + 1) p' U V ∧ V (15 + 18 * l) = 0 ∧ a ≤ a2 ∧ a2 ≤ len) ∨
       (∃ f r25' r26' V, fl' = nI f ∧ f ≤ len ∧ lpq (F_X12_readsPath_b65 w (nI len) bm) f2 (nI a, r25, r26, m) = some (.inl (nI f, r25', r26', V))) ∨
       (∃ f r25' r26' V p', fl' = nI f ∧ hit len bm f 76 ∧ lpq (F_X12_readsPath_b65 w (nI len) bm) f2 (nI a, r25, r26, m) = some (.inr (nI f, r25', r26', V)) ∧ PW m0 (l + 1) p' U V)) := by
  intro j
  induction j with
  | zero =>
    intro k a p c m rx ry r25 r26 f1 f2 hk hP hp ho ha h1 h2
    obtain rfl : k = 8 := by omega
    have h4 := hP.1.1
    obtain ⟨f1, rfl⟩ : ∃ f, f1 = f + 2 := ⟨f1 - 2, by omega⟩
    obtain ⟨f2, rfl⟩ : ∃ f, f2 = f + 1 := ⟨f2 - 1, by omega⟩
    have R : F_X12_readsPath_b65 w (nI len) bm (nI a, r25, r26, m) = some (.inr (.inr (nI a, r25, r26, m))) := by
      unfold F_X12_readsPath_b65
      show gd (decide (vpi 13 86)) (obd (F_X12_points m (m (13 : Int32).toNatClampNeg - 1)) _) = _
      rw [gd_13, cl_13, hP.1.m13, nI_pred, m_pts (by omega), obd_s, (hP.1.sp (s := l) (by omega)).pm, hp]
      exact if_pos (by decide)
    have B : F_X5_readSubpath_b24 w (nI len) bc (nI 8, nI a, -1, rx, ry, c) = obd (F_X5_next (nI len) (nI a) bc) (fun u_9 => if u_9 = 76 then some (.inl (nI 9, nI a, nI a, rx, ry, c)) else some (.inr (nI a, -1, rx, ry, c))) := by
      unfold F_X5_readSubpath_b24
      show (if (8 : Int32) < nI 8 then _ else if (-1 : Int32) = -1 then obd (F_X5_next (nI len) (nI a) bc) _ else _) = _
      rw [if_neg (by decide), if_pos rfl]
      rfl
    obtain ⟨v, v1, v2⟩ := nxt_is hl hb (a := a) (by omega) (w := 76) (by decide)
    rw [v1, obd_s] at B
    by_cases h : hit len bm a 76
    · rw [if_pos (v2.mpr h)] at B
      have B2 : F_X5_readSubpath_b24 w (nI len) bc (nI 9, nI a, nI a, rx, ry, c) = some (.inr (nI a, nI a, rx, ry, c)) := by
        unfold F_X5_readSubpath_b24
        exact if_pos (show (8 : Int32) < nI 9 from by decide)
      exact ⟨_, _, _, _, _, lpq_st B (lpq_en B2), Or.inr (Or.inr ⟨a, r25, r26, m, p, rfl, h, lpq_en R, hP⟩)⟩
    · rw [if_neg (fun q => h (v2.mp q))] at B
      exact ⟨_, _, _, _, _, lpq_en B, Or.inl ⟨a, m, p, r25, r26, rfl, rfl, lpq_en R, hP, ho, by omega, ha⟩⟩
  | succ j ih =>
    intro k a p c m rx ry r25 r26 f1 f2 hk hP hp ho ha h1 h2
    have h4 := hP.1.1
    obtain ⟨f1, rfl⟩ : ∃ f, f1 = f + 2 := ⟨f1 - 2, by omega⟩
    obtain ⟨f2, rfl⟩ : ∃ f, f2 = f + 1 := ⟨f2 - 1, by omega⟩
    have B : F_X5_readSubpath_b24 w (nI len) bc (nI k, nI a, -1, rx, ry, c) = obd (F_X5_next (nI len) (nI a) bc) (fun u_9 => if u_9 = 76 then obd (F_X5_readPoint w (nI len) (nI (a + 1)) (-1) bc) (fun u_13 => obd (F_X1_addPoint c u_13.2.2.1 u_13.2.2.2) (fun u_14 => some (.inl (nI (k + 1), u_13.1, u_13.2.1, u_13.2.2.1, u_13.2.2.2, u_14)))) else some (.inr (nI a, -1, rx, ry, c))) := by
      have E : F_X5_readSubpath_b24 w (nI len) bc (nI k, nI a, -1, rx, ry, c) = if (8 : Int32) < nI k then some (Sum.inr (nI a, -1, rx, ry, c)) else if (-1 : Int32) = -1 then obd (F_X5_next (nI len) (nI a) bc) (fun u_9 => if u_9 = 76 then (if (8 : Int32) ≤ nI k then F_X5_readSubpath_j90 (nI a) (nI a) rx ry c (nI k) else lt (nI a + 1) (fun y_12 => obd (F_X5_readPoint w (nI len) y_12 (-1) bc) (fun u_13 => obd (F_X1_addPoint c u_13.2.2.1 u_13.2.2.2) (fun u_14 => F_X5_readSubpath_j90 u_13.1 u_13.2.1 u_13.2.2.1 u_13.2.2.2 u_14 (nI k))))) else some (Sum.inr (nI a, -1, rx, ry, c))) else some (Sum.inr (nI a, -1, rx, ry, c)) := rfl
      rw [E, if_neg (show ¬ (8 : Int32) < nI k from nI_nlt (a := 8) (b := k) (by omega) (by decide)), if_pos rfl, if_neg (show ¬ (8 : Int32) ≤ nI k from nI_ge (b := 8) (by omega) (by decide))]
      unfold F_X5_readSubpath_j90
      simp only [lt_eq, zl_1, nI_add]
    have R : F_X12_readsPath_b65 w (nI len) bm (nI a, r25, r26, m) = obd (F_X12_passes (nI len) (nI a) bm 76) (fun u_10 => if u_10.1 = 0 then some (.inr (.inr (u_10.2, r25, r26, m))) else obd (F_X12_readsPoint w (nI len) u_10.2 r26 bm) (fun u_12 => if u_12.1 = 0 then some (.inr (.inl (u_12.2.1, u_12.2.2.1, u_12.2.2.2, m))) else obd (F_X12_follows m u_12.2.2.2 u_12.2.2.1) (fun u_14 => some (.inl (u_12.2.1, u_12.2.2.1, u_12.2.2.2, u_14))))) := by
      unfold F_X12_readsPath_b65
      show gd (decide (vpi 13 86)) (obd (F_X12_points m (m (13 : Int32).toNatClampNeg - 1)) _) = _
      rw [gd_13, cl_13, hP.1.m13, nI_pred, m_pts (by omega), obd_s, (hP.1.sp (s := l) (by omega)).pm, hp, if_neg (show ¬ (8 : Int32) ≤ nI k from nI_ge (b := 8) (by omega) (by decide))]
    obtain ⟨v, v1, v2⟩ := nxt_is hl hb (a := a) (by omega) (w := 76) (by decide)
    rw [v1, obd_s] at B
    by_cases h : hit len bm a 76
    · rw [if_pos (v2.mpr h)] at B
      rw [pass_y hl h, obd_s, if_neg (show ¬ (1 : Int32) = 0 from by decide)] at R
      rcases pnt_rd hl hb hw (show a + 1 ≤ len by have := h.1; omega) r26 with ⟨x, y, b, e1, e2, g1, g2, g3, g4⟩ | ⟨x, y, b, f, w1, w2, e1, e2, g3, g4⟩
      · rw [e1, obd_s] at B
        have R' : F_X12_readsPath_b65 w (nI len) bm (nI a, r25, r26, m) = obd (F_X12_follows m x y) (fun u_14 => some (.inl (nI b, y, x, u_14))) := by
          rw [R]
          show obd (F_X12_readsPoint w (nI len) (nI (a + 1)) r26 bm) _ = _
          rw [e2, obd_s]
          exact if_neg (show ¬ (1 : Int32) = 0 from by decide)
        obtain ⟨U, V, p', a1, a2, a3, a4, a5⟩ := PW_add hP (by omega) g1 g2
        rw [a2, obd_s] at R'
        have B' : F_X5_readSubpath_b24 w (nI len) bc (nI k, nI a, -1, rx, ry, c) = some (.inl (nI (k + 1), nI b, -1, x, y, U)) := by
          rw [B]
          show obd (F_X1_addPoint c x y) _ = _
          rw [a1]; rfl
        obtain ⟨at', fl', rx', ry', U', c1, c2⟩ := ih (k + 1) b p' U V x y y x (f1 + 1) f2 (by omega) a3 (by omega) (by rw [a5]; exact ho) g4 (by omega) (by omega)
        refine ⟨at', fl', rx', ry', U', lpq_st B' c1, ?_⟩
        rcases c2 with ⟨a2', V', p2, s1, s2, q1, q2, q3, q4, q5, q6, q7⟩ | ⟨f, s1, s2, V', q1, q2, q3⟩ | ⟨f, s1, s2, V', p2, q1, q2, q3, q4⟩
        · exact Or.inl ⟨a2', V', p2, s1, s2, q1, q2, lpq_st R' q3, q4, q5, by omega, q7⟩
        · exact Or.inr (Or.inl ⟨f, s1, s2, V', q1, q2, lpq_st R' q3⟩)
        · exact Or.inr (Or.inr ⟨f, s1, s2, V', p2, q1, q2, lpq_st R' q3, q4⟩)
      · rw [e1, obd_s] at B
        have R' : F_X12_readsPath_b65 w (nI len) bm (nI a, r25, r26, m) = some (.inr (.inl (nI f, w1, w2, m))) := by
          rw [R]
          show obd (F_X12_readsPoint w (nI len) (nI (a + 1)) r26 bm) _ = _
          rw [e2, obd_s]
          exact if_pos rfl
        have ad := add_c (x := x) (y := y) hP.c13 (show l < 4 by omega) (hP.pc (by omega)) (show p l < 8 by omega)
        obtain ⟨U, eU⟩ : ∃ U, F_X1_addPoint c x y = some U := ⟨_, ad⟩
        have B' : F_X5_readSubpath_b24 w (nI len) bc (nI k, nI a, -1, rx, ry, c) = some (.inl (nI (k + 1), b, nI f, x, y, U)) := by
          rw [B]
          show obd (F_X1_addPoint c x y) _ = _
          rw [eU]; rfl
        have B2 : F_X5_readSubpath_b24 w (nI len) bc (nI (k + 1), b, nI f, x, y, U) = some (.inr (b, nI f, x, y, U)) := by
          unfold F_X5_readSubpath_b24
          show (if (8 : Int32) < nI (k + 1) then _ else if nI f = -1 then _ else _) = _
          rw [if_neg (show ¬ (8 : Int32) < nI (k + 1) from nI_nlt (a := 8) (by omega) (by decide)), if_neg (m1_ne f (by omega))]
        exact ⟨_, _, _, _, _, lpq_st B' (lpq_en B2), Or.inr (Or.inl ⟨f, _, _, _, rfl, g4, lpq_en R'⟩)⟩
    · rw [if_neg (fun q => h (v2.mp q))] at B
      rw [pass_n hl (by omega) h, obd_s, if_pos rfl] at R
      exact ⟨_, _, _, _, _, lpq_en B, Or.inl ⟨a, m, p, r25, r26, rfl, rfl, lpq_en R, hP, ho, by omega, ha⟩⟩
theorem pnt_f {w : Nat} {a f : Int32} (hf : ¬ f = -1) : F_X5_readPoint w (nI len) a f bc = some (a, f, 0, 0) := by
  unfold F_X5_readPoint
  rw [rd_f hf, obd_s]
  show obd (F_X5_expect (nI len) a f bc 44) _ = _
  rw [exp_f hf, obd_s]
  show obd (F_X5_readNumber w (nI len) a f bc) _ = _
  rw [rd_f hf, obd_s]
theorem tail_f {w : Nat} (hw : 1000 ≤ w) {b f : Int32} (hf : ¬ f = -1) (x y : Int32) (U : Nat → Int32) : obd (lpq (F_X5_readSubpath_b24 w (nI len) bc) w (1, b, f, x, y, U)) (fun x_24 => F_X5_readSubpath_j96 (nI len) x_24.1 x_24.2.1 x_24.2.2.1 x_24.2.2.2.1 bc x_24.2.2.2.2) = some (b, f, x, y, U) := by
  obtain ⟨w', rfl⟩ : ∃ w', w = w' + 1 := ⟨w - 1, by omega⟩
  have B2 : F_X5_readSubpath_b24 (w' + 1) (nI len) bc (1, b, f, x, y, U) = some (.inr (b, f, x, y, U)) := by
    unfold F_X5_readSubpath_b24
    show (if (8 : Int32) < 1 then _ else if f = -1 then _ else _) = _
    rw [if_neg (by decide), if_neg hf]
  rw [lpq_en B2, obd_s]
  unfold F_X5_readSubpath_j96
  exact if_neg hf
/-- one subpath: read by both; or a fault at the same place, in the reference's step or in its next -/
theorem sub_rd (hl : len ≤ 150) (hb : ∀ i, i < len → bc i = bm i) {w : Nat} (hw : 1000 ≤ w) {N a : Nat} {p : Nat → Nat} {c m : Nat → Int32} (r25 r26 : Int32) (hN : N < 4) (hP : PW m0 N p c m) (ha : a < len) :
    ∃ at' fl' rx' ry' U, F_X5_readSubpath w (nI len) (nI a) (-1) bc c = some (at', fl', rx', ry', U) ∧
      ((∃ a2 V p' r25' r26', at' = nI a2 ∧ fl' = -1 ∧ F_X12_readsPath_b13 w (nI len) bm (nI a, r25, r26, m) = some (.inl (nI a2, r25', r26', V)) ∧ PW m0 (N + 1) p' U V ∧ a2 ≤ len) ∨
       (∃ f r25' r26' V, fl' = nI f ∧ f ≤ len ∧ (F_X12_readsPath_b13 w (nI len) bm (nI a, r25, r26, m) = some (.inr (.inl (nI f, r25', r26', V))) ∨ F_X12_readsPath_b13 w (nI len) bm (nI a, r25, r26, m) = some (.inr (.inr (.inl (nI f, r25', r26', V)))))) ∨
       (∃ f r25' r26' V, fl' = nI f ∧ hit len bm f 76 ∧ F_X12_readsPath_b13 w (nI len) bm (nI a, r25, r26, m) = some (.inl (nI f, r25', r26', V)) ∧ V 13 = nI (N + 1))) := by
  have R : F_X12_readsPath_b13 w (nI len) bm (nI a, r25, r26, m) = obd (F_X12_passes (nI len) (nI a) bm 77) (fun u_18 => if u_18.1 = 0 then some (.inr (.inl (u_18.2, r25, r26, m))) else obd (F_X12_readsPoint w (nI len) u_18.2 r26 bm) (fun u_20 => if u_20.1 = 0 then some (.inr (.inl (u_20.2.1, u_20.2.2.1, u_20.2.2.2, m))) else obd (F_X12_begins m u_20.2.2.2 u_20.2.2.1) (fun u_22 => F_X12_readsPath_j65 w (nI len) u_20.2.1 u_20.2.2.1 u_20.2.2.2 u_22 bm))) := by
    unfold F_X12_readsPath_b13
    show (if nI len ≤ nI a then _ else gd (decide (vpi 13 86)) (if m (13 : Int32).toNatClampNeg = 4 then _ else _)) = _
    rw [if_neg (nI_ge ha (by omega)), gd_13, cl_13, hP.1.m13, if_neg (show ¬ nI N = 4 from nI_ne (b := 4) (by omega) (by omega) (by decide))]
  unfold F_X5_readSubpath F_X5_readSubpath_j24
  by_cases h : hit len bm a 77
  · rw [pass_y hl h, obd_s, if_neg (show ¬ (1 : Int32) = 0 from by decide)] at R
    rw [exp_y hl hb h, obd_s]
    rcases pnt_rd hl hb hw (show a + 1 ≤ len by omega) r26 with ⟨x, y, b, e1, e2, g1, g2, g3, g4⟩ | ⟨x, y, b, f, w1, w2, e1, e2, g3, g4⟩
    · obtain ⟨U, V, p', a1, a2, a3, a4, a5⟩ := PW_start hP hN g1 g2
      have R' : F_X12_readsPath_b13 w (nI len) bm (nI a, r25, r26, m) = F_X12_readsPath_j65 w (nI len) (nI b) y x V bm := by
        rw [R]
        show obd (F_X12_readsPoint w (nI len) (nI (a + 1)) r26 bm) _ = _
        rw [e2, obd_s, if_neg (show ¬ (1 : Int32) = 0 from by decide)]
        show obd (F_X12_begins m x y) _ = _
        rw [a2, obd_s]
      obtain ⟨at', fl', rx', ry', U', c1, c2⟩ := points_rd (m0 := m0) hl hb hw (l := N) 7 1 b p' U V x y y x w w (by omega) a3 a4 a5 g4 (by omega) (by omega)
      have C : obd (F_X5_readPoint w (nI len) (nI (a + 1), (-1 : Int32)).1 (nI (a + 1), (-1 : Int32)).2 bc) (fun u_16 => obd (F_X1_startSubpath c u_16.2.2.1 u_16.2.2.2) (fun u_17 => obd (lpq (F_X5_readSubpath_b24 w (nI len) bc) w (1, u_16.1, u_16.2.1, u_16.2.2.1, u_16.2.2.2, u_17)) (fun x_24 => F_X5_readSubpath_j96 (nI len) x_24.1 x_24.2.1 x_24.2.2.1 x_24.2.2.2.1 bc x_24.2.2.2.2))) = F_X5_readSubpath_j96 (nI len) at' fl' rx' ry' bc U' := by
        show obd (F_X5_readPoint w (nI len) (nI (a + 1)) (-1) bc) _ = _
        rw [e1, obd_s]
        show obd (F_X1_startSubpath c x y) _ = _
        rw [a1, obd_s]
        show obd (lpq (F_X5_readSubpath_b24 w (nI len) bc) w (nI 1, nI b, -1, x, y, U)) _ = _
        rw [c1]; rfl
      rw [C]
      unfold F_X5_readSubpath_j96
      rcases c2 with ⟨a2', V', p2, s1, s2, rfl, rfl, q3, q4, q5, q6, q7⟩ | ⟨f, s1, s2, V', rfl, q2, q3⟩ | ⟨f, s1, s2, V', p2, rfl, q2, q3, q4⟩
      · have R2 : F_X12_readsPath_b13 w (nI len) bm (nI a, r25, r26, m) = F_X12_readsPath_j116 (nI len) (nI a2') s1 s2 V' bm := by
          rw [R']
          unfold F_X12_readsPath_j65
          rw [q3]; rfl
        rw [if_pos rfl]
        obtain ⟨v, v1, v2⟩ := nxt_is hl hb (a := a2') (by omega) (w := 90) (by decide)
        rw [v1, obd_s]
        have j116 : ∀ o b2, F_X12_passes (nI len) (nI a2') bm 90 = some (o, b2) → (o = 0 ∨ o = 1) → F_X12_readsPath_j116 (nI len) (nI a2') s1 s2 V' bm = some (.inl (b2, s1, s2, upd V' (15 + 18 * N) o)) := fun o b2 he ho => by
          unfold F_X12_readsPath_j116 F_X12_readsPath_j148
          rw [gd_13, cl_13, q4.1.m13, nI_pred, at_12, lt_eq, he, obd_s, zl_1, nI_add]
          rcases ho with rfl | rfl
          · rw [if_pos rfl, gd_in (by omega) (by decide), nI_clamp (by omega), lt_eq, show 14 + 18 * N + 1 = 15 + 18 * N from by omega]
          · rw [if_neg (show ¬ (1 : Int32) = 0 from by decide), gd_in (by omega) (by decide), nI_clamp (by omega), lt_eq, show 14 + 18 * N + 1 = 15 + 18 * N from by omega]; rfl
        by_cases hz : hit len bm a2' 90
        · rw [if_pos (v2.mpr hz), lt_eq, cls_c q4.c13 (by omega), obd_s, zl_1, nI_add]
          rw [j116 1 (nI (a2' + 1)) (pass_y hl hz) (Or.inr rfl)] at R2
          exact ⟨_, _, _, _, _, rfl, Or.inl ⟨a2' + 1, _, p2, s1, s2, rfl, rfl, R2, PW_close q4 hN (Or.inr rfl), by have := hz.1; omega⟩⟩
        · rw [if_neg (fun q => hz (v2.mp q))]
          rw [j116 0 (nI a2') (pass_n hl (by omega) hz) (Or.inl rfl)] at R2
          refine ⟨_, _, _, _, _, rfl, Or.inl ⟨a2', _, p2, s1, s2, rfl, rfl, R2, ⟨q4.1.i86 (fun i hi => ?_) (fun i hi => ?_), fun i hi => by rw [ud_n (by omega)]; exact q4.2 i hi⟩, q7⟩⟩
          · by_cases z : i < 13
            · rw [ov_lo z, ov_lo z, ud_n (by omega)]
            · rw [ov_hi (by omega), ov_hi (by omega)]
          · by_cases z : i = 15 + 18 * N
            · rw [z, ud_e rfl, q5]
            · rw [ud_n z]
      · rw [if_neg (m1_ne f (by omega))]
        have R2 : F_X12_readsPath_b13 w (nI len) bm (nI a, r25, r26, m) = some (.inr (.inr (.inl (nI f, s1, s2, V')))) := by
          rw [R']
          unfold F_X12_readsPath_j65
          rw [q3]; rfl
        exact ⟨_, _, _, _, _, rfl, Or.inr (Or.inl ⟨f, s1, s2, V', rfl, q2, Or.inr R2⟩)⟩
      · have hf : f < len := q2.1
        rw [if_neg (m1_ne f (by omega))]
        have nz : ¬ hit len bm f 90 := fun z => absurd (q2.2.symm.trans z.2) (by decide)
        have R2 : F_X12_readsPath_b13 w (nI len) bm (nI a, r25, r26, m) = some (.inl (nI f, s1, s2, upd V' (15 + 18 * N) 0)) := by
          rw [R']
          unfold F_X12_readsPath_j65
          rw [q3]
          show F_X12_readsPath_j116 (nI len) (nI f) s1 s2 V' bm = _
          unfold F_X12_readsPath_j116 F_X12_readsPath_j148
          rw [gd_13, cl_13, q4.1.m13, nI_pred, at_12, lt_eq, pass_n hl (by omega) nz, obd_s, zl_1, nI_add, if_pos rfl, gd_in (by omega) (by decide), nI_clamp (by omega), lt_eq, show 14 + 18 * N + 1 = 15 + 18 * N from by omega]
        exact ⟨_, _, _, _, _, rfl, Or.inr (Or.inr ⟨f, s1, s2, _, rfl, q2, R2, by rw [ud_n (by omega)]; exact q4.1.m13⟩)⟩
    · obtain ⟨U, eU⟩ : ∃ U, F_X1_startSubpath c x y = some U := ⟨_, st_c hP.c13 hN⟩
      refine ⟨b, nI f, x, y, U, ?_, Or.inr (Or.inl ⟨f, w1, w2, m, rfl, g4, Or.inl ?_⟩)⟩
      · show obd (F_X5_readPoint w (nI len) (nI (a + 1)) (-1) bc) _ = _
        rw [e1, obd_s]
        show obd (F_X1_startSubpath c x y) _ = _
        rw [eU, obd_s]
        exact tail_f hw (m1_ne f (by omega)) x y U
      · rw [R]
        show obd (F_X12_readsPoint w (nI len) (nI (a + 1)) r26 bm) _ = _
        rw [e2]; rfl
  · obtain ⟨U, eU⟩ : ∃ U, F_X1_startSubpath c 0 0 = some U := ⟨_, st_c hP.c13 hN⟩
    rw [pass_n hl (by omega) h, obd_s, if_pos rfl] at R
    refine ⟨nI a, nI a, 0, 0, U, ?_, Or.inr (Or.inl ⟨a, r25, r26, m, rfl, by omega, Or.inl R⟩)⟩
    rw [exp_n hl hb (by omega) (by decide) h, obd_s]
    show obd (F_X5_readPoint w (nI len) (nI a) (nI a) bc) _ = _
    rw [pnt_f (m1_ne a (by omega)), obd_s]
    show obd (F_X1_startSubpath c 0 0) _ = _
    rw [eU, obd_s]
    exact tail_f hw (m1_ne a (by omega)) 0 0 U
/-- the whole path -/
theorem path_rd (hl : len ≤ 150) (hb : ∀ i, i < len → bc i = bm i) {w : Nat} (hw : 1000 ≤ w) :
    ∀ (j N a : Nat) (p : Nat → Nat) (c m : Nat → Int32) (rx ry r25 r26 : Int32) (f1 f2 : Nat), N + j = 4 → PW m0 N p c m → a ≤ len → j + 2 < f1 → j + 2 < f2 →
    ∃ at' fl' rx' ry' U, lpq (F_X5_readPath_b16 w (nI len) bc) f1 (nI N, nI a, -1, rx, ry, c) = some (at', fl', rx', ry', U) ∧
      ((∃ sp n25 n26 V N' p', fl' = -1 ∧ lpq (F_X12_readsPath_b13 w (nI len) bm) f2 (nI a, r25, r26, m) = some (.inr (.inr (sp, n25, n26, V))) ∧ PW m0 N' p' U V) ∨
       (∃ f n25 n26 V, fl' = nI f ∧ f ≤ len ∧ (lpq (F_X12_readsPath_b13 w (nI len) bm) f2 (nI a, r25, r26, m) = some (.inl (nI f, n25, n26, V)) ∨ lpq (F_X12_readsPath_b13 w (nI len) bm) f2 (nI a, r25, r26, m) = some (.inr (.inl (nI f, n25, n26, V)))))) := by
  have faulted : ∀ (k : Nat) (at' : Int32) (f : Nat) (rx ry : Int32) (U : Nat → Int32), k ≤ 5 → f ≤ len → F_X5_readPath_b16 w (nI len) bc (nI k, at', nI f, rx, ry, U) = some (.inr (at', nI f, rx, ry, U)) := fun k at' f rx ry U hk hf => by
    have E : F_X5_readPath_b16 w (nI len) bc (nI k, at', nI f, rx, ry, U) = if (4 : Int32) < nI k then some (Sum.inr (at', nI f, rx, ry, U)) else if nI f = -1 then (if nI len ≤ at' then some (Sum.inr (at', nI f, rx, ry, U)) else if (4 : Int32) ≤ nI k then F_X5_readPath_j61 at' at' rx ry U (nI k) else obd (F_X5_readSubpath w (nI len) at' (nI f) bc U) (fun u_6 => F_X5_readPath_j61 u_6.1 u_6.2.1 u_6.2.2.1 u_6.2.2.2.1 u_6.2.2.2.2 (nI k))) else some (Sum.inr (at', nI f, rx, ry, U)) := rfl
    rw [E, if_neg (m1_ne f (by omega))]
    by_cases q : (4 : Int32) < nI k
    · rw [if_pos q]
    · rw [if_neg q]
  intro j
  induction j with
  | zero =>
    intro N a p c m rx ry r25 r26 f1 f2 hN hP ha h1 h2
    obtain rfl : N = 4 := by omega
    obtain ⟨f1, rfl⟩ : ∃ f, f1 = f + 2 := ⟨f1 - 2, by omega⟩
    obtain ⟨f2, rfl⟩ : ∃ f, f2 = f + 1 := ⟨f2 - 1, by omega⟩
    have E : F_X5_readPath_b16 w (nI len) bc (nI 4, nI a, -1, rx, ry, c) = if (4 : Int32) < nI 4 then some (Sum.inr (nI a, -1, rx, ry, c)) else if (-1 : Int32) = -1 then (if nI len ≤ nI a then some (Sum.inr (nI a, -1, rx, ry, c)) else if (4 : Int32) ≤ nI 4 then F_X5_readPath_j61 (nI a) (nI a) rx ry c (nI 4) else obd (F_X5_readSubpath w (nI len) (nI a) (-1) bc c) (fun u_6 => F_X5_readPath_j61 u_6.1 u_6.2.1 u_6.2.2.1 u_6.2.2.2.1 u_6.2.2.2.2 (nI 4))) else some (Sum.inr (nI a, -1, rx, ry, c)) := rfl
    rw [if_neg (by decide), if_pos rfl] at E
    by_cases q : a < len
    · rw [if_neg (nI_ge q (by omega)), if_pos (by decide)] at E
      have E' : F_X5_readPath_b16 w (nI len) bc (nI 4, nI a, -1, rx, ry, c) = some (.inl (nI 5, nI a, nI a, rx, ry, c)) := E
      have R : F_X12_readsPath_b13 w (nI len) bm (nI a, r25, r26, m) = some (.inr (.inl (nI a, r25, r26, m))) := by
        unfold F_X12_readsPath_b13
        show (if nI len ≤ nI a then _ else gd (decide (vpi 13 86)) (if m (13 : Int32).toNatClampNeg = 4 then _ else _)) = _
        rw [if_neg (nI_ge q (by omega)), gd_13, cl_13, hP.1.m13]
        exact if_pos rfl
      exact ⟨_, _, _, _, _, lpq_st E' (lpq_en (faulted 5 _ a _ _ _ (by omega) (by omega))), Or.inr ⟨a, r25, r26, m, rfl, by omega, Or.inl (lpq_en R)⟩⟩
    · rw [if_pos (nI_le (by omega) (by omega))] at E
      have R : F_X12_readsPath_b13 w (nI len) bm (nI a, r25, r26, m) = some (.inr (.inr (.inr (nI a, r25, r26, m)))) := by
        unfold F_X12_readsPath_b13
        exact if_pos (nI_le (by omega) (by omega))
      exact ⟨_, _, _, _, _, lpq_en E, Or.inl ⟨_, _, _, m, 4, p, rfl, lpq_en R, hP⟩⟩
  | succ j ih =>
    intro N a p c m rx ry r25 r26 f1 f2 hN hP ha h1 h2
    obtain ⟨f1, rfl⟩ : ∃ f, f1 = f + 2 := ⟨f1 - 2, by omega⟩
    obtain ⟨f2, rfl⟩ : ∃ f, f2 = f + 2 := ⟨f2 - 2, by omega⟩
    have E : F_X5_readPath_b16 w (nI len) bc (nI N, nI a, -1, rx, ry, c) = if (4 : Int32) < nI N then some (Sum.inr (nI a, -1, rx, ry, c)) else if (-1 : Int32) = -1 then (if nI len ≤ nI a then some (Sum.inr (nI a, -1, rx, ry, c)) else if (4 : Int32) ≤ nI N then F_X5_readPath_j61 (nI a) (nI a) rx ry c (nI N) else obd (F_X5_readSubpath w (nI len) (nI a) (-1) bc c) (fun u_6 => F_X5_readPath_j61 u_6.1 u_6.2.1 u_6.2.2.1 u_6.2.2.2.1 u_6.2.2.2.2 (nI N))) else some (Sum.inr (nI a, -1, rx, ry, c)) := rfl
    rw [if_neg (show ¬ (4 : Int32) < nI N from nI_nlt (a := 4) (by omega) (by decide)), if_pos rfl] at E
    by_cases q : a < len
    · rw [if_neg (nI_ge q (by omega)), if_neg (show ¬ (4 : Int32) ≤ nI N from nI_ge (b := 4) (by omega) (by decide))] at E
      obtain ⟨at', fl', rx', ry', U, c1, c2⟩ := sub_rd (m0 := m0) hl hb hw r25 r26 (show N < 4 by omega) hP q
      have E' : F_X5_readPath_b16 w (nI len) bc (nI N, nI a, -1, rx, ry, c) = some (.inl (nI (N + 1), at', fl', rx', ry', U)) := by
        rw [E, c1, obd_s]
        unfold F_X5_readPath_j61
        rw [lt_eq, zl_1, nI_add]
      rcases c2 with ⟨a2, V, p', s1, s2, rfl, rfl, q3, q4, q5⟩ | ⟨f, s1, s2, V, rfl, q2, q3⟩ | ⟨f, s1, s2, V, rfl, q2, q3, q4⟩
      · obtain ⟨at2, fl2, rx2, ry2, U2, d1, d2⟩ := ih (N + 1) a2 p' U V rx' ry' s1 s2 (f1 + 1) (f2 + 1) (by omega) q4 q5 (by omega) (by omega)
        refine ⟨at2, fl2, rx2, ry2, U2, lpq_st E' d1, ?_⟩
        rcases d2 with ⟨sp, n25, n26, V2, N', p2, g1, g2, g3⟩ | ⟨f, n25, n26, V2, g1, g2, g3⟩
        · exact Or.inl ⟨sp, n25, n26, V2, N', p2, g1, lpq_st q3 g2, g3⟩
        · refine Or.inr ⟨f, n25, n26, V2, g1, g2, ?_⟩
          rcases g3 with g3 | g3
          · exact Or.inl (lpq_st q3 g3)
          · exact Or.inr (lpq_st q3 g3)
      · refine ⟨_, _, _, _, _, lpq_st E' (lpq_en (faulted (N + 1) _ f _ _ _ (by omega) q2)), Or.inr ⟨f, s1, s2, V, rfl, q2, ?_⟩⟩
        rcases q3 with q3 | q3
        · exact Or.inl (lpq_en q3)
        · exact Or.inr (lpq_en q3)
      · have hf : f < len := q2.1
        have R2 : F_X12_readsPath_b13 w (nI len) bm (nI f, s1, s2, V) = some (.inr (.inl (nI f, s1, s2, V))) := by
          unfold F_X12_readsPath_b13
          show (if nI len ≤ nI f then _ else gd (decide (vpi 13 86)) (if V (13 : Int32).toNatClampNeg = 4 then _ else obd (F_X12_passes (nI len) (nI f) bm 77) _)) = _
          rw [if_neg (nI_ge hf (by omega)), gd_13, cl_13, q4]
          by_cases z : N + 1 = 4
          · rw [z]; exact if_pos rfl
          · rw [if_neg (show ¬ nI (N + 1) = 4 from nI_ne (b := 4) z (by omega) (by decide)), pass_n hl (by omega) (fun h => absurd (q2.2.symm.trans h.2) (by decide)), obd_s]
            exact if_pos rfl
        exact ⟨_, _, _, _, _, lpq_st E' (lpq_en (faulted (N + 1) _ f _ _ _ (by omega) (by omega))), Or.inr ⟨f, s1, s2, V, rfl, by omega, Or.inl (lpq_st q3 (lpq_en R2))⟩⟩
    · rw [if_pos (nI_le (by omega) (by omega))] at E
      have R : F_X12_readsPath_b13 w (nI len) bm (nI a, r25, r26, m) = some (.inr (.inr (.inr (nI a, r25, r26, m)))) := by
        unfold F_X12_readsPath_b13
        exact if_pos (nI_le (by omega) (by omega))
      exact ⟨_, _, _, _, _, lpq_en E, Or.inl ⟨_, _, _, m, N, p, rfl, lpq_en R, hP⟩⟩
end PL
