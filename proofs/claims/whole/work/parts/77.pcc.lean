/-! ===== the class adds the pieces ===== -/
/-- a bevel in the class -/
theorem three_c {w x0 y0 x1 y1 x2 y2 : Int32} {K X Y : Nat → Int32} {l : List Pc} (hl : l.length < 2800) (h : HoP l K X Y) :
    ∃ K' X' Y', obd (F_X7_start (nI l.length) w K 2) (fun u => obd (F_X7_addCorner u.1 u.2.1 X Y x0 y0) (fun u_4 => obd (F_X7_addCorner u.1 u_4.1 u_4.2.1 u_4.2.2 x1 y1) (fun u_5 => obd (F_X7_addCorner u.1 u_5.1 u_5.2.1 u_5.2.2 x2 y2) (fun u_6 => some (u.1, u_6.1, u.2.2, u_6.2.1, u_6.2.2))))) =
      some (nI (l ++ [((2, f4 x0 x1 x2 0, f4 y0 y1 y2 0) : Pc)]).length, nI 3, K', X', Y') ∧ HoP (l ++ [(2, f4 x0 x1 x2 0, f4 y0 y1 y2 0)]) K' X' Y' := by
  refine ⟨upd K l.length (nI 2), upd (upd (upd X (4 * l.length + 0) x0) (4 * l.length + 1) x1) (4 * l.length + 2) x2, upd (upd (upd Y (4 * l.length + 0) y0) (4 * l.length + 1) y1) (4 * l.length + 2) y2, ?_, h.nx _ (by show 2 ≤ 4; omega) (ud_e rfl) (fun c hc => ?_) (fun i hi => ud_n (by omega)) (fun i hi => ?_)⟩
  · rw [zl_2, pst_c hl, obd_s]
    show obd (F_X7_addCorner (nI (l.length + 1)) (nI 0) X Y x0 y0) _ = _
    rw [pco_c hl (by omega), obd_s]
    show obd (F_X7_addCorner (nI (l.length + 1)) (nI 1) _ _ x1 y1) _ = _
    rw [pco_c hl (by omega), obd_s]
    show obd (F_X7_addCorner (nI (l.length + 1)) (nI 2) _ _ x2 y2) _ = _
    rw [pco_c hl (by omega), obd_s, List.length_append]; rfl
  · have hc : c < 3 := hc
    have hc4 : c = 0 ∨ c = 1 ∨ c = 2 := by omega
    rcases hc4 with rfl | rfl | rfl <;> simp (disch := omega) only [ud_n, ud_e] <;> exact ⟨rfl, rfl⟩
  · simp (disch := omega) only [ud_n]; exact ⟨trivial, trivial⟩
theorem obd_id {α β γ : Type} (x : Option (α × β × γ)) : obd x (fun u => some (u.1, u.2.1, u.2.2)) = x := by
  cases x <;> rfl
section PCC
variable {N : Nat} {p : Nat → Nat} {c m : Nat → Int32} {d17 : Int32} {d18 d19 d20 d21 d22 d23 d24 d25 d26 d27 : Nat → Int32} {s g k g1 g2 k1 k2 : Nat} {l : List Pc} {K X Y : Nat → Int32}
theorem MS.nx (hR : RW N p c m) (h : MS N p m d17 d18 d19 d20 d21 d22 d23 d24 d25 d26 d27) (hs : s < 4) (hg : (sg N p m s)[g]? = some k) :
    F_X9_normalX d24 (nI (SF N p m s + g)) = some (nrX m s (p s) k) ∧ F_X9_normalY d25 (nI (SF N p m s + g)) = some (nrY m s (p s) k) ∧ F_X9_alongX d26 (nI (SF N p m s + g)) = some (nrY m s (p s) k) ∧ F_X9_alongY d27 (nI (SF N p m s + g)) = some (alY m s (p s) k) := by
  have hb := SF_g hR hs hg
  have ha := h.at hs hg
  unfold F_X9_normalX F_X9_normalY F_X9_alongX F_X9_alongY
  rw [at_in hb (by decide), at_in hb (by decide), at_in hb (by decide), at_in hb (by decide), obd_s, obd_s, obd_s, obd_s, ha.2.2.2.2.2.1, ha.2.2.2.2.2.2.1, ha.2.2.2.2.2.2.2.1, ha.2.2.2.2.2.2.2.2]
  exact ⟨rfl, rfl, rfl, rfl⟩
theorem MS.cr (hR : RW N p c m) (h : MS N p m d17 d18 d19 d20 d21 d22 d23 d24 d25 d26 d27) (hs : s < 4) (h1 : (sg N p m s)[g1]? = some k1) (h2 : (sg N p m s)[g2]? = some k2) :
    F_X9_cross d21 d22 (nI (SF N p m s + g1)) (nI (SF N p m s + g2)) = some (lI (crs m s (p s) k1 k2)) ∧ F_X9_dot d21 d22 (nI (SF N p m s + g1)) (nI (SF N p m s + g2)) = some (lI (dtp m s (p s) k1 k2)) := by
  have b1 := SF_g hR hs h1
  have b2 := SF_g hR hs h2
  have a1 := h.at hs h1
  have a2 := h.at hs h2
  unfold F_X9_cross F_X9_dot
  refine ⟨?_, ?_⟩
  · rw [at_in b1 (by decide), obd_s, at_in b2 (by decide), obd_s, at_in b1 (by decide), obd_s, at_in b2 (by decide), obd_s, a1.2.2.1, a1.2.2.2.1, a2.2.2.1, a2.2.2.2.1, ii_w' (sgx m s (p s) k1), ii_w' (sgy m s (p s) k2), ii_w' (sgy m s (p s) k1), ii_w' (sgx m s (p s) k2), li_mul, li_mul, li_sub]; rfl
  · rw [at_in b1 (by decide), obd_s, at_in b2 (by decide), obd_s, at_in b1 (by decide), obd_s, at_in b2 (by decide), obd_s, a1.2.2.1, a1.2.2.2.1, a2.2.2.1, a2.2.2.2.1, ii_w' (sgx m s (p s) k1), ii_w' (sgy m s (p s) k2), ii_w' (sgy m s (p s) k1), ii_w' (sgx m s (p s) k2), li_mul, li_mul, li_add]; rfl
/-- a span of the class -/
def SPN (N : Nat) (p : Nat → Nat) (m : Nat → Int32) (s : Nat) (ss sf st : Nat → Int32) (x : Nat) (z : Cut) : Prop := x < 1024 ∧ ss x = nI (SF N p m s + z.1) ∧ sf x = nI z.2.1 ∧ st x = nI z.2.2 ∧ z.2.1 ≤ 18101 ∧ z.2.2 ≤ 18101
theorem strip_c (hR : RW N p c m) (h : MS N p m d17 d18 d19 d20 d21 d22 d23 d24 d25 d26 d27) (hs : s < 4) {z : Cut} (hg : (sg N p m s)[z.1]? = some k) {ss sf st : Nat → Int32} {x : Nat} (hx : SPN N p m s ss sf st x z) (hl : l.length < 2800) (hP : HoP l K X Y) (w : Int32) :
    ∃ w' K' X' Y', F_X10_addStrip (nI l.length) w K X Y ss sf st d19 d20 d21 d22 d23 d24 d25 (nI x) = some (nI (l ++ [stP m s (p s) k z.2.1 z.2.2]).length, w', K', X', Y') ∧ HoP (l ++ [stP m s (p s) k z.2.1 z.2.2]) K' X' Y' := by
  obtain ⟨x1, x2, x3, x4, x5, x6⟩ := hx
  have n := h.nx hR hs hg
  unfold F_X10_addStrip F_X8_segmentOf F_X8_fromOf F_X8_toOf
  rw [at_in x1 (by decide), obd_s, obd_s, x2, at_in x1 (by decide), obd_s, obd_s, x3, h.xa hR hs hg x5, obd_s, obd_s, h.ya hR hs hg x5, obd_s, at_in x1 (by decide), obd_s, obd_s, x4, h.xa hR hs hg x6, obd_s, obd_s, h.ya hR hs hg x6, obd_s, n.1, obd_s, n.2.1, obd_s]
  obtain ⟨K', X', Y', e, hP'⟩ := four_c (k := 0) (w := w) (x0 := aX m s (p s) k z.2.1 + nrX m s (p s) k) (y0 := aY m s (p s) k z.2.1 + nrY m s (p s) k) (x1 := aX m s (p s) k z.2.2 + nrX m s (p s) k) (y1 := aY m s (p s) k z.2.2 + nrY m s (p s) k) (x2 := aX m s (p s) k z.2.2 - nrX m s (p s) k) (y2 := aY m s (p s) k z.2.2 - nrY m s (p s) k) (x3 := aX m s (p s) k z.2.1 - nrX m s (p s) k) (y3 := aY m s (p s) k z.2.1 - nrY m s (p s) k) hl rfl hP (by omega) (by omega)
  exact ⟨nI 4, K', X', Y', e, hP'⟩
theorem cap_c (hR : RW N p c m) (h : MS N p m d17 d18 d19 d20 d21 d22 d23 d24 d25 d26 d27) (hs : s < 4) (hg : (sg N p m s)[g]? = some k) {t : Nat} (ht : t ≤ 18101) (hl : l.length < 2800) (hP : HoP l K X Y) (w way : Int32) :
    ∃ w' K' X' Y', F_X10_addCap (m 3) (nI l.length) w K X Y d19 d20 d21 d22 d23 d24 d25 d26 d27 (nI (SF N p m s + g)) (nI t) way = some (nI (l ++ cpP m s (p s) k t way).length, w', K', X', Y') ∧ HoP (l ++ cpP m s (p s) k t way) K' X' Y' := by
  have n := h.nx hR hs hg
  unfold F_X10_addCap cpP
  rw [h.xa hR hs hg ht, obd_s, h.ya hR hs hg ht, obd_s]
  by_cases q1 : m 3 = 1
  · obtain ⟨w', K', X', Y', e, hP'⟩ := dis_c (w := w) (x := aX m s (p s) k t) (y := aY m s (p s) k t) hl hP
    rw [if_pos q1, if_pos q1, e, obd_s]
    exact ⟨w', K', X', Y', rfl, hP'⟩
  · rw [if_neg q1, if_neg q1]
    by_cases q2 : m 3 = 2
    · obtain ⟨K', X', Y', e, hP'⟩ := four_c (k := 4) (w := w) (x0 := aX m s (p s) k t + nrX m s (p s) k) (y0 := aY m s (p s) k t + nrY m s (p s) k) (x1 := aX m s (p s) k t + nrX m s (p s) k + way * nrY m s (p s) k) (y1 := aY m s (p s) k t + nrY m s (p s) k + way * alY m s (p s) k) (x2 := aX m s (p s) k t - nrX m s (p s) k + way * nrY m s (p s) k) (y2 := aY m s (p s) k t - nrY m s (p s) k + way * alY m s (p s) k) (x3 := aX m s (p s) k t - nrX m s (p s) k) (y3 := aY m s (p s) k t - nrY m s (p s) k) hl rfl hP (by omega) (by omega)
      rw [if_pos q2, if_pos q2, n.1, obd_s, n.2.1, obd_s, n.2.2.1, obd_s, lt_eq, n.2.2.2, obd_s, lt_eq]
      exact ⟨nI 4, K', X', Y', e, hP'⟩
    · rw [if_neg q2, if_neg q2, List.append_nil]
      exact ⟨w, K, X, Y, rfl, hP⟩
theorem dot_c (hl : l.length < 2800) (hP : HoP l K X Y) (w : Int32) :
    ∃ w' K' X' Y', F_X10_addDot (32 * m 0) (m 3) (nI l.length) w K X Y (64 * m (16 + 18 * s + 2 * 0)) (64 * m (17 + 18 * s + 2 * 0)) = some (nI (l ++ dtP m s).length, w', K', X', Y') ∧ HoP (l ++ dtP m s) K' X' Y' := by
  unfold F_X10_addDot dtP
  by_cases q1 : m 3 = 1
  · obtain ⟨w', K', X', Y', e, hP'⟩ := dis_c (w := w) (x := 64 * m (16 + 18 * s + 2 * 0)) (y := 64 * m (17 + 18 * s + 2 * 0)) hl hP
    rw [if_pos q1, if_pos q1, e, obd_s]
    exact ⟨w', K', X', Y', rfl, hP'⟩
  · rw [if_neg q1, if_neg q1]
    by_cases q2 : m 3 = 2
    · obtain ⟨K', X', Y', e, hP'⟩ := four_c (k := 4) (w := w) (x0 := 64 * m (16 + 18 * s + 2 * 0) - 32 * m 0) (y0 := 64 * m (17 + 18 * s + 2 * 0) - 32 * m 0) (x1 := 64 * m (16 + 18 * s + 2 * 0) + 32 * m 0) (y1 := 64 * m (17 + 18 * s + 2 * 0) - 32 * m 0) (x2 := 64 * m (16 + 18 * s + 2 * 0) + 32 * m 0) (y2 := 64 * m (17 + 18 * s + 2 * 0) + 32 * m 0) (x3 := 64 * m (16 + 18 * s + 2 * 0) - 32 * m 0) (y3 := 64 * m (17 + 18 * s + 2 * 0) + 32 * m 0) hl rfl hP (by omega) (by omega)
      rw [if_pos q2, if_pos q2]
      exact ⟨nI 4, K', X', Y', e, hP'⟩
    · rw [if_neg q2, if_neg q2, List.append_nil]
      exact ⟨w, K, X, Y, rfl, hP⟩
/-- the tip, in the class's words -/
theorem tip_c (hR : RW N p c m) (hs : s < N) (h1 : k1 < p s) (hz1 : ¬ (sgx m s (p s) k1 = 0 ∧ sgy m s (p s) k1 = 0)) (h2 : k2 < p s) (hz2 : ¬ (sgx m s (p s) k2 = 0 ∧ sgy m s (p s) k2 = 0)) (h : ¬ mit m s (p s) k1 k2 = 0) {a : Int32} (ha : -33000000 ≤ a.toInt ∧ a.toInt ≤ 33000000) :
    F_X4_round (2 * (32 * m 0).toInt64 * (32 * m 0).toInt64 * a.toInt64) ((nrX m s (p s) k1 + nrX m s (p s) k2).toInt64 * (nrX m s (p s) k1 + nrX m s (p s) k2).toInt64 + (nrY m s (p s) k1 + nrY m s (p s) k2).toInt64 * (nrY m s (p s) k1 + nrY m s (p s) k2).toInt64) = some (tip m a.toInt (nrX m s (p s) k1 + nrX m s (p s) k2).toInt (nrY m s (p s) k1 + nrY m s (p s) k2).toInt) ∧
    F_X12_round (2 * (32 * m 0).toInt64 * (32 * m 0).toInt64 * a.toInt64) ((nrX m s (p s) k1 + nrX m s (p s) k2).toInt64 * (nrX m s (p s) k1 + nrX m s (p s) k2).toInt64 + (nrY m s (p s) k1 + nrY m s (p s) k2).toInt64 * (nrY m s (p s) k1 + nrY m s (p s) k2).toInt64) = some (tip m a.toInt (nrX m s (p s) k1 + nrX m s (p s) k2).toInt (nrY m s (p s) k1 + nrY m s (p s) k2).toInt) := by
  obtain ⟨t1, t2, t3⟩ := tip_pos hR hs h1 hz1 h2 hz2 h
  have hw := hR.st.w
  have eh : (32 * m 0).toInt64 = lI (32 * (m 0).toInt) := by
    have e3 : m 0 = iI (m 0).toInt := (ii_of _).symm
    rw [e3, show (32 : Int32) = iI 32 from rfl, ii_mul, ii_w (by omega) (by omega), ii_t (by omega) (by omega)]
  have b1 := mb (a := 2 * (32 * (m 0).toInt)) (b := 32 * (m 0).toInt) (A := 2560) (B := 1280) (by omega) (by omega)
  have b2 := mb (a := 2 * (32 * (m 0).toInt) * (32 * (m 0).toInt)) (b := a.toInt) (A := 3276800) (B := 33000000) (by omega) (by omega)
  have b3 := mb (a := (nrX m s (p s) k1 + nrX m s (p s) k2).toInt) (b := (nrX m s (p s) k1 + nrX m s (p s) k2).toInt) (A := 33000000) (B := 33000000) (by omega) (by omega)
  have b4 := mb (a := (nrY m s (p s) k1 + nrY m s (p s) k2).toInt) (b := (nrY m s (p s) k1 + nrY m s (p s) k2).toInt) (A := 33000000) (B := 33000000) (by omega) (by omega)
  rw [eh, ii_w' a, ii_w' (nrX m s (p s) k1 + nrX m s (p s) k2), ii_w' (nrY m s (p s) k1 + nrY m s (p s) k2), show (2 : Int64) = lI 2 from rfl, li_mul, li_mul, li_mul, li_mul, li_mul, li_add]
  exact ⟨rnd_cls (by omega) (by omega) (by omega), rnd_ref (by omega) (by omega) (by omega)⟩
/-- a bevel, a miter, in the class -/
theorem bev_c {v w vx vy wd a1 b1 a2 b2 : Int32} (hl : l.length < 2800) (h : HoP l K X Y) :
    ∃ w' K' X' Y', F_X10_addJoin_j246 v (nI l.length) w K X Y vx vy wd a1 b1 a2 b2 0 2 = some (nI (l ++ [((2, f4 vx (vx + wd * a1) (vx + wd * a2) 0, f4 vy (vy + wd * b1) (vy + wd * b2) 0) : Pc)]).length, w', K', X', Y') ∧ HoP (l ++ [(2, f4 vx (vx + wd * a1) (vx + wd * a2) 0, f4 vy (vy + wd * b1) (vy + wd * b2) 0)]) K' X' Y' := by
  obtain ⟨K', X', Y', e, hP'⟩ := three_c (w := w) (x0 := vx) (y0 := vy) (x1 := vx + wd * a1) (y1 := vy + wd * b1) (x2 := vx + wd * a2) (y2 := vy + wd * b2) hl h
  refine ⟨nI 3, K', X', Y', ?_, hP'⟩
  unfold F_X10_addJoin_j246 F_X10_addJoin_j310
  simp only [if_pos (rfl : (0 : Int32) = 0)]
  exact e
theorem tip_cc {v i c0 vx vy wd tx ty : Int32} {kx ky : Int64} (e1 : F_X4_round (2 * v.toInt64 * v.toInt64 * kx) (kx * kx + ky * ky) = some tx) (e2 : F_X4_round (2 * v.toInt64 * v.toInt64 * ky) (kx * kx + ky * ky) = some ty) :
    F_X10_addTip v i c0 X Y vx vy wd kx ky = F_X7_addCorner i c0 X Y (vx + wd * tx) (vy + wd * ty) := by
  unfold F_X10_addTip
  rw [lt_eq, lt_eq, e1, obd_s, lt_eq, e2, obd_s, lt_eq, obd_id]
theorem mtr_c {v w vx vy wd a1 b1 a2 b2 tx ty : Int32} (hl : l.length < 2800) (h : HoP l K X Y)
    (e1 : F_X4_round (2 * v.toInt64 * v.toInt64 * (a1 + a2).toInt64) ((a1 + a2).toInt64 * (a1 + a2).toInt64 + (b1 + b2).toInt64 * (b1 + b2).toInt64) = some tx)
    (e2 : F_X4_round (2 * v.toInt64 * v.toInt64 * (b1 + b2).toInt64) ((a1 + a2).toInt64 * (a1 + a2).toInt64 + (b1 + b2).toInt64 * (b1 + b2).toInt64) = some ty) :
    ∃ w' K' X' Y', F_X10_addJoin_j246 v (nI l.length) w K X Y vx vy wd a1 b1 a2 b2 1 1 = some (nI (l ++ [((1, f4 vx (vx + wd * a1) (vx + wd * tx) (vx + wd * a2), f4 vy (vy + wd * b1) (vy + wd * ty) (vy + wd * b2)) : Pc)]).length, w', K', X', Y') ∧ HoP (l ++ [(1, f4 vx (vx + wd * a1) (vx + wd * tx) (vx + wd * a2), f4 vy (vy + wd * b1) (vy + wd * ty) (vy + wd * b2))]) K' X' Y' := by
  obtain ⟨K', X', Y', e, hP'⟩ := four_c (k := 1) (w := w) (x0 := vx) (y0 := vy) (x1 := vx + wd * a1) (y1 := vy + wd * b1) (x2 := vx + wd * tx) (y2 := vy + wd * ty) (x3 := vx + wd * a2) (y3 := vy + wd * b2) hl rfl h (by omega) (by omega)
  refine ⟨nI 4, K', X', Y', ?_, hP'⟩
  have n10 : ¬ (1 : Int32) = 0 := by decide
  unfold F_X10_addJoin_j246 F_X10_addJoin_j310
  simp only [if_neg n10, tip_cc e1 e2]
  exact e
theorem j144_c (hR : RW N p c m) (h : MS N p m d17 d18 d19 d20 d21 d22 d23 d24 d25 d26 d27) (hs : s < 4) (h1 : (sg N p m s)[g1]? = some k1) (h2 : (sg N p m s)[g2]? = some k2) (w vx vy y : Int32) :
    F_X10_addJoin_j144 (32 * m 0) (m 1) (m 2) (nI l.length) w K X Y d21 d22 d24 d25 (nI (SF N p m s + g1)) (nI (SF N p m s + g2)) (lI (dtp m s (p s) k1 k2)) vx vy y =
      if mit m s (p s) k1 k2 = 0 then F_X10_addJoin_j246 (32 * m 0) (nI l.length) w K X Y vx vy y (nrX m s (p s) k1) (nrY m s (p s) k1) (nrX m s (p s) k2) (nrY m s (p s) k2) 0 2
      else F_X10_addJoin_j246 (32 * m 0) (nI l.length) w K X Y vx vy y (nrX m s (p s) k1) (nrY m s (p s) k1) (nrX m s (p s) k2) (nrY m s (p s) k2) 1 1 := by
  have n1 := h.nx hR hs h1
  have n2 := h.nx hR hs h2
  have cd1 := h.cr hR hs h1 h1
  have cd2 := h.cr hR hs h2 h2
  have n10 : ¬ (1 : Int32) = 0 := by decide
  unfold F_X10_addJoin_j144 F_X10_addJoin_j229 F_X10_addJoin_j230 mit
  rw [n1.1, obd_s, n1.2.1, obd_s, n2.1, obd_s, n2.2.1, obd_s]
  by_cases q : m 1 = 0
  · rw [if_pos q, if_pos q, cd1.2, obd_s, cd2.2, obd_s, lt_eq, lim_eq, ii_w' (m 2), li_mul]
    by_cases r : F_X12_isUp (lI ((m 2).toInt * (m 2).toInt) * lI (dtp m s (p s) k1 k2)) (lI ((m 2).toInt * (m 2).toInt) - 2) (lI (dtp m s (p s) k1 k1) * lI (dtp m s (p s) k2 k2)) = 0
    · rw [if_pos r, if_pos r, if_pos rfl]
    · rw [if_neg r, if_neg r, if_neg n10]
  · rw [if_neg q, if_neg q, if_pos rfl, if_pos rfl]
theorem j144_p (hR : RW N p c m) (h : MS N p m d17 d18 d19 d20 d21 d22 d23 d24 d25 d26 d27) (hs : s < N) (h1 : (sg N p m s)[g1]? = some k1) (h2 : (sg N p m s)[g2]? = some k2) (hl : l.length < 2800) (hP : HoP l K X Y) (w wd : Int32)
    (hwd : wd = if 0 < crs m s (p s) k1 k2 then -1 else 1) (hc0 : ¬ crs m s (p s) k1 k2 = 0) (hm1 : ¬ m 1 = 1) :
    ∃ w' K' X' Y', F_X10_addJoin_j144 (32 * m 0) (m 1) (m 2) (nI l.length) w K X Y d21 d22 d24 d25 (nI (SF N p m s + g1)) (nI (SF N p m s + g2)) (lI (dtp m s (p s) k1 k2)) (64 * m (16 + 18 * s + 2 * k2)) (64 * m (17 + 18 * s + 2 * k2)) wd = some (nI (l ++ jnP m s (p s) k1 k2).length, w', K', X', Y') ∧ HoP (l ++ jnP m s (p s) k1 k2) K' X' Y' := by
  have hN4 := hR.1
  have s1 := sg_at h1
  have s2 := sg_at h2
  rw [j144_c hR h (by omega) h1 h2]
  unfold jnP
  rw [if_neg (show ¬ (crs m s (p s) k1 k2 = 0 ∧ (0 < dtp m s (p s) k1 k2 ∨ m 1 ≠ 1)) from fun h => hc0 h.1), if_neg hm1, ← hwd]
  by_cases q : mit m s (p s) k1 k2 = 0
  · simp only [if_pos q]
    exact bev_c hl hP
  · have tc := tip_pos hR hs s1.1 s1.2 s2.1 s2.2 q
    have tx := (tip_c hR hs s1.1 s1.2 s2.1 s2.2 q (a := nrX m s (p s) k1 + nrX m s (p s) k2) tc.2.1).1
    have ty := (tip_c hR hs s1.1 s1.2 s2.1 s2.2 q (a := nrY m s (p s) k1 + nrY m s (p s) k2) tc.2.2).1
    simp only [if_neg q]
    exact mtr_c hl hP tx ty
set_option maxHeartbeats 1000000 in
theorem join_p (hR : RW N p c m) (h : MS N p m d17 d18 d19 d20 d21 d22 d23 d24 d25 d26 d27) (hs : s < N) {z z' : Cut} (h1 : (sg N p m s)[z.1]? = some k1) (h2 : (sg N p m s)[z'.1]? = some k2) (hne : z'.1 ≠ z.1)
    (hfull : z.2.2 = sgl m s (p s) k1) (hnx : m (16 + 18 * s + 2 * ((k1 + 1) % p s)) = m (16 + 18 * s + 2 * k2) ∧ m (17 + 18 * s + 2 * ((k1 + 1) % p s)) = m (17 + 18 * s + 2 * k2))
    {ss sf st : Nat → Int32} {x x' : Nat} (hx : SPN N p m s ss sf st x z) (hx' : SPN N p m s ss sf st x' z') (hl : l.length < 2800) (hP : HoP l K X Y) (w : Int32) :
    ∃ w' K' X' Y', F_X10_addJoin (32 * m 0) (m 1) (m 2) (nI l.length) w K X Y ss st d19 d20 d21 d22 d23 d24 d25 (nI x) (nI x') = some (nI (l ++ jnP m s (p s) k1 k2).length, w', K', X', Y') ∧ HoP (l ++ jnP m s (p s) k1 k2) K' X' Y' := by
  have hN4 := hR.1
  obtain ⟨x1, x2, x3, x4, x5, x6⟩ := hx
  obtain ⟨y1, y2, y3, y4, y5, y6⟩ := hx'
  have cd := h.cr hR (show s < 4 by omega) h1 h2
  have s1 := sg_at h1
  have s2 := sg_at h2
  have hb1 := SF_g hR (show s < 4 by omega) h1
  have hb2 := SF_g hR (show s < 4 by omega) h2
  have db := dtp_b hR hs s1.1 s2.1
  have hl1 := sgl_ge s1.2
  have ve := aX_end (m := m) (s := s) (n := p s) (k := k1) (by omega)
  rw [← hfull, hnx.1, hnx.2] at ve
  have hseg : ¬ nI (SF N p m s + z.1) = nI (SF N p m s + z'.1) := nI_ne (by omega) (by omega) (by omega)
  have rc : LR (crs m s (p s) k1 k2) := by constructor <;> omega
  have rd : LR (dtp m s (p s) k1 k2) := by constructor <;> omega
  have r0 : LR 0 := by constructor <;> omega
  have ec : (lg_cmp (lI (crs m s (p s) k1 k2)) 0 = 0) ↔ (crs m s (p s) k1 k2 = 0) := by rw [lg_cmp_eq, show (0 : Int64) = lI 0 from rfl, li_eq rc r0]
  have ec2 : (lg_cmp (lI (crs m s (p s) k1 k2)) 0 ≤ 0) ↔ (crs m s (p s) k1 k2 ≤ 0) := by rw [lg_cmp_le, show (0 : Int64) = lI 0 from rfl, li_le rc r0]
  have ed : (lg_cmp (lI (dtp m s (p s) k1 k2)) 0 ≤ 0) ↔ (dtp m s (p s) k1 k2 ≤ 0) := by rw [lg_cmp_le, show (0 : Int64) = lI 0 from rfl, li_le rd r0]
  -- the join itself
  have hj64 : ∃ w' K' X' Y', F_X10_addJoin_j64 (32 * m 0) (m 1) (m 2) (nI l.length) w K X Y st d19 d20 d21 d22 d23 d24 d25 (nI x) (nI (SF N p m s + z.1)) (nI (SF N p m s + z'.1)) (lI (crs m s (p s) k1 k2)) (lI (dtp m s (p s) k1 k2)) = some (nI (l ++ (if m 1 ≠ 1 ∧ crs m s (p s) k1 k2 = 0 then [] else if m 1 = 1 then [dsP (64 * m (16 + 18 * s + 2 * k2)) (64 * m (17 + 18 * s + 2 * k2))] else jnP m s (p s) k1 k2)).length, w', K', X', Y') ∧ HoP (l ++ (if m 1 ≠ 1 ∧ crs m s (p s) k1 k2 = 0 then [] else if m 1 = 1 then [dsP (64 * m (16 + 18 * s + 2 * k2)) (64 * m (17 + 18 * s + 2 * k2))] else jnP m s (p s) k1 k2)) K' X' Y' := by
    unfold F_X10_addJoin_j64 F_X8_toOf
    rw [at_in x1 (by decide), obd_s, obd_s, x4, h.xa hR (by omega) h1 x6, obd_s, obd_s, h.ya hR (by omega) h1 x6, obd_s, ve.1, ve.2]
    by_cases q1 : m 1 = 1
    · obtain ⟨w', K', X', Y', e, hP'⟩ := dis_c (w := w) (x := 64 * m (16 + 18 * s + 2 * k2)) (y := 64 * m (17 + 18 * s + 2 * k2)) hl hP
      rw [if_pos q1, e, obd_s, if_neg (fun h => h.1 q1), if_pos q1]
      unfold F_X10_addJoin_j116
      rw [if_pos q1]
      exact ⟨w', K', X', Y', rfl, hP'⟩
    · rw [if_neg q1]
      unfold F_X10_addJoin_j116
      rw [if_neg q1]
      by_cases q0 : crs m s (p s) k1 k2 = 0
      · rw [if_pos (ec.mpr q0), if_pos ⟨q1, q0⟩, List.append_nil]
        exact ⟨w, K, X, Y, rfl, hP⟩
      · rw [if_neg (show ¬ (m 1 ≠ 1 ∧ crs m s (p s) k1 k2 = 0) from fun h => q0 h.2), if_neg q1, if_neg (show ¬ lg_cmp (lI (crs m s (p s) k1 k2)) 0 = 0 from fun h => q0 (ec.mp h))]
        by_cases q : crs m s (p s) k1 k2 ≤ 0
        · rw [if_pos (ec2.mpr q)]
          exact j144_p hR h hs h1 h2 hl hP w 1 (by rw [if_neg (show ¬ 0 < crs m s (p s) k1 k2 by omega)]) q0 q1
        · rw [if_neg (fun h => q (ec2.mp h))]
          exact j144_p hR h hs h1 h2 hl hP w (-1) (by rw [if_pos (show 0 < crs m s (p s) k1 k2 by omega)]) q0 q1
  unfold F_X10_addJoin F_X8_segmentOf
  rw [at_in x1 (by decide), obd_s, obd_s, x2, at_in y1 (by decide), obd_s, obd_s, y2, cd.1, obd_s, cd.2, obd_s, if_neg hseg]
  by_cases q0 : crs m s (p s) k1 k2 = 0
  · rw [if_pos (ec.mpr q0)]
    by_cases q1 : dtp m s (p s) k1 k2 ≤ 0
    · rw [if_pos (ed.mpr q1)]
      by_cases q2 : m 1 = 1
      · have ej : jnP m s (p s) k1 k2 = [dsP (64 * m (16 + 18 * s + 2 * k2)) (64 * m (17 + 18 * s + 2 * k2))] := by
          unfold jnP
          rw [if_neg (fun h => by rcases h.2 with y | y
                                  · omega
                                  · exact y q2), if_pos q2]
        rw [if_neg (fun h => h.1 q2), if_pos q2, ← ej] at hj64
        exact hj64
      · have ej : jnP m s (p s) k1 k2 = [] := by unfold jnP; rw [if_pos ⟨q0, Or.inr q2⟩]
        rw [if_pos ⟨q2, q0⟩, ← ej] at hj64
        exact hj64
    · have ej : jnP m s (p s) k1 k2 = [] := by unfold jnP; rw [if_pos ⟨q0, Or.inl (by omega)⟩]
      rw [if_neg (fun h => q1 (ed.mp h)), ej, List.append_nil]
      exact ⟨w, K, X, Y, rfl, hP⟩
  · rw [if_neg (fun h => q0 (ec.mp h))]
    rw [if_neg (fun h => q0 h.2)] at hj64
    by_cases q2 : m 1 = 1
    · have ej : jnP m s (p s) k1 k2 = [dsP (64 * m (16 + 18 * s + 2 * k2)) (64 * m (17 + 18 * s + 2 * k2))] := by
        unfold jnP
        rw [if_neg (fun h => q0 h.1), if_pos q2]
      rw [if_pos q2, ← ej] at hj64
      exact hj64
    · rw [if_neg q2] at hj64
      exact hj64
/-- a join with its own segment is none -/
theorem join_0 (hR : RW N p c m) (h : MS N p m d17 d18 d19 d20 d21 d22 d23 d24 d25 d26 d27) (hs : s < N) {z z' : Cut} (h1 : (sg N p m s)[z.1]? = some k1) (heq : z'.1 = z.1)
    {ss sf st : Nat → Int32} {x x' : Nat} (hx : SPN N p m s ss sf st x z) (hx' : SPN N p m s ss sf st x' z') (w : Int32) (v0 v1 v2 c0 : Int32) :
    F_X10_addJoin v0 v1 v2 c0 w K X Y ss st d19 d20 d21 d22 d23 d24 d25 (nI x) (nI x') = some (c0, w, K, X, Y) := by
  have hN4 := hR.1
  obtain ⟨x1, x2, x3, x4, x5, x6⟩ := hx
  obtain ⟨y1, y2, y3, y4, y5, y6⟩ := hx'
  rw [heq] at y2
  have cd := h.cr hR (show s < 4 by omega) h1 h1
  unfold F_X10_addJoin F_X8_segmentOf
  rw [at_in x1 (by decide), obd_s, obd_s, x2, at_in y1 (by decide), obd_s, obd_s, y2, cd.1, obd_s, cd.2, obd_s, if_pos rfl]
end PCC
