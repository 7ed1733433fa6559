/-! ===== the reference lays the pieces ===== -/
section PCR
variable {N : Nat} {p : Nat → Nat} {c m m' : Nat → Int32} {ax ay bx bz sl sa : Nat → Int32} {s g k g1 g2 k1 k2 i : Nat} {l : List Pc} {R : Nat → Int32} {r : Run}
theorem hf_m (hm : E86 m' m) : F_X12_half m' = some (32 * m 0) := by
  unfold F_X12_half
  rw [gd_in' (z := 0) (i := 0) rfl (by decide) (by decide), cl_0, hm 0 (by decide)]
theorem hw64 (h : ST c m) : (32 * m 0).toInt64 = lI (32 * (m 0).toInt) := by
  have hw := h.w
  have e3 : m 0 = iI (m 0).toInt := (ii_of _).symm
  rw [e3, show (32 : Int32) = iI 32 from rfl, ii_mul, ii_w (by omega) (by omega), ii_t (by omega) (by omega)]
theorem rnd_r1 {a b : Int} {q : Nat} (ha : a.natAbs ≤ 200) (hb : b.natAbs ≤ 81920) (h1 : 1 ≤ q) (h2 : q ≤ 18101) : F_X12_round (lI (a * b)) (nI q).toInt64 = some (iI (rnd (a * b) q)) := by
  have := mb ha hb
  rw [nI_l (by omega), li_n]
  exact rnd_ref (by omega) (by omega) (by omega)
theorem HoR.nx (hR : RW N p c m) (hm : E86 m' m) (h : HoR m s (p s) (sg N p m s) ax ay bx bz sl sa) (hg : (sg N p m s)[g]? = some k) :
    F_X12_normalX m' ay sl (nI g) = some (nrX m s (p s) k) ∧ F_X12_normalY m' ax sl (nI g) = some (nrY m s (p s) k) ∧ F_X12_edgeX m' ax sl (nI g) = some (nrY m s (p s) k) ∧ F_X12_edgeY m' ay sl (nI g) = some (alY m s (p s) k) := by
  have hb := hx_lt hg
  have h8 := sg_len hR s
  have ha := h g k hg
  have hk := sg_at hg
  have g' := hR.sp (sg_s hg)
  have hst := stp g' hk.1
  have l1 := sgl_ge hk.2
  have l2 := sgl_le g' hk.1
  have hw := hR.st.w
  have e1 : (-64 : Int64) * (sgy m s (p s) k).toInt64 * (32 * m 0).toInt64 = lI (-(sgy m s (p s) k).toInt * (2048 * (m 0).toInt)) := by
    rw [hw64 hR.st, ii_w', show (-64 : Int64) = lI (-64) from rfl, li_mul, li_mul]; congr 1; grind
  have e2 : (64 : Int64) * (sgx m s (p s) k).toInt64 * (32 * m 0).toInt64 = lI ((sgx m s (p s) k).toInt * (2048 * (m 0).toInt)) := by
    rw [hw64 hR.st, ii_w', show (64 : Int64) = lI 64 from rfl, li_mul, li_mul]; congr 1; grind
  have e3 : (64 : Int64) * (sgy m s (p s) k).toInt64 * (32 * m 0).toInt64 = lI ((sgy m s (p s) k).toInt * (2048 * (m 0).toInt)) := by
    rw [hw64 hR.st, ii_w', show (64 : Int64) = lI 64 from rfl, li_mul, li_mul]; congr 1; grind
  unfold F_X12_normalX F_X12_normalY F_X12_edgeX F_X12_edgeY
  simp only [gd_in (show g < 8 by omega) (show 8 < 2 ^ 31 by decide), nI_clamp (show g < 2 ^ 31 by omega), hf_m hm, obd_s]
  rw [ha.1, ha.2.1, ha.2.2.2.2.1, e1, e2, e3, rnd_r1 (by omega) (by omega) (by omega) l2, rnd_r1 (by omega) (by omega) (by omega) l2, rnd_r1 (by omega) (by omega) (by omega) l2]
  exact ⟨rfl, rfl, rfl, rfl⟩
theorem three_m {x0 y0 x1 y1 x2 y2 : Int32} (hl : l.length < 2800) (h : HoQ l R) :
    ∃ R', obd (F_X12_begin (nI l.length) R 2) (fun u => obd (F_X12_corners u.1 u.2 0 x0 y0) (fun u_4 => obd (F_X12_corners u.1 u_4 1 x1 y1) (fun u_5 => obd (F_X12_corners u.1 u_5 2 x2 y2) (fun u_6 => some (u.1, u_6))))) =
      some (nI (l ++ [((2, f4 x0 x1 x2 0, f4 y0 y1 y2 0) : Pc)]).length, R') ∧ HoQ (l ++ [(2, f4 x0 x1 x2 0, f4 y0 y1 y2 0)]) R' := by
  refine ⟨upd (upd (upd (upd (upd (upd (upd R (9 * l.length) (nI 2)) (9 * l.length + 1 + 2 * 0) x0) (9 * l.length + 2 + 2 * 0) y0) (9 * l.length + 1 + 2 * 1) x1) (9 * l.length + 2 + 2 * 1) y1) (9 * l.length + 1 + 2 * 2) x2) (9 * l.length + 2 + 2 * 2) y2, ?_, h.nx _ (by show 2 ≤ 4; omega) ?_ (fun c hc => ?_) (fun i hi => ?_)⟩
  · rw [zl_2, qst_m hl, obd_s]
    show obd (F_X12_corners (nI (l.length + 1)) _ (nI 0) x0 y0) _ = _
    rw [qco_m hl (by omega), obd_s]
    show obd (F_X12_corners (nI (l.length + 1)) _ (nI 1) x1 y1) _ = _
    rw [qco_m hl (by omega), obd_s]
    show obd (F_X12_corners (nI (l.length + 1)) _ (nI 2) x2 y2) _ = _
    rw [qco_m hl (by omega), obd_s, List.length_append]; rfl
  · simp (disch := omega) only [ud_n, ud_e]
  · have hc : c < 3 := hc
    have hc4 : c = 0 ∨ c = 1 ∨ c = 2 := by omega
    rcases hc4 with rfl | rfl | rfl <;> simp (disch := omega) only [ud_n, ud_e] <;> exact ⟨rfl, rfl⟩
  · simp (disch := omega) only [ud_n]
theorem strip_m (hR : RW N p c m) (hm : E86 m' m) (h : HoR m s (p s) (sg N p m s) ax ay bx bz sl sa) {z : Cut} (hg : (sg N p m s)[z.1]? = some k) {co cf ct : Nat → Int32} {x : Nat} (hx : x < 20) (h1 : co x = nI z.1) (h2 : cf x = nI z.2.1) (h3 : ct x = nI z.2.2) (h4 : z.2.1 ≤ 18101) (h5 : z.2.2 ≤ 18101) (hl : l.length < 2800) (hQ : HoQ l R) :
    ∃ R', F_X12_laysStrip (nI l.length) m' ax ay bx bz sl co cf ct R (nI x) = some (nI (l ++ [stP m s (p s) k z.2.1 z.2.2]).length, R') ∧ HoQ (l ++ [stP m s (p s) k z.2.1 z.2.2]) R' := by
  have n := h.nx hR hm hg
  obtain ⟨R', e, hQ'⟩ := four_m (k := 0) (x0 := aX m s (p s) k z.2.1 + nrX m s (p s) k) (y0 := aY m s (p s) k z.2.1 + nrY m s (p s) k) (x1 := aX m s (p s) k z.2.2 + nrX m s (p s) k) (y1 := aY m s (p s) k z.2.2 + nrY m s (p s) k) (x2 := aX m s (p s) k z.2.2 - nrX m s (p s) k) (y2 := aY m s (p s) k z.2.2 - nrY m s (p s) k) (x3 := aX m s (p s) k z.2.1 - nrX m s (p s) k) (y3 := aY m s (p s) k z.2.1 - nrY m s (p s) k) hl rfl hQ (by omega) (by omega)
  refine ⟨R', ?_, hQ'⟩
  unfold F_X12_laysStrip
  rw [gd_in hx (by decide), lt_eq, nI_clamp (by omega), h1, n.1, obd_s, n.2.1, obd_s, gd_in hx (by decide), h2, h.xa hR hg h4, obd_s, gd_in hx (by decide), h.ya hR hg h4, obd_s, gd_in hx (by decide), h3, h.xa hR hg h5, obd_s, gd_in hx (by decide), h.ya hR hg h5, obd_s]
  exact e
theorem cap_m (hR : RW N p c m) (hm : E86 m' m) (h : HoR m s (p s) (sg N p m s) ax ay bx bz sl sa) (hg : (sg N p m s)[g]? = some k) {t : Nat} (ht : t ≤ 18101) (hl : l.length < 2800) (hQ : HoQ l R) (way : Int32) :
    ∃ R', F_X12_laysCap (nI l.length) m' ax ay bx bz sl R (nI g) (nI t) way = some (nI (l ++ cpP m s (p s) k t way).length, R') ∧ HoQ (l ++ cpP m s (p s) k t way) R' := by
  have n := h.nx hR hm hg
  unfold F_X12_laysCap cpP
  rw [h.xa hR hg ht, obd_s, h.ya hR hg ht, obd_s, gd_in' (z := 3) (i := 3) rfl (by decide) (by decide), cl_3, hm 3 (by decide)]
  by_cases q1 : m 3 = 1
  · obtain ⟨R', e, hQ'⟩ := dis_m (x := aX m s (p s) k t) (y := aY m s (p s) k t) hl hQ
    rw [if_pos q1, if_pos q1, e, obd_s]
    exact ⟨R', rfl, hQ'⟩
  · rw [if_neg q1, if_neg q1, gd_in' (z := 3) (i := 3) rfl (by decide) (by decide)]
    by_cases q2 : m 3 = 2
    · obtain ⟨R', e, hQ'⟩ := four_m (k := 4) (x0 := aX m s (p s) k t + nrX m s (p s) k) (y0 := aY m s (p s) k t + nrY m s (p s) k) (x1 := aX m s (p s) k t + nrX m s (p s) k + way * nrY m s (p s) k) (y1 := aY m s (p s) k t + nrY m s (p s) k + way * alY m s (p s) k) (x2 := aX m s (p s) k t - nrX m s (p s) k + way * nrY m s (p s) k) (y2 := aY m s (p s) k t - nrY m s (p s) k + way * alY m s (p s) k) (x3 := aX m s (p s) k t - nrX m s (p s) k) (y3 := aY m s (p s) k t - nrY m s (p s) k) hl rfl hQ (by omega) (by omega)
      rw [if_pos q2, if_pos q2, n.1, obd_s, n.2.1, obd_s, n.2.2.1, obd_s, lt_eq, n.2.2.2, obd_s, lt_eq]
      exact ⟨R', e, hQ'⟩
    · rw [if_neg q2, if_neg q2, List.append_nil]
      exact ⟨R, rfl, hQ⟩
theorem point_m (hR : RW N p c m) (hm : E86 m' m) (hs : s < N) (hl : l.length < 2800) (hQ : HoQ l R) :
    ∃ R', F_X12_laysPoint (nI l.length) m' R (nI s) = some (nI (l ++ dtP m s).length, R') ∧ HoQ (l ++ dtP m s) R' := by
  have hN4 := hR.1
  unfold F_X12_laysPoint dtP
  rw [zl_0, m_x' hm (by omega) (by omega), obd_s, lt_eq, m_y' hm (by omega) (by omega), obd_s, lt_eq, hf_m hm, obd_s, gd_in' (z := 3) (i := 3) rfl (by decide) (by decide), cl_3, hm 3 (by decide)]
  by_cases q1 : m 3 = 1
  · obtain ⟨R', e, hQ'⟩ := dis_m (x := 64 * m (16 + 18 * s + 2 * 0)) (y := 64 * m (17 + 18 * s + 2 * 0)) hl hQ
    rw [if_pos q1, if_pos q1, e, obd_s]
    exact ⟨R', rfl, hQ'⟩
  · rw [if_neg q1, if_neg q1, gd_in' (z := 3) (i := 3) rfl (by decide) (by decide)]
    by_cases q2 : m 3 = 2
    · obtain ⟨R', e, hQ'⟩ := four_m (k := 4) (x0 := 64 * m (16 + 18 * s + 2 * 0) - 32 * m 0) (y0 := 64 * m (17 + 18 * s + 2 * 0) - 32 * m 0) (x1 := 64 * m (16 + 18 * s + 2 * 0) + 32 * m 0) (y1 := 64 * m (17 + 18 * s + 2 * 0) - 32 * m 0) (x2 := 64 * m (16 + 18 * s + 2 * 0) + 32 * m 0) (y2 := 64 * m (17 + 18 * s + 2 * 0) + 32 * m 0) (x3 := 64 * m (16 + 18 * s + 2 * 0) - 32 * m 0) (y3 := 64 * m (17 + 18 * s + 2 * 0) + 32 * m 0) hl rfl hQ (by omega) (by omega)
      rw [if_pos q2, if_pos q2]
      exact ⟨R', e, hQ'⟩
    · rw [if_neg q2, if_neg q2, List.append_nil]
      exact ⟨R, rfl, hQ⟩
theorem mit_m (hR : RW N p c m) (hm : E86 m' m) (h : HoR m s (p s) (sg N p m s) ax ay bx bz sl sa) (h1 : (sg N p m s)[g1]? = some k1) (h2 : (sg N p m s)[g2]? = some k2) :
    F_X12_isMiter m' ax ay (nI g1) (nI g2) = some (if mit m s (p s) k1 k2 = 0 then 0 else 1) := by
  have b1 := hx_lt h1
  have b2 := hx_lt h2
  have h8 := sg_len hR s
  have a1 := h g1 k1 h1
  have a2 := h g2 k2 h2
  have hm2 := hR.st.2.2.2.1
  have em : (m 2 * m 2).toInt64 = lI ((m 2).toInt * (m 2).toInt) := by
    have hb := mb (a := (m 2).toInt) (b := (m 2).toInt) (A := 10) (B := 10) (by omega) (by omega)
    have e2 : m 2 * m 2 = iI ((m 2).toInt * (m 2).toInt) := by rw [← ii_mul, ii_of]
    rw [e2, ii_w (by omega) (by omega)]
  have d1 : ∀ x y z w : Int32, x.toInt64 * y.toInt64 + z.toInt64 * w.toInt64 = lI (x.toInt * y.toInt + z.toInt * w.toInt) := fun x y z w => by
    rw [ii_w' x, ii_w' y, ii_w' z, ii_w' w, li_mul, li_mul, li_add]
  unfold F_X12_isMiter F_X12_isMiter_j148 mit
  simp only [gd_in (show g1 < 8 by omega) (show 8 < 2 ^ 31 by decide), gd_in (show g2 < 8 by omega) (show 8 < 2 ^ 31 by decide), nI_clamp (show g1 < 2 ^ 31 by omega), nI_clamp (show g2 < 2 ^ 31 by omega), lt_eq]
  rw [gd_in' (z := 2) (i := 2) rfl (by decide) (by decide), gd_in' (z := 2) (i := 2) rfl (by decide) (by decide), gd_in' (z := 1) (i := 1) rfl (by decide) (by decide), cl_1, cl_2, hm 1 (by decide), hm 2 (by decide), em, a1.1, a1.2.1, a2.1, a2.2.1, d1, d1, d1]
  show (if m 1 = 0 then if F_X12_isUp (lI ((m 2).toInt * (m 2).toInt) * lI (dtp m s (p s) k1 k2)) (lI ((m 2).toInt * (m 2).toInt) - 2) (lI (dtp m s (p s) k1 k1) * lI (dtp m s (p s) k2 k2)) = 0 then some 0 else some 1 else some 0) = _
  by_cases q : m 1 = 0
  · rw [if_pos q, if_pos q]
    by_cases w : F_X12_isUp (lI ((m 2).toInt * (m 2).toInt) * lI (dtp m s (p s) k1 k2)) (lI ((m 2).toInt * (m 2).toInt) - 2) (lI (dtp m s (p s) k1 k1) * lI (dtp m s (p s) k2 k2)) = 0
    · rw [if_pos w, if_pos w]
    · rw [if_neg w, if_neg w]
  · rw [if_neg q, if_neg q, if_pos rfl]
theorem tip_mm {α : Type} {v x1 x2 a1 b1 a2 b2 tx ty : Int32} (hf : F_X12_half m' = some v) (n1 : F_X12_normalX m' ay sl x1 = some a1) (n2 : F_X12_normalY m' ax sl x1 = some b1) (n3 : F_X12_normalX m' ay sl x2 = some a2) (n4 : F_X12_normalY m' ax sl x2 = some b2)
    (e1 : F_X12_round (2 * v.toInt64 * v.toInt64 * (a1 + a2).toInt64) ((a1 + a2).toInt64 * (a1 + a2).toInt64 + (b1 + b2).toInt64 * (b1 + b2).toInt64) = some tx)
    (e2 : F_X12_round (2 * v.toInt64 * v.toInt64 * (b1 + b2).toInt64) ((a1 + a2).toInt64 * (a1 + a2).toInt64 + (b1 + b2).toInt64 * (b1 + b2).toInt64) = some ty) (G : Int32 → Int32 → Option α) :
    obd (F_X12_normalX m' ay sl x1) (fun u_11 => obd (F_X12_normalX m' ay sl x2) (fun u_12 => lt ((u_11 + u_12).toInt64) (fun y_13 => obd (F_X12_normalY m' ax sl x1) (fun u_14 => obd (F_X12_normalY m' ax sl x2) (fun u_15 => lt ((u_14 + u_15).toInt64) (fun y_16 => obd (F_X12_half m') (fun u_17 => obd (F_X12_half m') (fun u_18 => lt ((2 * u_17.toInt64) * u_18.toInt64) (fun y_19 => obd (F_X12_round (y_19 * y_13) ((y_13 * y_13) + (y_16 * y_16))) (fun u_20 => obd (F_X12_round (y_19 * y_16) ((y_13 * y_13) + (y_16 * y_16))) (fun u_21 => G u_20 u_21))))))))))) = G tx ty := by
  rw [n1, obd_s, n3, obd_s, lt_eq, n2, obd_s, n4, obd_s, lt_eq, hf, obd_s, obd_s, lt_eq, e1, obd_s, e2, obd_s]
theorem j148_mt {v x1 x2 a1 b1 a2 b2 tx ty c0 vx vy wd : Int32} (hf : F_X12_half m' = some v) (n1 : F_X12_normalX m' ay sl x1 = some a1) (n2 : F_X12_normalY m' ax sl x1 = some b1) (n3 : F_X12_normalX m' ay sl x2 = some a2) (n4 : F_X12_normalY m' ax sl x2 = some b2)
    (e1 : F_X12_round (2 * v.toInt64 * v.toInt64 * (a1 + a2).toInt64) ((a1 + a2).toInt64 * (a1 + a2).toInt64 + (b1 + b2).toInt64 * (b1 + b2).toInt64) = some tx)
    (e2 : F_X12_round (2 * v.toInt64 * v.toInt64 * (b1 + b2).toInt64) ((a1 + a2).toInt64 * (a1 + a2).toInt64 + (b1 + b2).toInt64 * (b1 + b2).toInt64) = some ty) :
    F_X12_laysJoin_j148 c0 m' ax ay sl R x1 x2 vx vy wd 1 1 = obd (F_X12_begin c0 R 1) (fun u => obd (F_X12_corners u.1 u.2 0 vx vy) (fun u_4 => obd (F_X12_corners u.1 u_4 1 (vx + wd * a1) (vy + wd * b1)) (fun u_5 => obd (F_X12_corners u.1 u_5 2 (vx + wd * tx) (vy + wd * ty)) (fun u_6 => obd (F_X12_corners u.1 u_6 3 (vx + wd * a2) (vy + wd * b2)) (fun u_7 => some (u.1, u_7)))))) := by
  have n10 : ¬ (1 : Int32) = 0 := by decide
  unfold F_X12_laysJoin_j148 F_X12_laysJoin_j292 F_X12_laysJoin_j303
  simp only [if_neg n10, tip_mm hf n1 n2 n3 n4 e1 e2]
  simp only [n1, n2, n3, n4, obd_s]
theorem bev_m {x1 x2 a1 b1 a2 b2 vx vy wd : Int32} (n1 : F_X12_normalX m' ay sl x1 = some a1) (n2 : F_X12_normalY m' ax sl x1 = some b1) (n3 : F_X12_normalX m' ay sl x2 = some a2) (n4 : F_X12_normalY m' ax sl x2 = some b2) (hl : l.length < 2800) (h : HoQ l R) :
    ∃ R', F_X12_laysJoin_j148 (nI l.length) m' ax ay sl R x1 x2 vx vy wd 0 2 = some (nI (l ++ [((2, f4 vx (vx + wd * a1) (vx + wd * a2) 0, f4 vy (vy + wd * b1) (vy + wd * b2) 0) : Pc)]).length, R') ∧ HoQ (l ++ [(2, f4 vx (vx + wd * a1) (vx + wd * a2) 0, f4 vy (vy + wd * b1) (vy + wd * b2) 0)]) R' := by
  obtain ⟨R', e, hQ'⟩ := three_m (x0 := vx) (y0 := vy) (x1 := vx + wd * a1) (y1 := vy + wd * b1) (x2 := vx + wd * a2) (y2 := vy + wd * b2) hl h
  refine ⟨R', ?_, hQ'⟩
  have z0 : (0 : Int32) = 0 := rfl
  have ea : ∀ {α : Type} (x : Int32) (F : Int32 → Int32 → Option α) (a b : Int32), F_X12_normalX m' ay sl x = some a → F_X12_normalY m' ax sl x = some b → obd (F_X12_normalX m' ay sl x) (fun u => obd (F_X12_normalY m' ax sl x) (fun v => F u v)) = F a b := fun x F a b h1 h2 => by rw [h1, obd_s, h2, obd_s]
  unfold F_X12_laysJoin_j148 F_X12_laysJoin_j292 F_X12_laysJoin_j303
  simp only [if_pos z0]
  simp only [ea x1 _ _ _ n1 n2, ea x2 _ _ _ n3 n4]
  exact e
theorem mtr_m {v x1 x2 a1 b1 a2 b2 tx ty vx vy wd : Int32} (hf : F_X12_half m' = some v) (n1 : F_X12_normalX m' ay sl x1 = some a1) (n2 : F_X12_normalY m' ax sl x1 = some b1) (n3 : F_X12_normalX m' ay sl x2 = some a2) (n4 : F_X12_normalY m' ax sl x2 = some b2)
    (e1 : F_X12_round (2 * v.toInt64 * v.toInt64 * (a1 + a2).toInt64) ((a1 + a2).toInt64 * (a1 + a2).toInt64 + (b1 + b2).toInt64 * (b1 + b2).toInt64) = some tx)
    (e2 : F_X12_round (2 * v.toInt64 * v.toInt64 * (b1 + b2).toInt64) ((a1 + a2).toInt64 * (a1 + a2).toInt64 + (b1 + b2).toInt64 * (b1 + b2).toInt64) = some ty) (hl : l.length < 2800) (h : HoQ l R) :
    ∃ R', F_X12_laysJoin_j148 (nI l.length) m' ax ay sl R x1 x2 vx vy wd 1 1 = some (nI (l ++ [((1, f4 vx (vx + wd * a1) (vx + wd * tx) (vx + wd * a2), f4 vy (vy + wd * b1) (vy + wd * ty) (vy + wd * b2)) : Pc)]).length, R') ∧ HoQ (l ++ [(1, f4 vx (vx + wd * a1) (vx + wd * tx) (vx + wd * a2), f4 vy (vy + wd * b1) (vy + wd * ty) (vy + wd * b2))]) R' := by
  obtain ⟨R', e, hQ'⟩ := four_m (k := 1) (x0 := vx) (y0 := vy) (x1 := vx + wd * a1) (y1 := vy + wd * b1) (x2 := vx + wd * tx) (y2 := vy + wd * ty) (x3 := vx + wd * a2) (y3 := vy + wd * b2) hl rfl h (by omega) (by omega)
  refine ⟨R', ?_, hQ'⟩
  rw [j148_mt hf n1 n2 n3 n4 e1 e2]
  exact e
theorem j127_m (hR : RW N p c m) (hm : E86 m' m) (h : HoR m s (p s) (sg N p m s) ax ay bx bz sl sa) (hs : s < N) (h1 : (sg N p m s)[g1]? = some k1) (h2 : (sg N p m s)[g2]? = some k2) (hl : l.length < 2800) (hQ : HoQ l R) (wd : Int32)
    (hwd : wd = if 0 < crs m s (p s) k1 k2 then -1 else 1) (hc0 : ¬ crs m s (p s) k1 k2 = 0) (hm1 : ¬ m 1 = 1) :
    ∃ R', F_X12_laysJoin_j127 (nI l.length) m' ax ay sl R (nI g1) (nI g2) (64 * m (16 + 18 * s + 2 * k2)) (64 * m (17 + 18 * s + 2 * k2)) wd = some (nI (l ++ jnP m s (p s) k1 k2).length, R') ∧ HoQ (l ++ jnP m s (p s) k1 k2) R' := by
  have n1 := h.nx hR hm h1
  have n2 := h.nx hR hm h2
  have s1 := sg_at h1
  have s2 := sg_at h2
  have n10 : ¬ (1 : Int32) = 0 := by decide
  unfold F_X12_laysJoin_j127 jnP
  rw [mit_m hR hm h h1 h2, obd_s, if_neg (show ¬ (crs m s (p s) k1 k2 = 0 ∧ (0 < dtp m s (p s) k1 k2 ∨ m 1 ≠ 1)) from fun h => hc0 h.1), if_neg hm1, ← hwd]
  by_cases q : mit m s (p s) k1 k2 = 0
  · simp only [if_pos q, if_pos (rfl : (0 : Int32) = 0)]
    exact bev_m n1.1 n1.2.1 n2.1 n2.2.1 hl hQ
  · have tc := tip_pos hR hs s1.1 s1.2 s2.1 s2.2 q
    have tx := (tip_c hR hs s1.1 s1.2 s2.1 s2.2 q (a := nrX m s (p s) k1 + nrX m s (p s) k2) tc.2.1).2
    have ty := (tip_c hR hs s1.1 s1.2 s2.1 s2.2 q (a := nrY m s (p s) k1 + nrY m s (p s) k2) tc.2.2).2
    simp only [if_neg q, if_neg n10]
    exact mtr_m (hf_m hm) n1.1 n1.2.1 n2.1 n2.2.1 tx ty hl hQ
theorem ljoin_m (hR : RW N p c m) (hm : E86 m' m) (h : HoR m s (p s) (sg N p m s) ax ay bx bz sl sa) (hs : s < N) (h1 : (sg N p m s)[g1]? = some k1) (h2 : (sg N p m s)[g2]? = some k2) (hl : l.length < 2800) (hQ : HoQ l R) :
    ∃ R', F_X12_laysJoin (nI l.length) m' ax ay bx bz sl R (nI g1) (nI g2) = some (nI (l ++ jnP m s (p s) k1 k2).length, R') ∧ HoQ (l ++ jnP m s (p s) k1 k2) R' := by
  have b1 := hx_lt h1
  have b2 := hx_lt h2
  have h8 := sg_len hR s
  have a1 := h g1 k1 h1
  have a2 := h g2 k2 h2
  have s1 := sg_at h1
  have s2 := sg_at h2
  have db := dtp_b hR hs s1.1 s2.1
  have ec : ∀ x y z w : Int32, x * y - z * w = iI (x.toInt * y.toInt - z.toInt * w.toInt) := fun x y z w => by
    rw [← ii_sub, ← ii_mul, ← ii_mul, ii_of, ii_of, ii_of, ii_of]
  have ed : ∀ x y z w : Int32, x * y + z * w = iI (x.toInt * y.toInt + z.toInt * w.toInt) := fun x y z w => by
    rw [← ii_add, ← ii_mul, ← ii_mul, ii_of, ii_of, ii_of, ii_of]
  have rc : IR (crs m s (p s) k1 k2) := by constructor <;> omega
  have rd : IR (dtp m s (p s) k1 k2) := by constructor <;> omega
  have r0 : IR 0 := by constructor <;> omega
  have pc0 : (iI (crs m s (p s) k1 k2) = 0) ↔ (crs m s (p s) k1 k2 = 0) := by rw [show (0 : Int32) = iI 0 from rfl, ii_eq rc r0]
  have pc1 : (iI (crs m s (p s) k1 k2) ≤ 0) ↔ (crs m s (p s) k1 k2 ≤ 0) := by rw [show (0 : Int32) = iI 0 from rfl, ii_le rc r0]
  have pd : (0 < iI (dtp m s (p s) k1 k2)) ↔ (0 < dtp m s (p s) k1 k2) := by rw [show (0 : Int32) = iI 0 from rfl, ii_lt r0 rd]
  have hj99 : ¬ (crs m s (p s) k1 k2 = 0 ∧ (0 < dtp m s (p s) k1 k2 ∨ m 1 ≠ 1)) → ∃ R', F_X12_laysJoin_j99 (nI l.length) m' ax ay sl R (nI g1) (nI g2) (iI (crs m s (p s) k1 k2)) (64 * m (16 + 18 * s + 2 * k2)) (64 * m (17 + 18 * s + 2 * k2)) = some (nI (l ++ jnP m s (p s) k1 k2).length, R') ∧ HoQ (l ++ jnP m s (p s) k1 k2) R' := by
    intro hno
    unfold F_X12_laysJoin_j99
    rw [gd_in' (z := 1) (i := 1) rfl (by decide) (by decide), cl_1, hm 1 (by decide)]
    by_cases q1 : m 1 = 1
    · have ej : jnP m s (p s) k1 k2 = [dsP (64 * m (16 + 18 * s + 2 * k2)) (64 * m (17 + 18 * s + 2 * k2))] := by
        unfold jnP
        rw [if_neg hno, if_pos q1]
      obtain ⟨R', e, hQ'⟩ := dis_m (x := 64 * m (16 + 18 * s + 2 * k2)) (y := 64 * m (17 + 18 * s + 2 * k2)) hl hQ
      rw [if_pos q1, e, obd_s, ej]
      exact ⟨R', rfl, hQ'⟩
    · have q0 : ¬ crs m s (p s) k1 k2 = 0 := fun e => hno ⟨e, Or.inr q1⟩
      rw [if_neg q1]
      by_cases q : crs m s (p s) k1 k2 ≤ 0
      · rw [if_pos (pc1.mpr q)]
        exact j127_m hR hm h hs h1 h2 hl hQ 1 (by rw [if_neg (show ¬ 0 < crs m s (p s) k1 k2 by omega)]) q0 q1
      · rw [if_neg (show ¬ iI (crs m s (p s) k1 k2) ≤ 0 from fun h => q (pc1.mp h))]
        exact j127_m hR hm h hs h1 h2 hl hQ (-1) (by rw [if_pos (show 0 < crs m s (p s) k1 k2 by omega)]) q0 q1
  unfold F_X12_laysJoin
  simp only [gd_in (show g1 < 8 by omega) (show 8 < 2 ^ 31 by decide), gd_in (show g2 < 8 by omega) (show 8 < 2 ^ 31 by decide), nI_clamp (show g1 < 2 ^ 31 by omega), nI_clamp (show g2 < 2 ^ 31 by omega), lt_eq]
  rw [a1.1, a1.2.1, a2.1, a2.2.1, a2.2.2.1, a2.2.2.2.1, ec, ed, gd_in' (z := 1) (i := 1) rfl (by decide) (by decide), cl_1, hm 1 (by decide)]
  show ∃ R', (if iI (crs m s (p s) k1 k2) = 0 then if 0 < iI (dtp m s (p s) k1 k2) then some (nI l.length, R) else if m 1 = 1 then F_X12_laysJoin_j99 (nI l.length) m' ax ay sl R (nI g1) (nI g2) (iI (crs m s (p s) k1 k2)) (64 * m (16 + 18 * s + 2 * k2)) (64 * m (17 + 18 * s + 2 * k2)) else some (nI l.length, R) else F_X12_laysJoin_j99 (nI l.length) m' ax ay sl R (nI g1) (nI g2) (iI (crs m s (p s) k1 k2)) (64 * m (16 + 18 * s + 2 * k2)) (64 * m (17 + 18 * s + 2 * k2))) = _ ∧ _
  by_cases q0 : crs m s (p s) k1 k2 = 0
  · rw [if_pos (pc0.mpr q0)]
    by_cases q1 : 0 < dtp m s (p s) k1 k2
    · have ej : jnP m s (p s) k1 k2 = [] := by unfold jnP; rw [if_pos ⟨q0, Or.inl q1⟩]
      rw [if_pos (pd.mpr q1), ej, List.append_nil]
      exact ⟨R, rfl, hQ⟩
    · rw [if_neg (show ¬ 0 < iI (dtp m s (p s) k1 k2) from fun h => q1 (pd.mp h))]
      by_cases q2 : m 1 = 1
      · rw [if_pos q2]
        exact hj99 (fun h => by rcases h.2 with y | y
                                · exact q1 y
                                · exact y q2)
      · have ej : jnP m s (p s) k1 k2 = [] := by unfold jnP; rw [if_pos ⟨q0, Or.inr q2⟩]
        rw [if_neg q2, ej, List.append_nil]
        exact ⟨R, rfl, hQ⟩
  · rw [if_neg (show ¬ iI (crs m s (p s) k1 k2) = 0 from fun h => q0 (pc0.mp h))]
    exact hj99 (fun h => q0 h.1)
end PCR
