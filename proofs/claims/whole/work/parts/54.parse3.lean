/-! ===== parse, whole ===== -/
/-- what is kept speaks of the 86 cells alone -/
def CAe (CA : Nat → (Nat → Nat) → (Nat → Int32) → SC → Prop) : Prop := ∀ N p m m' t, (∀ i, i < 86 → m' i = m i) → CA N p m t → CA N p m' t
def swp (a b : Nat → Int32) (k : Nat) : Nat → Int32 := fun i => if i < k then a i else b i
theorem swp_0 (a b : Nat → Int32) : swp a b 0 = b := funext fun i => if_neg (by omega)
theorem swp_in {a b : Nat → Int32} {k i : Nat} (h : i < k) : swp a b k i = a i := if_pos h
theorem swp_out {a b : Nat → Int32} {k i : Nat} (h : k ≤ i) : swp a b k i = b i := if_neg (by omega)
theorem swp_s (a b : Nat → Int32) (k : Nat) : upd (swp a b k) k (a k) = swp a b (k + 1) := by
  funext i
  by_cases q : i = k
  · rw [ud_e q, q, swp_in (by omega)]
  · rw [ud_n q]
    by_cases z : i < k
    · rw [swp_in z, swp_in (by omega)]
    · rw [swp_out (by omega), swp_out (by omega)]
theorem cp_1 {n : Nat} (hn : 1000 ≤ n) (a b : Nat → Int32) : lpq (F_X12_parse_b7 a) n (0, b) = some (swp a b 86) := by
  have key : lpq (F_X12_parse_b7 a) n (nI 0, swp a b 0) = some (swp a b 86) := by
    refine lpq_run 86 (fun k => (nI k, swp a b k)) (fun k hk => ?_) ?_ (by omega)
    · unfold F_X12_parse_b7
      simp only [zl_86, lt_eq, zl_1, nI_add]
      rw [if_neg (nI_ge hk (by omega)), gd_in hk (by decide), gd_in hk (by decide), nI_clamp (by omega), swp_s]
    · unfold F_X12_parse_b7
      exact if_pos (show (86 : Int32) ≤ nI 86 from by decide)
  rw [swp_0] at key
  exact key
theorem cp_3 {n : Nat} (hn : 1000 ≤ n) (a b : Nat → Int32) : lpq (F_X12_parse_b94 a) n (0, b) = some (swp a b 86) := by
  have key : lpq (F_X12_parse_b94 a) n (nI 0, swp a b 0) = some (swp a b 86) := by
    refine lpq_run 86 (fun k => (nI k, swp a b k)) (fun k hk => ?_) ?_ (by omega)
    · unfold F_X12_parse_b94
      simp only [zl_86, lt_eq, zl_1, nI_add]
      rw [if_neg (nI_ge hk (by omega)), gd_in hk (by decide), gd_in hk (by decide), nI_clamp (by omega), swp_s]
    · unfold F_X12_parse_b94
      exact if_pos (show (86 : Int32) ≤ nI 86 from by decide)
  rw [swp_0] at key
  exact key
theorem cp_2 {n : Nat} (hn : 1000 ≤ n) (a b : Nat → Int32) : lpq F_X12_parse_b38 n (0, a, b) = some (swp b a 86, swp a b 86) := by
  have key : lpq F_X12_parse_b38 n (nI 0, swp b a 0, swp a b 0) = some (swp b a 86, swp a b 86) := by
    refine lpq_run 86 (fun k => (nI k, swp b a k, swp a b k)) (fun k hk => ?_) ?_ (by omega)
    · unfold F_X12_parse_b38
      simp only [zl_86, lt_eq, zl_1, nI_add]
      rw [if_neg (nI_ge hk (by omega)), gd_in hk (by decide), gd_in hk (by decide), gd_in hk (by decide), gd_in hk (by decide), nI_clamp (by omega), swp_out (a := b) (b := a) (Nat.le_refl k), swp_out (a := a) (b := b) (Nat.le_refl k), swp_s, swp_s]
    · unfold F_X12_parse_b38
      exact if_pos (show (86 : Int32) ≤ nI 86 from by decide)
  rw [swp_0, swp_0] at key
  exact key
theorem take_c (c d : Nat → Int32) : ∃ U, F_X1_takePath c d = some U ∧ ∀ i, i < 86 → U i = if i < 13 then c i else d i := by
  unfold F_X1_takePath
  rw [gd_t (by decide), lt_eq]
  refine ⟨_, rfl, fun i hi => ?_⟩
  show (if (13 : Int32).toNatClampNeg ≤ i ∧ i < (13 : Int32).toNatClampNeg + (73 : Int32).toNatClampNeg then d ((13 : Int32).toNatClampNeg + (i - (13 : Int32).toNatClampNeg)) else c i) = _
  rw [cl_13, show (73 : Int32).toNatClampNeg = 73 from by decide]
  by_cases q : i < 13
  · rw [if_neg (by omega), if_pos q]
  · rw [if_pos (by omega), if_neg q]; exact congrArg d (by omega)
set_option maxHeartbeats 1000000 in
theorem ag_parse {CA : Nat → (Nat → Nat) → (Nat → Int32) → SC → Prop} (hz : CAz CA) (he : CAe CA) : Ag_parse (Inv CA) := by
  unfold Ag_parse
  intro d0 d1 d2 d3 d4 d5 d6 d7 d8 d9 d10 d11 d12 d13 d14 d15 d16 d17 d18 d19 d20 d21 d22 d23 d24 d25 d26 d27 d28 d29 d30 d31 d32 d33 d34 d35 d36 d37 d38 d39 d40 d41 d42 d43 d44 d45 d46 d47 d48 d49 d50 m0 m1 m2 m3 m4 m5 m6 m7 m8 m9 m10 m11 m12 m13 m14 m15 m16 m17 m18 m19 m20 m21 m22 m23 m24 m25 m26 m27 m28 m29 m30  hI
  obtain ⟨N, p, hR, hH, hT, hC⟩ := Inv_un hI
  have hN4 := hR.1
  have c13 := hR.c13
  have m13 := hR.m13
  obtain ⟨len, hl, l1, l2, hb⟩ := hT
  have hst : ST m14 m14 := ⟨fun _ _ => rfl, hR.st.2⟩
  have hP0 : PW m14 0 p (upd d1 13 (nI 0)) (upd m14 13 (nI 0)) := by
    refine ⟨⟨by omega, by rw [ov_hi (by omega), ud_e rfl], ud_e rfl, hst.fr (fun i hi => by rw [ov_lo hi, ud_n (by omega)]) (fun i hi => ud_n (by omega)), fun s hs => absurd hs (by omega)⟩, fun i hi => ud_n (by omega)⟩
  obtain ⟨at', fl', rx', ry', U, c1, c2⟩ := path_rd (m0 := m14) hl hb (w := 1000) (by omega) 4 0 0 p _ _ d7 d8 m10 m11 1000 1000 (by omega) hP0 (by omega) (by omega) (by omega)
  have C1 : F_X5_readPath 1000 d4 d7 d8 d9 d1 = some (fl', at', fl', rx', ry', U) := by
    unfold F_X5_readPath F_X1_clearPath F_X5_readPath_j16
    rw [p1_l (z := 13) (i := 13) rfl (by decide), obd_s, obd_s, l1]
    show obd (lpq (F_X5_readPath_b16 1000 (nI len) d9) 1000 (nI 0, nI 0, -1, d7, d8, upd d1 13 (nI 0))) _ = _
    rw [c1]; rfl
  have R0 : ∀ x, lpq (F_X12_readsPath_b13 1000 (nI len) m16) 1000 (nI 0, m10, m11, upd m14 13 (nI 0)) = some x → F_X12_readsPath 1000 m2 m10 m11 m14 m16 = Sum.elim (fun x_13 => F_X12_readsPath_j51 x_13.1 x_13.2.1 x_13.2.2.1 x_13.2.2.2) (fun x_13 => Sum.elim (fun x_13 => F_X12_readsPath_j99 x_13.1 x_13.2.1 x_13.2.2.1 x_13.2.2.2) (fun x_13 => F_X12_readsPath_j152 x_13.1 x_13.2.1 x_13.2.2.1 x_13.2.2.2) x_13) x := fun x hx => by
    unfold F_X12_readsPath F_X12_readsPath_j13
    rw [gd_13, cl_13, lt_eq, l2]
    show obd (lpq (F_X12_readsPath_b13 1000 (nI len) m16) 1000 (nI 0, m10, m11, upd m14 13 (nI 0))) _ = _
    rw [hx]; rfl
  have R1 : ∀ is sp n25 n26 V, F_X12_readsPath 1000 m2 m10 m11 m14 m16 = some (is, sp, n25, n26, V) → F_X12_parse 1000 m0 m2 m10 m11 m14 m15 m16 m29 = F_X12_parse_j76 1000 m0 0 sp n25 n26 (swp (swp m14 m29 86) V 86) m15 (swp V (swp m14 m29 86) 86) is := fun is sp n25 n26 V h => by
    unfold F_X12_parse F_X12_parse_j7
    rw [cp_1 (by omega), obd_s]
    unfold F_X12_parse_j31
    rw [h, obd_s]
    unfold F_X12_parse_j38
    show obd (lpq F_X12_parse_b38 1000 (0, V, swp m14 m29 86)) _ = _
    rw [cp_2 (by omega)]; rfl
  rcases c2 with ⟨sp, n25, n26, V, N', p', g1, g2, g3⟩ | ⟨f, n25, n26, V, hfl, hf, g3⟩
  · have hR0 : RW N p d0 (swp (swp m14 m29 86) V 86) := hR.i86 (fun i hi => rfl) (fun i hi => by rw [swp_in hi, swp_in hi])
    obtain ⟨y, a', b', s1, s2, s3⟩ := save_both (n := 1000) (by omega) hR0 hH
    obtain ⟨W, t1, t2⟩ := take_c d0 U
    have hR' : RW N' p' W (swp (swp V (swp m14 m29 86) 86) (swp (swp m14 m29 86) V 86) 86) := by
      refine g3.1.i86 (fun i hi => ?_) (fun i hi => by rw [swp_in hi, swp_in hi])
      rw [t2 i hi]
      by_cases q : i < 13
      · rw [if_pos q, ov_lo q, g3.2 i q]; exact hR.st.1 i q
      · rw [if_neg q, ov_hi (by omega)]
    refine ⟨1000, 1000, (nI N', U, W, y, a', 0, at', -1, rx', ry'), (nI N', y, 0, sp, n25, n26, swp (swp V (swp m14 m29 86) 86) (swp (swp m14 m29 86) V 86) 86, b', swp V (swp m14 m29 86) 86), ?_, ?_, rfl, Inv_mk hR' s3 ⟨len, hl, l1, l2, hb⟩ (hz _ _ _ _)⟩
    · unfold F_X11_parse
      rw [C1, obd_s, g1]
      show (if (-1 : Int32) = -1 then obd (F_X11_saveState d0 d2 d3) (fun u_3 => obd (F_X1_takePath d0 U) _) else _) = _
      rw [if_pos rfl, s1, obd_s, t1, obd_s, X1_count, obd_s, hR'.c13]
    · rw [R1 1 sp n25 n26 V (by rw [R0 _ g2]; rfl)]
      unfold F_X12_parse_j76
      rw [if_neg (by decide), s2, obd_s]
      unfold F_X12_parse_j94
      rw [cp_3 (by omega), obd_s]
      unfold F_X12_parse_j118
      rw [gd_13, cl_13, hR'.m13]
  · have h : F_X12_readsPath 1000 m2 m10 m11 m14 m16 = some (0, nI f, n25, n26, V) := by
      rcases g3 with g3 | g3
      · rw [R0 _ g3]; rfl
      · rw [R0 _ g3]; rfl
    have ev : ∀ i, i < 86 → swp (swp m14 m29 86) V 86 i = m14 i := fun i hi => by rw [swp_in hi, swp_in hi]
    refine ⟨1000, 1000, (-10 - nI f, U, d0, d2, d3, d12, at', nI f, rx', ry'), (-10 - nI f, m0, 0, nI f, n25, n26, swp (swp m14 m29 86) V 86, m15, swp V (swp m14 m29 86) 86), ?_, ?_, rfl, Inv_mk (hR.i86 (fun i hi => rfl) ev) hH ⟨len, hl, l1, l2, hb⟩ (he _ _ _ _ _ ev hC)⟩
    · unfold F_X11_parse
      rw [C1, obd_s, hfl]
      exact if_neg (m1_ne f (by omega))
    · rw [R1 _ _ _ _ _ h]
      unfold F_X12_parse_j76
      exact if_pos rfl
