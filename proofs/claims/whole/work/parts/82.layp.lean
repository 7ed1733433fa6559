/-! ===== the pieces of all subpaths in the reference ===== -/
theorem nI_nm1 {w : Nat} (hw : w < 2 ^ 31) : ¬ nI w = -1 := fun h => by
  have := (fa_eq _ _).mp h
  rw [nI_toInt hw, show (-1 : Int32).toInt = -1 from by decide] at this; omega
section LAY
variable {N : Nat} {p : Nat → Nat} {c m m' : Nat → Int32} {ax ay bx bz sl sa : Nat → Int32} {s i f : Nat} {l : List Pc} {R ra rl co cf ct : Nat → Int32} {r : Run}
theorem run16 (hR : RW N p c m) (hr : (fin N p m s)[i]? = some r) : r.2.2.2.length ≤ 16 := by
  have fa := fin_at hR hr
  have h8 := sg_len hR s
  have c1 := cut_len (sA N p m s) r.1 (min (r.1 + r.2.1) (sW N p m s)) (sg N p m s).length
  have c2 := cut_len (sA N p m s) 0 (r.1 + r.2.1 - sW N p m s) (sg N p m s).length
  rw [fa.2.2.2, List.length_append]; omega
theorem jj_m (hR : RW N p c m) (hm : E86 m' m) (h : HoR m s (p s) (sg N p m s) ax ay bx bz sl sa) (hs : s < N) (hr : (fin N p m s)[i]? = some r) (hC : HoC r.2.2.2 co cf ct)
    {k k' : Nat} (hk : (k + 1 < r.2.2.2.length ∧ k' = k + 1) ∨ (k + 1 = r.2.2.2.length ∧ r.2.2.1 = 1 ∧ k' = 0)) (hl : l.length < 2800) (hQ : HoQ l R) :
    ∃ R', F_X12_laysRun_j48 (nI l.length) m' ax ay bx bz sl co R (nI k) (nI k') = some (.inl (nI (k + 1), nI (l ++ jj N p m s r k k').length, R')) ∧ HoQ (l ++ jj N p m s r k k') R' := by
  obtain ⟨z, z', hz, hz', ha, _⟩ := fin_adj hR hr hk
  have h16 := run16 hR hr
  have c1 := fin_cut hR hr hz
  have c2 := fin_cut hR hr hz'
  have h8 := sg_len hR s
  obtain ⟨g1, hg1⟩ := hx_at c1.1
  obtain ⟨g2, hg2⟩ := hx_at c2.1
  have k1 := hC k z hz
  have k2 := hC k' z' hz'
  have b1 := hx_lt hz
  have b2 := hx_lt hz'
  unfold jj F_X12_laysRun_j48 F_X12_laysRun_j85
  rw [cz_e hz, cz_e hz', kk_e hg1, kk_e hg2, if_neg (show ¬ nI k' = -1 from nI_nm1 (by omega)), gd_in (show k' < 20 by omega) (by decide), gd_in (show k < 20 by omega) (by decide), nI_clamp (show k' < 2 ^ 31 by omega), nI_clamp (show k < 2 ^ 31 by omega), k1.1, k2.1]
  by_cases q : z'.1 = z.1
  · rw [if_pos q, q, if_pos rfl, List.append_nil, lt_eq, zl_1, nI_add]
    exact ⟨R, rfl, hQ⟩
  · rw [if_neg q, if_neg (show ¬ nI z'.1 = nI z.1 from nI_ne q (by omega) (by omega)), gd_in (show k < 20 by omega) (by decide), gd_in (show k' < 20 by omega) (by decide)]
    obtain ⟨R', e, hQ'⟩ := ljoin_m hR hm h hs hg1 hg2 hl hQ
    rw [e, obd_s, lt_eq, zl_1, nI_add]
    exact ⟨R', rfl, hQ'⟩
set_option maxHeartbeats 1000000 in
theorem lrun_m (hR : RW N p c m) (hm : E86 m' m) (h : HoR m s (p s) (sg N p m s) ax ay bx bz sl sa) (hs : s < N) (hF : HoF (fin N p m s) f ra rl) (hr : (fin N p m s)[i]? = some r)
    {n : Nat} (hn : 10000 ≤ n) (hl : l.length + (runP N p m s r).length ≤ 2792) (hQ : HoQ l R) (co cf ct : Nat → Int32) :
    ∃ co' cf' ct' R', F_X12_laysRun n (nI (sg N p m s).length) (nI (sW N p m s)) (nI f) (nI l.length) m' ax ay bx bz sl sa ra rl co cf ct R (nI i) = some (nI r.2.2.2.length, nI (l ++ runP N p m s r).length, co', cf', ct', R') ∧ HoQ (l ++ runP N p m s r) R' := by
  have hN4 := hR.1
  have hne := fin_ne hR hr
  have hex := (fin_ex hR hr).2.1
  have h16 := run16 hR hr
  have ff := (hF i r hr).2.2
  have hlr : ∀ k, k ≤ r.2.2.2.length → (l ++ rp N p m s r k).length + (rcp N p m s r).length ≤ 2792 := fun k hk => by
    have h1 := rp_mono (N := N) (p := p) (m := m) s r k (r.2.2.2.length - k)
    rw [show k + (r.2.2.2.length - k) = r.2.2.2.length from by omega] at h1
    unfold runP at hl
    rw [List.length_append] at hl ⊢; omega
  have hb : ∀ (k : Nat) (z : Cut), r.2.2.2[k]? = some z → k < 20 ∧ z.2.1 ≤ 18101 ∧ z.2.2 ≤ 18101 ∧ ∃ g, (sg N p m s)[z.1]? = some g := fun k z hz => by
    have hk := hx_lt hz
    have hc := fin_cut hR hr hz
    obtain ⟨g, hg⟩ := hx_at hc.1
    have hl := sgl_le (hR.sp (sg_s hg)) (sg_at hg).1
    have hA := sA_s (N := N) (p := p) (m := m) hg
    exact ⟨by omega, by omega, by omega, g, hg⟩
  obtain ⟨co', cf', ct', e0, hC⟩ := lc_m (n := n) (by omega) hR h hF hr co cf ct
  unfold F_X12_laysRun F_X12_laysRun_j7
  rw [e0, obd_s]
  show ∃ co' cf' ct' R', obd (lpq (F_X12_laysRun_b7 (nI f) (nI r.2.2.2.length) m' ax ay bx bz sl _ _ _) n (nI 0, nI l.length, R)) _ = _ ∧ _
  have key : ∃ x, lpq (F_X12_laysRun_b7 (nI f) (nI r.2.2.2.length) m' ax ay bx bz sl co' cf' ct') n (nI 0, nI l.length, R) = some x ∧
      ∃ R', x = (nI (l ++ rp N p m s r r.2.2.2.length).length, R') ∧ HoQ (l ++ rp N p m s r r.2.2.2.length) R' := by
    refine lpq_i0 (fun k st => ∃ R', st = (nI k, nI (l ++ rp N p m s r k).length, R') ∧ HoQ (l ++ rp N p m s r k) R') _ r.2.2.2.length ?_ (by omega) ⟨R, by rw [rp, List.append_nil], by rw [rp, List.append_nil]; exact hQ⟩
    rintro k st hk ⟨R1, rfl, hQ1⟩
    unfold F_X12_laysRun_b7
    by_cases q : k = r.2.2.2.length
    · left
      subst q
      exact ⟨_, if_pos (nI_le (Nat.le_refl _) (by omega)), R1, rfl, hQ1⟩
    · right
      refine ⟨by omega, ?_⟩
      obtain ⟨z, hz⟩ := hx_at (show k < r.2.2.2.length by omega)
      obtain ⟨y1, y2, y3, g1, hg1⟩ := hb k z hz
      have cc := hC k z hz
      have b1 := hlr (k + 1) (by omega)
      rw [rp_s, List.length_append, List.length_append, List.length_append, List.length_singleton] at b1
      obtain ⟨R2, e2, hQ2⟩ := strip_m hR hm h hg1 y1 cc.1 cc.2.1 cc.2.2 y2 y3 (l := l ++ rp N p m s r k) (by rw [List.length_append]; omega) hQ1
      have eL : l ++ rp N p m s r k ++ [stP m s (p s) g1 z.2.1 z.2.2] ++ jo N p m s r k = l ++ rp N p m s r (k + 1) := by
        rw [rp_s, cz_e hz, kk_e hg1, List.append_assoc, List.append_assoc, List.append_assoc]
      have hl3 : (l ++ rp N p m s r k ++ [stP m s (p s) g1 z.2.1 z.2.2]).length < 2800 := by rw [List.length_append, List.length_append, List.length_singleton]; omega
      show ∃ s', (if nI r.2.2.2.length ≤ nI k then _ else obd (F_X12_laysStrip (nI (l ++ rp N p m s r k).length) m' ax ay bx bz sl co' cf' ct' R1 (nI k)) _) = _ ∧ _
      rw [if_neg (nI_ge (by omega) (by omega)), e2, obd_s]
      show ∃ s', (if nI r.2.2.2.length ≤ nI k + 1 then _ else _) = _ ∧ _
      rw [zl_1, nI_add]
      by_cases q1 : k + 1 < r.2.2.2.length
      · rw [if_neg (nI_ge (by omega) (by omega))]
        obtain ⟨R3, e3, hQ3⟩ := jj_m hR hm h hs hr hC (k := k) (k' := k + 1) (Or.inl ⟨q1, rfl⟩) hl3 hQ2
        have ejo : jo N p m s r k = jj N p m s r k (k + 1) := if_pos q1
        rw [← ejo, eL] at e3 hQ3
        exact ⟨_, e3, R3, rfl, hQ3⟩
      · have q2 : k + 1 = r.2.2.2.length := by omega
        rw [if_pos (nI_le (by omega) (by omega)), ← ff]
        rcases hex with y | y
        · rw [y, if_pos (show nI 0 = 0 from rfl)]
          have ejo : jo N p m s r k = [] := by
            unfold jo
            rw [if_neg q1, y, if_neg (by decide)]
          rw [ejo, List.append_nil] at eL
          rw [eL] at hQ2
          rw [eL]
          unfold F_X12_laysRun_j48 F_X12_laysRun_j85
          rw [if_pos (show -nI 1 = -1 from rfl), lt_eq]
          exact ⟨_, rfl, R2, by rw [← nI_add k 1]; rfl, hQ2⟩
        · rw [y, if_neg (show ¬ nI 1 = 0 by decide)]
          obtain ⟨R3, e3, hQ3⟩ := jj_m hR hm h hs hr hC (k := k) (k' := 0) (Or.inr ⟨q2, y, rfl⟩) hl3 hQ2
          have ejo : jo N p m s r k = jj N p m s r k 0 := by
            unfold jo
            rw [if_neg q1, if_pos y]
          rw [← ejo, eL] at e3 hQ3
          exact ⟨_, e3, R3, rfl, hQ3⟩
  obtain ⟨x, e, R1, rfl, hQ1⟩ := key
  rw [e, obd_s]
  unfold F_X12_laysRun_j91
  dsimp only
  have b2 := hlr r.2.2.2.length (Nat.le_refl _)
  rw [← ff]
  rcases hex with y | y
  · have ercp : rcp N p m s r = cpP m s (p s) (kk N p m s (cz r 0).1) (cz r 0).2.1 (-1) ++ cpP m s (p s) (kk N p m s (cz r (r.2.2.2.length - 1)).1) (cz r (r.2.2.2.length - 1)).2.2 1 := by
      unfold rcp
      rw [y, if_neg (by decide)]
    obtain ⟨z, hz⟩ := hx_at hne
    obtain ⟨z', hz'⟩ := hx_at (show r.2.2.2.length - 1 < r.2.2.2.length by omega)
    obtain ⟨x1, y2, y3, g1, hg1⟩ := hb 0 z hz
    obtain ⟨x2, y4, y5, g2, hg2⟩ := hb _ z' hz'
    have c1 := hC 0 z hz
    have c2 := hC _ z' hz'
    rw [cz_e hz, cz_e hz', kk_e hg1, kk_e hg2] at ercp
    have eR : l ++ rp N p m s r r.2.2.2.length ++ cpP m s (p s) g1 z.2.1 (-1) ++ cpP m s (p s) g2 z'.2.2 1 = l ++ runP N p m s r := by
      unfold runP
      rw [ercp, List.append_assoc, List.append_assoc]
    have b2 : (l ++ rp N p m s r r.2.2.2.length).length + ((cpP m s (p s) g1 z.2.1 (-1)).length + (cpP m s (p s) g2 z'.2.2 1).length) ≤ 2792 := by rw [← List.length_append, ← ercp]; exact b2
    obtain ⟨R2, e2, hQ2⟩ := cap_m hR hm h hg1 y2 (l := l ++ rp N p m s r r.2.2.2.length) (show (l ++ rp N p m s r r.2.2.2.length).length < 2800 by omega) hQ1 (-1)
    obtain ⟨R3, e3, hQ3⟩ := cap_m hR hm h hg2 y5 (l := l ++ rp N p m s r r.2.2.2.length ++ cpP m s (p s) g1 z.2.1 (-1)) (by rw [List.length_append (as := l ++ rp N p m s r r.2.2.2.length)]; omega) hQ2 1
    rw [y, if_pos (show nI 0 = 0 from rfl), gd_in' (z := 0) (i := 0) rfl (by decide) (by decide), gd_in' (z := 0) (i := 0) rfl (by decide) (by decide), cl_0, c1.1, c1.2.1]
    show ∃ co' cf' ct' R', obd (F_X12_laysCap (nI (l ++ rp N p m s r r.2.2.2.length).length) m' ax ay bx bz sl R1 (nI z.1) (nI z.2.1) (-1)) _ = _ ∧ _
    rw [e2, obd_s]
    dsimp only
    rw [zl_1, pk_sub (by omega), lt_eq, gd_in x2 (by decide), lt_eq, gd_in x2 (by decide), nI_clamp (by omega), c2.1, c2.2.2]
    show ∃ co' cf' ct' R', obd (F_X12_laysCap (nI (l ++ rp N p m s r r.2.2.2.length ++ cpP m s (p s) g1 z.2.1 (-1)).length) m' ax ay bx bz sl R2 (nI z'.1) (nI z'.2.2) 1) _ = _ ∧ _
    rw [e3, obd_s, ← eR]
    exact ⟨co', cf', ct', R3, rfl, hQ3⟩
  · have ercp : rcp N p m s r = [] := if_pos y
    rw [y, if_neg (show ¬ nI 1 = 0 by decide)]
    unfold runP
    rw [ercp, List.append_nil]
    exact ⟨co', cf', ct', R1, rfl, hQ1⟩
theorem lruns_m (hR : RW N p c m) (hm : E86 m' m) (h : HoR m s (p s) (sg N p m s) ax ay bx bz sl sa) (hs : s < N) (hF : HoF (fin N p m s) f ra rl) {n : Nat} (hn : 10000 ≤ n) (hQ : HoQ (pcs N p m s ++ fmP N p m s 0) R) (x21 : Int32) (co cf ct : Nat → Int32) :
    ∃ y21 co' cf' ct' R', F_X12_laysPieces_j35 n (nI (sg N p m s).length) (nI (sW N p m s)) (nI (fin N p m s).length) (nI f) x21 (nI (pcs N p m s ++ fmP N p m s 0).length) m' ax ay bx bz sl sa ra rl co cf ct R (nI s) =
      some (.inl (nI (s + 1), nI (sg N p m s).length, nI (sW N p m s), nI (fin N p m s).length, nI f, y21, nI (pcs N p m (s + 1)).length, ax, ay, bx, bz, sl, sa, ra, rl, co', cf', ct', R')) ∧ HoQ (pcs N p m (s + 1)) R' := by
  have hN4 := hR.1
  have hfl := fin_len hR s
  unfold F_X12_laysPieces_j35 F_X12_laysPieces_j37
  have key : ∃ x, lpq (F_X12_laysPieces_b37 n (nI (sg N p m s).length) (nI (sW N p m s)) (nI (fin N p m s).length) (nI f) m' ax ay bx bz sl sa ra rl) n (nI 0, x21, nI (pcs N p m s ++ fmP N p m s 0).length, co, cf, ct, R) = some x ∧
      ∃ y21 co' cf' ct' R', x = (y21, nI (pcs N p m (s + 1)).length, co', cf', ct', R') ∧ HoQ (pcs N p m (s + 1)) R' := by
    refine lpq_i0 (fun k st => ∃ y21 co' cf' ct' R', st = (nI k, y21, nI (pcs N p m s ++ fmP N p m s k).length, co', cf', ct', R') ∧ HoQ (pcs N p m s ++ fmP N p m s k) R') _ (fin N p m s).length ?_ (by omega) ⟨x21, co, cf, ct, R, rfl, hQ⟩
    rintro k st hk ⟨y1, o1, f1, t1, R1, rfl, hQ1⟩
    unfold F_X12_laysPieces_b37
    by_cases q : k = (fin N p m s).length
    · left
      subst q
      exact ⟨_, if_pos (nI_le (Nat.le_refl _) (by omega)), y1, o1, f1, t1, R1, rfl, hQ1⟩
    · right
      refine ⟨by omega, ?_⟩
      obtain ⟨r, hr⟩ := hx_at (show k < (fin N p m s).length by omega)
      obtain ⟨o2, f2, t2, R2, e2, hQ2⟩ := lrun_m hR hm h hs hF hr hn (pl_run hR (show s < 4 by omega) hr) hQ1 o1 f1 t1
      rw [List.append_assoc, ← fmP_s hr] at e2 hQ2
      show ∃ s', (if nI (fin N p m s).length ≤ nI k then _ else obd (F_X12_laysRun n (nI (sg N p m s).length) (nI (sW N p m s)) (nI f) (nI (pcs N p m s ++ fmP N p m s k).length) m' ax ay bx bz sl sa ra rl o1 f1 t1 R1 (nI k)) _) = _ ∧ _
      rw [if_neg (nI_ge (by omega) (by omega)), e2, obd_s, lt_eq]
      exact ⟨_, rfl, nI r.2.2.2.length, o2, f2, t2, R2, by rw [← nI_add k 1]; rfl, hQ2⟩
  obtain ⟨x, e, y1, o1, f1, t1, R1, rfl, hQ1⟩ := key
  rw [zl_0, e, obd_s]
  unfold F_X12_laysPieces_j56
  rw [lt_eq, zl_1, nI_add]
  exact ⟨y1, o1, f1, t1, R1, rfl, hQ1⟩
set_option maxHeartbeats 1000000 in
theorem lp_m (hR : RW N p c m) (hm : E86 m' m) {n : Nat} (hn : 200000 ≤ n) (x12 x13 x16 x17 x21 : Int32) (a6 a7 a8 a9 a10 a11 a14 a15 a18 a19 a20 a22 : Nat → Int32) :
    ∃ y12 y13 y16 y17 y21 b6 b7 b8 b9 b10 b11 b14 b15 b18 b19 b20 R', F_X12_laysPieces n x12 x13 x16 x17 x21 m' a6 a7 a8 a9 a10 a11 a14 a15 a18 a19 a20 a22 = some (y12, y13, y16, y17, y21, nI (pcs N p m N).length, b6, b7, b8, b9, b10, b11, b14, b15, b18, b19, b20, R') ∧ HoQ (pcs N p m N) R' := by
  have hN4 := hR.1
  unfold F_X12_laysPieces F_X12_laysPieces_j7
  have key : ∃ x, lpq (F_X12_laysPieces_b7 n m') n (nI 0, x12, x13, x16, x17, x21, nI (pcs N p m 0).length, a6, a7, a8, a9, a10, a11, a14, a15, a18, a19, a20, a22) = some x ∧
      ∃ y12 y13 y16 y17 y21 b6 b7 b8 b9 b10 b11 b14 b15 b18 b19 b20 R', x = (y12, y13, y16, y17, y21, nI (pcs N p m N).length, b6, b7, b8, b9, b10, b11, b14, b15, b18, b19, b20, R') ∧ HoQ (pcs N p m N) R' := by
    refine lpq_i0 (fun s st => ∃ y12 y13 y16 y17 y21 b6 b7 b8 b9 b10 b11 b14 b15 b18 b19 b20 R', st = (nI s, y12, y13, y16, y17, y21, nI (pcs N p m s).length, b6, b7, b8, b9, b10, b11, b14, b15, b18, b19, b20, R') ∧ HoQ (pcs N p m s) R') _ N ?_ (by omega)
      ⟨x12, x13, x16, x17, x21, a6, a7, a8, a9, a10, a11, a14, a15, a18, a19, a20, a22, rfl, fun i q hq => absurd hq (by simp [pcs])⟩
    rintro s st hs ⟨y12, y13, y16, y17, y21, b6, b7, b8, b9, b10, b11, b14, b15, b18, b19, b20, R1, rfl, hQ1⟩
    unfold F_X12_laysPieces_b7
    rw [gd_13, cl_13, hm 13 (by decide), hR.m13]
    by_cases q : s = N
    · left
      subst q
      exact ⟨_, if_pos (nI_le (Nat.le_refl _) (by omega)), y12, y13, y16, y17, y21, b6, b7, b8, b9, b10, b11, b14, b15, b18, b19, b20, R1, rfl, hQ1⟩
    · right
      refine ⟨by omega, ?_⟩
      have hlen := pcs_len hR s
      have h8 := sg_len hR s
      obtain ⟨f, c17, c18, c19, c20, c21, c22, s23, s24, k1, k2, k3, k4⟩ := lr_m hn hR hm (s := s) (by omega) y12 y13 b6 b7 b8 b9 b10 b11 b14 b15
      show ∃ s', (if nI N ≤ nI s then _ else obd (F_X12_laysRuns n y12 y13 m' b6 b7 b8 b9 b10 b11 b14 b15 (nI s)) _) = _ ∧ _
      rw [if_neg (nI_ge (by omega) (by omega)), k1, obd_s]
      by_cases q0 : (sg N p m s).length = 0
      · have ef : fmP N p m s 0 = dtP m s := by rw [fmP_0, if_pos q0]
        obtain ⟨R2, e2, hQ2⟩ := point_m hR hm (s := s) (by omega) (l := pcs N p m s) (by omega) hQ1
        rw [if_pos (show nI (sg N p m s).length = 0 by rw [q0]; rfl)]
        show ∃ s', obd (F_X12_laysPoint (nI (pcs N p m s).length) m' R1 (nI s)) _ = _ ∧ _
        rw [e2, obd_s, ← ef]
        rw [← ef] at hQ2
        obtain ⟨z21, o3, f3, t3, R3, e3, hQ3⟩ := lruns_m hR hm k2 (show s < N by omega) k4 (n := n) (by omega) hQ2 y21 b18 b19 b20
        exact ⟨_, e3, _, _, _, _, _, _, _, _, _, _, _, _, _, _, _, _, _, rfl, hQ3⟩
      · have ef : fmP N p m s 0 = [] := by rw [fmP_0, if_neg q0]
        rw [if_neg (show ¬ nI (sg N p m s).length = 0 from nI_ne (b := 0) q0 (by omega) (by omega))]
        have hQ2 : HoQ (pcs N p m s ++ fmP N p m s 0) R1 := by rw [ef, List.append_nil]; exact hQ1
        obtain ⟨z21, o3, f3, t3, R3, e3, hQ3⟩ := lruns_m hR hm k2 (show s < N by omega) k4 (n := n) (by omega) hQ2 y21 b18 b19 b20
        rw [ef, List.append_nil] at e3
        exact ⟨_, e3, _, _, _, _, _, _, _, _, _, _, _, _, _, _, _, _, _, rfl, hQ3⟩
  obtain ⟨x, e, y12, y13, y16, y17, y21, b6, b7, b8, b9, b10, b11, b14, b15, b18, b19, b20, R1, rfl, hQ1⟩ := key
  show ∃ y12 y13 y16 y17 y21 b6 b7 b8 b9 b10 b11 b14 b15 b18 b19 b20 R', obd (lpq (F_X12_laysPieces_b7 n m') n (nI 0, x12, x13, x16, x17, x21, nI (pcs N p m 0).length, a6, a7, a8, a9, a10, a11, a14, a15, a18, a19, a20, a22)) _ = _ ∧ _
  rw [e, obd_s]
  exact ⟨y12, y13, y16, y17, y21, b6, b7, b8, b9, b10, b11, b14, b15, b18, b19, b20, R1, rfl, hQ1⟩
end LAY
