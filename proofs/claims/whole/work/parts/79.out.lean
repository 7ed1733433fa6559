/-! ===== the class outlines ===== -/
section OUT
variable {N : Nat} {p : Nat → Nat} {c m : Nat → Int32} {d17 : Int32} {d18 d19 d20 d21 d22 d23 d24 d25 d26 d27 : Nat → Int32} {d28 d29 : Int32} {d30 d31 d32 d33 d34 d35 d36 d37 d38 : Nat → Int32} {s i : Nat} {r : Run} {l : List Pc} {K X Y : Nat → Int32}
theorem cz_e {k : Nat} {z : Cut} (h : r.2.2.2[k]? = some z) : cz r k = z := by
  unfold cz; rw [List.getD_eq_getElem?_getD, h]; rfl
theorem kk_e {g k : Nat} (h : (sg N p m s)[g]? = some k) : kk N p m s g = k := by
  unfold kk; rw [List.getD_eq_getElem?_getD, h]; rfl
/-- the spans of a run, as the class holds them -/
def SPR (N : Nat) (p : Nat → Nat) (m : Nat → Int32) (s : Nat) (ss sf st : Nat → Int32) (f : Nat) (r : Run) : Prop := ∀ (k : Nat) (z : Cut), r.2.2.2[k]? = some z → SPN N p m s ss sf st (f + k) z ∧ ∃ g, (sg N p m s)[z.1]? = some g
theorem spr_of (hR : RW N p c m) (h : WS N p m d28 d29 d30 d31 d32 d33 d34 d35 d36 d37 d38) (hs : s < 4) (hr : (fin N p m s)[i]? = some r) :
    d33 (RF N p m s + i) = nI r.2.2.1 ∧ d35 (RF N p m s + i) = nI r.2.2.2.length ∧ ∃ f, d34 (RF N p m s + i) = nI f ∧ f + r.2.2.2.length ≤ 1024 ∧ SPR N p m s d36 d37 d38 f r := by
  obtain ⟨sp, h1, h2⟩ := h.at hs hr
  obtain ⟨a1, a2, a3, a4, f, a5, a6, a7⟩ := h2
  refine ⟨a3, a4, f, a5, by omega, fun k z hz => ?_⟩
  have hk := hx_lt hz
  have hc := fin_cut hR hr hz
  obtain ⟨g, hg⟩ := hx_at hc.1
  have hl := sgl_le (hR.sp (sg_s hg)) (sg_at hg).1
  have hA := sA_s (N := N) (p := p) (m := m) hg
  have a := a7 k z hz
  exact ⟨⟨by omega, a.1, a.2.1, a.2.2, by omega, by omega⟩, g, hg⟩
theorem jj_c (hR : RW N p c m) (h : MS N p m d17 d18 d19 d20 d21 d22 d23 d24 d25 d26 d27) (hs : s < N) (hr : (fin N p m s)[i]? = some r) {f : Nat} (hS : SPR N p m s d36 d37 d38 f r)
    {k k' : Nat} (hk : (k + 1 < r.2.2.2.length ∧ k' = k + 1) ∨ (k + 1 = r.2.2.2.length ∧ r.2.2.1 = 1 ∧ k' = 0)) (hl : l.length < 2800) (hP : HoP l K X Y) (w : Int32) :
    ∃ w' K' X' Y', F_X10_addJoin (32 * m 0) (m 1) (m 2) (nI l.length) w K X Y d36 d38 d19 d20 d21 d22 d23 d24 d25 (nI (f + k)) (nI (f + k')) = some (nI (l ++ jj N p m s r k k').length, w', K', X', Y') ∧ HoP (l ++ jj N p m s r k k') K' X' Y' := by
  obtain ⟨z, z', hz, hz', ha, hf⟩ := fin_adj hR hr hk
  obtain ⟨x1, g1, hg1⟩ := hS k z hz
  obtain ⟨x2, g2, hg2⟩ := hS k' z' hz'
  unfold jj
  rw [cz_e hz, cz_e hz', kk_e hg1, kk_e hg2]
  by_cases q : z'.1 = z.1
  · rw [if_pos q, List.append_nil]
    exact ⟨w, K, X, Y, join_0 hR h hs hg1 q x1 x2 w _ _ _ _, hP⟩
  · rw [if_neg q]
    refine join_p hR h hs hg1 hg2 q ?_ (nxt_eq hR hg1 hg2 ha) x1 x2 hl hP w
    have := sA_s (N := N) (p := p) (m := m) hg1
    rw [hf]; omega
theorem nI_t (L : Nat) (hL : L < 1000000) : nI L = nI L := rfl
set_option maxHeartbeats 1000000 in
theorem orun_c (hR : RW N p c m) (h : MS N p m d17 d18 d19 d20 d21 d22 d23 d24 d25 d26 d27) (hW : WS N p m d28 d29 d30 d31 d32 d33 d34 d35 d36 d37 d38) (hs : s < N) (hr : (fin N p m s)[i]? = some r)
    {n : Nat} (hn : 10000 ≤ n) (hl : l.length + (runP N p m s r).length ≤ 2792) (hP : HoP l K X Y) (w : Int32) :
    ∃ w' K' X' Y', F_X10_outlineRun n (32 * m 0) (m 1) (m 2) (m 3) (nI l.length) w K X Y d33 d34 d35 d36 d37 d38 d19 d20 d21 d22 d23 d24 d25 d26 d27 (nI (RF N p m s + i)) = some (nI (l ++ runP N p m s r).length, w', K', X', Y') ∧ HoP (l ++ runP N p m s r) K' X' Y' := by
  have hN4 := hR.1
  have hRF := RF_i hR (show s < 4 by omega) hr
  have hne := fin_ne hR hr
  have hex := (fin_ex hR hr).2.1
  obtain ⟨e33, e35, f, e34, hf, hS⟩ := spr_of hR hW (show s < 4 by omega) hr
  have hlr : ∀ k, k ≤ r.2.2.2.length → (l ++ rp N p m s r k).length + (rcp N p m s r).length ≤ 2792 := fun k hk => by
    have h1 := rp_mono (N := N) (p := p) (m := m) s r k (r.2.2.2.length - k)
    rw [show k + (r.2.2.2.length - k) = r.2.2.2.length from by omega] at h1
    unfold runP at hl
    rw [List.length_append] at hl ⊢; omega
  have ring : F_X8_isRing d33 (nI (RF N p m s + i)) = some (nI r.2.2.1) := by
    unfold F_X8_isRing
    rw [at_in (by omega) (by decide), obd_s, e33]
    rcases hex with y | y
    · rw [y, if_neg (by decide)]; rfl
    · rw [y, if_pos (by decide)]; rfl
  unfold F_X10_outlineRun F_X10_outlineRun_j33 F_X8_firstSpanOf F_X8_spansOf
  rw [at_in (by omega) (by decide), obd_s, obd_s, e34, at_in (by omega) (by decide), obd_s, obd_s, e35, lt_eq, nI_add, ring, obd_s]
  have key : ∃ x, lpq (F_X10_outlineRun_b33 (32 * m 0) (m 1) (m 2) d36 d37 d38 d19 d20 d21 d22 d23 d24 d25 (nI f) (nI (f + r.2.2.2.length)) (nI r.2.2.1)) n (nI f, nI l.length, w, K, X, Y) = some x ∧
      ∃ w' K' X' Y', x = (nI (l ++ rp N p m s r r.2.2.2.length).length, w', K', X', Y') ∧ HoP (l ++ rp N p m s r r.2.2.2.length) K' X' Y' := by
    refine lpq_i0 (fun k st => ∃ w' K' X' Y', st = (nI (f + k), nI (l ++ rp N p m s r k).length, w', K', X', Y') ∧ HoP (l ++ rp N p m s r k) K' X' Y') _ r.2.2.2.length ?_ (by omega) ⟨w, K, X, Y, by rw [rp, List.append_nil]; rfl, by rw [rp, List.append_nil]; exact hP⟩
    rintro k st hk ⟨w1, K1, X1, Y1, rfl, hP1⟩
    unfold F_X10_outlineRun_b33
    by_cases q : k = r.2.2.2.length
    · left
      subst q
      exact ⟨_, if_pos (nI_le (Nat.le_refl _) (by omega)), w1, K1, X1, Y1, rfl, hP1⟩
    · right
      refine ⟨by omega, ?_⟩
      obtain ⟨z, hz⟩ := hx_at (show k < r.2.2.2.length by omega)
      obtain ⟨x1, g1, hg1⟩ := hS k z hz
      have b1 := hlr (k + 1) (by omega)
      rw [rp_s, List.length_append, List.length_append, List.length_append, List.length_singleton] at b1
      obtain ⟨w2, K2, X2, Y2, e2, hP2⟩ := strip_c hR h (show s < 4 by omega) hg1 x1 (l := l ++ rp N p m s r k) (by rw [List.length_append]; omega) hP1 w1
      have eL : l ++ rp N p m s r k ++ [stP m s (p s) g1 z.2.1 z.2.2] ++ jo N p m s r k = l ++ rp N p m s r (k + 1) := by
        rw [rp_s, cz_e hz, kk_e hg1, List.append_assoc, List.append_assoc, List.append_assoc]
      have hl3 : (l ++ rp N p m s r k ++ [stP m s (p s) g1 z.2.1 z.2.2]).length < 2800 := by rw [List.length_append, List.length_append, List.length_singleton]; omega
      show ∃ s', (if nI (f + r.2.2.2.length) ≤ nI (f + k) then _ else obd (F_X10_addStrip (nI (l ++ rp N p m s r k).length) w1 K1 X1 Y1 d36 d37 d38 d19 d20 d21 d22 d23 d24 d25 (nI (f + k))) _) = _ ∧ _
      rw [if_neg (nI_ge (by omega) (by omega)), e2, obd_s]
      have fin78 : ∀ L w' K' X' Y', F_X10_outlineRun_j78 (nI L) w' K' X' Y' (nI (f + k)) = some (.inl (nI (f + (k + 1)), nI L, w', K', X', Y')) := fun L w' K' X' Y' => by
        unfold F_X10_outlineRun_j78
        rw [lt_eq, zl_1, nI_add]; rfl
      show ∃ s', (if nI (f + r.2.2.2.length) ≤ nI (f + k) + 1 then _ else _) = _ ∧ _
      rw [zl_1, nI_add]
      by_cases q1 : k + 1 < r.2.2.2.length
      · rw [if_neg (nI_ge (by omega) (by omega))]
        obtain ⟨w3, K3, X3, Y3, e3, hP3⟩ := jj_c hR h hs hr hS (k := k) (k' := k + 1) (Or.inl ⟨q1, rfl⟩) hl3 hP2 w2
        have ejo : jo N p m s r k = jj N p m s r k (k + 1) := if_pos q1
        rw [← ejo, eL] at e3 hP3
        show ∃ s', obd (F_X10_addJoin (32 * m 0) (m 1) (m 2) (nI (l ++ rp N p m s r k ++ [stP m s (p s) g1 z.2.1 z.2.2]).length) w2 K2 X2 Y2 d36 d38 d19 d20 d21 d22 d23 d24 d25 (nI (f + k)) (nI (f + (k + 1)))) _ = _ ∧ _
        rw [e3, obd_s]
        exact ⟨_, fin78 _ _ _ _ _, w3, K3, X3, Y3, rfl, hP3⟩
      · have q2 : k + 1 = r.2.2.2.length := by omega
        rw [if_pos (nI_le (by omega) (by omega))]
        rcases hex with y | y
        · rw [y, if_pos (show nI 0 = 0 from rfl)]
          have ejo : jo N p m s r k = [] := by
            unfold jo
            rw [if_neg q1, y, if_neg (by decide)]
          rw [ejo, List.append_nil] at eL
          rw [eL] at hP2
          rw [eL]
          exact ⟨_, fin78 _ _ _ _ _, w2, K2, X2, Y2, rfl, hP2⟩
        · rw [y, if_neg (show ¬ nI 1 = 0 by decide)]
          obtain ⟨w3, K3, X3, Y3, e3, hP3⟩ := jj_c hR h hs hr hS (k := k) (k' := 0) (Or.inr ⟨q2, y, rfl⟩) hl3 hP2 w2
          have ejo : jo N p m s r k = jj N p m s r k 0 := by
            unfold jo
            rw [if_neg q1, if_pos y]
          rw [← ejo, eL] at e3 hP3
          show ∃ s', obd (F_X10_addJoin (32 * m 0) (m 1) (m 2) (nI (l ++ rp N p m s r k ++ [stP m s (p s) g1 z.2.1 z.2.2]).length) w2 K2 X2 Y2 d36 d38 d19 d20 d21 d22 d23 d24 d25 (nI (f + k)) (nI (f + 0))) _ = _ ∧ _
          rw [e3, obd_s]
          exact ⟨_, fin78 _ _ _ _ _, w3, K3, X3, Y3, rfl, hP3⟩
  obtain ⟨x, e, w1, K1, X1, Y1, rfl, hP1⟩ := key
  rw [e, obd_s]
  unfold F_X10_outlineRun_j84 F_X8_segmentOf F_X8_fromOf F_X8_toOf
  have b2 := hlr r.2.2.2.length (Nat.le_refl _)
  rcases hex with y | y
  · have ercp : rcp N p m s r = cpP m s (p s) (kk N p m s (cz r 0).1) (cz r 0).2.1 (-1) ++ cpP m s (p s) (kk N p m s (cz r (r.2.2.2.length - 1)).1) (cz r (r.2.2.2.length - 1)).2.2 1 := by
      unfold rcp
      rw [y, if_neg (by decide)]
    obtain ⟨z, hz⟩ := hx_at hne
    obtain ⟨z', hz'⟩ := hx_at (show r.2.2.2.length - 1 < r.2.2.2.length by omega)
    obtain ⟨x1, g1, hg1⟩ := hS 0 z hz
    obtain ⟨x2, g2, hg2⟩ := hS _ z' hz'
    rw [cz_e hz, cz_e hz', kk_e hg1, kk_e hg2] at ercp
    obtain ⟨y1, y2, y3, y4, y5, y6⟩ := x1
    obtain ⟨v1, v2, v3, v4, v5, v6⟩ := x2
    have eR : l ++ rp N p m s r r.2.2.2.length ++ cpP m s (p s) g1 z.2.1 (-1) ++ cpP m s (p s) g2 z'.2.2 1 = l ++ runP N p m s r := by
      unfold runP
      rw [ercp, List.append_assoc, List.append_assoc]
    have b2 : (l ++ rp N p m s r r.2.2.2.length).length + ((cpP m s (p s) g1 z.2.1 (-1)).length + (cpP m s (p s) g2 z'.2.2 1).length) ≤ 2792 := by rw [← List.length_append, ← ercp]; exact b2
    obtain ⟨w2, K2, X2, Y2, e2, hP2⟩ := cap_c hR h (show s < 4 by omega) hg1 y5 (l := l ++ rp N p m s r r.2.2.2.length) (show (l ++ rp N p m s r r.2.2.2.length).length < 2800 by omega) hP1 w1 (-1)
    obtain ⟨w3, K3, X3, Y3, e3, hP3⟩ := cap_c hR h (show s < 4 by omega) hg2 v6 (l := l ++ rp N p m s r r.2.2.2.length ++ cpP m s (p s) g1 z.2.1 (-1)) (by rw [List.length_append (as := l ++ rp N p m s r r.2.2.2.length)]; omega) hP2 w2 1
    rw [Nat.add_zero] at y1 y2 y3
    rw [y, if_pos (show nI 0 = 0 from rfl), if_neg (nI_ge (by omega) (by omega)), at_in y1 (by decide), obd_s, obd_s, y2, at_in y1 (by decide), obd_s, obd_s, y3]
    show ∃ w' K' X' Y', obd (F_X10_addCap (m 3) (nI (l ++ rp N p m s r r.2.2.2.length).length) w1 K1 X1 Y1 d19 d20 d21 d22 d23 d24 d25 d26 d27 (nI (SF N p m s + z.1)) (nI z.2.1) (-1)) _ = _ ∧ _
    rw [e2, obd_s, zl_1, pk_sub (by omega), show f + r.2.2.2.length - 1 = f + (r.2.2.2.length - 1) from by omega, at_in v1 (by decide), obd_s, obd_s, v2, at_in v1 (by decide), obd_s, obd_s, v4]
    show ∃ w' K' X' Y', obd (F_X10_addCap (m 3) (nI (l ++ rp N p m s r r.2.2.2.length ++ cpP m s (p s) g1 z.2.1 (-1)).length) w2 K2 X2 Y2 d19 d20 d21 d22 d23 d24 d25 d26 d27 (nI (SF N p m s + z'.1)) (nI z'.2.2) 1) _ = _ ∧ _
    rw [e3, obd_s, ← eR]
    exact ⟨w3, K3, X3, Y3, rfl, hP3⟩
  · have ercp : rcp N p m s r = [] := if_pos y
    rw [y, if_neg (show ¬ nI 1 = 0 by decide)]
    unfold runP
    rw [ercp, List.append_nil]
    exact ⟨w1, K1, X1, Y1, rfl, hP1⟩
end OUT
