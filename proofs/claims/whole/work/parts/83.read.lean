/-! ===== reading pieces ===== -/
theorem zl_9' : (9 : Int32) = nI 9 := rfl
section RDP
variable {L : List Pc} {K X Y R : Nat → Int32} {i : Nat} {q : Pc}
theorem kd_c (h : HoP L K X Y) (hL : L.length ≤ 2792) (hq : L[i]? = some q) : F_X7_kindOf K (nI i) = some (nI q.1) := by
  have hi := hx_lt hq
  unfold F_X7_kindOf
  rw [at_in (by omega) (by decide), obd_s, (h i q hq).2.1]
theorem nc_if (k : Nat) (hk : k ≤ 4) : (if nI k = 2 then some (3 : Int32) else if nI k = 3 then some 1 else some 4) = some (nI (nc k)) ∧ (if nI k = 3 then some (1 : Int32) else if nI k = 2 then some 3 else some 4) = some (nI (nc k)) := by
  have : k = 0 ∨ k = 1 ∨ k = 2 ∨ k = 3 ∨ k = 4 := by omega
  rcases this with rfl | rfl | rfl | rfl | rfl <;> exact ⟨rfl, rfl⟩
theorem nc_pos (k : Nat) : 1 ≤ nc k := by
  unfold nc
  by_cases h : k = 3
  · rw [if_pos h]; omega
  · rw [if_neg h]
    by_cases h2 : k = 2
    · rw [if_pos h2]; omega
    · rw [if_neg h2]; omega
theorem cc_c (h : HoP L K X Y) (hL : L.length ≤ 2792) (hq : L[i]? = some q) : F_X7_cornerCount K (nI i) = some (nI (nc q.1)) := by
  have hi := hx_lt hq
  unfold F_X7_cornerCount
  rw [at_in (by omega) (by decide), obd_s, (h i q hq).2.1]
  exact (nc_if q.1 (h i q hq).1).1
theorem cx_c (h : HoP L K X Y) (hL : L.length ≤ 2792) (hq : L[i]? = some q) {c : Nat} (hc : c < nc q.1) : F_X7_cornerX X (nI i) (nI c) = some (q.2.1 c) ∧ F_X7_cornerY Y (nI i) (nI c) = some (q.2.2 c) := by
  have hi := hx_lt hq
  have h4 := nc_le q.1
  unfold F_X7_cornerX F_X7_cornerY
  rw [zl_4, pk_mul, nI_add, at_in (by omega) (by decide), obd_s, at_in (by omega) (by decide), obd_s, ((h i q hq).2.2 c hc).1, ((h i q hq).2.2 c hc).2]
  exact ⟨rfl, rfl⟩
theorem kd_m (h : HoQ L R) (hL : L.length ≤ 2792) (hq : L[i]? = some q) : F_X12_kindOf R (nI i) = some (nI q.1) := by
  have hi := hx_lt hq
  unfold F_X12_kindOf
  rw [zl_9, pk_mul, lt_eq, gd_in (by omega) (by decide), nI_clamp (by omega), (h i q hq).2.1]
theorem cc_m (h : HoQ L R) (hL : L.length ≤ 2792) (hq : L[i]? = some q) : F_X12_cornersOf R (nI i) = some (nI (nc q.1)) := by
  unfold F_X12_cornersOf
  rw [kd_m h hL hq, obd_s]
  exact (nc_if q.1 (h i q hq).1).2
theorem cx_m (h : HoQ L R) (hL : L.length ≤ 2792) (hq : L[i]? = some q) {c : Nat} (hc : c ≤ 4) : F_X12_cornerX R (nI i) (nI c) = some (q.2.1 (c % nc q.1)) ∧ F_X12_cornerY R (nI i) (nI c) = some (q.2.2 (c % nc q.1)) := by
  have hi := hx_lt hq
  have h4 := nc_le q.1
  have h1 := nc_pos q.1
  have hm : c % nc q.1 < nc q.1 := Nat.mod_lt _ h1
  have e0 : nI c - nI c / nI (nc q.1) * nI (nc q.1) = nI (c % nc q.1) := pk_rem (by omega) (by omega) (by omega)
  unfold F_X12_cornerX F_X12_cornerY
  rw [cc_m h hL hq, obd_s, obd_s, gd_t (nI_ne0 h1 (by omega)), gd_t (nI_ne0 h1 (by omega)), e0, zl_9, pk_mul, zl_2, pk_mul, zl_1, nI_add, nI_add, nI_add, nI_add, lt_eq, lt_eq, gd_in (by omega) (by decide), gd_in (by omega) (by decide), nI_clamp (by omega), nI_clamp (by omega), ((h i q hq).2.2 _ hm).1, ((h i q hq).2.2 _ hm).2]
  exact ⟨rfl, rfl⟩
/-! how many of a kind -/
def isk (k : Nat) (q : Pc) : Nat := if q.1 = k then 1 else 0
theorem sumf_le1 {α : Type} {f : α → Nat} (hf : ∀ a, f a ≤ 1) : ∀ L : List α, sumf f L ≤ L.length := by
  intro L
  induction L with
  | nil => exact Nat.le_refl _
  | cons a L ih =>
    have e : sumf f (a :: L) = f a + sumf f L := by unfold sumf; simp
    have := hf a
    rw [e, List.length_cons]; omega
theorem cnt_c (h : HoP L K X Y) (hL : L.length ≤ 2792) {n k : Nat} (hn : 10000 ≤ n) (hk : k ≤ 4) : F_X7_countOf n (nI L.length) K (nI k) = some (nI (sumf (isk k) L)) := by
  have key : lpq (F_X7_countOf_b4 (nI L.length) K (nI k)) n (nI (sumf (isk k) (L.take 0)), nI 0) = some (nI (sumf (isk k) (L.take L.length))) := by
    refine lpq_run L.length (fun i => (nI (sumf (isk k) (L.take i)), nI i)) (fun i hi => ?_) ?_ (by omega)
    · obtain ⟨q, hq⟩ := hx_at hi
      unfold F_X7_countOf_b4 F_X7_countOf_j24
      show (if nI L.length ≤ nI i then _ else obd (F_X7_kindOf K (nI i)) _) = _
      rw [if_neg (nI_ge hi (by omega)), kd_c h hL hq, obd_s, sumf_t hq]
      have h4 := (h i q hq).1
      by_cases z : q.1 = k
      · rw [z, if_pos rfl, lt_eq, lt_eq]
        have e : isk k q = 1 := if_pos z
        rw [e, ← nI_add, ← nI_add i 1]; rfl
      · rw [if_neg (show ¬ nI q.1 = nI k from nI_ne z (by omega) (by omega)), lt_eq]
        have e : isk k q = 0 := if_neg z
        rw [e, Nat.add_zero, ← nI_add i 1]; rfl
    · unfold F_X7_countOf_b4
      exact if_pos (nI_le (Nat.le_refl _) (by omega))
  rw [List.take_length] at key
  unfold F_X7_countOf F_X7_countOf_j4 F_X7_countOf_j30
  have key' : lpq (F_X7_countOf_b4 (nI L.length) K (nI k)) n (0, 0) = some (nI (sumf (isk k) L)) := key
  rw [key', obd_s]
theorem cnt_m (h : HoQ L R) (hL : L.length ≤ 2792) {n k : Nat} (hn : 10000 ≤ n) (hk : k ≤ 4) : lpq (F_X12_pieces_b31 (nI L.length) R (nI k)) n (0, 0) = some (nI (sumf (isk k) L)) := by
  have nm : ¬ nI k = -1 := nI_nm1 (by omega)
  have key : lpq (F_X12_pieces_b31 (nI L.length) R (nI k)) n (nI (sumf (isk k) (L.take 0)), nI 0) = some (nI (sumf (isk k) (L.take L.length))) := by
    refine lpq_run L.length (fun i => (nI (sumf (isk k) (L.take i)), nI i)) (fun i hi => ?_) ?_ (by omega)
    · obtain ⟨q, hq⟩ := hx_at hi
      unfold F_X12_pieces_b31 F_X12_pieces_j54 F_X12_pieces_j59
      show (if nI L.length ≤ nI i then _ else if nI k = -1 then _ else obd (F_X12_kindOf R (nI i)) _) = _
      rw [if_neg (nI_ge hi (by omega)), if_neg nm, kd_m h hL hq, obd_s, sumf_t hq]
      have h4 := (h i q hq).1
      by_cases z : q.1 = k
      · rw [z, if_pos rfl, lt_eq, lt_eq]
        have e : isk k q = 1 := if_pos z
        rw [e, ← nI_add, ← nI_add i 1]; rfl
      · rw [if_neg (show ¬ nI q.1 = nI k from nI_ne z (by omega) (by omega)), lt_eq, lt_eq]
        have e : isk k q = 0 := if_neg z
        rw [e, ← nI_add _ 0, ← nI_add i 1]; rfl
    · unfold F_X12_pieces_b31
      exact if_pos (nI_le (Nat.le_refl _) (by omega))
  rw [List.take_length] at key
  exact key
theorem all_m (hL : L.length ≤ 2792) {n : Nat} (hn : 10000 ≤ n) : lpq (F_X12_pieces_b31 (nI L.length) R (-1)) n (0, 0) = some (nI L.length) := by
  have key : lpq (F_X12_pieces_b31 (nI L.length) R (-1)) n (nI 0, nI 0) = some (nI L.length) := by
    refine lpq_run L.length (fun i => (nI i, nI i)) (fun i hi => ?_) ?_ (by omega)
    · unfold F_X12_pieces_b31 F_X12_pieces_j54 F_X12_pieces_j59
      show (if nI L.length ≤ nI i then _ else if (-1 : Int32) = -1 then _ else _) = _
      rw [if_neg (nI_ge hi (by omega)), if_pos rfl, lt_eq, lt_eq, ← nI_add i 1]; rfl
    · unfold F_X12_pieces_b31
      exact if_pos (nI_le (Nat.le_refl _) (by omega))
  exact key
end RDP
set_option maxHeartbeats 4000000 in
theorem ag_pieces : Ag_pieces (Inv (CAg WS PS)) := by
  unfold Ag_pieces
  intro d0 d1 d2 d3 d4 d5 d6 d7 d8 d9 d10 d11 d12 d13 d14 d15 d16 d17 d18 d19 d20 d21 d22 d23 d24 d25 d26 d27 d28 d29 d30 d31 d32 d33 d34 d35 d36 d37 d38 d39 d40 d41 d42 d43 d44 d45 d46 d47 d48 d49 d50 m0 m1 m2 m3 m4 m5 m6 m7 m8 m9 m10 m11 m12 m13 m14 m15 m16 m17 m18 m19 m20 m21 m22 m23 m24 m25 m26 m27 m28 m29 m30 p1 hI
  obtain ⟨N, p, hR, hH, hT, hC⟩ := Inv_un hI
  have hN4 := hR.1
  have c13 := hR.c13
  have m13 := hR.m13
  have hL := pcs_len hR.red N
  by_cases h1 : -1 ≤ p1 ∧ p1 ≤ 4
  · have hck : F_X11_checkRange p1 (-1) 4 = some (.inl ()) := ck_in h1
    have hwi : F_X12_within p1 (-1) 4 = 1 := wi_in h1
    obtain ⟨e12, e13, e14, e15, e16, e44, e45, e46, e47, e48, e49, e28, e29, e30, e31, e32, e33, e34, e35, e36, e37, e38, e39, e40, e41, e42, e43, e17, e18, e19, e20, e21, e22, e23, e24, e25, e26, e27, k1, ⟨k2, k2b, k2c⟩, k3⟩ := outd hR hC (n := 200000) (by omega)
    obtain ⟨y12, y13, y16, y17, y21, b6, b7, b8, b9, b10, b11, b14, b15, b18, b19, b20, R', k4, k5⟩ := lp_m hR.red (red_E m14) (n := 200000) (by omega) m3 m4 m5 m6 m7 m17 m18 m19 m20 m21 m22 m23 m24 m25 m26 m27 m28
    by_cases h2 : p1 = -1
    · refine Or.inl ⟨200000, 200000, (e44, e12, e13, e14, e15, e16, e44, e45, e46, e47, e48, e49, e28, e29, e30, e31, e32, e33, e34, e35, e36, e37, e38, e39, e40, e41, e42, e43, e17, e18, e19, e20, e21, e22, e23, e24, e25, e26, e27), (nI (pcs N p (red m14) N).length, 0, y12, y13, y16, y17, y21, nI (pcs N p (red m14) N).length, b6, b7, b8, b9, b10, b11, b14, b15, b18, b19, b20, R'), ?_, ?_, rfl, k2, Inv_mk hR hH hT k3⟩
      · unfold F_X11_pieces
        rw [hck, obx_l, k1, obd_s, if_pos h2, lt_eq]
        rfl
      · unfold F_X12_pieces F_X12_pieces_j15 F_X12_pieces_j31 F_X12_pieces_j67
        rw [hwi, lt_eq, if_neg (by decide), rf_0, lt_eq, if_pos rfl, k4, obd_s, h2]
        show obd (lpq (F_X12_pieces_b31 (nI (pcs N p (red m14) N).length) R' (-1)) 200000 (0, 0)) _ = _
        rw [all_m (by omega) (by omega), obd_s]
    · obtain ⟨k, hk, rfl⟩ : ∃ k, k ≤ 4 ∧ p1 = nI k := by
        refine ix_le (N := 4) (by omega) ⟨?_, h1.2⟩
        have a := (fa_le _ _).mp h1.1
        have b : p1.toInt ≠ -1 := fun e => h2 ((fa_eq _ _).mpr e)
        rw [show (-1 : Int32).toInt = -1 from by decide] at a
        rw [fa_le, show (0 : Int32).toInt = 0 from by decide]; omega
      refine Or.inl ⟨200000, 200000, (nI (sumf (isk k) (pcs N p (red m14) N)), e12, e13, e14, e15, e16, e44, e45, e46, e47, e48, e49, e28, e29, e30, e31, e32, e33, e34, e35, e36, e37, e38, e39, e40, e41, e42, e43, e17, e18, e19, e20, e21, e22, e23, e24, e25, e26, e27), (nI (sumf (isk k) (pcs N p (red m14) N)), 0, y12, y13, y16, y17, y21, nI (pcs N p (red m14) N).length, b6, b7, b8, b9, b10, b11, b14, b15, b18, b19, b20, R'), ?_, ?_, rfl, rfl, Inv_mk hR hH hT k3⟩
      · unfold F_X11_pieces
        rw [hck, obx_l, k1, obd_s, if_neg h2]
        show obd (F_X7_countOf 200000 e44 e47 (nI k)) _ = _
        rw [k2, cnt_c k2c (by omega) (by omega) hk, obd_s]
      · unfold F_X12_pieces F_X12_pieces_j15 F_X12_pieces_j31 F_X12_pieces_j67
        rw [hwi, lt_eq, if_neg (by decide), rf_0, lt_eq, if_pos rfl, k4, obd_s]
        show obd (lpq (F_X12_pieces_b31 (nI (pcs N p (red m14) N).length) R' (nI k)) 200000 (0, 0)) _ = _
        rw [cnt_m k5 (by omega) (by omega) hk, obd_s]
  · refine Or.inr ⟨0, 0, (1, d12, d13, d14, d15, d16, d44, d45, d46, d47, d48, d49, d28, d29, d30, d31, d32, d33, d34, d35, d36, d37, d38, d39, d40, d41, d42, d43, d17, d18, d19, d20, d21, d22, d23, d24, d25, d26, d27), (0, 1, m3, m4, m5, m6, m7, m8, m17, m18, m19, m20, m21, m22, m23, m24, m25, m26, m27, m28), ?_, rfl, ?_, rfl, Inv_mk hR hH hT hC⟩
    · unfold F_X11_pieces
      rw [ck_out h1, obx_r]
    · unfold F_X12_pieces F_X12_pieces_j15
      rw [wi_out h1, lt_eq, if_pos rfl, rf_1, lt_eq, if_neg (by decide)]
