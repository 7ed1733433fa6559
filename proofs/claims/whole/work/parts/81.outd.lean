/-! ===== the pieces of all subpaths in the class ===== -/
def PS : TP := fun N p m d44 d46 d47 d48 d49 => d44 = nI (pcs N p m N).length ∧ d46 = 32 * m 0 ∧ HoP (pcs N p m N) d47 d48 d49
theorem fmP_0 {N : Nat} {p : Nat → Nat} {m : Nat → Int32} {s : Nat} : fmP N p m s 0 = if (sg N p m s).length = 0 then dtP m s else [] := rfl
section OUL
variable {N : Nat} {p : Nat → Nat} {c m : Nat → Int32} {d17 : Int32} {d18 d19 d20 d21 d22 d23 d24 d25 d26 d27 : Nat → Int32} {d28 d29 : Int32} {d30 d31 d32 d33 d34 d35 d36 d37 d38 : Nat → Int32} {s : Nat} {l : List Pc} {K X Y : Nat → Int32}
theorem oruns_c (hR : RW N p c m) (h : MS N p m d17 d18 d19 d20 d21 d22 d23 d24 d25 d26 d27) (hW : WS N p m d28 d29 d30 d31 d32 d33 d34 d35 d36 d37 d38) (hs : s < N) {n : Nat} (hn : 10000 ≤ n)
    (hP : HoP (pcs N p m s ++ fmP N p m s 0) K X Y) (w : Int32) :
    ∃ w' K' X' Y', F_X10_outline_j89 n (32 * m 0) (m 1) (m 2) (m 3) (nI (pcs N p m s ++ fmP N p m s 0).length) w K X Y d30 d33 d34 d35 d36 d37 d38 d19 d20 d21 d22 d23 d24 d25 d26 d27 (nI s) = some (.inl (nI (s + 1), nI (pcs N p m (s + 1)).length, w', K', X', Y')) ∧ HoP (pcs N p m (s + 1)) K' X' Y' := by
  have hN4 := hR.1
  have hfl := fin_len hR s
  have hRF := RF_le hR s
  unfold F_X10_outline_j89 F_X10_outline_j117
  rw [hW.fo hR (by omega), obd_s, hW.co hR (by omega), obd_s, lt_eq, nI_add, obd_s]
  have key : ∃ x, lpq (F_X10_outline_b117 n (32 * m 0) (m 1) (m 2) (m 3) d33 d34 d35 d36 d37 d38 d19 d20 d21 d22 d23 d24 d25 d26 d27 (nI (RF N p m s + (fin N p m s).length))) n (nI (RF N p m s), nI (pcs N p m s ++ fmP N p m s 0).length, w, K, X, Y) = some x ∧
      ∃ w' K' X' Y', x = (nI (pcs N p m (s + 1)).length, w', K', X', Y') ∧ HoP (pcs N p m (s + 1)) K' X' Y' := by
    refine lpq_i0 (fun k st => ∃ w' K' X' Y', st = (nI (RF N p m s + k), nI (pcs N p m s ++ fmP N p m s k).length, w', K', X', Y') ∧ HoP (pcs N p m s ++ fmP N p m s k) K' X' Y') _ (fin N p m s).length ?_ (by omega) ⟨w, K, X, Y, rfl, hP⟩
    rintro k st hk ⟨w1, K1, X1, Y1, rfl, hP1⟩
    unfold F_X10_outline_b117
    by_cases q : k = (fin N p m s).length
    · left
      subst q
      exact ⟨_, if_pos (nI_le (Nat.le_refl _) (by omega)), w1, K1, X1, Y1, rfl, hP1⟩
    · right
      refine ⟨by omega, ?_⟩
      obtain ⟨r, hr⟩ := hx_at (show k < (fin N p m s).length by omega)
      obtain ⟨w2, K2, X2, Y2, e2, hP2⟩ := orun_c hR h hW hs hr hn (pl_run hR (show s < 4 by omega) hr) hP1 w1
      rw [List.append_assoc, ← fmP_s hr] at e2 hP2
      show ∃ s', (if nI (RF N p m s + (fin N p m s).length) ≤ nI (RF N p m s + k) then _ else obd (F_X10_outlineRun n (32 * m 0) (m 1) (m 2) (m 3) (nI (pcs N p m s ++ fmP N p m s k).length) w1 K1 X1 Y1 d33 d34 d35 d36 d37 d38 d19 d20 d21 d22 d23 d24 d25 d26 d27 (nI (RF N p m s + k))) _) = _ ∧ _
      rw [if_neg (nI_ge (by omega) (by omega)), e2, obd_s, lt_eq]
      exact ⟨_, rfl, w2, K2, X2, Y2, by rw [← Nat.add_assoc, ← nI_add (RF N p m s + k) 1]; rfl, hP2⟩
  obtain ⟨x, e, w', K', X', Y', rfl, hP'⟩ := key
  rw [e, obd_s]
  unfold F_X10_outline_j135
  rw [lt_eq, zl_1, nI_add]
  exact ⟨w', K', X', Y', rfl, hP'⟩
set_option maxHeartbeats 1000000 in
theorem outl_c (hR : RW N p c m) (h : MS N p m d17 d18 d19 d20 d21 d22 d23 d24 d25 d26 d27) (hW : WS N p m d28 d29 d30 d31 d32 d33 d34 d35 d36 d37 d38) {n : Nat} (hn : 10000 ≤ n) (w : Int32) (K X Y : Nat → Int32) :
    ∃ w' K' X' Y', F_X10_outline n w K X Y d30 d33 d34 d35 d36 d37 d38 d18 d19 d20 d21 d22 d23 d24 d25 d26 d27 c = some (32 * m 0, m 1, m 2, m 3, nI (pcs N p m N).length, w', 32 * m 0, K', X', Y') ∧ HoP (pcs N p m N) K' X' Y' := by
  have hN4 := hR.1
  have hst := hR.st.1
  unfold F_X10_outline F_X1_halfWidth F_X10_outline_j48
  rw [c1_l (z := 0) (i := 0) rfl (by decide), obd_s, obd_s, c1_l (z := 1) (i := 1) rfl (by decide), obd_s, c1_l (z := 2) (i := 2) rfl (by decide), obd_s, c1_l (z := 3) (i := 3) rfl (by decide), obd_s, hst 0 (by decide), hst 1 (by decide), hst 2 (by decide), hst 3 (by decide), lt_eq]
  show ∃ w' K' X' Y', obd (lpq (F_X10_outline_b48 n (32 * m 0) (m 1) (m 2) (m 3) d30 d33 d34 d35 d36 d37 d38 d18 d19 d20 d21 d22 d23 d24 d25 d26 d27 c) n (nI 0, nI (pcs N p m 0).length, w, K, X, Y)) _ = _ ∧ _
  have key : ∃ x, lpq (F_X10_outline_b48 n (32 * m 0) (m 1) (m 2) (m 3) d30 d33 d34 d35 d36 d37 d38 d18 d19 d20 d21 d22 d23 d24 d25 d26 d27 c) n (nI 0, nI (pcs N p m 0).length, w, K, X, Y) = some x ∧
      ∃ w' K' X' Y', x = (nI (pcs N p m N).length, w', K', X', Y') ∧ HoP (pcs N p m N) K' X' Y' := by
    refine lpq_i0 (fun s st => ∃ w' K' X' Y', st = (nI s, nI (pcs N p m s).length, w', K', X', Y') ∧ HoP (pcs N p m s) K' X' Y') _ N ?_ (by omega) ⟨w, K, X, Y, rfl, fun i q hq => absurd hq (by simp [pcs])⟩
    rintro s st hs ⟨w1, K1, X1, Y1, rfl, hP1⟩
    unfold F_X10_outline_b48
    rw [X1_count, obd_s, hR.c13]
    by_cases q : s = N
    · left
      subst q
      exact ⟨_, if_pos (nI_le (Nat.le_refl _) (by omega)), w1, K1, X1, Y1, rfl, hP1⟩
    · right
      refine ⟨by omega, ?_⟩
      have g := hR.sp (show s < N by omega)
      have gxy := g.xy (k := 0) (by have := g.1; omega)
      have hlen := pcs_len hR s
      have h8 := sg_len hR s
      show ∃ s', (if nI N ≤ nI s then _ else obd (F_X9_countOf d18 (nI s)) _) = _ ∧ _
      rw [if_neg (nI_ge (by omega) (by omega)), h.co (by omega), obd_s]
      by_cases q0 : (sg N p m s).length = 0
      · have ef : fmP N p m s 0 = dtP m s := by rw [fmP_0, if_pos q0]
        obtain ⟨w2, K2, X2, Y2, e2, hP2⟩ := dot_c (m := m) (s := s) (l := pcs N p m s) (by omega) hP1 w1
        rw [q0, if_pos (show nI 0 = 0 from rfl), zl_0]
        show ∃ s', obd (F_X1_xOf c (nI s) (nI 0)) _ = _ ∧ _
        rw [X1_x (by omega) (by omega), obd_s]
        show ∃ s', obd (F_X1_yOf c (nI s) (nI 0)) _ = _ ∧ _
        rw [X1_y (by omega) (by omega), obd_s, gxy.1, gxy.2.1]
        show ∃ s', obd (F_X10_addDot (32 * m 0) (m 3) (nI (pcs N p m s).length) w1 K1 X1 Y1 (64 * m (16 + 18 * s + 2 * 0)) (64 * m (17 + 18 * s + 2 * 0))) _ = _ ∧ _
        rw [e2, obd_s, ← ef]
        rw [← ef] at hP2
        obtain ⟨w3, K3, X3, Y3, e3, hP3⟩ := oruns_c hR h hW (show s < N by omega) hn hP2 w2
        exact ⟨_, e3, w3, K3, X3, Y3, rfl, hP3⟩
      · have ef : fmP N p m s 0 = [] := by rw [fmP_0, if_neg q0]
        rw [if_neg (show ¬ nI (sg N p m s).length = 0 from nI_ne (b := 0) q0 (by omega) (by omega))]
        have hP2 : HoP (pcs N p m s ++ fmP N p m s 0) K1 X1 Y1 := by rw [ef, List.append_nil]; exact hP1
        obtain ⟨w3, K3, X3, Y3, e3, hP3⟩ := oruns_c hR h hW (show s < N by omega) hn hP2 w1
        rw [ef, List.append_nil] at e3
        exact ⟨_, e3, w3, K3, X3, Y3, rfl, hP3⟩
  obtain ⟨x, e, w', K', X', Y', rfl, hP'⟩ := key
  rw [e, obd_s]
  exact ⟨w', K', X', Y', rfl, hP'⟩
end OUL
set_option maxHeartbeats 4000000 in
theorem outd {N : Nat} {p : Nat → Nat} {c m : Nat → Int32} {d12 d13 d14 d15 d16 d17 : Int32} {d18 d19 d20 d21 d22 d23 d24 d25 d26 d27 : Nat → Int32} {d28 d29 : Int32} {d30 d31 d32 d33 d34 d35 d36 d37 d38 : Nat → Int32} {d39 d40 d41 d42 : Int32} {d43 : Nat → Int32} {d44 d45 d46 : Int32} {d47 d48 d49 d50 : Nat → Int32}
    (hR : RW N p c m) (hC : CAg WS PS N p m (d12, d13, d14, d15, d16, d17, d18, d19, d20, d21, d22, d23, d24, d25, d26, d27, d28, d29, d30, d31, d32, d33, d34, d35, d36, d37, d38, d39, d40, d41, d42, d43, d44, d45, d46, d47, d48, d49, d50)) {n : Nat} (hn : 200000 ≤ n) :
    ∃ e12 e13 e14 e15 e16 e44 e45 e46 e47 e48 e49 e28 e29 e30 e31 e32 e33 e34 e35 e36 e37 e38 e39 e40 e41 e42 e43 e17 e18 e19 e20 e21 e22 e23 e24 e25 e26 e27, F_X10_outlined n d12 d13 d14 d15 d16 d44 d45 d46 d47 d48 d49 d28 d29 d30 d31 d32 d33 d34 d35 d36 d37 d38 d39 d40 d41 d42 d43 d17 d18 d19 d20 d21 d22 d23 d24 d25 d26 d27 c = some (e12, e13, e14, e15, e16, e44, e45, e46, e47, e48, e49, e28, e29, e30, e31, e32, e33, e34, e35, e36, e37, e38, e39, e40, e41, e42, e43, e17, e18, e19, e20, e21, e22, e23, e24, e25, e26, e27) ∧ PS N p (red m) e44 e46 e47 e48 e49 ∧ CAg WS PS N p m (e12, e13, e14, e15, e16, e17, e18, e19, e20, e21, e22, e23, e24, e25, e26, e27, e28, e29, e30, e31, e32, e33, e34, e35, e36, e37, e38, e39, e40, e41, e42, e43, e44, e45, e46, e47, e48, e49, d50) := by
  have hC0 := hC
  obtain ⟨st, h0, rfl, h1, h2, h3⟩ := hC
  unfold F_X10_outlined F_X10_outlined_j24
  by_cases q : 3 ≤ st
  · rw [if_pos (show (3 : Int32) ≤ nI st from nI_le (a := 3) q (by omega))]
    exact ⟨_, _, _, _, _, _, _, _, _, _, _, _, _, _, _, _, _, _, _, _, _, _, _, _, _, _, _, _, _, _, _, _, _, _, _, _, _, _, rfl, h3 q, hC0⟩
  · rw [if_neg (show ¬ (3 : Int32) ≤ nI st from nI_ge (b := 3) (by omega) (by decide))]
    obtain ⟨e12, e28, e29, e30, e31, e32, e33, e34, e35, e36, e37, e38, e39, e40, e41, e42, e43, e17, e18, e19, e20, e21, e22, e23, e24, e25, e26, e27, k1, k2, k3, k4⟩ := walkd hR hC0 (n := n) hn
    obtain ⟨e45, e47, e48, e49, k5, k6⟩ := outl_c hR.red k2 k3 (n := n) (by omega) d45 d47 d48 d49
    rw [k1, obd_s]
    show ∃ f12 f13 f14 f15 f16 f44 f45 f46 f47 f48 f49 f28 f29 f30 f31 f32 f33 f34 f35 f36 f37 f38 f39 f40 f41 f42 f43 f17 f18 f19 f20 f21 f22 f23 f24 f25 f26 f27, obd (F_X10_outline n d45 d47 d48 d49 e30 e33 e34 e35 e36 e37 e38 e18 e19 e20 e21 e22 e23 e24 e25 e26 e27 c) _ = _ ∧ _
    rw [k5, obd_s]
    exact ⟨_, _, _, _, _, _, _, _, _, _, _, _, _, _, _, _, _, _, _, _, _, _, _, _, _, _, _, _, _, _, _, _, _, _, _, _, _, _, rfl, ⟨rfl, rfl, k6⟩, 3, by omega, rfl, fun _ => k2, fun _ => k3, fun _ => ⟨rfl, rfl, k6⟩⟩
