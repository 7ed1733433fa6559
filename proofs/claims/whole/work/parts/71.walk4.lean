/-! ===== the runs of all subpaths in the class ===== -/
def flR (N : Nat) (p : Nat → Nat) (m : Nat → Int32) : Nat → List BR
  | 0 => []
  | s + 1 => flR N p m s ++ bse (SF N p m s) (fin N p m s)
def RF (N : Nat) (p : Nat → Nat) (m : Nat → Int32) (s : Nat) : Nat := (flR N p m s).length
theorem RF_s (N : Nat) (p : Nat → Nat) (m : Nat → Int32) (s : Nat) : RF N p m (s + 1) = RF N p m s + (fin N p m s).length := by
  unfold RF; rw [flR, List.length_append, bse_len]
def WS : TW := fun N p m d28 d29 d30 d31 d32 d33 d34 d35 d36 d37 d38 =>
  d28 = nI (RF N p m 4) ∧ (∀ s, s ≤ 4 → d30 s = nI (RF N p m s)) ∧ ∃ sp, sp ≤ 1024 ∧ d29 = nI sp ∧ HoW (flR N p m 4) d31 d32 d33 d34 d35 d36 d37 d38 sp
section WLK
variable {N : Nat} {p : Nat → Nat} {c m : Nat → Int32}
theorem RF_le (hR : RW N p c m) : ∀ s, RF N p m s ≤ 227 * s := by
  intro s
  induction s with
  | zero => exact Nat.le_refl _
  | succ s ih => rw [RF_s]; have := fin_len hR s; omega
theorem rawR_out (hR : RW N p c m) {s : Nat} (hs : ¬ s < N) : rawR N p m s = [] := by
  rcases Nat.eq_zero_or_pos (rawR N p m s).length with e | e
  · exact List.eq_nil_of_length_eq_zero e
  · obtain ⟨q, hq⟩ := hx_at e
    have := (rawR_cut hR hq).2.1
    have e2 : sW N p m s = 0 := by
      have e3 : sg N p m s = [] := if_neg hs
      unfold sW sA; rw [e3]; rfl
    omega
theorem fin_open (hR : RW N p c m) {s : Nat} (h : ¬ (s < N ∧ m (15 + 18 * s) = 1)) : fin N p m s = rawR N p m s := by
  unfold fin
  rcases Nat.eq_zero_or_pos (rawR N p m s).length with e | e
  · rw [List.eq_nil_of_length_eq_zero e, joinR_0]
  · obtain ⟨q, hq⟩ := hx_at e
    obtain ⟨z, hz⟩ := hx_at (show (rawR N p m s).length - 1 < (rawR N p m s).length by omega)
    refine joinR_n hq hz (fun hc => h ⟨?_, of_decide_eq_true hc.1⟩)
    by_cases hs : s < N
    · exact hs
    · rw [rawR_out hR hs] at e; exact absurd e (by simp)
theorem fin_closed {s : Nat} (h : m (15 + 18 * s) = 1) : fin N p m s = joinR true (sW N p m s) (rawR N p m s) := by
  unfold fin clo
  rw [decide_eq_true h]
theorem sT_s (h5 : m 5 = 1) (s : Nat) : sT N p m (s + 1) = sT N p m s + sW N p m s := by
  unfold sT
  rw [if_pos h5, if_pos h5, fb_sm_succ, Nat.add_assoc]
theorem sT_0 {s : Nat} (h : m 5 ≠ 1 ∨ s = 0) : sT N p m s = 64 * ph m := by
  unfold sT
  rcases h with h | rfl
  · rw [if_neg h]; rfl
  · by_cases q : m 5 = 1
    · rw [if_pos q]; rfl
    · rw [if_neg q]; rfl
set_option maxHeartbeats 1000000 in
theorem wb_c {n : Nat} (hn : 200000 ≤ n) (hR : RW N p c m) {d17 : Int32} {d18 d19 d20 d21 d22 d23 d24 d25 d26 d27 : Nat → Int32} (hM : MS N p m d17 d18 d19 d20 d21 d22 d23 d24 d25 d26 d27) {d39 d40 : Int32} {d43 : Nat → Int32} (hC : CL m d39 d40 d43)
    {s j sp : Nat} (hs : s < 4) (hj : IN m j (sT N p m s)) (hsp : sp ≤ 242 * s) {d30 be le cl fs sc ss sf st : Nat → Int32} (h30 : d30 s = nI (RF N p m s)) (hW : HoW (flR N p m s) be le cl fs sc ss sf st sp) :
    ∃ i be' le' cl' fs' sc' ss' sf' st' sp', F_X8_walk_j54 n (nI (RF N p m s)) (nI sp) d30 be le cl fs sc ss sf st d39 (nI j) (nI (bd m (j + 1) - sT N p m s)) d43 c d18 d23 (nI s) =
      some (.inl (nI (s + 1), nI (RF N p m (s + 1)), nI sp', d30, be', le', cl', fs', sc', ss', sf', st', nI (j + i), nI (bd m (j + i + 1) - (sT N p m s + sW N p m s)))) ∧
      IN m (j + i) (sT N p m s + sW N p m s) ∧ HoW (flR N p m (s + 1)) be' le' cl' fs' sc' ss' sf' st' sp' ∧ sp' ≤ 242 * (s + 1) := by
  have hN4 := hR.1
  have hRF := RF_le hR s
  have hRF' : (flR N p m s).length ≤ 690 := by show RF N p m s ≤ 690; omega
  have hT := sT_le hR (s := s) (by omega)
  have ej : j = fj m (sT N p m s) := IN_u hR.st hj (fj_in hR.st _)
  obtain ⟨i, be', le', cl', fs', sc', ss', sf', st', sp', k1, k2, k3, k4⟩ := ws_c hn hR hM hC hs hj (by omega) hRF' (S0 := sp) (by omega) hW
  have eR : rR m (sA N p m s) (sg N p m s).length (sT N p m s) (sW N p m s) j (nP m (sT N p m s) (sW N p m s) j) = rawR N p m s := by
    subst ej; rfl
  rw [eR] at k1 k3 k4
  have hrl : (rawR N p m s).length ≤ 227 := by rw [rawR_len]; exact raws_len hR s
  unfold F_X8_walk_j54
  have k1' : F_X8_walkSubpath n (nI (RF N p m s)) (nI sp) be le cl fs sc ss sf st d39 (nI j) (nI (bd m (j + 1) - sT N p m s)) d43 d18 d23 (nI s) = some (nI (RF N p m s + (rawR N p m s).length), nI sp', be', le', cl', fs', sc', ss', sf', st', nI (j + i), nI (bd m (j + i + 1) - (sT N p m s + sW N p m s))) := k1
  rw [k1', obd_s]
  by_cases hcl : s < N ∧ m (15 + 18 * s) = 1
  · obtain ⟨be2, le2, cl2, fs2, sc2, ss2, sf2, st2, sp2, j1, j2, j3, j4⟩ := join_c (n := n) (by omega) hR hs hRF' (sp := sp') (by omega) h30 k3
    have g := hR.sp hcl.1
    refine ⟨i, be2, le2, cl2, fs2, sc2, ss2, sf2, st2, sp2, ?_, k2, ?_, by omega⟩
    · rw [X1_clo hR.c13 hcl.1 hN4, obd_s, g.cl, if_pos hcl.2, if_neg (show ¬ (1 : Int32) = 0 from by decide), hM.lo hR (by omega) hs, obd_s]
      have j1' : F_X8_joinEnds n (nI (RF N p m s + (rawR N p m s).length)) (nI sp') d30 be' le' cl' fs' sc' ss' sf' st' (nI s) (nI (sW N p m s)) = some (nI (RF N p m s + (joinR true (sW N p m s) (rawR N p m s)).length), nI sp2, be2, le2, cl2, fs2, sc2, ss2, sf2, st2) := j1
      rw [j1', obd_s]
      unfold F_X8_walk_j78
      rw [lt_eq, zl_1, nI_add, RF_s, fin_closed hcl.2]
    · rw [flR, fin_closed hcl.2]; exact j2
  · have hfo := fin_open hR hcl
    have hc0 : F_X1_isClosed c (nI s) = some 0 := by
      by_cases z : s < N
      · have g := hR.sp z
        rw [X1_clo hR.c13 z hN4, g.cl, if_neg (fun h => hcl ⟨z, h⟩)]
      · exact X1_cloO hR.c13 (by omega) (by omega)
    refine ⟨i, be', le', cl', fs', sc', ss', sf', st', sp', ?_, k2, ?_, by omega⟩
    · rw [hc0, obd_s, if_pos rfl]
      unfold F_X8_walk_j78
      rw [lt_eq, zl_1, nI_add, RF_s, hfo]
    · rw [flR, hfo]; exact k3.1
set_option maxHeartbeats 1000000 in
theorem walk_c {n : Nat} (hn : 200000 ≤ n) (hR : RW N p c m) {d17 : Int32} {d18 d19 d20 d21 d22 d23 d24 d25 d26 d27 : Nat → Int32} (hM : MS N p m d17 d18 d19 d20 d21 d22 d23 d24 d25 d26 d27) (a30 a31 a32 a33 a34 a35 a36 a37 a38 : Nat → Int32) (a41 a42 : Int32) (a43 : Nat → Int32) :
    ∃ d28 d29 d30 d31 d32 d33 d34 d35 d36 d37 d38 d39 d40 d41 d42 d43, F_X8_walk n a30 a31 a32 a33 a34 a35 a36 a37 a38 a41 a42 a43 c d18 d23 = some (d28, d29, d30, d31, d32, d33, d34, d35, d36, d37, d38, d39, d40, d41, d42, d43) ∧ WS N p m d28 d29 d30 d31 d32 d33 d34 d35 d36 d37 d38 := by
  have hN4 := hR.1
  obtain ⟨d39, d40, d43, t1, hC⟩ := take_d (n := n) (by omega) hR.st a43
  have h5 : m 5 = 0 ∨ m 5 = 1 := hR.st.2.2.2.2.2.2.1
  have c5 : c 5 = m 5 := hR.st.1 5 (by omega)
  have key : ∃ w, lpq (F_X8_walk_b20 n d39 d40 d43 c d18 d23) n (0, 0, 0, a30, a31, a32, a33, a34, a35, a36, a37, a38, a41, a42) = some w ∧
      ∃ d30 be le cl fs sc ss sf st sp pt lf, w = (nI (RF N p m 4), nI sp, d30, be, le, cl, fs, sc, ss, sf, st, pt, lf) ∧ HoW (flR N p m 4) be le cl fs sc ss sf st sp ∧ sp ≤ 242 * 4 ∧ (∀ r, r < 4 → d30 r = nI (RF N p m r)) := by
    refine lpq_i0 (fun s x => ∃ d30 be le cl fs sc ss sf st sp pt lf, x = (nI s, nI (RF N p m s), nI sp, d30, be, le, cl, fs, sc, ss, sf, st, pt, lf) ∧ HoW (flR N p m s) be le cl fs sc ss sf st sp ∧ sp ≤ 242 * s ∧ (∀ r, r < s → d30 r = nI (RF N p m r)) ∧
      (0 < s → m 5 = 1 → ∃ j, pt = nI j ∧ lf = nI (bd m (j + 1) - sT N p m s) ∧ IN m j (sT N p m s))) _ 4 ?_ (by omega) ?_
    · rintro s x hs4 ⟨d30, be, le, cl, fs, sc, ss, sf, st, sp, pt, lf, rfl, hW, hsp, h30, hcur⟩
      by_cases q : s = 4
      · left
        subst q
        refine ⟨_, ?_, d30, be, le, cl, fs, sc, ss, sf, st, sp, pt, lf, rfl, hW, hsp, h30⟩
        unfold F_X8_walk_b20
        exact if_pos (show (4 : Int32) ≤ nI 4 from by decide)
      · right
        have hs : s < 4 := by omega
        refine ⟨hs, ?_⟩
        have h30' : ∀ r, r < s + 1 → upd d30 s (nI (RF N p m s)) r = nI (RF N p m r) := fun r hr => by
          by_cases z : r = s
          · rw [z, ud_e rfl]
          · rw [ud_n z]; exact h30 r (by omega)
        have fin2 : ∀ j, IN m j (sT N p m s) → ∃ x', F_X8_walk_j54 n (nI (RF N p m s)) (nI sp) (upd d30 s (nI (RF N p m s))) be le cl fs sc ss sf st d39 (nI j) (nI (bd m (j + 1) - sT N p m s)) d43 c d18 d23 (nI s) = some (.inl x') ∧
            ∃ d30 be le cl fs sc ss sf st sp pt lf, x' = (nI (s + 1), nI (RF N p m (s + 1)), nI sp, d30, be, le, cl, fs, sc, ss, sf, st, pt, lf) ∧ HoW (flR N p m (s + 1)) be le cl fs sc ss sf st sp ∧ sp ≤ 242 * (s + 1) ∧ (∀ r, r < s + 1 → d30 r = nI (RF N p m r)) ∧
            (0 < s + 1 → m 5 = 1 → ∃ j, pt = nI j ∧ lf = nI (bd m (j + 1) - sT N p m (s + 1)) ∧ IN m j (sT N p m (s + 1))) := by
          intro j hj
          obtain ⟨i, be', le', cl', fs', sc', ss', sf', st', sp', k1, k2, k3, k4⟩ := wb_c hn hR hM hC hs hj hsp (h30' s (by omega)) hW
          refine ⟨_, k1, _, be', le', cl', fs', sc', ss', sf', st', sp', _, _, rfl, k3, k4, h30', fun _ h1 => ?_⟩
          rw [sT_s h1]
          exact ⟨j + i, rfl, rfl, k2⟩
        have go47 : (m 5 ≠ 1 ∨ s = 0) → ∃ x', F_X8_walk_j47 n (nI (RF N p m s)) (nI sp) (upd d30 s (nI (RF N p m s))) be le cl fs sc ss sf st d39 d40 d43 c d18 d23 (nI s) = some (.inl x') ∧
            ∃ d30 be le cl fs sc ss sf st sp pt lf, x' = (nI (s + 1), nI (RF N p m (s + 1)), nI sp, d30, be, le, cl, fs, sc, ss, sf, st, pt, lf) ∧ HoW (flR N p m (s + 1)) be le cl fs sc ss sf st sp ∧ sp ≤ 242 * (s + 1) ∧ (∀ r, r < s + 1 → d30 r = nI (RF N p m r)) ∧
            (0 < s + 1 → m 5 = 1 → ∃ j, pt = nI j ∧ lf = nI (bd m (j + 1) - sT N p m (s + 1)) ∧ IN m j (sT N p m (s + 1))) := by
          intro h
          obtain ⟨j, g1, g2⟩ := go_c (n := n) (by omega) hR.st hC
          rw [← sT_0 (N := N) (p := p) h] at g1 g2
          unfold F_X8_walk_j47
          rw [g1, obd_s]
          exact fin2 j g2
        unfold F_X8_walk_b20
        show ∃ x', (if (4 : Int32) ≤ nI s then _ else gd (decide (vpi (nI s) 5)) (lt (upd d30 (nI s).toNatClampNeg (nI (RF N p m s))) (fun y_12 => if nI s = 0 then F_X8_walk_j47 n (nI (RF N p m s)) (nI sp) y_12 be le cl fs sc ss sf st d39 d40 d43 c d18 d23 (nI s) else obd (F_X1_cell c 5) (fun u_14 => if u_14 = 0 then F_X8_walk_j47 n (nI (RF N p m s)) (nI sp) y_12 be le cl fs sc ss sf st d39 d40 d43 c d18 d23 (nI s) else F_X8_walk_j54 n (nI (RF N p m s)) (nI sp) y_12 be le cl fs sc ss sf st d39 pt lf d43 c d18 d23 (nI s))))) = _ ∧ _
        rw [if_neg (show ¬ (4 : Int32) ≤ nI s from nI_ge (b := 4) hs (by decide)), gd_in (by omega) (by decide), nI_clamp (by omega), lt_eq]
        by_cases z : s = 0
        · rw [if_pos (by rw [z]; rfl)]
          exact go47 (Or.inr z)
        · rw [if_neg (nI_ne0 (by omega) (by omega)), c1_l (z := 5) (i := 5) rfl (by decide), obd_s, c5]
          rcases h5 with y | y
          · rw [if_pos y]
            exact go47 (Or.inl (by rw [y]; decide))
          · obtain ⟨j, rfl, rfl, hj⟩ := hcur (by omega) y
            rw [if_neg (show ¬ m 5 = 0 from by rw [y]; decide)]
            exact fin2 j hj
    · exact ⟨a30, a31, a32, a33, a34, a35, a36, a37, a38, 0, a41, a42, rfl, fun i q h => absurd h (by simp [flR]), by omega, fun r hr => absurd hr (by omega), fun h => absurd h (by omega)⟩
  obtain ⟨w, e, d30, be, le, cl, fs, sc, ss, sf, st, sp, pt, lf, rfl, hW, hsp, h30⟩ := key
  unfold F_X8_walk F_X8_walk_j20
  rw [t1, obd_s, e, obd_s]
  unfold F_X8_walk_j84
  rw [gd_in' (z := 4) (i := 4) rfl (by decide) (by decide), cl_4, lt_eq]
  refine ⟨_, _, _, _, _, _, _, _, _, _, _, _, _, _, _, _, rfl, rfl, fun s hs => ?_, sp, by omega, rfl, hW⟩
  by_cases q : s = 4
  · rw [q]; exact ud_e rfl
  · rw [ud_n q]; exact h30 s (by omega)
end WLK
theorem walkd {P : TP} {N : Nat} {p : Nat → Nat} {c m : Nat → Int32} {d12 d13 d14 d15 d16 d17 : Int32} {d18 d19 d20 d21 d22 d23 d24 d25 d26 d27 : Nat → Int32} {d28 d29 : Int32} {d30 d31 d32 d33 d34 d35 d36 d37 d38 : Nat → Int32} {d39 d40 d41 d42 : Int32} {d43 : Nat → Int32} {d44 d45 d46 : Int32} {d47 d48 d49 d50 : Nat → Int32}
    (hR : RW N p c m) (hC : CAg WS P N p m (d12, d13, d14, d15, d16, d17, d18, d19, d20, d21, d22, d23, d24, d25, d26, d27, d28, d29, d30, d31, d32, d33, d34, d35, d36, d37, d38, d39, d40, d41, d42, d43, d44, d45, d46, d47, d48, d49, d50)) {n : Nat} (hn : 200000 ≤ n) :
    ∃ e12 e28 e29 e30 e31 e32 e33 e34 e35 e36 e37 e38 e39 e40 e41 e42 e43 e17 e18 e19 e20 e21 e22 e23 e24 e25 e26 e27, F_X10_walked n d12 d28 d29 d30 d31 d32 d33 d34 d35 d36 d37 d38 d39 d40 d41 d42 d43 d17 d18 d19 d20 d21 d22 d23 d24 d25 d26 d27 c = some (e12, e28, e29, e30, e31, e32, e33, e34, e35, e36, e37, e38, e39, e40, e41, e42, e43, e17, e18, e19, e20, e21, e22, e23, e24, e25, e26, e27) ∧ MS N p (red m) e17 e18 e19 e20 e21 e22 e23 e24 e25 e26 e27 ∧
      WS N p (red m) e28 e29 e30 e31 e32 e33 e34 e35 e36 e37 e38 ∧ CAg WS P N p m (e12, d13, d14, d15, d16, e17, e18, e19, e20, e21, e22, e23, e24, e25, e26, e27, e28, e29, e30, e31, e32, e33, e34, e35, e36, e37, e38, e39, e40, e41, e42, e43, d44, d45, d46, d47, d48, d49, d50) := by
  have hC0 := hC
  obtain ⟨st, h0, rfl, h1, h2, h3⟩ := hC
  unfold F_X10_walked F_X10_walked_j26
  by_cases q : 2 ≤ st
  · rw [if_pos (show (2 : Int32) ≤ nI st from nI_le (a := 2) q (by omega))]
    exact ⟨_, _, _, _, _, _, _, _, _, _, _, _, _, _, _, _, _, _, _, _, _, _, _, _, _, _, _, _, rfl, h1 (by omega), h2 q, hC0⟩
  · rw [if_neg (show ¬ (2 : Int32) ≤ nI st from nI_ge (b := 2) (by omega) (by decide))]
    obtain ⟨e12, e17, e18, e19, e20, e21, e22, e23, e24, e25, e26, e27, k1, k2, k3⟩ := measd hR hC0 (n := n) (by omega)
    obtain ⟨e28, e29, e30, e31, e32, e33, e34, e35, e36, e37, e38, e39, e40, e41, e42, e43, k4, k5⟩ := walk_c hn hR.red k2 d30 d31 d32 d33 d34 d35 d36 d37 d38 d41 d42 d43
    rw [k1, obd_s]
    show ∃ f12 f28 f29 f30 f31 f32 f33 f34 f35 f36 f37 f38 f39 f40 f41 f42 f43 f17 f18 f19 f20 f21 f22 f23 f24 f25 f26 f27, obd (F_X8_walk n d30 d31 d32 d33 d34 d35 d36 d37 d38 d41 d42 d43 c e18 e23) _ = _ ∧ _
    rw [k4, obd_s]
    exact ⟨_, _, _, _, _, _, _, _, _, _, _, _, _, _, _, _, _, _, _, _, _, _, _, _, _, _, _, _, rfl, k2, k5, 2, by omega, rfl, fun _ => k2, fun _ => k5, fun h => absurd h (by omega)⟩
