/-! ===== digest ===== -/
def mxv (h : Int64) (v : Int32) : Int64 := 31 * h + v.toInt64
def mxf (f : Nat → Int32) (h : Int64) : Nat → Int64
  | 0 => h
  | k + 1 => mxv (mxf f h k) (f k)
def ptF (m : Nat → Int32) (s : Nat) (h : Int64) : Nat → Int64
  | 0 => h
  | k + 1 => mxv (mxv (ptF m s h k) (m (16 + 18 * s + 2 * k))) (m (17 + 18 * s + 2 * k))
def rnF (L : List Run) (h : Int64) : Nat → Int64
  | 0 => h
  | i + 1 => match L[i]? with
    | some r => mxf (fun w => nI (rvl r w)) (rnF L h i) 4
    | none => rnF L h i
def sbF (N : Nat) (p : Nat → Nat) (m : Nat → Int32) (h : Int64) : Nat → Int64
  | 0 => h
  | s + 1 => rnF (fin N p m s) (mxv (ptF m s (mxf (abt N p m s) (sbF N p m h s) 4) (p s)) (nI (fin N p m s).length)) (fin N p m s).length
def cnF (q : Pc) (h : Int64) : Nat → Int64
  | 0 => mxv h (nI q.1)
  | k + 1 => mxv (mxv (cnF q h k) (q.2.1 k)) (q.2.2 k)
def pcF (L : List Pc) (h : Int64) : Nat → Int64
  | 0 => h
  | i + 1 => match L[i]? with
    | some q => cnF q (pcF L h i) (nc q.1)
    | none => pcF L h i
theorem rnF_s {L : List Run} {h : Int64} {i : Nat} {r : Run} (e : L[i]? = some r) : rnF L h (i + 1) = mxf (fun w => nI (rvl r w)) (rnF L h i) 4 := by rw [rnF, e]
theorem pcF_s {L : List Pc} {h : Int64} {i : Nat} {q : Pc} (e : L[i]? = some q) : pcF L h (i + 1) = cnF q (pcF L h i) (nc q.1) := by rw [pcF, e]
theorem mix_c (h : Int64) (v : Int32) : F_X11_mix h v.toInt64 = mxv h v := rfl
theorem mix_m (h : Int64) (v : Int32) : F_X12_mix h v = mxv h v := rfl
theorem ptF_e (m : Nat → Int32) (s : Nat) (h : Int64) : ∀ k, mxf (fun i => m (16 + 18 * s + i)) h (2 * k) = ptF m s h k := by
  intro k
  induction k with
  | zero => rfl
  | succ k ih =>
    rw [show 2 * (k + 1) = 2 * k + 1 + 1 from by omega, mxf, mxf, ih, ptF, show 16 + 18 * s + (2 * k + 1) = 17 + 18 * s + 2 * k from by omega]
theorem all_mx {m' m : Nat → Int32} (hm : E86 m' m) (h : Int64) {a b : Nat} (hab : a + b ≤ 86) {n : Nat} (hn : 1000 ≤ n) : F_X12_mixAll n h m' (nI a) (nI b) = some (mxf (fun i => m (a + i)) h b) := by
  have key : lpq (F_X12_mixAll_b2 m' (nI a) (nI b)) n (nI (a + 0), mxf (fun i => m (a + i)) h 0) = some (mxf (fun i => m (a + i)) h b) := by
    refine lpq_run b (fun k => (nI (a + k), mxf (fun i => m (a + i)) h k)) (fun k hk => ?_) ?_ (by omega)
    · unfold F_X12_mixAll_b2
      dsimp only
      rw [nI_add, if_neg (nI_ge (by omega) (by omega)), gd_in (by omega) (by decide), nI_clamp (by omega), hm _ (by omega), mix_m, lt_eq, lt_eq, zl_1, nI_add]; rfl
    · unfold F_X12_mixAll_b2
      dsimp only
      rw [nI_add]
      exact if_pos (nI_le (Nat.le_refl _) (by omega))
  rw [Nat.add_zero] at key
  unfold F_X12_mixAll F_X12_mixAll_j2
  have key' : lpq (F_X12_mixAll_b2 m' (nI a) (nI b)) n (nI a, h) = some (mxf (fun i => m (a + i)) h b) := key
  rw [key', obd_s]
section DGC
variable {N : Nat} {p : Nat → Nat} {c m : Nat → Int32}
theorem style_c (hR : RW N p c m) (h : Int64) {n : Nat} (hn : 1000 ≤ n) : F_X11_mixStyle n c h = some (mxf (fun i => m (0 + i)) h (7 + nD m)) := by
  have hD := nD_e hR.st
  have key : lpq (F_X11_mixStyle_b19 c (nI (7 + nD m))) n (mxf (fun i => m (0 + i)) h 0, nI 0) = some (mxf (fun i => m (0 + i)) h (7 + nD m)) := by
    refine lpq_run (7 + nD m) (fun k => (mxf (fun i => m (0 + i)) h k, nI k)) (fun k hk => ?_) ?_ (by omega)
    · unfold F_X11_mixStyle_b19
      dsimp only
      rw [if_neg (nI_ge (by omega) (by omega)), c1_in (by omega), obd_s, hR.st.1 k (by omega), mix_c, lt_eq, lt_eq, zl_1, nI_add, mxf, Nat.zero_add]
    · unfold F_X11_mixStyle_b19
      exact if_pos (nI_le (Nat.le_refl _) (by omega))
  unfold F_X11_mixStyle F_X11_mixStyle_j19 F_X11_mixStyle_j47
  rw [c1_l (z := 6) (i := 6) rfl (by decide), obd_s, hR.st.1 6 (by decide), hD.2, zl_7, nI_add, lt_eq]
  have key' : lpq (F_X11_mixStyle_b19 c (nI (7 + nD m))) n (h, 0) = some (mxf (fun i => m (0 + i)) h (7 + nD m)) := key
  rw [key', obd_s]
end DGC
set_option maxHeartbeats 1000000 in
theorem msub_c {W : TW} {P : TP} {N : Nat} {p : Nat → Nat} {c m : Nat → Int32} {d12 d13 d14 d15 d16 d17 : Int32} {d18 d19 d20 d21 d22 d23 d24 d25 d26 d27 : Nat → Int32} {d28 d29 : Int32} {d30 d31 d32 d33 d34 d35 d36 d37 d38 : Nat → Int32} {d39 d40 d41 d42 : Int32} {d43 : Nat → Int32} {d44 d45 d46 : Int32} {d47 d48 d49 d50 : Nat → Int32}
    (hR : RW N p c m) (hC : CAg W P N p m (d12, d13, d14, d15, d16, d17, d18, d19, d20, d21, d22, d23, d24, d25, d26, d27, d28, d29, d30, d31, d32, d33, d34, d35, d36, d37, d38, d39, d40, d41, d42, d43, d44, d45, d46, d47, d48, d49, d50)) {n : Nat} (hn : 100000 ≤ n) {s : Nat} (hs : s < N) (h : Int64) :
    ∃ e12 e17 e18 e19 e20 e21 e22 e23 e24 e25 e26 e27, F_X11_mixSubpath n c d12 d17 d18 d19 d20 d21 d22 d23 d24 d25 d26 d27 h (nI s) = some (ptF (red m) s (mxf (abt N p (red m) s) h 4) (p s), e12, e17, e18, e19, e20, e21, e22, e23, e24, e25, e26, e27) ∧
      CAg W P N p m (e12, d13, d14, d15, d16, e17, e18, e19, e20, e21, e22, e23, e24, e25, e26, e27, d28, d29, d30, d31, d32, d33, d34, d35, d36, d37, d38, d39, d40, d41, d42, d43, d44, d45, d46, d47, d48, d49, d50) := by
  have hN4 := hR.1
  have g := hR.red.sp hs
  have g8 := g.2.1
  have k6 : ∃ x, lpq (F_X11_mixSubpath_b6 n c (nI s)) n (h, 0, d12, d17, d18, d19, d20, d21, d22, d23, d24, d25, d26, d27) = some x ∧
      ∃ e12 e17 e18 e19 e20 e21 e22 e23 e24 e25 e26 e27, x = (mxf (abt N p (red m) s) h 4, e12, e17, e18, e19, e20, e21, e22, e23, e24, e25, e26, e27) ∧
        CAg W P N p m (e12, d13, d14, d15, d16, e17, e18, e19, e20, e21, e22, e23, e24, e25, e26, e27, d28, d29, d30, d31, d32, d33, d34, d35, d36, d37, d38, d39, d40, d41, d42, d43, d44, d45, d46, d47, d48, d49, d50) := by
    refine lpq_i0 (fun k st => ∃ e12 e17 e18 e19 e20 e21 e22 e23 e24 e25 e26 e27, st = (mxf (abt N p (red m) s) h k, nI k, e12, e17, e18, e19, e20, e21, e22, e23, e24, e25, e26, e27) ∧
        CAg W P N p m (e12, d13, d14, d15, d16, e17, e18, e19, e20, e21, e22, e23, e24, e25, e26, e27, d28, d29, d30, d31, d32, d33, d34, d35, d36, d37, d38, d39, d40, d41, d42, d43, d44, d45, d46, d47, d48, d49, d50)) _ 4 ?_ (by omega) ⟨d12, d17, d18, d19, d20, d21, d22, d23, d24, d25, d26, d27, rfl, hC⟩
    rintro k st hk ⟨e12, e17, e18, e19, e20, e21, e22, e23, e24, e25, e26, e27, rfl, hc⟩
    unfold F_X11_mixSubpath_b6
    dsimp only
    by_cases z : k = 4
    · left
      subst z
      exact ⟨_, if_pos (show (3 : Int32) < nI 4 by decide), e12, e17, e18, e19, e20, e21, e22, e23, e24, e25, e26, e27, rfl, hc⟩
    · right
      refine ⟨by omega, ?_⟩
      obtain ⟨f12, f17, f18, f19, f20, f21, f22, f23, f24, f25, f26, f27, q1, q2⟩ := about_c hR hc hn hs (show k < 4 by omega)
      rw [if_neg (show ¬ (3 : Int32) < nI k from nI_nlt (a := 3) (b := k) (by omega) (by omega)), q1, obd_s, lt_eq, lt_eq, zl_1, nI_add, mix_c]
      exact ⟨_, rfl, f12, f17, f18, f19, f20, f21, f22, f23, f24, f25, f26, f27, rfl, q2⟩
  obtain ⟨x, k1, e12, e17, e18, e19, e20, e21, e22, e23, e24, e25, e26, e27, rfl, hc⟩ := k6
  have k36 : lpq (F_X11_mixSubpath_b36 c (nI s)) n (ptF (red m) s (mxf (abt N p (red m) s) h 4) 0, nI 0) = some (ptF (red m) s (mxf (abt N p (red m) s) h 4) (p s)) := by
    refine lpq_run (p s) (fun k => (ptF (red m) s (mxf (abt N p (red m) s) h 4) k, nI k)) (fun k hk => ?_) ?_ (by omega)
    · have gxy := g.xy hk
      unfold F_X11_mixSubpath_b36
      rw [X1_pts hR.c13 hs hN4, obd_s, g.pc]
      dsimp only
      rw [if_neg (nI_ge hk (by omega)), X1_x (by omega) (by omega), obd_s, lt_eq, X1_y (by omega) (by omega), obd_s, lt_eq, lt_eq, mix_c, mix_c, gxy.1, gxy.2.1, zl_1, nI_add]; rfl
    · unfold F_X11_mixSubpath_b36
      rw [X1_pts hR.c13 hs hN4, obd_s, g.pc]
      exact if_pos (nI_le (Nat.le_refl _) (by omega))
  have k36' : lpq (F_X11_mixSubpath_b36 c (nI s)) n (mxf (abt N p (red m) s) h 4, 0) = some (ptF (red m) s (mxf (abt N p (red m) s) h 4) (p s)) := k36
  unfold F_X11_mixSubpath F_X11_mixSubpath_j6 F_X11_mixSubpath_j33 F_X11_mixSubpath_j36 F_X11_mixSubpath_j91
  rw [k1, obd_s]
  dsimp only
  rw [k36', obd_s]
  exact ⟨e12, e17, e18, e19, e20, e21, e22, e23, e24, e25, e26, e27, rfl, hc⟩
set_option maxHeartbeats 1000000 in
theorem mrun_c {P : TP} {N : Nat} {p : Nat → Nat} {c m : Nat → Int32} {d12 d13 d14 d15 d16 d17 : Int32} {d18 d19 d20 d21 d22 d23 d24 d25 d26 d27 : Nat → Int32} {d28 d29 : Int32} {d30 d31 d32 d33 d34 d35 d36 d37 d38 : Nat → Int32} {d39 d40 d41 d42 : Int32} {d43 : Nat → Int32} {d44 d45 d46 : Int32} {d47 d48 d49 d50 : Nat → Int32}
    (hR : RW N p c m) (hC : CAg WS P N p m (d12, d13, d14, d15, d16, d17, d18, d19, d20, d21, d22, d23, d24, d25, d26, d27, d28, d29, d30, d31, d32, d33, d34, d35, d36, d37, d38, d39, d40, d41, d42, d43, d44, d45, d46, d47, d48, d49, d50)) {n : Nat} (hn : 200000 ≤ n) {s : Nat} (hs : s < N) (h : Int64) :
    ∃ e12 e28 e29 e30 e31 e32 e33 e34 e35 e36 e37 e38 e39 e40 e41 e42 e43 e17 e18 e19 e20 e21 e22 e23 e24 e25 e26 e27, F_X11_mixRuns n c d12 d28 d29 d30 d31 d32 d33 d34 d35 d36 d37 d38 d39 d40 d41 d42 d43 d17 d18 d19 d20 d21 d22 d23 d24 d25 d26 d27 h (nI s) = some (rnF (fin N p (red m) s) (mxv h (nI (fin N p (red m) s).length)) (fin N p (red m) s).length, e12, e28, e29, e30, e31, e32, e33, e34, e35, e36, e37, e38, e39, e40, e41, e42, e43, e17, e18, e19, e20, e21, e22, e23, e24, e25, e26, e27) ∧ CAg WS P N p m (e12, d13, d14, d15, d16, e17, e18, e19, e20, e21, e22, e23, e24, e25, e26, e27, e28, e29, e30, e31, e32, e33, e34, e35, e36, e37, e38, e39, e40, e41, e42, e43, d44, d45, d46, d47, d48, d49, d50) := by
  have hN4 := hR.1
  obtain ⟨e12, e28, e29, e30, e31, e32, e33, e34, e35, e36, e37, e38, e39, e40, e41, e42, e43, e17, e18, e19, e20, e21, e22, e23, e24, e25, e26, e27, k1, k2, k3, k4⟩ := walkd hR hC (n := n) hn
  have hfl := fin_len hR.red s
  unfold F_X11_mixRuns F_X11_mixRuns_j29 F_X11_mixRuns_j85
  rw [k1, obd_s]
  dsimp only
  rw [k3.co hR.red (by omega), obd_s, lt_eq, mix_c]
  have key : lpq (F_X11_mixRuns_b29 n e30 e31 e32 e33 e35 (nI s)) n (rnF (fin N p (red m) s) (mxv h (nI (fin N p (red m) s).length)) 0, nI 0) = some (rnF (fin N p (red m) s) (mxv h (nI (fin N p (red m) s).length)) (fin N p (red m) s).length) := by
    refine lpq_run (fin N p (red m) s).length (fun i => (rnF (fin N p (red m) s) (mxv h (nI (fin N p (red m) s).length)) i, nI i)) (fun i hi => ?_) ?_ (by omega)
    · obtain ⟨r, hr⟩ := hx_at hi
      have inn : lpq (F_X11_mixRuns_b43 e30 e31 e32 e33 e35 (nI s) (nI i)) n (mxf (fun w => nI (rvl r w)) (rnF (fin N p (red m) s) (mxv h (nI (fin N p (red m) s).length)) i) 0, nI 0) = some (mxf (fun w => nI (rvl r w)) (rnF (fin N p (red m) s) (mxv h (nI (fin N p (red m) s).length)) i) 4) := by
        refine lpq_run 4 (fun w => (mxf (fun w => nI (rvl r w)) (rnF (fin N p (red m) s) (mxv h (nI (fin N p (red m) s).length)) i) w, nI w)) (fun w hw => ?_) ?_ (by omega)
        · unfold F_X11_mixRuns_b43
          dsimp only
          rw [if_neg (show ¬ (3 : Int32) < nI w from nI_nlt (a := 3) (b := w) (by omega) (by omega)), k3.fo hR.red (by omega), obd_s, nI_add, k3.ab hR.red (by omega) hr hw, obd_s, mix_c, lt_eq, lt_eq, zl_1, nI_add]; rfl
        · unfold F_X11_mixRuns_b43
          exact if_pos (show (3 : Int32) < nI 4 by decide)
      have inn' : lpq (F_X11_mixRuns_b43 e30 e31 e32 e33 e35 (nI s) (nI i)) n (rnF (fin N p (red m) s) (mxv h (nI (fin N p (red m) s).length)) i, 0) = some (mxf (fun w => nI (rvl r w)) (rnF (fin N p (red m) s) (mxv h (nI (fin N p (red m) s).length)) i) 4) := inn
      unfold F_X11_mixRuns_b29 F_X11_mixRuns_j43 F_X11_mixRuns_j79
      rw [k3.co hR.red (by omega), obd_s]
      dsimp only
      rw [if_neg (nI_ge hi (by omega)), inn', obd_s, lt_eq, zl_1, nI_add, rnF_s hr]
    · unfold F_X11_mixRuns_b29
      rw [k3.co hR.red (by omega), obd_s]
      exact if_pos (nI_le (Nat.le_refl _) (by omega))
  have key' : lpq (F_X11_mixRuns_b29 n e30 e31 e32 e33 e35 (nI s)) n (mxv h (nI (fin N p (red m) s).length), 0) = some (rnF (fin N p (red m) s) (mxv h (nI (fin N p (red m) s).length)) (fin N p (red m) s).length) := key
  rw [key', obd_s]
  exact ⟨_, _, _, _, _, _, _, _, _, _, _, _, _, _, _, _, _, _, _, _, _, _, _, _, _, _, _, _, rfl, k4⟩
section DGP
variable {L : List Pc} {K X Y R : Nat → Int32}
theorem mpc_c (h : HoP L K X Y) (hL : L.length ≤ 2792) {i : Nat} {q : Pc} (hq : L[i]? = some q) (hs : Int64) {n : Nat} (hn : 1000 ≤ n) : F_X11_mixPiece n K X Y hs (nI i) = some (cnF q hs (nc q.1)) := by
  have n4 := nc_le q.1
  have key : lpq (F_X11_mixPiece_b15 K X Y (nI i)) n (cnF q hs 0, nI 0) = some (cnF q hs (nc q.1)) := by
    refine lpq_run (nc q.1) (fun k => (cnF q hs k, nI k)) (fun k hk => ?_) ?_ (by omega)
    · have cx := cx_c h hL hq hk
      unfold F_X11_mixPiece_b15
      rw [cc_c h hL hq, obd_s]
      dsimp only
      rw [if_neg (nI_ge hk (by omega)), cx.1, obd_s, lt_eq, cx.2, obd_s, lt_eq, lt_eq, mix_c, mix_c, zl_1, nI_add]; rfl
    · unfold F_X11_mixPiece_b15
      rw [cc_c h hL hq, obd_s]
      exact if_pos (nI_le (Nat.le_refl _) (by omega))
  unfold F_X11_mixPiece F_X11_mixPiece_j15 F_X11_mixPiece_j61
  rw [kd_c h hL hq, obd_s, lt_eq, mix_c]
  have key' : lpq (F_X11_mixPiece_b15 K X Y (nI i)) n (mxv hs (nI q.1), 0) = some (cnF q hs (nc q.1)) := key
  rw [key', obd_s]
theorem mpcs_c (h : HoP L K X Y) (hL : L.length ≤ 2792) (hs : Int64) {n : Nat} (hn : 10000 ≤ n) : lpq (F_X11_digest_b96 n (nI L.length) K X Y) n (hs, 0) = some (pcF L hs L.length) := by
  have key : lpq (F_X11_digest_b96 n (nI L.length) K X Y) n (pcF L hs 0, nI 0) = some (pcF L hs L.length) := by
    refine lpq_run L.length (fun i => (pcF L hs i, nI i)) (fun i hi => ?_) ?_ (by omega)
    · obtain ⟨q, hq⟩ := hx_at hi
      unfold F_X11_digest_b96 F_X7_size
      rw [lt_eq]
      dsimp only
      rw [if_neg (nI_ge hi (by omega)), mpc_c h hL hq _ (by omega), obd_s, lt_eq, zl_1, nI_add, pcF_s hq]
    · unfold F_X11_digest_b96 F_X7_size
      rw [lt_eq]
      exact if_pos (nI_le (Nat.le_refl _) (by omega))
  exact key
theorem mpcs_m (h : HoQ L R) (hL : L.length ≤ 2792) (hs : Int64) {n : Nat} (hn : 10000 ≤ n) : lpq (F_X12_digest_b84 n (nI L.length) R) n (0, hs) = some (pcF L hs L.length) := by
  have key : lpq (F_X12_digest_b84 n (nI L.length) R) n (nI 0, pcF L hs 0) = some (pcF L hs L.length) := by
    refine lpq_run L.length (fun i => (nI i, pcF L hs i)) (fun i hi => ?_) ?_ (by omega)
    · obtain ⟨q, hq⟩ := hx_at hi
      have n4 := nc_le q.1
      have inn : lpq (F_X12_digest_b103 R (nI i)) n (nI 0, cnF q (pcF L hs i) 0) = some (cnF q (pcF L hs i) (nc q.1)) := by
        refine lpq_run (nc q.1) (fun k => (nI k, cnF q (pcF L hs i) k)) (fun k hk => ?_) ?_ (by omega)
        · have cx := cx_m h hL hq (c := k) (by omega)
          rw [Nat.mod_eq_of_lt hk] at cx
          unfold F_X12_digest_b103
          rw [cc_m h hL hq, obd_s]
          dsimp only
          rw [if_neg (nI_ge hk (by omega)), cx.1, obd_s, lt_eq, cx.2, obd_s, lt_eq, lt_eq, mix_m, mix_m, zl_1, nI_add]; rfl
        · unfold F_X12_digest_b103
          rw [cc_m h hL hq, obd_s]
          exact if_pos (nI_le (Nat.le_refl _) (by omega))
      have inn' : lpq (F_X12_digest_b103 R (nI i)) n (0, mxv (pcF L hs i) (nI q.1)) = some (cnF q (pcF L hs i) (nc q.1)) := inn
      unfold F_X12_digest_b84 F_X12_digest_j103 F_X12_digest_j138
      dsimp only
      rw [if_neg (nI_ge hi (by omega)), kd_m h hL hq, obd_s, lt_eq, mix_m, inn', obd_s, lt_eq, zl_1, nI_add, pcF_s hq]
    · unfold F_X12_digest_b84
      exact if_pos (nI_le (Nat.le_refl _) (by omega))
  exact key
end DGP
section DGM
variable {N : Nat} {p : Nat → Nat} {c m m' : Nat → Int32}
set_option maxHeartbeats 1000000 in
theorem msub_m (hR : RW N p c m) (hm : E86 m' m) {n : Nat} (hn : 200000 ≤ n) {s : Nat} (hs : s < N) (h : Int64) (x12 x13 x21 : Int32) (a6 a7 a8 a9 a10 a11 a14 a15 a18 a19 a20 : Nat → Int32) :
    ∃ y12 y13 y16 y17 y21 b6 b7 b8 b9 b10 b11 b14 b15 b18 b19 b20, F_X12_mixSubpath n x12 x13 x21 h m' a6 a7 a8 a9 a10 a11 a14 a15 a18 a19 a20 (nI s) =
      some (y12, y13, y16, y17, y21, rnF (fin N p m s) (mxv (ptF m s (mxf (abt N p m s) h 4) (p s)) (nI (fin N p m s).length)) (fin N p m s).length, b6, b7, b8, b9, b10, b11, b14, b15, b18, b19, b20) := by
  have hN4 := hR.1
  have g := hR.sp hs
  have g8 := g.2.1
  have hfl := fin_len hR s
  have k2 : ∃ x, lpq (F_X12_mixSubpath_b2 n m' (nI s)) n (0, x12, x13, h, a6, a7, a8, a9, a10, a11) = some x ∧ ∃ y12 y13 b6 b7 b8 b9 b10 b11, x = (y12, y13, mxf (abt N p m s) h 4, b6, b7, b8, b9, b10, b11) := by
    refine lpq_i0 (fun k st => ∃ y12 y13 b6 b7 b8 b9 b10 b11, st = (nI k, y12, y13, mxf (abt N p m s) h k, b6, b7, b8, b9, b10, b11)) _ 4 ?_ (by omega) ⟨x12, x13, a6, a7, a8, a9, a10, a11, rfl⟩
    rintro k st hk ⟨y12, y13, b6, b7, b8, b9, b10, b11, rfl⟩
    unfold F_X12_mixSubpath_b2
    dsimp only
    by_cases z : k = 4
    · left
      subst z
      exact ⟨_, if_pos (show (4 : Int32) ≤ nI 4 by decide), y12, y13, b6, b7, b8, b9, b10, b11, rfl⟩
    · right
      refine ⟨by omega, ?_⟩
      obtain ⟨f6, f7, f8, f9, f10, f11, q1, _⟩ := tell_m hn hR hm hs (show k < 4 by omega) b6 b7 b8 b9 b10 b11
      rw [if_neg (show ¬ (4 : Int32) ≤ nI k from nI_ge (b := 4) (by omega) (by omega)), q1, obd_s, lt_eq, lt_eq, zl_1, nI_add, mix_m]
      exact ⟨_, rfl, _, _, f6, f7, f8, f9, f10, f11, rfl⟩
  obtain ⟨x, e2, y12, y13, b6, b7, b8, b9, b10, b11, rfl⟩ := k2
  obtain ⟨f, c17, c18, c19, c20, c21, c22, s23, s24, q1, q2, q3, q4⟩ := lr_m hn hR hm hs y12 y13 b6 b7 b8 b9 b10 b11 a14 a15
  unfold F_X12_mixSubpath F_X12_mixSubpath_j2 F_X12_mixSubpath_j23 F_X12_mixSubpath_j55
  rw [e2, obd_s]
  dsimp only
  rw [at_12, lt_eq, m_pts' hm (by omega), obd_s, g.pm, zl_2, nI_add, pk_mul, show 14 + 18 * s + 2 = 16 + 18 * s from by omega, all_mx hm _ (by omega) (by omega), obd_s, ptF_e, q1, obd_s]
  dsimp only
  rw [mix_m, lt_eq]
  obtain ⟨H, hH⟩ : ∃ H, H = mxv (ptF m s (mxf (abt N p m s) h 4) (p s)) (nI (fin N p m s).length) := ⟨_, rfl⟩
  rw [← hH]
  have k55 : ∃ x, lpq (F_X12_mixSubpath_b55 n (nI (sg N p m s).length) (nI (sW N p m s)) (nI (fin N p m s).length) (nI f) c21 c22 s23 s24) n (0, x21, H, a18, a19, a20) = some x ∧ ∃ y21 b18 b19 b20, x = (y21, rnF (fin N p m s) H (fin N p m s).length, b18, b19, b20) := by
    refine lpq_i0 (fun i st => ∃ y21 b18 b19 b20, st = (nI i, y21, rnF (fin N p m s) H i, b18, b19, b20)) _ (fin N p m s).length ?_ (by omega) ⟨x21, a18, a19, a20, rfl⟩
    rintro i st hi ⟨y21, b18, b19, b20, rfl⟩
    unfold F_X12_mixSubpath_b55
    dsimp only
    by_cases z : i = (fin N p m s).length
    · left
      subst z
      exact ⟨_, if_pos (nI_le (Nat.le_refl _) (by omega)), y21, b18, b19, b20, rfl⟩
    · right
      refine ⟨by omega, ?_⟩
      obtain ⟨r, hr⟩ := hx_at (show i < (fin N p m s).length by omega)
      have k65 : ∃ x, lpq (F_X12_mixSubpath_b65 n (nI (sg N p m s).length) (nI (sW N p m s)) (nI f) c21 c22 s23 s24 (nI i)) n (0, y21, rnF (fin N p m s) H i, b18, b19, b20) = some x ∧ ∃ z21 d18 d19 d20, x = (z21, mxf (fun w => nI (rvl r w)) (rnF (fin N p m s) H i) 4, d18, d19, d20) := by
        refine lpq_i0 (fun w st => ∃ z21 d18 d19 d20, st = (nI w, z21, mxf (fun w => nI (rvl r w)) (rnF (fin N p m s) H i) w, d18, d19, d20)) _ 4 ?_ (by omega) ⟨y21, b18, b19, b20, rfl⟩
        rintro w st hw ⟨z21, d18, d19, d20, rfl⟩
        unfold F_X12_mixSubpath_b65
        dsimp only
        by_cases v : w = 4
        · left
          subst v
          exact ⟨_, if_pos (show (4 : Int32) ≤ nI 4 by decide), z21, d18, d19, d20, rfl⟩
        · right
          refine ⟨by omega, ?_⟩
          obtain ⟨t21, g18, g19, g20, u1⟩ := tr_m (n := n) (by omega) hR q2 q3 q4 hr (show w < 4 by omega) z21 d18 d19 d20
          rw [if_neg (show ¬ (4 : Int32) ≤ nI w from nI_ge (b := 4) (by omega) (by omega)), u1, obd_s, lt_eq, lt_eq, zl_1, nI_add, mix_m]
          exact ⟨_, rfl, t21, g18, g19, g20, rfl⟩
      obtain ⟨x, e65, z21, d18, d19, d20, rfl⟩ := k65
      unfold F_X12_mixSubpath_j65 F_X12_mixSubpath_j86
      rw [if_neg (nI_ge (by omega) (by omega)), e65, obd_s, lt_eq, zl_1, nI_add]
      exact ⟨_, rfl, z21, d18, d19, d20, by rw [rnF_s hr]⟩
  obtain ⟨x, e55, y21, b18, b19, b20, rfl⟩ := k55
  rw [e55, obd_s]
  exact ⟨_, _, _, _, _, _, _, _, _, _, _, _, _, _, _, _, rfl⟩
set_option maxHeartbeats 1000000 in
theorem msubs_m (hR : RW N p c m) (hm : E86 m' m) {n : Nat} (hn : 200000 ≤ n) (h : Int64) (x12 x13 x16 x17 x21 : Int32) (a6 a7 a8 a9 a10 a11 a14 a15 a18 a19 a20 : Nat → Int32) :
    ∃ y12 y13 y16 y17 y21 b6 b7 b8 b9 b10 b11 b14 b15 b18 b19 b20, lpq (F_X12_digest_b48 n m') n (0, x12, x13, x16, x17, x21, h, a6, a7, a8, a9, a10, a11, a14, a15, a18, a19, a20) =
      some (y12, y13, y16, y17, y21, sbF N p m h N, b6, b7, b8, b9, b10, b11, b14, b15, b18, b19, b20) := by
  have hN4 := hR.1
  have key : ∃ x, lpq (F_X12_digest_b48 n m') n (0, x12, x13, x16, x17, x21, h, a6, a7, a8, a9, a10, a11, a14, a15, a18, a19, a20) = some x ∧
      ∃ y12 y13 y16 y17 y21 b6 b7 b8 b9 b10 b11 b14 b15 b18 b19 b20, x = (y12, y13, y16, y17, y21, sbF N p m h N, b6, b7, b8, b9, b10, b11, b14, b15, b18, b19, b20) := by
    refine lpq_i0 (fun s st => ∃ y12 y13 y16 y17 y21 b6 b7 b8 b9 b10 b11 b14 b15 b18 b19 b20, st = (nI s, y12, y13, y16, y17, y21, sbF N p m h s, b6, b7, b8, b9, b10, b11, b14, b15, b18, b19, b20)) _ N ?_ (by omega)
      ⟨x12, x13, x16, x17, x21, a6, a7, a8, a9, a10, a11, a14, a15, a18, a19, a20, rfl⟩
    rintro s st hs ⟨y12, y13, y16, y17, y21, b6, b7, b8, b9, b10, b11, b14, b15, b18, b19, b20, rfl⟩
    unfold F_X12_digest_b48
    rw [gd_13, cl_13, hm 13 (by decide), hR.m13]
    dsimp only
    by_cases z : s = N
    · left
      subst z
      exact ⟨_, if_pos (nI_le (Nat.le_refl _) (by omega)), y12, y13, y16, y17, y21, b6, b7, b8, b9, b10, b11, b14, b15, b18, b19, b20, rfl⟩
    · right
      refine ⟨by omega, ?_⟩
      obtain ⟨z12, z13, z16, z17, z21, f6, f7, f8, f9, f10, f11, f14, f15, f18, f19, f20, q⟩ := msub_m hR hm hn (show s < N by omega) (sbF N p m h s) y12 y13 y21 b6 b7 b8 b9 b10 b11 b14 b15 b18 b19 b20
      rw [if_neg (nI_ge (by omega) (by omega)), q, obd_s, lt_eq, zl_1, nI_add]
      exact ⟨_, rfl, z12, z13, z16, z17, z21, f6, f7, f8, f9, f10, f11, f14, f15, f18, f19, f20, rfl⟩
  obtain ⟨x, e, y12, y13, y16, y17, y21, b6, b7, b8, b9, b10, b11, b14, b15, b18, b19, b20, rfl⟩ := key
  exact ⟨y12, y13, y16, y17, y21, b6, b7, b8, b9, b10, b11, b14, b15, b18, b19, b20, e⟩
end DGM
set_option maxHeartbeats 2000000 in
theorem msubs_c {P : TP} {N : Nat} {p : Nat → Nat} {c m : Nat → Int32} {d12 d13 d14 d15 d16 d17 : Int32} {d18 d19 d20 d21 d22 d23 d24 d25 d26 d27 : Nat → Int32} {d28 d29 : Int32} {d30 d31 d32 d33 d34 d35 d36 d37 d38 : Nat → Int32} {d39 d40 d41 d42 : Int32} {d43 : Nat → Int32} {d44 d45 d46 : Int32} {d47 d48 d49 d50 : Nat → Int32}
    (hR : RW N p c m) (hC : CAg WS P N p m (d12, d13, d14, d15, d16, d17, d18, d19, d20, d21, d22, d23, d24, d25, d26, d27, d28, d29, d30, d31, d32, d33, d34, d35, d36, d37, d38, d39, d40, d41, d42, d43, d44, d45, d46, d47, d48, d49, d50)) {n : Nat} (hn : 200000 ≤ n) (h : Int64) :
    ∃ e12 e28 e29 e30 e31 e32 e33 e34 e35 e36 e37 e38 e39 e40 e41 e42 e43 e17 e18 e19 e20 e21 e22 e23 e24 e25 e26 e27, lpq (F_X11_digest_b49 n c) n (h, 0, d12, d28, d29, d30, d31, d32, d33, d34, d35, d36, d37, d38, d39, d40, d41, d42, d43, d17, d18, d19, d20, d21, d22, d23, d24, d25, d26, d27) = some (sbF N p (red m) h N, e12, e28, e29, e30, e31, e32, e33, e34, e35, e36, e37, e38, e39, e40, e41, e42, e43, e17, e18, e19, e20, e21, e22, e23, e24, e25, e26, e27) ∧ CAg WS P N p m (e12, d13, d14, d15, d16, e17, e18, e19, e20, e21, e22, e23, e24, e25, e26, e27, e28, e29, e30, e31, e32, e33, e34, e35, e36, e37, e38, e39, e40, e41, e42, e43, d44, d45, d46, d47, d48, d49, d50) := by
  have hN4 := hR.1
  have key : ∃ x, lpq (F_X11_digest_b49 n c) n (h, 0, d12, d28, d29, d30, d31, d32, d33, d34, d35, d36, d37, d38, d39, d40, d41, d42, d43, d17, d18, d19, d20, d21, d22, d23, d24, d25, d26, d27) = some x ∧ ∃ e12 e28 e29 e30 e31 e32 e33 e34 e35 e36 e37 e38 e39 e40 e41 e42 e43 e17 e18 e19 e20 e21 e22 e23 e24 e25 e26 e27, x = (sbF N p (red m) h N, e12, e28, e29, e30, e31, e32, e33, e34, e35, e36, e37, e38, e39, e40, e41, e42, e43, e17, e18, e19, e20, e21, e22, e23, e24, e25, e26, e27) ∧ CAg WS P N p m (e12, d13, d14, d15, d16, e17, e18, e19, e20, e21, e22, e23, e24, e25, e26, e27, e28, e29, e30, e31, e32, e33, e34, e35, e36, e37, e38, e39, e40, e41, e42, e43, d44, d45, d46, d47, d48, d49, d50) := by
    refine lpq_i0 (fun s st => ∃ e12 e28 e29 e30 e31 e32 e33 e34 e35 e36 e37 e38 e39 e40 e41 e42 e43 e17 e18 e19 e20 e21 e22 e23 e24 e25 e26 e27, st = (sbF N p (red m) h s, nI s, e12, e28, e29, e30, e31, e32, e33, e34, e35, e36, e37, e38, e39, e40, e41, e42, e43, e17, e18, e19, e20, e21, e22, e23, e24, e25, e26, e27) ∧ CAg WS P N p m (e12, d13, d14, d15, d16, e17, e18, e19, e20, e21, e22, e23, e24, e25, e26, e27, e28, e29, e30, e31, e32, e33, e34, e35, e36, e37, e38, e39, e40, e41, e42, e43, d44, d45, d46, d47, d48, d49, d50)) _ N ?_ (by omega)
      ⟨d12, d28, d29, d30, d31, d32, d33, d34, d35, d36, d37, d38, d39, d40, d41, d42, d43, d17, d18, d19, d20, d21, d22, d23, d24, d25, d26, d27, rfl, hC⟩
    rintro s st hs ⟨e12, e28, e29, e30, e31, e32, e33, e34, e35, e36, e37, e38, e39, e40, e41, e42, e43, e17, e18, e19, e20, e21, e22, e23, e24, e25, e26, e27, rfl, hc⟩
    unfold F_X11_digest_b49
    rw [X1_count, obd_s, hR.c13]
    dsimp only
    by_cases z : s = N
    · left
      subst z
      exact ⟨_, if_pos (nI_le (Nat.le_refl _) (by omega)), _, _, _, _, _, _, _, _, _, _, _, _, _, _, _, _, _, _, _, _, _, _, _, _, _, _, _, _, rfl, hc⟩
    · right
      refine ⟨by omega, ?_⟩
      obtain ⟨f12, f17, f18, f19, f20, f21, f22, f23, f24, f25, f26, f27, q1, q2⟩ := msub_c hR hc (n := n) (by omega) (show s < N by omega) (sbF N p (red m) h s)
      obtain ⟨g12, g28, g29, g30, g31, g32, g33, g34, g35, g36, g37, g38, g39, g40, g41, g42, g43, g17, g18, g19, g20, g21, g22, g23, g24, g25, g26, g27, q3, q4⟩ := mrun_c hR q2 hn (show s < N by omega) (ptF (red m) s (mxf (abt N p (red m) s) (sbF N p (red m) h s) 4) (p s))
      rw [if_neg (nI_ge (by omega) (by omega)), q1, obd_s]
      dsimp only
      rw [q3, obd_s, lt_eq, zl_1, nI_add]
      exact ⟨_, rfl, _, _, _, _, _, _, _, _, _, _, _, _, _, _, _, _, _, _, _, _, _, _, _, _, _, _, _, _, rfl, q4⟩
  obtain ⟨x, e, e12, e28, e29, e30, e31, e32, e33, e34, e35, e36, e37, e38, e39, e40, e41, e42, e43, e17, e18, e19, e20, e21, e22, e23, e24, e25, e26, e27, rfl, hc⟩ := key
  exact ⟨_, _, _, _, _, _, _, _, _, _, _, _, _, _, _, _, _, _, _, _, _, _, _, _, _, _, _, _, e, hc⟩
