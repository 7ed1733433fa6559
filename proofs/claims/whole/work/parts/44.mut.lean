/-! ===== single changes of a drawing ===== -/
theorem obx_l {U X β : Type} {u : U} {g : X → Option β} {f : U → Option β} : obx (some (.inl u)) g f = f u := rfl
theorem obx_r {U X β : Type} {x : X} {g : X → Option β} {f : U → Option β} : obx (some (.inr x)) g f = g x := rfl
theorem RW.c13 {N : Nat} {p : Nat → Nat} {c m : Nat → Int32} (h : RW N p c m) : c 13 = nI N := h.2.1
theorem RW.m13 {N : Nat} {p : Nat → Nat} {c m : Nat → Int32} (h : RW N p c m) : m 13 = nI N := h.2.2.1
theorem RW.st {N : Nat} {p : Nat → Nat} {c m : Nat → Int32} (h : RW N p c m) : ST c m := h.2.2.2.1
theorem RW.sp {N : Nat} {p : Nat → Nat} {c m : Nat → Int32} (h : RW N p c m) {s : Nat} (hs : s < N) : SP s (p s) c m := h.2.2.2.2 s hs
theorem SP.pc {s p : Nat} {c m : Nat → Int32} (h : SP s p c m) : c (14 + 18 * s) = nI p := h.2.2.1
theorem SP.pm {s p : Nat} {c m : Nat → Int32} (h : SP s p c m) : m (14 + 18 * s) = nI p := h.2.2.2.1
theorem SP.cl {s p : Nat} {c m : Nat → Int32} (h : SP s p c m) : c (15 + 18 * s) = m (15 + 18 * s) := h.2.2.2.2.1
theorem SP.bo {s p : Nat} {c m : Nat → Int32} (h : SP s p c m) : m (15 + 18 * s) = 0 ∨ m (15 + 18 * s) = 1 := h.2.2.2.2.2.1
theorem SP.xy {s p : Nat} {c m : Nat → Int32} (h : SP s p c m) {k : Nat} (hk : k < p) : c (16 + 18 * s + 2 * k) = m (16 + 18 * s + 2 * k) ∧ c (17 + 18 * s + 2 * k) = m (17 + 18 * s + 2 * k) ∧ CO (m (16 + 18 * s + 2 * k)) ∧ CO (m (17 + 18 * s + 2 * k)) := h.2.2.2.2.2.2 k hk
theorem st_c {c : Nat → Int32} {N : Nat} {x y : Int32} (h : c 13 = nI N) (hN : N < 4) :
    F_X1_startSubpath c x y = some (upd (upd (upd (upd (upd (upd c 13 (nI (N + 1))) (14 + 18 * N) (nI 0)) (15 + 18 * N) (nI 0)) (16 + 18 * N) x) (17 + 18 * N) y) (14 + 18 * N) (nI 1)) := by
  unfold F_X1_startSubpath
  rw [X1_count, obd_s, h, p1_l (z := 13) (i := 13) rfl (by decide), obd_s]
  simp only [lt_eq, co_1, zl_0, zl_1, nI_add, Nat.add_zero]
  rw [p1_in (by omega), obd_s, p1_in (by omega), obd_s]
  unfold F_X1_addPoint
  have e13 : (upd (upd (upd c 13 (nI (N + 1))) (14 + 18 * N) (nI 0)) (14 + 18 * N + 1) (nI 0)) 13 = nI (N + 1) := by
    rw [ud_n (by omega), ud_n (by omega), ud_e rfl]
  have e14 : (upd (upd (upd c 13 (nI (N + 1))) (14 + 18 * N) (nI 0)) (14 + 18 * N + 1) (nI 0)) (14 + 18 * N) = nI 0 := by
    rw [ud_n (by omega), ud_e rfl]
  rw [X1_last e13, obd_s, X1_pts e13 (by omega) (by omega), obd_s, e14, X1_pp hN (by omega), obd_s, lt_eq, co_1, zl_0, nI_add, zl_1, nI_add, Nat.add_zero, Nat.zero_add, p1_in (by omega), obd_s, obd_s]
  simp only [Nat.mul_zero, Nat.add_zero, show 14 + 18 * N + 1 = 15 + 18 * N from by omega]
theorem beg_m {m : Nat → Int32} {N : Nat} {x y : Int32} (h : m 13 = nI N) (hN : N < 4) :
    F_X12_begins m x y = some (upd (upd (upd (upd (upd m 13 (nI (N + 1))) (14 + 18 * N) (nI 1)) (15 + 18 * N) (nI 0)) (16 + 18 * N) x) (17 + 18 * N) y) := by
  unfold F_X12_begins
  simp only [gd_13, lt_eq, cl_13, h, at_12, zl_1, nI_add]
  rw [gd_in (by omega) (by decide), nI_clamp (by omega), gd_in (by omega) (by decide), nI_clamp (by omega), zl_0, m_pp hN (by omega), obd_s]
  simp only [Nat.mul_zero, Nat.add_zero, show 14 + 18 * N + 1 = 15 + 18 * N from by omega]
theorem RW_start {N : Nat} {p : Nat → Nat} {c m c' m' : Nat → Int32} {x y : Int32} (h : RW N p c m) (hN : N < 4) (hx : CO x) (hy : CO y)
    (c1 : c' 13 = nI (N + 1)) (c2 : c' (14 + 18 * N) = nI 1) (c3 : c' (15 + 18 * N) = nI 0) (c4 : c' (16 + 18 * N) = x) (c5 : c' (17 + 18 * N) = y) (c6 : ∀ i, i < 14 + 18 * N → i ≠ 13 → c' i = c i)
    (m1 : m' 13 = nI (N + 1)) (m2 : m' (14 + 18 * N) = nI 1) (m3 : m' (15 + 18 * N) = nI 0) (m4 : m' (16 + 18 * N) = x) (m5 : m' (17 + 18 * N) = y) (m6 : ∀ i, i < 14 + 18 * N → i ≠ 13 → m' i = m i) :
    RW (N + 1) (fun s => if s = N then 1 else p s) c' m' := by
  refine ⟨by omega, c1, m1, h.st.fr (fun i hi => c6 i (by omega) (by omega)) (fun i hi => m6 i (by omega) (by omega)), fun s hs => ?_⟩
  by_cases q : s = N
  · subst q
    show SP s (if s = s then 1 else p s) c' m'
    rw [if_pos rfl]
    refine ⟨by omega, by omega, c2, m2, by rw [c3, m3], Or.inl m3, fun k hk => ?_⟩
    have : k = 0 := by omega
    subst this
    rw [Nat.mul_zero, Nat.add_zero, Nat.add_zero, c4, c5, m4, m5]
    exact ⟨rfl, rfl, hx, hy⟩
  · show SP s (if s = N then 1 else p s) c' m'
    rw [if_neg q]
    exact (h.sp (by omega)).fr (fun i h1 h2 => c6 i (by omega) (by omega)) (fun i h1 h2 => m6 i (by omega) (by omega))
theorem RW_begin {N : Nat} {p : Nat → Nat} {c m : Nat → Int32} {x y : Int32} (h : RW N p c m) (hN : N < 4) (hx : CO x) (hy : CO y) :
    RW (N + 1) (fun s => if s = N then 1 else p s) (upd (upd (upd (upd (upd (upd c 13 (nI (N + 1))) (14 + 18 * N) (nI 0)) (15 + 18 * N) (nI 0)) (16 + 18 * N) x) (17 + 18 * N) y) (14 + 18 * N) (nI 1))
      (upd (upd (upd (upd (upd m 13 (nI (N + 1))) (14 + 18 * N) (nI 1)) (15 + 18 * N) (nI 0)) (16 + 18 * N) x) (17 + 18 * N) y) := by
  refine RW_start h hN hx hy ?_ ?_ ?_ ?_ ?_ (fun i h1 h2 => ?_) ?_ ?_ ?_ ?_ ?_ (fun i h1 h2 => ?_) <;> simp (disch := omega) only [ud_n, ud_e]
/-- a point more at the end of the last subpath -/
theorem add_c {c : Nat → Int32} {l k : Nat} {x y : Int32} (h : c 13 = nI (l + 1)) (hl : l < 4) (hk : c (14 + 18 * l) = nI k) (hk8 : k < 8) :
    F_X1_addPoint c x y = some (upd (upd (upd c (16 + 18 * l + 2 * k) x) (17 + 18 * l + 2 * k) y) (14 + 18 * l) (nI (k + 1))) := by
  unfold F_X1_addPoint
  rw [X1_last h, obd_s, X1_pts h (by omega) (by omega), obd_s, hk, X1_pp hl hk8, obd_s, lt_eq, co_1, zl_0, nI_add, zl_1, nI_add, Nat.add_zero, p1_in (by omega), obd_s]
theorem fol_m {m : Nat → Int32} {l k : Nat} {x y : Int32} (h : m 13 = nI (l + 1)) (hl : l < 4) (hk : m (14 + 18 * l) = nI k) (hk8 : k < 8) :
    F_X12_follows m x y = some (upd (upd (upd m (16 + 18 * l + 2 * k) x) (17 + 18 * l + 2 * k) y) (14 + 18 * l) (nI (k + 1))) := by
  unfold F_X12_follows
  rw [gd_13, cl_13, h, nI_pred, lt_eq, m_pts hl, obd_s, hk, m_pp hl hk8, obd_s, lt_eq, at_12, gd_in (by omega) (by decide), nI_clamp (by omega), lt_eq, gd_in (by omega) (by decide), lt_eq, ud_n (by omega), ud_n (by omega), hk, zl_1, nI_add]
theorem RW_add {l : Nat} {p : Nat → Nat} {c m : Nat → Int32} {x y : Int32} (h : RW (l + 1) p c m) (hk : p l < 8) (hx : CO x) (hy : CO y) :
    RW (l + 1) (fun s => if s = l then p l + 1 else p s) (upd (upd (upd c (16 + 18 * l + 2 * p l) x) (17 + 18 * l + 2 * p l) y) (14 + 18 * l) (nI (p l + 1)))
      (upd (upd (upd m (16 + 18 * l + 2 * p l) x) (17 + 18 * l + 2 * p l) y) (14 + 18 * l) (nI (p l + 1))) := by
  have hl : l < 4 := by have := h.1; omega
  refine ⟨h.1, by simp (disch := omega) only [ud_n]; exact h.c13, by simp (disch := omega) only [ud_n]; exact h.m13, h.st.fr (fun i hi => by simp (disch := omega) only [ud_n]) (fun i hi => by simp (disch := omega) only [ud_n]), fun s hs => ?_⟩
  by_cases q : s = l
  · subst q
    show SP s (if s = s then p s + 1 else p s) _ _
    rw [if_pos rfl]
    have g := h.sp hs
    refine ⟨by omega, by omega, by simp only [ud_e], by simp only [ud_e], ?_, ?_, fun k hk2 => ?_⟩
    · simp (disch := omega) only [ud_n]; exact g.cl
    · simp (disch := omega) only [ud_n]; exact g.bo
    · by_cases q2 : k = p s
      · subst q2
        simp (disch := omega) only [ud_n, ud_e]
        exact ⟨trivial, trivial, hx, hy⟩
      · simp (disch := omega) only [ud_n]
        exact g.xy (by omega)
  · show SP s (if s = l then p l + 1 else p s) _ _
    rw [if_neg q]
    exact (h.sp hs).fr (fun i h1 h2 => by simp (disch := omega) only [ud_n]) (fun i h1 h2 => by simp (disch := omega) only [ud_n])
theorem cls_c {c : Nat → Int32} {l : Nat} (h : c 13 = nI (l + 1)) (hl : l < 4) : F_X1_closeLast c = some (upd c (15 + 18 * l) 1) := by
  unfold F_X1_closeLast
  rw [X1_last h, obd_s, lt_eq, co_1, zl_1, nI_add, p1_in (by omega), obd_s, show 14 + 18 * l + 1 = 15 + 18 * l from by omega]
theorem RW_close {l : Nat} {p : Nat → Nat} {c m : Nat → Int32} {v : Int32} (h : RW (l + 1) p c m) (hv : v = 0 ∨ v = 1) :
    RW (l + 1) p (upd c (15 + 18 * l) v) (upd m (15 + 18 * l) v) := by
  have hl : l < 4 := by have := h.1; omega
  refine ⟨h.1, by simp (disch := omega) only [ud_n]; exact h.c13, by simp (disch := omega) only [ud_n]; exact h.m13, h.st.fr (fun i hi => by simp (disch := omega) only [ud_n]) (fun i hi => by simp (disch := omega) only [ud_n]), fun s hs => ?_⟩
  by_cases q : s = l
  · subst q
    have g := h.sp hs
    refine ⟨g.1, g.2.1, ?_, ?_, by simp only [ud_e], by simp only [ud_e]; exact hv, fun k hk2 => ?_⟩
    · simp (disch := omega) only [ud_n]; exact g.pc
    · simp (disch := omega) only [ud_n]; exact g.pm
    · have := g.2.1
      simp (disch := omega) only [ud_n]
      exact g.xy hk2
  · exact (h.sp hs).fr (fun i h1 h2 => by simp (disch := omega) only [ud_n]) (fun i h1 h2 => by simp (disch := omega) only [ud_n])
/-- style cells that change -/
theorem RW_style {N : Nat} {p : Nat → Nat} {c m c' m' : Nat → Int32} (h : RW N p c m) (hs : ST c' m') (e1 : ∀ i, 13 ≤ i → c' i = c i) (e2 : ∀ i, 13 ≤ i → m' i = m i) : RW N p c' m' :=
  ⟨h.1, by rw [e1 13 (by omega)]; exact h.c13, by rw [e2 13 (by omega)]; exact h.m13, hs, fun s hs => (h.sp hs).fr (fun i h1 _ => e1 i (by omega)) (fun i h1 _ => e2 i (by omega))⟩
theorem start_both {N : Nat} {p : Nat → Nat} {c m : Nat → Int32} {x y : Int32} (h : RW N p c m) (hN : N < 4) (hx : CO x) (hy : CO y) :
    ∃ U V p', F_X1_startSubpath c x y = some U ∧ F_X12_begins m x y = some V ∧ RW (N + 1) p' U V ∧ p' N = 1 ∧ ∀ s, s < N → p' s = p s :=
  ⟨_, _, _, st_c h.c13 hN, beg_m h.m13 hN, RW_begin h hN hx hy, if_pos rfl, fun s hs => if_neg (by omega)⟩
theorem add_both {l : Nat} {p : Nat → Nat} {c m : Nat → Int32} {x y : Int32} (h : RW (l + 1) p c m) (hk : p l < 8) (hx : CO x) (hy : CO y) :
    ∃ U V p', F_X1_addPoint c x y = some U ∧ F_X12_follows m x y = some V ∧ RW (l + 1) p' U V ∧ p' l = p l + 1 ∧ ∀ s, s < l → p' s = p s :=
  ⟨_, _, _, add_c h.c13 (by have := h.1; omega) (h.sp (by omega)).pc hk, fol_m h.m13 (by have := h.1; omega) (h.sp (by omega)).pm hk, RW_add h hk hx hy, if_pos rfl, fun s hs => if_neg (by omega)⟩
theorem Inv_mk {CA : Nat → (Nat → Nat) → (Nat → Int32) → SC → Prop} {d0 : Nat → Int32} {d1 : Nat → Int32} {d2 : Int32} {d3 : Nat → Int32} {d4 : Int32} {d5 : Int32} {d6 : Int32} {d7 : Int32} {d8 : Int32} {d9 : Nat → Int32} {d10 : Int32} {d11 : Nat → Int32} {d12 : Int32} {d13 : Int32} {d14 : Int32} {d15 : Int32} {d16 : Int32} {d17 : Int32} {d18 : Nat → Int32} {d19 : Nat → Int32} {d20 : Nat → Int32} {d21 : Nat → Int32} {d22 : Nat → Int32} {d23 : Nat → Int32} {d24 : Nat → Int32} {d25 : Nat → Int32} {d26 : Nat → Int32} {d27 : Nat → Int32} {d28 : Int32} {d29 : Int32} {d30 : Nat → Int32} {d31 : Nat → Int32} {d32 : Nat → Int32} {d33 : Nat → Int32} {d34 : Nat → Int32} {d35 : Nat → Int32} {d36 : Nat → Int32} {d37 : Nat → Int32} {d38 : Nat → Int32} {d39 : Int32} {d40 : Int32} {d41 : Int32} {d42 : Int32} {d43 : Nat → Int32} {d44 : Int32} {d45 : Int32} {d46 : Int32} {d47 : Nat → Int32} {d48 : Nat → Int32} {d49 : Nat → Int32} {d50 : Nat → Int32} {m0 : Int32} {m1 : Int32} {m2 : Int32} {m3 : Int32} {m4 : Int32} {m5 : Int32} {m6 : Int32} {m7 : Int32} {m8 : Int32} {m9 : Int32} {m10 : Int32} {m11 : Int32} {m12 : Int32} {m13 : Int64} {m14 : Nat → Int32} {m15 : Nat → Int32} {m16 : Nat → Int32} {m17 : Nat → Int32} {m18 : Nat → Int32} {m19 : Nat → Int32} {m20 : Nat → Int32} {m21 : Nat → Int32} {m22 : Nat → Int32} {m23 : Nat → Int32} {m24 : Nat → Int32} {m25 : Nat → Int32} {m26 : Nat → Int32} {m27 : Nat → Int32} {m28 : Nat → Int32} {m29 : Nat → Int32} {m30 : Nat → Int32} {N : Nat} {p : Nat → Nat}
    (h1 : RW N p d0 m14) (h2 : HI d2 d3 m0 m15) (h3 : TX d4 d9 m2 m16) (h4 : CA N p m14 (d12, d13, d14, d15, d16, d17, d18, d19, d20, d21, d22, d23, d24, d25, d26, d27, d28, d29, d30, d31, d32, d33, d34, d35, d36, d37, d38, d39, d40, d41, d42, d43, d44, d45, d46, d47, d48, d49, d50)) : Inv CA (d0, d1, d2, d3, d4, d5, d6, d7, d8, d9, d10, d11, d12, d13, d14, d15, d16, d17, d18, d19, d20, d21, d22, d23, d24, d25, d26, d27, d28, d29, d30, d31, d32, d33, d34, d35, d36, d37, d38, d39, d40, d41, d42, d43, d44, d45, d46, d47, d48, d49, d50) (m0, m1, m2, m3, m4, m5, m6, m7, m8, m9, m10, m11, m12, m13, m14, m15, m16, m17, m18, m19, m20, m21, m22, m23, m24, m25, m26, m27, m28, m29, m30) := ⟨N, p, h1, h2, h3, h4⟩
theorem Inv_un {CA : Nat → (Nat → Nat) → (Nat → Int32) → SC → Prop} {d0 : Nat → Int32} {d1 : Nat → Int32} {d2 : Int32} {d3 : Nat → Int32} {d4 : Int32} {d5 : Int32} {d6 : Int32} {d7 : Int32} {d8 : Int32} {d9 : Nat → Int32} {d10 : Int32} {d11 : Nat → Int32} {d12 : Int32} {d13 : Int32} {d14 : Int32} {d15 : Int32} {d16 : Int32} {d17 : Int32} {d18 : Nat → Int32} {d19 : Nat → Int32} {d20 : Nat → Int32} {d21 : Nat → Int32} {d22 : Nat → Int32} {d23 : Nat → Int32} {d24 : Nat → Int32} {d25 : Nat → Int32} {d26 : Nat → Int32} {d27 : Nat → Int32} {d28 : Int32} {d29 : Int32} {d30 : Nat → Int32} {d31 : Nat → Int32} {d32 : Nat → Int32} {d33 : Nat → Int32} {d34 : Nat → Int32} {d35 : Nat → Int32} {d36 : Nat → Int32} {d37 : Nat → Int32} {d38 : Nat → Int32} {d39 : Int32} {d40 : Int32} {d41 : Int32} {d42 : Int32} {d43 : Nat → Int32} {d44 : Int32} {d45 : Int32} {d46 : Int32} {d47 : Nat → Int32} {d48 : Nat → Int32} {d49 : Nat → Int32} {d50 : Nat → Int32} {m0 : Int32} {m1 : Int32} {m2 : Int32} {m3 : Int32} {m4 : Int32} {m5 : Int32} {m6 : Int32} {m7 : Int32} {m8 : Int32} {m9 : Int32} {m10 : Int32} {m11 : Int32} {m12 : Int32} {m13 : Int64} {m14 : Nat → Int32} {m15 : Nat → Int32} {m16 : Nat → Int32} {m17 : Nat → Int32} {m18 : Nat → Int32} {m19 : Nat → Int32} {m20 : Nat → Int32} {m21 : Nat → Int32} {m22 : Nat → Int32} {m23 : Nat → Int32} {m24 : Nat → Int32} {m25 : Nat → Int32} {m26 : Nat → Int32} {m27 : Nat → Int32} {m28 : Nat → Int32} {m29 : Nat → Int32} {m30 : Nat → Int32}
    (h : Inv CA (d0, d1, d2, d3, d4, d5, d6, d7, d8, d9, d10, d11, d12, d13, d14, d15, d16, d17, d18, d19, d20, d21, d22, d23, d24, d25, d26, d27, d28, d29, d30, d31, d32, d33, d34, d35, d36, d37, d38, d39, d40, d41, d42, d43, d44, d45, d46, d47, d48, d49, d50) (m0, m1, m2, m3, m4, m5, m6, m7, m8, m9, m10, m11, m12, m13, m14, m15, m16, m17, m18, m19, m20, m21, m22, m23, m24, m25, m26, m27, m28, m29, m30)) : ∃ N p, RW N p d0 m14 ∧ HI d2 d3 m0 m15 ∧ TX d4 d9 m2 m16 ∧ CA N p m14 (d12, d13, d14, d15, d16, d17, d18, d19, d20, d21, d22, d23, d24, d25, d26, d27, d28, d29, d30, d31, d32, d33, d34, d35, d36, d37, d38, d39, d40, d41, d42, d43, d44, d45, d46, d47, d48, d49, d50) := h
