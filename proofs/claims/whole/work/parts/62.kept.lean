/-! ===== what the class keeps beside the drawing ===== -/
abbrev TW : Type := Nat → (Nat → Nat) → (Nat → Int32) → Int32 → Int32 → (Nat → Int32) → (Nat → Int32) → (Nat → Int32) → (Nat → Int32) → (Nat → Int32) → (Nat → Int32) → (Nat → Int32) → (Nat → Int32) → (Nat → Int32) → Prop
abbrev TP : Type := Nat → (Nat → Nat) → (Nat → Int32) → Int32 → Int32 → (Nat → Int32) → (Nat → Int32) → (Nat → Int32) → Prop
def red (m : Nat → Int32) : Nat → Int32 := fun i => if i < 86 then m i else 0
theorem red_E (m : Nat → Int32) : E86 m (red m) := fun i hi => (if_pos hi).symm
theorem red_eq {m m' : Nat → Int32} (h : ∀ i, i < 86 → m' i = m i) : red m' = red m := by
  funext i
  unfold red
  by_cases q : i < 86
  · rw [if_pos q, if_pos q, h i q]
  · rw [if_neg q, if_neg q]
theorem RW.red {N : Nat} {p : Nat → Nat} {c m : Nat → Int32} (h : RW N p c m) : RW N p c (red m) := h.i86 (fun _ _ => rfl) (fun i hi => if_pos hi)
def CAg (W : TW) (P : TP) (N : Nat) (p : Nat → Nat) (m : Nat → Int32) : SC → Prop := fun (d12, _, _, _, _, d17, d18, d19, d20, d21, d22, d23, d24, d25, d26, d27, d28, d29, d30, d31, d32, d33, d34, d35, d36, d37, d38, _, _, _, _, _, d44, _, d46, d47, d48, d49, _) =>
  ∃ st : Nat, st ≤ 3 ∧ d12 = nI st ∧ (1 ≤ st → MS N p (red m) d17 d18 d19 d20 d21 d22 d23 d24 d25 d26 d27) ∧ (2 ≤ st → W N p (red m) d28 d29 d30 d31 d32 d33 d34 d35 d36 d37 d38) ∧ (3 ≤ st → P N p (red m) d44 d46 d47 d48 d49)
theorem CAg_z (W : TW) (P : TP) : CAz (CAg W P) := by
  intro N p m ⟨_, _, _, _, d17, d18, d19, d20, d21, d22, d23, d24, d25, d26, d27, d28, d29, d30, d31, d32, d33, d34, d35, d36, d37, d38, _, _, _, _, _, d44, _, d46, d47, d48, d49, _⟩
  exact ⟨0, by omega, rfl, fun h => absurd h (by omega), fun h => absurd h (by omega), fun h => absurd h (by omega)⟩
theorem CAg_e (W : TW) (P : TP) : CAe (CAg W P) := by
  intro N p m m' ⟨_, _, _, _, _, d17, d18, d19, d20, d21, d22, d23, d24, d25, d26, d27, d28, d29, d30, d31, d32, d33, d34, d35, d36, d37, d38, _, _, _, _, _, d44, _, d46, d47, d48, d49, _⟩ he ⟨st, h⟩
  have e := red_eq he
  refine ⟨st, ?_⟩
  rw [e]; exact h
theorem CAg_mk {W : TW} {P : TP} {N : Nat} {p : Nat → Nat} {m : Nat → Int32} {d12 d13 d14 d15 d16 d17 : Int32} {d18 d19 d20 d21 d22 d23 d24 d25 d26 d27 : Nat → Int32} {d28 d29 : Int32} {d30 d31 d32 d33 d34 d35 d36 d37 d38 : Nat → Int32} {d39 d40 d41 d42 : Int32} {d43 : Nat → Int32} {d44 d45 d46 : Int32} {d47 d48 d49 d50 : Nat → Int32}
    (st : Nat) (h0 : st ≤ 3) (h : d12 = nI st) (h1 : 1 ≤ st → MS N p (red m) d17 d18 d19 d20 d21 d22 d23 d24 d25 d26 d27) (h2 : 2 ≤ st → W N p (red m) d28 d29 d30 d31 d32 d33 d34 d35 d36 d37 d38) (h3 : 3 ≤ st → P N p (red m) d44 d46 d47 d48 d49) :
    CAg W P N p m (d12, d13, d14, d15, d16, d17, d18, d19, d20, d21, d22, d23, d24, d25, d26, d27, d28, d29, d30, d31, d32, d33, d34, d35, d36, d37, d38, d39, d40, d41, d42, d43, d44, d45, d46, d47, d48, d49, d50) := ⟨st, h0, h, h1, h2, h3⟩
/-! the class's rows, read -/
theorem at_in {n0 : Nat} {w : Nat → Int32} {i : Nat} (h : i < n0) (hn : n0 < 2 ^ 31) : F_X4_at n0 w (nI i) = some (w i) := by
  unfold F_X4_at
  rw [if_neg (nI_pos (by omega)), if_neg (show ¬ Int32.ofNat n0 ≤ nI i from nI_ge h hn), gd_in h hn, nI_clamp (by omega)]
section MSL
variable {N : Nat} {p : Nat → Nat} {c m : Nat → Int32} {d17 : Int32} {d18 d19 d20 d21 d22 d23 d24 d25 d26 d27 : Nat → Int32}
theorem SF_32 (hR : RW N p c m) {s : Nat} (hs : s ≤ 4) : SF N p m s ≤ 32 := by have := SF_le hR s; omega
theorem MS.fo (h : MS N p m d17 d18 d19 d20 d21 d22 d23 d24 d25 d26 d27) {s : Nat} (hs : s ≤ 4) : F_X9_firstOf d18 (nI s) = some (nI (SF N p m s)) := by
  unfold F_X9_firstOf; rw [at_in (by omega) (by decide), obd_s, h.2.1 s hs]
theorem MS.eo (h : MS N p m d17 d18 d19 d20 d21 d22 d23 d24 d25 d26 d27) {s : Nat} (hs : s < 4) : F_X9_endOf d18 (nI s) = some (nI (SF N p m (s + 1))) := by
  unfold F_X9_endOf; rw [zl_1, nI_add, at_in (by omega) (by decide), obd_s, h.2.1 (s + 1) (by omega)]
theorem MS.co (h : MS N p m d17 d18 d19 d20 d21 d22 d23 d24 d25 d26 d27) {s : Nat} (hs : s < 4) : F_X9_countOf d18 (nI s) = some (nI (sg N p m s).length) := by
  unfold F_X9_countOf
  rw [h.eo hs, obd_s, h.fo (by omega), obd_s, SF_s, pk_sub (by omega)]
  congr 2; omega
theorem MS.at (h : MS N p m d17 d18 d19 d20 d21 d22 d23 d24 d25 d26 d27) {s g k : Nat} (hs : s < 4) (hg : (sg N p m s)[g]? = some k) :
    d19 (SF N p m s + g) = 64 * m (16 + 18 * s + 2 * k) ∧ d20 (SF N p m s + g) = 64 * m (17 + 18 * s + 2 * k) ∧ d21 (SF N p m s + g) = sgx m s (p s) k ∧ d22 (SF N p m s + g) = sgy m s (p s) k ∧ d23 (SF N p m s + g) = nI (sgl m s (p s) k) ∧
    d24 (SF N p m s + g) = nrX m s (p s) k ∧ d25 (SF N p m s + g) = nrY m s (p s) k ∧ d26 (SF N p m s + g) = nrY m s (p s) k ∧ d27 (SF N p m s + g) = alY m s (p s) k := h.2.2 _ _ (flS_at hs hg)
theorem SF_g (hR : RW N p c m) {s g k : Nat} (hs : s < 4) (hg : (sg N p m s)[g]? = some k) : SF N p m s + g < 32 := by
  have h1 := hx_lt hg
  have h2 := SF_s N p m s
  have h3 := SF_32 hR (s := s + 1) (by omega)
  omega
theorem sg_s {s g k : Nat} (hg : (sg N p m s)[g]? = some k) : s < N := by
  by_cases q : s < N
  · exact q
  · unfold sg at hg; rw [if_neg q] at hg; exact absurd hg (by simp)
theorem sg_at {s g k : Nat} (hg : (sg N p m s)[g]? = some k) : k < p s ∧ ¬ (sgx m s (p s) k = 0 ∧ sgy m s (p s) k = 0) := by
  have hs := sg_s hg
  unfold sg at hg; rw [if_pos hs] at hg
  have h1 := sgL_at hg
  have h2 : sgE m s (p s) ≤ p s := sgE_le
  exact ⟨by omega, h1.2⟩
theorem sA_le (hR : RW N p c m) (s g : Nat) (hg : g ≤ (sg N p m s).length) : sA N p m s g ≤ 18101 * g := by
  refine sgS_le (fun i k hk => ?_) g
  have hs := sg_s hk
  exact sgl_le (hR.sp hs) (sg_at hk).1
theorem sW_le (hR : RW N p c m) (s : Nat) : sW N p m s ≤ 144808 := by
  have h1 := sA_le hR s _ (Nat.le_refl _)
  have h2 := sg_len hR s
  unfold sW; omega
theorem sA_s {s g k : Nat} (hg : (sg N p m s)[g]? = some k) : sA N p m s (g + 1) = sA N p m s g + sgl m s (p s) k := sgS_s hg
theorem sA_0 (s : Nat) : sA N p m s 0 = 0 := sgS_0 _ _
theorem sA_mono (s g j : Nat) : sA N p m s g ≤ sA N p m s (g + j) := sgS_mono g j
theorem sA_w {s g : Nat} (hg : g ≤ (sg N p m s).length) : sA N p m s g ≤ sW N p m s := by
  have := sA_mono (N := N) (p := p) (m := m) s g ((sg N p m s).length - g)
  rwa [show g + ((sg N p m s).length - g) = (sg N p m s).length from by omega] at this
theorem MS.so (hR : RW N p c m) (h : MS N p m d17 d18 d19 d20 d21 d22 d23 d24 d25 d26 d27) {n : Nat} (hn : 1000 ≤ n) {s g : Nat} (hs : s < 4) (hg : g ≤ (sg N p m s).length) : F_X9_startOf n d18 d23 (nI s) (nI (SF N p m s + g)) = some (nI (sA N p m s g)) := by
  have h8 := sg_len hR s
  have hSF := SF_32 hR (s := s) (by omega)
  unfold F_X9_startOf F_X9_startOf_j12
  rw [at_in (by omega) (by decide), obd_s, h.2.1 s (by omega)]
  have key : lpq (F_X9_startOf_b12 d23 (nI (SF N p m s + g))) n (nI (sA N p m s 0), nI (SF N p m s + 0)) = some (nI (sA N p m s g)) := by
    refine lpq_run g (fun i => (nI (sA N p m s i), nI (SF N p m s + i))) (fun i hi => ?_) ?_ (by omega)
    · obtain ⟨k, hk⟩ := hx_at (show i < (sg N p m s).length by omega)
      have hb := SF_g hR hs hk
      unfold F_X9_startOf_b12
      show (if nI (SF N p m s + g) ≤ nI (SF N p m s + i) then _ else obd (F_X4_at 32 d23 (nI (SF N p m s + i))) _) = _
      rw [if_neg (nI_ge (by omega) (by omega)), at_in hb (by decide), obd_s, (h.at hs hk).2.2.2.2.1]
      simp only [lt_eq, zl_1, nI_add]
      rw [sA_s hk]; rfl
    · unfold F_X9_startOf_b12
      exact if_pos (nI_le (Nat.le_refl _) (by omega))
  rw [sA_0, Nat.add_zero] at key
  rw [show (0 : Int32) = nI 0 from rfl, key]; rfl
theorem MS.lo (hR : RW N p c m) (h : MS N p m d17 d18 d19 d20 d21 d22 d23 d24 d25 d26 d27) {n : Nat} (hn : 1000 ≤ n) {s : Nat} (hs : s < 4) : F_X9_lengthOf n d18 d23 (nI s) = some (nI (sW N p m s)) := by
  unfold F_X9_lengthOf
  rw [h.eo hs, obd_s, SF_s, h.so hR hn hs (Nat.le_refl _), obd_s]; rfl
/-- the point at a distance on the step k -/
def aX (m : Nat → Int32) (s n k t : Nat) : Int32 := 64 * m (16 + 18 * s + 2 * k) + iI (rnd (64 * (sgx m s n k).toInt * t) (sgl m s n k))
def aY (m : Nat → Int32) (s n k t : Nat) : Int32 := 64 * m (17 + 18 * s + 2 * k) + iI (rnd (64 * (sgy m s n k).toInt * t) (sgl m s n k))
theorem rd_p {a : Int} {t q : Nat} (ha : a.natAbs ≤ 200) (ht : t ≤ 18101) (h1 : 1 ≤ q) (h2 : q ≤ 18101) : -1000000000000000000 ≤ 64 * a * t ∧ 64 * a * t ≤ 1000000000000000000 := by
  have := mb (a := 64 * a) (b := t) (A := 12800) (B := 18101) (by omega) (by omega)
  omega
theorem lp_e {x : Int32} {t : Nat} (ht : t ≤ 18101) : (64 * x.toInt64) * (nI t).toInt64 = lI (64 * x.toInt * t) := by
  rw [ii_w', nI_l (by omega), li_n, show (64 : Int64) = lI 64 from rfl, li_mul, li_mul]
theorem MS.xa (hR : RW N p c m) (h : MS N p m d17 d18 d19 d20 d21 d22 d23 d24 d25 d26 d27) {s g k t : Nat} (hs : s < 4) (hg : (sg N p m s)[g]? = some k) (ht : t ≤ 18101) : F_X9_xAt d19 d21 d23 (nI (SF N p m s + g)) (nI t) = some (aX m s (p s) k t) := by
  have hb := SF_g hR hs hg
  have ha := h.at hs hg
  have hk := sg_at hg
  have g' := hR.sp (sg_s hg)
  have hst := stp g' hk.1
  have l1 := sgl_ge hk.2
  have l2 := sgl_le g' hk.1
  unfold F_X9_xAt
  rw [at_in hb (by decide), obd_s, ha.2.2.1, lt_eq, at_in hb (by decide), obd_s, ha.1, at_in hb (by decide), obd_s, ha.2.2.2.2.1, lp_e ht, nI_l (by omega), li_n, rnd_cls (by omega) (rd_p (by omega) ht (by omega) l2) (by omega), obd_s]
  rfl
theorem MS.ya (hR : RW N p c m) (h : MS N p m d17 d18 d19 d20 d21 d22 d23 d24 d25 d26 d27) {s g k t : Nat} (hs : s < 4) (hg : (sg N p m s)[g]? = some k) (ht : t ≤ 18101) : F_X9_yAt d20 d22 d23 (nI (SF N p m s + g)) (nI t) = some (aY m s (p s) k t) := by
  have hb := SF_g hR hs hg
  have ha := h.at hs hg
  have hk := sg_at hg
  have g' := hR.sp (sg_s hg)
  have hst := stp g' hk.1
  have l1 := sgl_ge hk.2
  have l2 := sgl_le g' hk.1
  unfold F_X9_yAt
  rw [at_in hb (by decide), obd_s, ha.2.2.2.1, lt_eq, at_in hb (by decide), obd_s, ha.2.1, at_in hb (by decide), obd_s, ha.2.2.2.2.1, lp_e ht, nI_l (by omega), li_n, rnd_cls (by omega) (rd_p (by omega) ht (by omega) l2) (by omega), obd_s]
  rfl
theorem HoR.xa (hR : RW N p c m) {s : Nat} {ax ay bx bz sl sa : Nat → Int32} (h : HoR m s (p s) (sg N p m s) ax ay bx bz sl sa) {g k t : Nat} (hg : (sg N p m s)[g]? = some k) (ht : t ≤ 18101) : F_X12_alongX ax bx sl (nI g) (nI t) = some (aX m s (p s) k t) := by
  have hb := hx_lt hg
  have h8 := sg_len hR s
  have ha := h g k hg
  have hk := sg_at hg
  have g' := hR.sp (sg_s hg)
  have hst := stp g' hk.1
  have l1 := sgl_ge hk.2
  have l2 := sgl_le g' hk.1
  unfold F_X12_alongX
  rw [gd_in (by omega) (by decide), gd_in (by omega) (by decide), gd_in (by omega) (by decide), nI_clamp (by omega), ha.1, ha.2.2.1, ha.2.2.2.2.1, lp_e ht, nI_l (by omega), li_n, rnd_ref (by omega) (rd_p (by omega) ht (by omega) l2) (by omega), obd_s]
  rfl
theorem HoR.ya (hR : RW N p c m) {s : Nat} {ax ay bx bz sl sa : Nat → Int32} (h : HoR m s (p s) (sg N p m s) ax ay bx bz sl sa) {g k t : Nat} (hg : (sg N p m s)[g]? = some k) (ht : t ≤ 18101) : F_X12_alongY ay bz sl (nI g) (nI t) = some (aY m s (p s) k t) := by
  have hb := hx_lt hg
  have h8 := sg_len hR s
  have ha := h g k hg
  have hk := sg_at hg
  have g' := hR.sp (sg_s hg)
  have hst := stp g' hk.1
  have l1 := sgl_ge hk.2
  have l2 := sgl_le g' hk.1
  unfold F_X12_alongY
  rw [gd_in (by omega) (by decide), gd_in (by omega) (by decide), gd_in (by omega) (by decide), nI_clamp (by omega), ha.2.1, ha.2.2.2.1, ha.2.2.2.2.1, lp_e ht, nI_l (by omega), li_n, rnd_ref (by omega) (rd_p (by omega) ht (by omega) l2) (by omega), obd_s]
  rfl
end MSL
/-- the class measures when it must -/
theorem measd {W : TW} {P : TP} {N : Nat} {p : Nat → Nat} {c m : Nat → Int32} {d12 d13 d14 d15 d16 d17 : Int32} {d18 d19 d20 d21 d22 d23 d24 d25 d26 d27 : Nat → Int32} {d28 d29 : Int32} {d30 d31 d32 d33 d34 d35 d36 d37 d38 : Nat → Int32} {d39 d40 d41 d42 : Int32} {d43 : Nat → Int32} {d44 d45 d46 : Int32} {d47 d48 d49 d50 : Nat → Int32}
    (hR : RW N p c m) (hC : CAg W P N p m (d12, d13, d14, d15, d16, d17, d18, d19, d20, d21, d22, d23, d24, d25, d26, d27, d28, d29, d30, d31, d32, d33, d34, d35, d36, d37, d38, d39, d40, d41, d42, d43, d44, d45, d46, d47, d48, d49, d50)) {n : Nat} (hn : 100000 ≤ n) :
    ∃ e12 e17 e18 e19 e20 e21 e22 e23 e24 e25 e26 e27, F_X10_measured n d12 d17 d18 d19 d20 d21 d22 d23 d24 d25 d26 d27 c = some (e12, e17, e18, e19, e20, e21, e22, e23, e24, e25, e26, e27) ∧ MS N p (red m) e17 e18 e19 e20 e21 e22 e23 e24 e25 e26 e27 ∧
      CAg W P N p m (e12, d13, d14, d15, d16, e17, e18, e19, e20, e21, e22, e23, e24, e25, e26, e27, d28, d29, d30, d31, d32, d33, d34, d35, d36, d37, d38, d39, d40, d41, d42, d43, d44, d45, d46, d47, d48, d49, d50) := by
  obtain ⟨st, h0, rfl, h1, h2, h3⟩ := hC
  unfold F_X10_measured F_X10_measured_j21
  by_cases q : 1 ≤ st
  · rw [if_pos (show (1 : Int32) ≤ nI st from nI_le (a := 1) q (by omega))]
    exact ⟨_, _, _, _, _, _, _, _, _, _, _, _, rfl, h1 q, st, h0, rfl, h1, h2, h3⟩
  · have e : st = 0 := by omega
    subst e
    rw [if_neg (by decide)]
    obtain ⟨e17, e18, e19, e20, e21, e22, e23, e24, e25, e26, e27, k1, k2⟩ := meas_c hn hR.red d18 d19 d20 d21 d22 d23 d24 d25 d26 d27
    rw [k1, obd_s]
    exact ⟨_, _, _, _, _, _, _, _, _, _, _, _, rfl, k2, 1, by omega, rfl, fun _ => k2, fun h => absurd h (by omega), fun h => absurd h (by omega)⟩
