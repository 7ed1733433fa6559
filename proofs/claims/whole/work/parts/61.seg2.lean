/-! ===== segments in the class ===== -/
theorem mb {a b : Int} {A B : Nat} (ha : a.natAbs ≤ A) (hb : b.natAbs ≤ B) : (a * b).natAbs ≤ A * B := by
  rw [Int.natAbs_mul]; exact Nat.mul_le_mul ha hb
theorem if2 {α : Type} (A B : α) (C D : Prop) [Decidable C] [Decidable D] : (if C then if D then A else B else B) = if C ∧ D then A else B := by
  by_cases q : C
  · by_cases q2 : D
    · rw [if_pos q, if_pos q2, if_pos ⟨q, q2⟩]
    · rw [if_pos q, if_neg q2, if_neg (fun h => q2 h.2)]
  · rw [if_neg q, if_neg (fun h => q h.1)]
def nrX (m : Nat → Int32) (s n k : Nat) : Int32 := iI (rnd (-(sgy m s n k).toInt * (2048 * (m 0).toInt)) (sgl m s n k))
def nrY (m : Nat → Int32) (s n k : Nat) : Int32 := iI (rnd ((sgx m s n k).toInt * (2048 * (m 0).toInt)) (sgl m s n k))
def alY (m : Nat → Int32) (s n k : Nat) : Int32 := iI (rnd ((sgy m s n k).toInt * (2048 * (m 0).toInt)) (sgl m s n k))
/-- the class's arrays hold the segments fl: of a subpath, from a point -/
def HoS (m : Nat → Int32) (p : Nat → Nat) (fl : List (Nat × Nat)) (x y dx dy ln nx ny ax ay : Nat → Int32) : Prop :=
  ∀ i q, fl[i]? = some q → x i = 64 * m (16 + 18 * q.1 + 2 * q.2) ∧ y i = 64 * m (17 + 18 * q.1 + 2 * q.2) ∧ dx i = sgx m q.1 (p q.1) q.2 ∧ dy i = sgy m q.1 (p q.1) q.2 ∧ ln i = nI (sgl m q.1 (p q.1) q.2) ∧
    nx i = nrX m q.1 (p q.1) q.2 ∧ ny i = nrY m q.1 (p q.1) q.2 ∧ ax i = nrY m q.1 (p q.1) q.2 ∧ ay i = alY m q.1 (p q.1) q.2
theorem HoS.ap {m : Nat → Int32} {p : Nat → Nat} {fl : List (Nat × Nat)} {x y dx dy ln nx ny ax ay : Nat → Int32} (h : HoS m p fl x y dx dy ln nx ny ax ay) (s k : Nat) :
    HoS m p (fl ++ [(s, k)]) (upd x fl.length (64 * m (16 + 18 * s + 2 * k))) (upd y fl.length (64 * m (17 + 18 * s + 2 * k))) (upd dx fl.length (sgx m s (p s) k)) (upd dy fl.length (sgy m s (p s) k)) (upd ln fl.length (nI (sgl m s (p s) k)))
      (upd nx fl.length (nrX m s (p s) k)) (upd ny fl.length (nrY m s (p s) k)) (upd ax fl.length (nrY m s (p s) k)) (upd ay fl.length (alY m s (p s) k)) := by
  intro i q hj
  rcases hx_ap hj with ⟨h1, h2⟩ | ⟨rfl, rfl⟩
  · have := h i q h2
    rw [ud_n (by omega), ud_n (by omega), ud_n (by omega), ud_n (by omega), ud_n (by omega), ud_n (by omega), ud_n (by omega), ud_n (by omega), ud_n (by omega)]
    exact this
  · rw [ud_e rfl, ud_e rfl, ud_e rfl, ud_e rfl, ud_e rfl, ud_e rfl, ud_e rfl, ud_e rfl, ud_e rfl]
    exact ⟨rfl, rfl, rfl, rfl, rfl, rfl, rfl, rfl, rfl⟩
theorem ST.w {c m : Nat → Int32} (h : ST c m) : 1 ≤ (m 0).toInt ∧ (m 0).toInt ≤ 40 := h.2.1
theorem wid {c m : Nat → Int32} (h : ST c m) : (64 * (32 * m 0)).toInt64 = lI (2048 * (m 0).toInt) := by
  have h1 := h.w
  have e1 : (64 : Int32) = iI 64 := rfl
  have e2 : (32 : Int32) = iI 32 := rfl
  have e3 : m 0 = iI (m 0).toInt := (ii_of _).symm
  rw [e3, e1, e2, ii_mul, ii_mul, ii_w (by omega) (by omega), ii_t (by omega) (by omega)]
  congr 1; omega
theorem rnd_c1 {a b : Int} {q : Nat} (ha : a.natAbs ≤ 200) (hb : b.natAbs ≤ 81920) (h1 : 1 ≤ q) (h2 : q ≤ 18101) : F_X4_round (lI a * lI b) (nI q).toInt64 = some (iI (rnd (a * b) q)) := by
  have := mb ha hb
  rw [li_mul, nI_l (by omega), li_n]
  exact rnd_cls (by omega) (by omega) (by omega)
set_option maxHeartbeats 1000000 in
theorem adds_c {n : Nat} (hn : 100000 ≤ n) {N : Nat} {p : Nat → Nat} {c m : Nat → Int32} (hR : RW N p c m) {s k : Nat} (hs : s < N) (hk : k < p s) (hz : ¬ (sgx m s (p s) k = 0 ∧ sgy m s (p s) k = 0)) {fl : List (Nat × Nat)} (hB : fl.length < 32) (x y dx dy ln nx ny ax ay : Nat → Int32) :
    F_X9_addSegment n (nI fl.length) x y dx dy ln nx ny ax ay (m (16 + 18 * s + 2 * k)) (m (17 + 18 * s + 2 * k)) (sgx m s (p s) k) (sgy m s (p s) k) (64 * (32 * m 0)).toInt64 =
      some (nI (fl ++ [(s, k)]).length, upd x fl.length (64 * m (16 + 18 * s + 2 * k)), upd y fl.length (64 * m (17 + 18 * s + 2 * k)), upd dx fl.length (sgx m s (p s) k), upd dy fl.length (sgy m s (p s) k), upd ln fl.length (nI (sgl m s (p s) k)),
      upd nx fl.length (nrX m s (p s) k), upd ny fl.length (nrY m s (p s) k), upd ax fl.length (nrY m s (p s) k), upd ay fl.length (alY m s (p s) k)) := by
  have g := hR.sp hs
  have g1 := stp g hk
  have hq := sgq_le g hk
  have hl1 := sgl_ge hz
  have hl2 := sgl_le g hk
  have hw := hR.st.w
  have er : F_X4_root n (4096 * (sgx m s (p s) k * sgx m s (p s) k + sgy m s (p s) k * sgy m s (p s) k)).toInt64 = some (nI (sgl m s (p s) k)) := by
    rw [sq_nI, show (4096 : Int32) = nI 4096 from rfl, pk_mul, nI_l (by show 4096 * sgq m s (p s) k < _; omega)]
    exact root_cls hn (by show 4096 * sgq m s (p s) k < _; omega)
  have hneg : (-sgy m s (p s) k).toInt = -(sgy m s (p s) k).toInt := fb_negI (by omega)
  have e1 : F_X4_round ((-sgy m s (p s) k).toInt64 * (64 * (32 * m 0)).toInt64) (nI (sgl m s (p s) k)).toInt64 = some (nrX m s (p s) k) := by
    rw [wid hR.st, ii_w', hneg]; exact rnd_c1 (by omega) (by omega) (by omega) hl2
  have e2 : F_X4_round ((sgx m s (p s) k).toInt64 * (64 * (32 * m 0)).toInt64) (nI (sgl m s (p s) k)).toInt64 = some (nrY m s (p s) k) := by
    rw [wid hR.st, ii_w']; exact rnd_c1 (by omega) (by omega) (by omega) hl2
  have e3 : F_X4_round ((sgy m s (p s) k).toInt64 * (64 * (32 * m 0)).toInt64) (nI (sgl m s (p s) k)).toInt64 = some (alY m s (p s) k) := by
    rw [wid hR.st, ii_w']; exact rnd_c1 (by omega) (by omega) (by omega) hl2
  unfold F_X9_addSegment
  rw [if2, if_neg hz]
  unfold F_X9_addSegment_j15
  rw [if_neg (nI_pos (by omega)), if_pos (show nI fl.length < 32 from nI_lt (b := 32) hB (by decide))]
  simp only [lt_eq, gd_in hB (by decide), nI_clamp (show fl.length < 2 ^ 31 by omega)]
  rw [er, obd_s]
  simp only [pk_us]
  rw [e1, obd_s, e2, obd_s, obd_s, e3, obd_s, List.length_append, zl_1, nI_add]
  rfl
def flS (N : Nat) (p : Nat → Nat) (m : Nat → Int32) : Nat → List (Nat × Nat)
  | 0 => []
  | s + 1 => flS N p m s ++ (sg N p m s).map (fun k => (s, k))
def SF (N : Nat) (p : Nat → Nat) (m : Nat → Int32) (s : Nat) : Nat := (flS N p m s).length
theorem SF_s (N : Nat) (p : Nat → Nat) (m : Nat → Int32) (s : Nat) : SF N p m (s + 1) = SF N p m s + (sg N p m s).length := by
  unfold SF; rw [flS, List.length_append, List.length_map]
theorem sg_len {N : Nat} {p : Nat → Nat} {c m : Nat → Int32} (hR : RW N p c m) (s : Nat) : (sg N p m s).length ≤ 8 := by
  unfold sg
  by_cases q : s < N
  · rw [if_pos q]
    have h1 := sgL_len m s (p s) (sgE m s (p s))
    have h2 := (hR.sp q).2.1
    have h3 : sgE m s (p s) ≤ p s := sgE_le
    omega
  · rw [if_neg q]; exact Nat.zero_le _
theorem SF_le {N : Nat} {p : Nat → Nat} {c m : Nat → Int32} (hR : RW N p c m) : ∀ s, SF N p m s ≤ 8 * s := by
  intro s
  induction s with
  | zero => exact Nat.le_refl _
  | succ s ih => rw [SF_s]; have := sg_len hR s; omega
theorem SF_mono {N : Nat} {p : Nat → Nat} {m : Nat → Int32} (s : Nat) : ∀ j, SF N p m s ≤ SF N p m (s + j) := by
  intro j
  induction j with
  | zero => exact Nat.le_refl _
  | succ j ih => rw [show s + (j + 1) = s + j + 1 from rfl, SF_s]; omega
theorem flS_pre {N : Nat} {p : Nat → Nat} {m : Nat → Int32} (s : Nat) : ∀ (j i : Nat) (q : Nat × Nat), (flS N p m s)[i]? = some q → (flS N p m (s + j))[i]? = some q := by
  intro j
  induction j with
  | zero => intro i q h; exact h
  | succ j ih =>
    intro i q h
    have h2 := ih i q h
    rw [show s + (j + 1) = s + j + 1 from rfl, flS, List.getElem?_append_left (hx_lt h2)]; exact h2
theorem flS_at {N : Nat} {p : Nat → Nat} {m : Nat → Int32} {s t g k : Nat} (hst : s < t) (h : (sg N p m s)[g]? = some k) : (flS N p m t)[SF N p m s + g]? = some (s, k) := by
  have e : (flS N p m (s + 1))[SF N p m s + g]? = some (s, k) := by
    rw [flS, List.getElem?_append_right (by unfold SF; omega), show SF N p m s + g - (flS N p m s).length = g from by unfold SF; omega, List.getElem?_map, h]; rfl
  have := flS_pre (s + 1) (t - (s + 1)) _ _ e
  rwa [show s + 1 + (t - (s + 1)) = t from by omega] at this
set_option maxHeartbeats 2000000 in
theorem meas_in {n : Nat} (hn : 100000 ≤ n) {N : Nat} {p : Nat → Nat} {c m : Nat → Int32} (hR : RW N p c m) {s : Nat} (hs : s < N) (F : List (Nat × Nat)) (hF : F.length ≤ 24) (x y dx dy ln nx ny ax ay : Nat → Int32) (hH : HoS m p F x y dx dy ln nx ny ax ay) :
    ∃ x' y' dx' dy' ln' nx' ny' ax' ay', lpq (F_X9_measure_b59 n c (64 * (32 * m 0)) (nI s) (nI (p s)) (nI (sgE m s (p s)))) n (0, nI F.length, x, y, dx, dy, ln, nx, ny, ax, ay) = some (nI (F ++ (sg N p m s).map (fun k => (s, k))).length, x', y', dx', dy', ln', nx', ny', ax', ay') ∧
      HoS m p (F ++ (sg N p m s).map (fun k => (s, k))) x' y' dx' dy' ln' nx' ny' ax' ay' := by
  have g := hR.sp hs
  have g1 := g.1
  have g8 := g.2.1
  have hN4 := hR.1
  have hE : sg N p m s = sgL m s (p s) (sgE m s (p s)) := if_pos hs
  have hEle : sgE m s (p s) ≤ p s := sgE_le
  rw [hE]
  have key : ∃ w, lpq (F_X9_measure_b59 n c (64 * (32 * m 0)) (nI s) (nI (p s)) (nI (sgE m s (p s)))) n (0, nI F.length, x, y, dx, dy, ln, nx, ny, ax, ay) = some w ∧
      ∃ x' y' dx' dy' ln' nx' ny' ax' ay', w = (nI (F ++ (sgL m s (p s) (sgE m s (p s))).map (fun k => (s, k))).length, x', y', dx', dy', ln', nx', ny', ax', ay') ∧ HoS m p (F ++ (sgL m s (p s) (sgE m s (p s))).map (fun k => (s, k))) x' y' dx' dy' ln' nx' ny' ax' ay' := by
    refine lpq_i0 (fun i st => ∃ x' y' dx' dy' ln' nx' ny' ax' ay', st = (nI i, nI (F ++ (sgL m s (p s) i).map (fun k => (s, k))).length, x', y', dx', dy', ln', nx', ny', ax', ay') ∧ HoS m p (F ++ (sgL m s (p s) i).map (fun k => (s, k))) x' y' dx' dy' ln' nx' ny' ax' ay') _ (sgE m s (p s)) ?_ (by omega) ?_
    · rintro i st hi ⟨x', y', dx', dy', ln', nx', ny', ax', ay', rfl, hH'⟩
      by_cases h9 : i = sgE m s (p s)
      · left
        subst h9
        refine ⟨_, ?_, x', y', dx', dy', ln', nx', ny', ax', ay', rfl, hH'⟩
        unfold F_X9_measure_b59
        exact if_pos (nI_le (Nat.le_refl _) (by omega))
      · right
        refine ⟨by omega, ?_⟩
        have hk : i < p s := by omega
        have hm : (i + 1) % p s < p s := Nat.mod_lt _ (by omega)
        have hl := sgL_len m s (p s) i
        have hB : (F ++ (sgL m s (p s) i).map (fun k => (s, k))).length < 32 := by rw [List.length_append, List.length_map]; omega
        have e0 : F_X9_measure_b59 n c (64 * (32 * m 0)) (nI s) (nI (p s)) (nI (sgE m s (p s))) (nI i, nI (F ++ (sgL m s (p s) i).map (fun k => (s, k))).length, x', y', dx', dy', ln', nx', ny', ax', ay') =
            F_X9_measure_j83 n (nI (F ++ (sgL m s (p s) i).map (fun k => (s, k))).length) x' y' dx' dy' ln' nx' ny' ax' ay' c (64 * (32 * m 0)) (nI s) (nI i) (nI ((i + 1) % p s)) := by
          unfold F_X9_measure_b59
          show (if nI (sgE m s (p s)) ≤ nI i then _ else if nI (p s) ≤ nI i + 1 then _ else _) = _
          rw [if_neg (nI_ge (by omega) (by omega)), zl_1, nI_add]
          by_cases q : p s ≤ i + 1
          · have e : i + 1 = p s := by omega
            rw [if_pos (nI_le q (by omega)), e, Nat.mod_self]; rfl
          · rw [if_neg (nI_ge (by omega) (by omega)), Nat.mod_eq_of_lt (by omega)]
        rw [e0]
        have xy1 := g.xy hk
        have xy2 := g.xy hm
        unfold F_X9_measure_j83
        rw [X1_x (by omega) (by omega), obd_s, X1_y (by omega) (by omega), obd_s, X1_x (by omega) (by omega), obd_s, lt_eq, X1_y (by omega) (by omega), obd_s, lt_eq, xy1.1, xy1.2.1, xy2.1, xy2.2.1]
        rw [show m (16 + 18 * s + 2 * ((i + 1) % p s)) - m (16 + 18 * s + 2 * i) = sgx m s (p s) i from rfl, show m (17 + 18 * s + 2 * ((i + 1) % p s)) - m (17 + 18 * s + 2 * i) = sgy m s (p s) i from rfl]
        by_cases hz : sgx m s (p s) i = 0 ∧ sgy m s (p s) i = 0
        · have e2 : sgL m s (p s) (i + 1) = sgL m s (p s) i := by rw [sgL, if_pos hz]
          unfold F_X9_addSegment
          rw [if2, if_pos hz, obd_s, lt_eq, zl_1, nI_add]
          exact ⟨_, rfl, x', y', dx', dy', ln', nx', ny', ax', ay', by rw [e2], by rw [e2]; exact hH'⟩
        · have e2 : F ++ (sgL m s (p s) (i + 1)).map (fun k => (s, k)) = (F ++ (sgL m s (p s) i).map (fun k => (s, k))) ++ [(s, i)] := by rw [sgL, if_neg hz, List.map_append, List.append_assoc]; rfl
          rw [adds_c hn hR hs hk hz hB, obd_s, lt_eq, zl_1, nI_add]
          exact ⟨_, rfl, _, _, _, _, _, _, _, _, _, by rw [e2], by rw [e2]; exact hH'.ap s i⟩
    · exact ⟨x, y, dx, dy, ln, nx, ny, ax, ay, by rw [sgL, List.map_nil, List.append_nil]; rfl, by rw [sgL, List.map_nil, List.append_nil]; exact hH⟩
  obtain ⟨w, e, x', y', dx', dy', ln', nx', ny', ax', ay', rfl, h⟩ := key
  exact ⟨x', y', dx', dy', ln', nx', ny', ax', ay', e, h⟩
/-- what the class holds at stage 1 -/
def MS (N : Nat) (p : Nat → Nat) (m : Nat → Int32) (d17 : Int32) (d18 d19 d20 d21 d22 d23 d24 d25 d26 d27 : Nat → Int32) : Prop :=
  d17 = nI (SF N p m 4) ∧ (∀ s, s ≤ 4 → d18 s = nI (SF N p m s)) ∧ HoS m p (flS N p m 4) d19 d20 d21 d22 d23 d24 d25 d26 d27
set_option maxHeartbeats 2000000 in
theorem meas_c {n : Nat} (hn : 100000 ≤ n) {N : Nat} {p : Nat → Nat} {c m : Nat → Int32} (hR : RW N p c m) (a18 a19 a20 a21 a22 a23 a24 a25 a26 a27 : Nat → Int32) :
    ∃ d17 d18 d19 d20 d21 d22 d23 d24 d25 d26 d27, F_X9_measure n a18 a19 a20 a21 a22 a23 a24 a25 a26 a27 c = some (d17, d18, d19, d20, d21, d22, d23, d24, d25, d26, d27) ∧ MS N p m d17 d18 d19 d20 d21 d22 d23 d24 d25 d26 d27 := by
  have hN4 := hR.1
  have e0 : c 0 = m 0 := hR.st.1 0 (by omega)
  have key : ∃ w, lpq (F_X9_measure_b15 n c (64 * (32 * m 0))) n (0, 0, a18, a19, a20, a21, a22, a23, a24, a25, a26, a27) = some w ∧
      ∃ d18 d19 d20 d21 d22 d23 d24 d25 d26 d27, w = (nI (SF N p m 4), d18, d19, d20, d21, d22, d23, d24, d25, d26, d27) ∧ (∀ s, s < 4 → d18 s = nI (SF N p m s)) ∧ HoS m p (flS N p m 4) d19 d20 d21 d22 d23 d24 d25 d26 d27 := by
    refine lpq_i0 (fun i st => ∃ d18 d19 d20 d21 d22 d23 d24 d25 d26 d27, st = (nI i, nI (SF N p m i), d18, d19, d20, d21, d22, d23, d24, d25, d26, d27) ∧ (∀ s, s < i → d18 s = nI (SF N p m s)) ∧ HoS m p (flS N p m i) d19 d20 d21 d22 d23 d24 d25 d26 d27) _ 4 ?_ (by omega) ?_
    · rintro i st hi ⟨d18, d19, d20, d21, d22, d23, d24, d25, d26, d27, rfl, h1, h2⟩
      by_cases h9 : i = 4
      · left
        subst h9
        refine ⟨_, ?_, d18, d19, d20, d21, d22, d23, d24, d25, d26, d27, rfl, h1, h2⟩
        unfold F_X9_measure_b15
        exact if_pos (show (4 : Int32) ≤ nI 4 from by decide)
      · right
        refine ⟨by omega, ?_⟩
        have hfst : ∀ s, s < i + 1 → upd d18 i (nI (SF N p m i)) s = nI (SF N p m s) := fun s hs => by
          by_cases q : s = i
          · rw [q, ud_e rfl]
          · rw [ud_n q]; exact h1 s (by omega)
        have hSF := SF_le hR i
        by_cases q : i < N
        · have g := hR.sp q
          have g1 := g.1
          obtain ⟨x', y', dx', dy', ln', nx', ny', ax', ay', k1, k2⟩ := meas_in hn hR q (flS N p m i) (by show SF N p m i ≤ _; omega) d19 d20 d21 d22 d23 d24 d25 d26 d27 h2
          have e1 : F_X9_measure_b15 n c (64 * (32 * m 0)) (nI i, nI (SF N p m i), d18, d19, d20, d21, d22, d23, d24, d25, d26, d27) =
              F_X9_measure_j54 n (nI (SF N p m i)) (upd d18 i (nI (SF N p m i))) d19 d20 d21 d22 d23 d24 d25 d26 d27 c (64 * (32 * m 0)) (nI i) (nI (p i)) (nI (sgE m i (p i))) := by
            unfold F_X9_measure_b15
            show (if (4 : Int32) ≤ nI i then _ else gd (decide (vpi (nI i) 5)) (lt (upd d18 (nI i).toNatClampNeg (nI (SF N p m i))) (fun y_16 => obd (F_X1_pointCount c (nI i)) (fun u_17 => obd (F_X1_isClosed c (nI i)) _)))) = _
            rw [if_neg (show ¬ (4 : Int32) ≤ nI i from nI_ge (b := 4) (by omega) (by omega)), gd_in (by omega) (by decide), nI_clamp (by omega), lt_eq, X1_pts hR.c13 q hN4, obd_s, X1_clo hR.c13 q hN4, obd_s, g.pc, g.cl]
            unfold sgE
            by_cases z : m (15 + 18 * i) = 1
            · rw [if_pos z, if_pos z, if_neg (by decide)]
            · rw [if_neg z, if_neg z, if_pos rfl, zl_1, pk_sub g1]
          rw [e1]
          unfold F_X9_measure_j54 F_X9_measure_j59
          show ∃ s', obd (lpq _ n (0, nI (flS N p m i).length, d19, d20, d21, d22, d23, d24, d25, d26, d27)) _ = _ ∧ _
          rw [k1, obd_s]
          unfold F_X9_measure_j147
          rw [lt_eq, zl_1, nI_add]
          exact ⟨_, rfl, _, x', y', dx', dy', ln', nx', ny', ax', ay', rfl, hfst, k2⟩
        · have es : sg N p m i = [] := if_neg q
          have e1 : F_X9_measure_b15 n c (64 * (32 * m 0)) (nI i, nI (SF N p m i), d18, d19, d20, d21, d22, d23, d24, d25, d26, d27) =
              F_X9_measure_j54 n (nI (SF N p m i)) (upd d18 i (nI (SF N p m i))) d19 d20 d21 d22 d23 d24 d25 d26 d27 c (64 * (32 * m 0)) (nI i) (nI 0) (-1) := by
            unfold F_X9_measure_b15
            show (if (4 : Int32) ≤ nI i then _ else gd (decide (vpi (nI i) 5)) (lt (upd d18 (nI i).toNatClampNeg (nI (SF N p m i))) (fun y_16 => obd (F_X1_pointCount c (nI i)) (fun u_17 => obd (F_X1_isClosed c (nI i)) _)))) = _
            rw [if_neg (show ¬ (4 : Int32) ≤ nI i from nI_ge (b := 4) (by omega) (by omega)), gd_in (by omega) (by decide), nI_clamp (by omega), lt_eq, X1_ptsO hR.c13 (by omega) (by omega), obd_s, X1_cloO hR.c13 (by omega) (by omega), obd_s, if_pos rfl]
            rfl
          rw [e1]
          unfold F_X9_measure_j54 F_X9_measure_j59
          obtain ⟨n', rfl⟩ : ∃ n', n = n' + 1 := ⟨n - 1, by omega⟩
          have e2 : lpq (F_X9_measure_b59 (n' + 1) c (64 * (32 * m 0)) (nI i) (nI 0) (-1)) (n' + 1) (0, nI (SF N p m i), d19, d20, d21, d22, d23, d24, d25, d26, d27) = some (nI (SF N p m i), d19, d20, d21, d22, d23, d24, d25, d26, d27) := by
            refine lpq_run 0 (fun _ => (0, nI (SF N p m i), d19, d20, d21, d22, d23, d24, d25, d26, d27)) (fun j hj => absurd hj (by omega)) ?_ (by omega)
            unfold F_X9_measure_b59
            exact if_pos (show (-1 : Int32) ≤ 0 from by decide)
          rw [e2, obd_s]
          unfold F_X9_measure_j147
          rw [lt_eq, zl_1, nI_add]
          refine ⟨_, rfl, _, d19, d20, d21, d22, d23, d24, d25, d26, d27, ?_, hfst, ?_⟩
          · rw [SF_s, es]; rfl
          · rw [flS, es, List.map_nil, List.append_nil]; exact h2
    · exact ⟨a18, a19, a20, a21, a22, a23, a24, a25, a26, a27, rfl, fun s hs => absurd hs (by omega), fun i q h => absurd h (by simp [flS])⟩
  obtain ⟨w, e, d18, d19, d20, d21, d22, d23, d24, d25, d26, d27, rfl, h1, h2⟩ := key
  unfold F_X9_measure F_X1_halfWidth F_X9_measure_j15
  rw [c1_l (z := 0) (i := 0) rfl (by decide), obd_s, obd_s, e0, lt_eq, e, obd_s]
  unfold F_X9_measure_j153
  rw [gd_in' (z := 4) (i := 4) rfl (by decide) (by decide), cl_4, lt_eq]
  refine ⟨_, _, d19, d20, d21, d22, d23, d24, d25, d26, d27, rfl, rfl, fun s hs => ?_, h2⟩
  by_cases q : s = 4
  · rw [q, ud_e rfl]
  · rw [ud_n q]; exact h1 s (by omega)
