/-! ===== the dash pattern ===== -/
def nD (m : Nat → Int32) : Nat := (m 6).toInt.toNat
def dL (m : Nat → Int32) (j : Nat) : Nat := (m (7 + j)).toInt.toNat
def dl (m : Nat → Int32) (j : Nat) : Nat := if nD m = 0 then 1073741824 else 64 * dL m (j % nD m)
/-- where the part j begins -/
def bd (m : Nat → Int32) : Nat → Nat
  | 0 => 0
  | j + 1 => bd m j + dl m j
def ph (m : Nat → Int32) : Nat := (m 4).toInt.toNat
def IN (m : Nat → Int32) (j t : Nat) : Prop := bd m j ≤ t ∧ t < bd m (j + 1)
theorem nn_e {x : Int32} (h : 0 ≤ x.toInt) : x = nI x.toInt.toNat := by
  have r := fb_rng x
  rw [fa_eq, nI_toInt (by omega)]; omega
section DASH
variable {c m : Nat → Int32}
theorem nD_e (h : ST c m) : nD m ≤ 6 ∧ m 6 = nI (nD m) := by
  have h1 := h.2.2.2.2.2.2.2.1
  exact ⟨by unfold nD; omega, nn_e h1.1⟩
theorem ph_e (h : ST c m) : ph m ≤ 600 ∧ m 4 = nI (ph m) := by
  have h1 := h.2.2.2.2.2.1
  exact ⟨by unfold ph; omega, nn_e h1.1⟩
theorem dL_e (h : ST c m) {i : Nat} (hi : i < nD m) : 5 ≤ dL m i ∧ dL m i ≤ 100 ∧ m (7 + i) = nI (dL m i) := by
  have h0 := h.2.2.2.2.2.2.2.1
  have h1 := h.2.2.2.2.2.2.2.2 i (by unfold nD at hi; omega)
  exact ⟨by unfold dL; omega, by unfold dL; omega, nn_e (by omega)⟩
theorem dl_ge (h : ST c m) (j : Nat) : 320 ≤ dl m j := by
  unfold dl
  by_cases q : nD m = 0
  · rw [if_pos q]; omega
  · rw [if_neg q]
    have := dL_e h (Nat.mod_lt j (Nat.pos_of_ne_zero q))
    omega
theorem dl_le (h : ST c m) (j : Nat) : dl m j ≤ 1073741824 := by
  unfold dl
  by_cases q : nD m = 0
  · rw [if_pos q]; omega
  · rw [if_neg q]
    have := dL_e h (Nat.mod_lt j (Nat.pos_of_ne_zero q))
    omega
theorem bd_s (j : Nat) : bd m (j + 1) = bd m j + dl m j := rfl
theorem bd_ge (h : ST c m) (j : Nat) : ∀ i, bd m j + 320 * i ≤ bd m (j + i) := by
  intro i
  induction i with
  | zero => exact Nat.le_refl _
  | succ i ih =>
    have e : bd m j + 320 * (i + 1) = bd m j + 320 * i + 320 := by rw [Nat.mul_succ, Nat.add_assoc]
    rw [e]
    exact Nat.add_le_add ih (dl_ge h (j + i))
theorem bd_mono (h : ST c m) {j k : Nat} (hj : j ≤ k) : bd m j ≤ bd m k := by
  have := bd_ge h j (k - j)
  rw [show j + (k - j) = k from by omega] at this; omega
theorem bd_lt (h : ST c m) {j k : Nat} (hj : j < k) : bd m j < bd m k := by
  have := bd_ge h j (k - j)
  rw [show j + (k - j) = k from by omega] at this; omega
theorem bd_0 (h : ST c m) (j : Nat) : 320 * j ≤ bd m j := by
  have := bd_ge h 0 j
  rw [Nat.zero_add] at this
  have e : bd m 0 = 0 := rfl
  omega
theorem IN_u (h : ST c m) {j k t : Nat} (h1 : IN m j t) (h2 : IN m k t) : j = k := by
  rcases Nat.lt_trichotomy j k with q | q | q
  · have := bd_mono h (show j + 1 ≤ k from q)
    have := h1.2; have := h2.1; omega
  · exact q
  · have := bd_mono h (show k + 1 ≤ j from q)
    have := h2.2; have := h1.1; omega
theorem IN_ex (h : ST c m) (t : Nat) : ∃ j, IN m j t := by
  obtain ⟨j, h1, h2, h3⟩ := fb_first (p := fun j => t < bd m (j + 1)) (n := t + 1) ⟨t, by omega, by show t < bd m (t + 1); have := bd_0 h (t + 1); omega⟩
  refine ⟨j, ?_, h2⟩
  cases j with
  | zero => exact Nat.zero_le _
  | succ j => have := h3 j (by omega); omega
theorem IN_j (h : ST c m) {j t : Nat} (h1 : IN m j t) : 320 * j ≤ t := Nat.le_trans (bd_0 h j) h1.1
/-- the class's rows of the pattern -/
def CL (m : Nat → Int32) (d39 d40 : Int32) (d43 : Nat → Int32) : Prop := d39 = nI (nD m) ∧ d40 = nI (64 * ph m) ∧ ∀ i, i < nD m → d43 i = nI (64 * dL m i)
theorem lo_c {d39 d40 : Int32} {d43 : Nat → Int32} (h : ST c m) (hC : CL m d39 d40 d43) {j : Nat} (hj : j < 2 ^ 31) : F_X0_lengthOf d39 d43 (nI j) = some (nI (dl m j)) := by
  have hD := nD_e h
  unfold F_X0_lengthOf F_X0_lengthOf_j25 dl
  rw [hC.1]
  by_cases q : nD m = 0
  · rw [q, if_pos (by decide), if_pos rfl]; rfl
  · have hm := Nat.mod_lt j (Nat.pos_of_ne_zero q)
    rw [if_neg (nI_nle (by omega) (by omega)), if_neg (nI_pos hj), gd_t (nI_ne0 (by omega) (by omega)), pk_rem hj (by omega) (by omega), lt_eq, gd_in (by omega) (by decide), nI_clamp (by omega), hC.2.2 _ hm, if_neg q]
theorem take_d {n : Nat} (hn : 1000 ≤ n) (h : ST c m) (a43 : Nat → Int32) : ∃ d39 d40 d43, F_X0_take n a43 c = some (d39, d40, d43) ∧ CL m d39 d40 d43 := by
  have hD := nD_e h
  have hp := ph_e h
  have ce : ∀ i, i < 13 → c i = m i := h.1
  have key : ∃ w, lpq (F_X0_take_b17 (nI (nD m)) c) n (nI 0, a43) = some w ∧ ∀ i, i < nD m → w i = nI (64 * dL m i) := by
    refine lpq_i0 (fun i st => ∃ w, st = (nI i, w) ∧ ∀ j, j < i → w j = nI (64 * dL m j)) _ (nD m) ?_ (by omega) ⟨a43, rfl, fun j hj => absurd hj (by omega)⟩
    rintro i st hi ⟨w, rfl, hw⟩
    by_cases q : i = nD m
    · left
      subst q
      refine ⟨w, ?_, hw⟩
      unfold F_X0_take_b17
      exact if_pos (nI_le (Nat.le_refl _) (by omega))
    · right
      have hd := dL_e h (show i < nD m by omega)
      refine ⟨by omega, _, ?_, upd w i (nI (64 * dL m i)), rfl, fun j hj => ?_⟩
      · unfold F_X0_take_b17
        simp only [zl_7, nI_add]
        rw [if_neg (nI_ge (by omega) (by omega)), c1_in (by omega), obd_s, ce _ (by omega), hd.2.2, zl_64, pk_mul, lt_eq, gd_in (by omega) (by decide), nI_clamp (by omega), lt_eq, lt_eq, zl_1, nI_add]
      · by_cases z : j = i
        · rw [z, ud_e rfl]
        · rw [ud_n z]; exact hw j (by omega)
  obtain ⟨w, e, hw⟩ := key
  refine ⟨nI (nD m), nI (64 * ph m), w, ?_, rfl, rfl, hw⟩
  unfold F_X0_take F_X0_take_j17 F_X0_take_j48
  rw [c1_l (z := 6) (i := 6) rfl (by decide), obd_s, ce 6 (by omega), hD.2, if_neg (show ¬ (6 : Int32) < nI (nD m) from nI_nlt (a := 6) hD.1 (by decide)), lt_eq, zl_0, e, obd_s, c1_l (z := 4) (i := 4) rfl (by decide), obd_s, ce 4 (by omega), hp.2, zl_64, pk_mul, lt_eq]
theorem go_c {n : Nat} (hn : 1000 ≤ n) {d39 d40 : Int32} {d43 : Nat → Int32} (h : ST c m) (hC : CL m d39 d40 d43) : ∃ j, F_X0_goToPhase n d39 d40 d43 = some (nI j, nI (bd m (j + 1) - 64 * ph m)) ∧ IN m j (64 * ph m) := by
  have hp := ph_e h
  have key : ∃ w, lpq (F_X0_goToPhase_b21 d39 d43) n (nI (64 * ph m - bd m 0), nI 0, nI 0, nI (dl m 0)) = some w ∧ ∃ j, w = (nI (64 * ph m - bd m j), nI j, nI (dl m j)) ∧ IN m j (64 * ph m) := by
    refine lpq_i0 (fun i st => st = (nI (64 * ph m - bd m i), nI i, nI i, nI (dl m i)) ∧ bd m i ≤ 64 * ph m) _ 120 ?_ (by omega) ⟨rfl, Nat.zero_le _⟩
    rintro i st hi ⟨rfl, hb⟩
    have hd := dl_ge h i
    have hd2 := dl_le h i
    have hb2 := bd_0 h i
    unfold F_X0_goToPhase_b21
    simp only [lt_eq, zl_1, nI_add]
    by_cases q : i = 120
    · left
      subst q
      rw [if_pos (show (120 : Int32) ≤ nI 120 from by decide)]
      exact ⟨_, rfl, 120, rfl, hb, by rw [bd_s]; omega⟩
    · rw [if_neg (show ¬ (120 : Int32) ≤ nI i from nI_ge (b := 120) (by omega) (by decide))]
      by_cases z : 64 * ph m - bd m i < dl m i
      · left
        rw [if_pos (nI_lt z (by omega))]
        exact ⟨_, rfl, i, rfl, hb, by rw [bd_s]; omega⟩
      · right
        rw [if_neg (nI_nlt (by omega) (by omega)), lo_c h hC (by omega), obd_s]
        refine ⟨by omega, _, rfl, ?_, by rw [bd_s]; omega⟩
        rw [pk_sub (by omega), bd_s, show 64 * ph m - bd m i - dl m i = 64 * ph m - (bd m i + dl m i) from by omega]
  obtain ⟨w, e, j, rfl, hj⟩ := key
  refine ⟨j, ?_, hj⟩
  have hd := dl_le h j
  unfold F_X0_goToPhase F_X0_goToPhase_j21 F_X0_goToPhase_j70
  rw [show (0 : Int32) = nI 0 from rfl, lo_c h hC (by omega), obd_s, hC.2.1]
  show obd (lpq (F_X0_goToPhase_b21 d39 d43) n (nI (64 * ph m - bd m 0), nI 0, nI 0, nI (dl m 0))) _ = _
  have h1 := hj.1
  have h2 := hj.2
  rw [bd_s] at h2
  rw [e, obd_s, lt_eq]
  show some (nI j, nI (dl m j) - nI (64 * ph m - bd m j)) = _
  rw [pk_sub (by omega), bd_s, show dl m j - (64 * ph m - bd m j) = bd m j + dl m j - 64 * ph m from by omega]
theorem pass_c {d39 d40 : Int32} {d43 : Nat → Int32} (h : ST c m) (hC : CL m d39 d40 d43) {j t s : Nat} (hj : IN m j t) (ht : t < 1073741824) (h1 : 1 ≤ s) (h2 : t + s ≤ bd m (j + 1)) :
    F_X0_pass d39 (nI j) (nI (bd m (j + 1) - t)) d43 (nI s) = if t + s = bd m (j + 1) then some (1, nI (j + 1), nI (dl m (j + 1))) else some (0, nI j, nI (bd m (j + 1) - (t + s))) := by
  have hb := IN_j h hj
  have hd := dl_le h j
  have e := bd_s (m := m) j
  have := hj.1
  unfold F_X0_pass
  rw [pk_sub (by omega), lt_eq]
  by_cases q : t + s = bd m (j + 1)
  · rw [if_pos q, show bd m (j + 1) - t - s = 0 from by omega, if_pos (by decide), zl_1, nI_add, lt_eq, lo_c h hC (by omega), obd_s]
  · rw [if_neg q, if_neg (nI_nle (by omega) (by omega)), show bd m (j + 1) - t - s = bd m (j + 1) - (t + s) from by omega]
/-! the reference's way to the same -/
theorem dl_per (q k : Nat) (hD : nD m ≠ 0) : dl m (nD m * q + k) = dl m k := by
  unfold dl
  rw [if_neg hD, if_neg hD, Nat.mul_add_mod]
theorem bd_add (q k : Nat) (hD : nD m ≠ 0) : bd m (nD m * q + k) = bd m (nD m * q) + bd m k := by
  induction k with
  | zero => rfl
  | succ k ih => rw [show nD m * q + (k + 1) = nD m * q + k + 1 from rfl, bd_s, bd_s, ih, dl_per q k hD, Nat.add_assoc]
theorem bd_mul (q : Nat) (hD : nD m ≠ 0) : bd m (nD m * q) = q * bd m (nD m) := by
  induction q with
  | zero => rw [Nat.mul_zero, Nat.zero_mul]; rfl
  | succ q ih => rw [Nat.mul_succ, bd_add q _ hD, ih, Nat.succ_mul]
theorem str_m {n : Nat} (hn : 1000 ≤ n) {m' : Nat → Int32} (hm : E86 m' m) (h : ST c m) (hD : nD m ≠ 0) {j t : Nat} (hj : IN m j t) (ht : t < 1073741824) :
    F_X12_stretch n m' (nI t) = some (if j % 2 = 0 then nI (bd m (j + 1) - t) else - nI (bd m (j + 1) - t)) := by
  have hd := nD_e h
  have hall : bd m (nD m) ≤ 38400 := by
    have : ∀ k, k ≤ nD m → bd m k ≤ 6400 * k := by
      intro k
      induction k with
      | zero => intro _; exact Nat.zero_le _
      | succ k ih =>
        intro hk
        have h1 := ih (by omega)
        have h2 := dL_e h (show k < nD m by omega)
        rw [bd_s]; unfold dl; rw [if_neg hD, Nat.mod_eq_of_lt (by omega)]; omega
    have := this _ (Nat.le_refl _)
    omega
  have hall0 := bd_0 h (nD m)
  have k1 : lpq (F_X12_stretch_b13 m' (nI (nD m))) n (nI (bd m 0), nI 0) = some (nI (bd m (nD m))) := by
    refine lpq_run (nD m) (fun k => (nI (bd m k), nI k)) (fun k hk => ?_) ?_ (by omega)
    · have hl := dL_e h hk
      unfold F_X12_stretch_b13
      simp only [zl_7, nI_add, lt_eq]
      rw [if_neg (nI_ge hk (by omega)), gd_in (by omega) (by decide), nI_clamp (by omega), hm _ (by omega), hl.2.2, zl_64, pk_mul, nI_add, zl_1, nI_add, bd_s]
      unfold dl
      rw [if_neg hD, Nat.mod_eq_of_lt hk]
    · unfold F_X12_stretch_b13
      exact if_pos (nI_le (Nat.le_refl _) (by omega))
  have hr := Nat.mod_lt t (show 0 < 2 * bd m (nD m) by omega)
  have b2 : bd m (nD m * 2) = 2 * bd m (nD m) := bd_mul 2 hD
  have dlk : ∀ k, 64 * dL m (k % nD m) = dl m k := fun k => by unfold dl; rw [if_neg hD]
  have k2 : ∃ w, lpq (F_X12_stretch_b51 m' (nI (nD m))) n (nI (t % (2 * bd m (nD m)) - bd m 0), nI 0) = some w ∧ ∃ k, k < 100 ∧ w = (nI (t % (2 * bd m (nD m)) - bd m k), nI k) ∧ IN m k (t % (2 * bd m (nD m))) := by
    refine lpq_i0 (fun i st => st = (nI (t % (2 * bd m (nD m)) - bd m i), nI i) ∧ bd m i ≤ t % (2 * bd m (nD m))) _ (nD m * 2) ?_ (by omega) ⟨rfl, Nat.zero_le _⟩
    rintro i st hi ⟨rfl, hb⟩
    have hmod := Nat.mod_lt i (Nat.pos_of_ne_zero hD)
    have hl := dL_e h hmod
    unfold F_X12_stretch_b51
    simp only [zl_7, lt_eq]
    rw [gd_t (nI_ne0 (by omega) (by omega)), pk_rem (by omega) (by omega) (by omega), nI_add, gd_in (by omega) (by decide), nI_clamp (by omega), hm _ (by omega), hl.2.2, zl_64, pk_mul, dlk]
    have hdl := dl_le h i
    by_cases q : t % (2 * bd m (nD m)) - bd m i < dl m i
    · left
      rw [if_pos (nI_lt q (by omega))]
      exact ⟨_, rfl, i, by omega, rfl, hb, by rw [bd_s]; omega⟩
    · right
      have hi2 : i < nD m * 2 := by
        rcases Nat.lt_or_ge i (nD m * 2) with z | z
        · exact z
        · have : i = nD m * 2 := by omega
          rw [this, b2] at hb; omega
      rw [if_neg (nI_nlt (by omega) (by omega)), gd_t (nI_ne0 (by omega) (by omega)), gd_in (by omega) (by decide)]
      refine ⟨hi2, _, rfl, ?_, by rw [bd_s]; omega⟩
      rw [pk_sub (by omega), zl_1, nI_add, bd_s, show t % (2 * bd m (nD m)) - bd m i - dl m i = t % (2 * bd m (nD m)) - (bd m i + dl m i) from by omega]
  obtain ⟨w, e2, k, hk100, rfl, hk⟩ := k2
  have hjk : j = nD m * (2 * (t / (2 * bd m (nD m)))) + k := by
    refine IN_u h hj ⟨?_, ?_⟩
    · rw [bd_add _ _ hD, bd_mul _ hD]
      have := Nat.div_add_mod t (2 * bd m (nD m))
      have e : 2 * (t / (2 * bd m (nD m))) * bd m (nD m) = 2 * bd m (nD m) * (t / (2 * bd m (nD m))) := Nat.mul_right_comm _ _ _
      have := hk.1
      omega
    · rw [Nat.add_assoc, bd_add _ _ hD, bd_mul _ hD]
      have := Nat.div_add_mod t (2 * bd m (nD m))
      have e : 2 * (t / (2 * bd m (nD m))) * bd m (nD m) = 2 * bd m (nD m) * (t / (2 * bd m (nD m))) := Nat.mul_right_comm _ _ _
      have := hk.2
      omega
  have hj2 : j % 2 = k % 2 := by
    have e : nD m * (2 * (t / (2 * bd m (nD m)))) = 2 * (nD m * (t / (2 * bd m (nD m)))) := by rw [Nat.mul_left_comm]
    omega
  have hjb : bd m (j + 1) - t = bd m (k + 1) - t % (2 * bd m (nD m)) := by
    rw [hjk, Nat.add_assoc, bd_add _ _ hD, bd_mul _ hD]
    have := Nat.div_add_mod t (2 * bd m (nD m))
    have e : 2 * (t / (2 * bd m (nD m))) * bd m (nD m) = 2 * bd m (nD m) * (t / (2 * bd m (nD m))) := Nat.mul_right_comm _ _ _
    omega
  have hmod := Nat.mod_lt k (Nat.pos_of_ne_zero hD)
  have hl := dL_e h hmod
  have h1 := hk.1
  have h2 := hk.2
  rw [bd_s] at h2
  unfold F_X12_stretch F_X12_stretch_j13 F_X12_stretch_j41 F_X12_stretch_j51
  rw [gd_in' (z := 6) (i := 6) rfl (by decide) (by decide), cl_6, hm 6 (by decide), hd.2, lt_eq]
  show obd (lpq (F_X12_stretch_b13 m' (nI (nD m))) n (nI (bd m 0), nI 0)) _ = _
  rw [k1, obd_s, zl_2, pk_mul, lt_eq, gd_t (nI_ne0 (by omega) (by omega)), pk_rem (by omega) (by omega) (by omega), lt_eq]
  show obd (lpq (F_X12_stretch_b51 m' (nI (nD m))) n (nI (t % (2 * bd m (nD m)) - bd m 0), nI 0)) _ = _
  rw [e2, obd_s]
  unfold F_X12_stretch_j97
  rw [gd_t (nI_ne0 (by omega) (by omega)), pk_rem (by omega) (by omega) (by omega), zl_7, nI_add, lt_eq, gd_in (by omega) (by decide), nI_clamp (by omega), hm _ (by omega), hl.2.2, zl_64, pk_mul, dlk, pk_sub (by omega), lt_eq, zl_2, pk_rem (by omega) (by decide) (by decide), hj2, hjb, bd_s, show dl m k - (t % (2 * bd m (nD m)) - bd m k) = bd m k + dl m k - t % (2 * bd m (nD m)) from by omega]
  have hk2 := Nat.mod_lt k (show 0 < 2 by decide)
  by_cases q : k % 2 = 0
  · rw [q, if_pos (show nI 0 = 0 from rfl), if_pos rfl]
  · rw [if_neg (nI_ne0 (by omega) (by omega)), if_neg q]
end DASH
