/-! ===== the pure part: whole numbers behind ints and longs ===== -/
def iI (z : Int) : Int32 := Int32.ofInt z
def lI (z : Int) : Int64 := Int64.ofInt z
theorem ii_add (a b : Int) : iI a + iI b = iI (a + b) := (Int32.ofInt_add a b).symm
theorem ii_sub (a b : Int) : iI a - iI b = iI (a - b) := (Int32.ofInt_sub a b).symm
theorem ii_mul (a b : Int) : iI a * iI b = iI (a * b) := (Int32.ofInt_mul a b).symm
theorem ii_neg (a : Int) : -iI a = iI (-a) := (Int32.ofInt_neg a).symm
theorem li_add (a b : Int) : lI a + lI b = lI (a + b) := (Int64.ofInt_add a b).symm
theorem li_sub (a b : Int) : lI a - lI b = lI (a - b) := (Int64.ofInt_sub a b).symm
theorem li_mul (a b : Int) : lI a * lI b = lI (a * b) := (Int64.ofInt_mul a b).symm
theorem li_neg (a : Int) : -lI a = lI (-a) := (Int64.ofInt_neg a).symm
theorem ii_n (n : Nat) : nI n = iI (n : Int) := Int32.ofInt_eq_ofNat.symm
theorem li_n (n : Nat) : lN n = lI (n : Int) := Int64.ofInt_eq_ofNat.symm
theorem ii_t {z : Int} (h1 : -2147483648 ≤ z) (h2 : z < 2147483648) : (iI z).toInt = z := fb_ofI h1 h2
theorem li_t {z : Int} (h1 : -9223372036854775808 ≤ z) (h2 : z < 9223372036854775808) : (lI z).toInt = z := by
  show (Int64.ofInt z).toInt = z
  rw [Int64.toInt_ofInt]; exact fb_bmodL h1 h2
theorem ii_of (x : Int32) : iI x.toInt = x := fb_asI x
theorem li_of (x : Int64) : lI x.toInt = x := Int64.ofInt_toInt x
theorem ii_lt {a b : Int} (ha : -2147483648 ≤ a ∧ a < 2147483648) (hb : -2147483648 ≤ b ∧ b < 2147483648) : iI a < iI b ↔ a < b := by rw [fa_lt, ii_t ha.1 ha.2, ii_t hb.1 hb.2]
theorem ii_le {a b : Int} (ha : -2147483648 ≤ a ∧ a < 2147483648) (hb : -2147483648 ≤ b ∧ b < 2147483648) : iI a ≤ iI b ↔ a ≤ b := by rw [fa_le, ii_t ha.1 ha.2, ii_t hb.1 hb.2]
theorem ii_eq {a b : Int} (ha : -2147483648 ≤ a ∧ a < 2147483648) (hb : -2147483648 ≤ b ∧ b < 2147483648) : iI a = iI b ↔ a = b := by rw [fa_eq, ii_t ha.1 ha.2, ii_t hb.1 hb.2]
theorem li_lt {a b : Int} (ha : -9223372036854775808 ≤ a ∧ a < 9223372036854775808) (hb : -9223372036854775808 ≤ b ∧ b < 9223372036854775808) : lI a < lI b ↔ a < b := by rw [fa_lt64, li_t ha.1 ha.2, li_t hb.1 hb.2]
theorem li_le {a b : Int} (ha : -9223372036854775808 ≤ a ∧ a < 9223372036854775808) (hb : -9223372036854775808 ≤ b ∧ b < 9223372036854775808) : lI a ≤ lI b ↔ a ≤ b := by rw [fa_le64, li_t ha.1 ha.2, li_t hb.1 hb.2]
theorem li_eq {a b : Int} (ha : -9223372036854775808 ≤ a ∧ a < 9223372036854775808) (hb : -9223372036854775808 ≤ b ∧ b < 9223372036854775808) : lI a = lI b ↔ a = b := by rw [fa_eq64, li_t ha.1 ha.2, li_t hb.1 hb.2]
theorem ii_w {z : Int} (h1 : -2147483648 ≤ z) (h2 : z < 2147483648) : (iI z).toInt64 = lI z := by
  rw [fa_eq64, Int32.toInt_toInt64, ii_t h1 h2, li_t (by omega) (by omega)]
theorem ii_w' (x : Int32) : x.toInt64 = lI x.toInt := by
  have := fb_rng x
  rw [fa_eq64, Int32.toInt_toInt64, li_t (by omega) (by omega)]
theorem li_c (z : Int) : (lI z).toInt32 = iI z := Int64.toInt32_ofInt
theorem li_div {a b : Int} (ha : -9223372036854775808 ≤ a ∧ a < 9223372036854775808) (hb : -9223372036854775808 ≤ b ∧ b < 9223372036854775808) : lI a / lI b = lI (a.tdiv b) := by
  have e1 : Int64.minValue.toInt = -9223372036854775808 := by decide
  have e2 : Int64.maxValue.toInt = 9223372036854775807 := by decide
  exact (Int64.ofInt_tdiv (by rw [e1]; omega) (by rw [e2]; omega) (by rw [e1]; omega) (by rw [e2]; omega)).symm
theorem ii_div {a b : Int} (ha : -2147483648 ≤ a ∧ a < 2147483648) (hb : -2147483648 ≤ b ∧ b < 2147483648) : iI a / iI b = iI (a.tdiv b) := by
  have e1 : Int32.minValue.toInt = -2147483648 := by decide
  have e2 : Int32.maxValue.toInt = 2147483647 := by decide
  exact (Int32.ofInt_tdiv (by rw [e1]; omega) (by rw [e2]; omega) (by rw [e1]; omega) (by rw [e2]; omega)).symm
theorem fl_t {a b t : Int} (hb : 0 < b) (h1 : 0 ≤ a - t * b) (h2 : a - t * b < b) : a / b = t :=
  ((Int.ediv_emod_unique hb (r := a - t * b) (q := t)).mpr ⟨by rw [Int.mul_comm b t]; omega, h1, h2⟩).1
/-- the nearest whole number to p / q -/
def rnd (p q : Int) : Int := (2 * p + q) / (2 * q)
theorem rnd_of {p q : Int} (hq : 0 < q) : (if 0 ≤ (2 * p + q) - (2 * p + q).tdiv (2 * q) * (2 * q) then (2 * p + q).tdiv (2 * q) else (2 * p + q).tdiv (2 * q) - 1) = rnd p q := by
  have hb : 0 < 2 * q := by omega
  have e := Int.mul_tdiv_add_tmod (2 * p + q) (2 * q)
  have l1 := Int.tmod_lt_of_pos (2 * p + q) hb
  have l2 := Int.lt_tmod_of_pos (2 * p + q) hb
  have e2 : (2 * p + q) - (2 * p + q).tdiv (2 * q) * (2 * q) = (2 * p + q).tmod (2 * q) := by rw [Int.mul_comm ((2 * p + q).tdiv (2 * q))]; omega
  unfold rnd
  by_cases h : 0 ≤ (2 * p + q) - (2 * p + q).tdiv (2 * q) * (2 * q)
  · rw [if_pos h]; exact (fl_t hb h (by omega)).symm
  · rw [if_neg h]
    refine (fl_t hb ?_ ?_).symm
    · rw [Int.sub_mul]; omega
    · rw [Int.sub_mul]; omega
abbrev LR (z : Int) : Prop := -9223372036854775808 ≤ z ∧ z < 9223372036854775808
abbrev IR (z : Int) : Prop := -2147483648 ≤ z ∧ z < 2147483648
theorem ll_2 : (2 : Int64) = lI 2 := rfl
theorem ll_0 : (0 : Int64) = lI 0 := rfl
theorem ll_1 : (1 : Int64) = lI 1 := rfl
theorem rnd_ref {p q : Int} (hq : 0 < q) (hp : -1000000000000000000 ≤ p ∧ p ≤ 1000000000000000000) (hq2 : q ≤ 1000000000000000000) : F_X12_round (lI p) (lI q) = some (iI (rnd p q)) := by
  have m1 : LR (2 * p + q) := by constructor <;> omega
  have m2 : LR (2 * q) := by constructor <;> omega
  have hb : 0 < 2 * q := by omega
  have e := Int.mul_tdiv_add_tmod (2 * p + q) (2 * q)
  have l1 := Int.tmod_lt_of_pos (2 * p + q) hb
  have l2 := Int.lt_tmod_of_pos (2 * p + q) hb
  have e2 : (2 * p + q) - (2 * p + q).tdiv (2 * q) * (2 * q) = (2 * p + q).tmod (2 * q) := by rw [Int.mul_comm ((2 * p + q).tdiv (2 * q))]; omega
  have hne : ¬ lI (2 * q) = 0 := by rw [ll_0, li_eq m2 (by constructor <;> omega)]; omega
  unfold F_X12_round F_X12_round_j41
  simp only [lt_eq, ll_2, li_mul, li_add, lg_cmp_ge]
  rw [gd_t hne, gd_t hne, li_div m1 m2, li_mul, li_sub, ll_1, li_sub, ← rnd_of hq]
  by_cases h : 0 ≤ (2 * p + q) - (2 * p + q).tdiv (2 * q) * (2 * q)
  · rw [if_pos h, if_pos (show (0 : Int64) ≤ lI (2 * p + q - (2 * p + q).tdiv (2 * q) * (2 * q)) from (li_le (a := 0) (by constructor <;> omega) (by constructor <;> omega)).mpr h), li_c]
  · rw [if_neg h, if_neg (show ¬ (0 : Int64) ≤ lI (2 * p + q - (2 * p + q).tdiv (2 * q) * (2 * q)) from fun h9 => h ((li_le (a := 0) (by constructor <;> omega) (by constructor <;> omega)).mp h9)), li_c]
theorem rnd_cls {p q : Int} (hq : 0 < q) (hp : -1000000000000000000 ≤ p ∧ p ≤ 1000000000000000000) (hq2 : q ≤ 1000000000000000000) : F_X4_round (lI p) (lI q) = some (iI (rnd p q)) := by
  have m1 : LR (2 * p + q) := by constructor <;> omega
  have m2 : LR (2 * q) := by constructor <;> omega
  have hb : 0 < 2 * q := by omega
  have e := Int.mul_tdiv_add_tmod (2 * p + q) (2 * q)
  have l1 := Int.tmod_lt_of_pos (2 * p + q) hb
  have l2 := Int.lt_tmod_of_pos (2 * p + q) hb
  have e2 : (2 * p + q) - (2 * p + q).tdiv (2 * q) * (2 * q) = (2 * p + q).tmod (2 * q) := by rw [Int.mul_comm ((2 * p + q).tdiv (2 * q))]; omega
  have hne : ¬ lI (2 * q) = 0 := by rw [ll_0, li_eq m2 (by constructor <;> omega)]; omega
  have hp0 : (0 : Int64) < lI (2 * q) := (li_lt (a := 0) (by constructor <;> omega) m2).mpr (by omega)
  unfold F_X4_round F_X4_round_j51
  simp only [lt_eq, ll_2, li_mul, li_add, lg_cmp_ge, lg_cmp_gt]
  rw [if_pos hp0, gd_t hne, gd_t hne, li_div m1 m2, li_mul, li_sub, ll_1, li_sub, ← rnd_of hq]
  by_cases h : 0 ≤ (2 * p + q) - (2 * p + q).tdiv (2 * q) * (2 * q)
  · rw [if_pos h, if_pos (show (0 : Int64) ≤ lI (2 * p + q - (2 * p + q).tdiv (2 * q) * (2 * q)) from (li_le (a := 0) (by constructor <;> omega) (by constructor <;> omega)).mpr h), li_c]
  · rw [if_neg h, if_neg (show ¬ (0 : Int64) ≤ lI (2 * p + q - (2 * p + q).tdiv (2 * q) * (2 * q)) from fun h9 => h ((li_le (a := 0) (by constructor <;> omega) (by constructor <;> omega)).mp h9)), li_c]
/-! ===== loops with fuel ===== -/
theorem lpq_run {S X : Type} {body : S → Option (Sum S X)} {x : X} : ∀ (k : Nat) (st : Nat → S) {n : Nat}, (∀ i, i < k → body (st i) = some (.inl (st (i + 1)))) → body (st k) = some (.inr x) → k < n → lpq body n (st 0) = some x := by
  intro k
  induction k with
  | zero =>
    intro st n _ h2 h3
    obtain ⟨m, rfl⟩ : ∃ m, n = m + 1 := ⟨n - 1, by omega⟩
    show obd (body (st 0)) _ = some x
    rw [h2]; rfl
  | succ k ih =>
    intro st n h1 h2 h3
    obtain ⟨m, rfl⟩ : ∃ m, n = m + 1 := ⟨n - 1, by omega⟩
    show obd (body (st 0)) _ = some x
    rw [h1 0 (by omega)]
    exact ih (fun i => st (i + 1)) (fun i hi => h1 (i + 1) (by omega)) h2 (by omega)
theorem lpq_inv {S X : Type} {body : S → Option (Sum S X)} {P : Nat → S → Prop} {Q : X → Prop} {k : Nat}
    (step : ∀ i s, i ≤ k → P i s → (∃ x, body s = some (.inr x) ∧ Q x) ∨ (i < k ∧ ∃ s', body s = some (.inl s') ∧ P (i + 1) s')) :
    ∀ (j i : Nat) (s : S) (n : Nat), i + j = k → j < n → P i s → ∃ x, lpq body n s = some x ∧ Q x := by
  intro j
  induction j with
  | zero =>
    intro i s n h1 h2 h3
    obtain ⟨m, rfl⟩ : ∃ m, n = m + 1 := ⟨n - 1, by omega⟩
    rcases step i s (by omega) h3 with ⟨x, e, q⟩ | ⟨h, -⟩
    · exact ⟨x, by show obd (body s) _ = some x; rw [e]; rfl, q⟩
    · omega
  | succ j ih =>
    intro i s n h1 h2 h3
    obtain ⟨m, rfl⟩ : ∃ m, n = m + 1 := ⟨n - 1, by omega⟩
    rcases step i s (by omega) h3 with ⟨x, e, q⟩ | ⟨h, s', e, p⟩
    · exact ⟨x, by show obd (body s) _ = some x; rw [e]; rfl, q⟩
    · obtain ⟨x, e2, q⟩ := ih (i + 1) s' m (by omega) (by omega) p
      exact ⟨x, by show obd (body s) _ = some x; rw [e]; exact e2, q⟩
theorem lpq_i0 {S X : Type} {body : S → Option (Sum S X)} {s : S} {n : Nat} (P : Nat → S → Prop) (Q : X → Prop) (k : Nat)
    (step : ∀ i s, i ≤ k → P i s → (∃ x, body s = some (.inr x) ∧ Q x) ∨ (i < k ∧ ∃ s', body s = some (.inl s') ∧ P (i + 1) s'))
    (hn : k < n) (h0 : P 0 s) : ∃ x, lpq body n s = some x ∧ Q x := lpq_inv step k 0 s n (by omega) hn h0
/-! ===== the root ===== -/
def rtS : Nat → Nat
  | 0 => 0
  | n + 1 => if (rtS n + 1) * (rtS n + 1) ≤ n + 1 then rtS n + 1 else rtS n
theorem rtS_sq : ∀ v, rtS v * rtS v ≤ v ∧ v < (rtS v + 1) * (rtS v + 1) := by
  intro v
  induction v with
  | zero => decide
  | succ n ih =>
    unfold rtS
    have e : (rtS n + 1 + 1) * (rtS n + 1 + 1) = (rtS n + 1) * (rtS n + 1) + 2 * rtS n + 3 := by grind
    by_cases h : (rtS n + 1) * (rtS n + 1) ≤ n + 1
    · rw [if_pos h]; omega
    · rw [if_neg h]; omega
theorem sq_mono {a b : Nat} (h : a ≤ b) : a * a ≤ b * b := Nat.mul_le_mul h h
theorem sq_lt {a b : Nat} (h : a * a < b * b) : a < b := by
  by_cases q : a < b
  · exact q
  · have := sq_mono (Nat.not_lt.mp q); omega
theorem rtS_eq {v r : Nat} (h1 : r * r ≤ v) (h2 : v < (r + 1) * (r + 1)) : rtS v = r := by
  have ⟨a1, a2⟩ := rtS_sq v
  have b1 : rtS v < r + 1 := sq_lt (by omega)
  have b2 : r < rtS v + 1 := sq_lt (by omega)
  omega
theorem root_cls {n v : Nat} (hn : 100000 ≤ n) (hv : v < 4294967296) : F_X4_root n (lN v) = some (nI (rtS v)) := by
  unfold F_X4_root F_X4_root_j5
  have key : ∃ x, lpq (F_X4_root_b5 (lN v)) n (0, 32768) = some x ∧ x = nI (rtS v) := by
    refine lpq_i0 (fun i s => ∃ r b, s = (nI r, nI b) ∧ b = 2 ^ (16 - i) / 2 ∧ r * r ≤ v ∧ v < (r + 2 ^ (16 - i)) * (r + 2 ^ (16 - i)) ∧ r + 2 ^ (16 - i) ≤ 65536) _ 16 ?_ (by omega) ?_
    · rintro i s hi ⟨r, b, rfl, hb, h1, h2, h3⟩
      by_cases h16 : i = 16
      · subst h16
        left
        have hb0 : b = 0 := hb
        subst hb0
        refine ⟨nI r, ?_, ?_⟩
        · unfold F_X4_root_b5
          rw [if_pos (show nI 0 ≤ 0 from by decide)]
        · rw [rtS_eq h1 (by simpa using h2)]
      · right
        have hb2 : 2 ^ (16 - i) = 2 * b := by
          have : 16 - i = (15 - i) + 1 := by omega
          rw [hb, this, Nat.pow_succ]; omega
        have hb3 : 2 ^ (16 - (i + 1)) = b := by
          have : 16 - i = (16 - (i + 1)) + 1 := by omega
          rw [this, Nat.pow_succ] at hb2; omega
        have hbp : 0 < b := by rw [← hb3]; exact Nat.two_pow_pos _
        rw [hb2] at h2 h3
        have m1 : r + b < 65536 := by omega
        have m2 : (r + b) * (r + b) < 2 ^ 63 := Nat.lt_of_le_of_lt (Nat.mul_le_mul (Nat.le_of_lt m1) (Nat.le_of_lt m1)) (by decide)
        refine ⟨by omega, ?_⟩
        have hs : nI b >>> ((1 : Int32) &&& 31) = nI (b / 2) := pk_shrN (by omega) _ 1 (by decide)
        unfold F_X4_root_b5 F_X4_root_j29
        rw [if_neg (nI_nle hbp (by omega))]
        simp only [lt_eq, nI_add, hs, lg_cmp_gt]
        rw [nI_l (by omega), lN_mul]
        by_cases hc : v < (r + b) * (r + b)
        · rw [if_pos ((pk_lLT (by omega) m2).mpr hc)]
          exact ⟨_, rfl, r, b / 2, rfl, by rw [hb3], h1, by rw [hb3]; exact hc, by rw [hb3]; omega⟩
        · rw [if_neg (fun h9 => hc ((pk_lLT (by omega) m2).mp h9))]
          exact ⟨_, rfl, r + b, b / 2, rfl, by rw [hb3], by omega, by rw [hb3, show r + b + b = r + 2 * b from by omega]; exact h2, by rw [hb3]; omega⟩
    · exact ⟨0, 32768, rfl, rfl, by omega, by simpa using hv, by decide⟩
  obtain ⟨x, e, rfl⟩ := key
  rw [e]; rfl
theorem root_ref {n v : Nat} (hn : 200000 ≤ n) (hv : v < 10000000000) : F_X12_root n (lN v) = some (nI (rtS v)) := by
  unfold F_X12_root F_X12_root_j7
  have key : ∃ x, lpq (F_X12_root_b7 (lN v)) n (0, 100000) = some x ∧ x = lN (rtS v) := by
    refine lpq_i0 (fun i s => ∃ a b, s = (lN a, lN b) ∧ a < b ∧ b + i ≤ 100000 + a ∧ b ≤ 100000 ∧ a * a ≤ v ∧ v < b * b) _ 100000 ?_ (by omega) ?_
    · rintro i s hi ⟨a, b, rfl, h1, h2, h3, h4, h5⟩
      unfold F_X12_root_b7 F_X12_root_j46
      simp only [lt_eq, lg_cmp_gt, lg_cmp_le]
      rw [lN_sub (by omega), show (1 : Int64) = lN 1 from rfl]
      by_cases hc : b - a ≤ 1
      · left
        rw [if_pos ((pk_lLE (by omega) (by omega)).mpr hc)]
        have : b = a + 1 := by omega
        subst this
        exact ⟨_, rfl, by rw [rtS_eq h4 h5]⟩
      · right
        have m2 : (a + b) / 2 * ((a + b) / 2) < 2 ^ 63 := Nat.lt_of_le_of_lt (Nat.mul_le_mul (show (a + b) / 2 ≤ 100000 by omega) (show (a + b) / 2 ≤ 100000 by omega)) (by decide)
        refine ⟨by omega, ?_⟩
        rw [if_neg (fun h9 => hc ((pk_lLE (by omega) (by omega)).mp h9)), lN_add, show (2 : Int64) = lN 2 from rfl, pk_lDiv (by omega) (by omega) (by omega), lN_mul]
        by_cases hq : v < (a + b) / 2 * ((a + b) / 2)
        · rw [if_pos ((pk_lLT (by omega) m2).mpr hq)]
          exact ⟨_, rfl, a, (a + b) / 2, rfl, by omega, by omega, by omega, h4, hq⟩
        · rw [if_neg (fun h9 => hq ((pk_lLT (by omega) m2).mp h9))]
          exact ⟨_, rfl, (a + b) / 2, b, rfl, by omega, by omega, h3, by omega, h5⟩
    · exact ⟨0, 100000, rfl, by omega, by omega, by omega, by omega, by omega⟩
  obtain ⟨x, e, rfl⟩ := key
  rw [e, obd_s]
  unfold F_X12_root_j49
  rw [lN_i]
