/-! ===== runs, as the reference lays them ===== -/
def fj (m : Nat → Int32) (t : Nat) : Nat := fa_first (fun j => decide (t < bd m (j + 1))) (t + 1)
def nP (m : Nat → Int32) (t W j : Nat) : Nat := fa_first (fun i => decide (W ≤ bd m (j + i) - t)) (W + 2)
def raw (m : Nat → Int32) (t W j : Nat) : Nat → List (Nat × Nat)
  | 0 => []
  | i + 1 => if (j + i) % 2 = 0 then raw m t W j i ++ [(bd m (j + i) - t, min W (bd m (j + i + 1) - t) - (bd m (j + i) - t))] else raw m t W j i
def sT (N : Nat) (p : Nat → Nat) (m : Nat → Int32) (s : Nat) : Nat := 64 * ph m + (if m 5 = 1 then fb_sm (sW N p m) s else 0)
def raws (N : Nat) (p : Nat → Nat) (m : Nat → Int32) (s : Nat) : List (Nat × Nat) := raw m (sT N p m s) (sW N p m s) (fj m (sT N p m s)) (nP m (sT N p m s) (sW N p m s) (fj m (sT N p m s)))
theorem ff_ok (q : Nat → Bool) {n k : Nat} (hk : k < n) (h : q k = true) : fa_first q n < n ∧ q (fa_first q n) = true ∧ ∀ i, i < fa_first q n → q i = false := by
  have h1 := fa_first_no q n
  have h2 : fa_first q n < n := by
    rcases Nat.lt_or_ge (fa_first q n) n with z | z
    · exact z
    · have := h1 k (by omega); rw [h] at this; exact absurd this (by decide)
  exact ⟨h2, fa_first_yes q n h2, h1⟩
theorem fj_in {c m : Nat → Int32} (h : ST c m) (t : Nat) : IN m (fj m t) t := by
  have ht : t < bd m (t + 1) := by have := bd_0 h (t + 1); omega
  obtain ⟨h1, h2, h3⟩ := ff_ok (fun j => decide (t < bd m (j + 1))) (n := t + 1) (k := t) (by omega) (decide_eq_true ht)
  refine ⟨?_, of_decide_eq_true h2⟩
  show bd m (fj m t) ≤ t
  obtain ⟨j, hj⟩ : ∃ j, j = fj m t := ⟨_, rfl⟩
  rw [← hj]
  cases j with
  | zero => exact Nat.zero_le _
  | succ j =>
    have := of_decide_eq_false (h3 j (by show j < fj m t; omega))
    omega
theorem nP_ok {c m : Nat → Int32} (h : ST c m) {t W j : Nat} (hj : IN m j t) : W ≤ bd m (j + nP m t W j) - t ∧ ∀ i, i < nP m t W j → bd m (j + i) - t < W := by
  have hW : W ≤ bd m (j + (W + 1)) - t := by
    have h1 := bd_ge h (j + 1) W
    have h2 := hj.2
    rw [show j + (W + 1) = j + 1 + W from by omega]; omega
  obtain ⟨h1, h2, h3⟩ := ff_ok (fun i => decide (W ≤ bd m (j + i) - t)) (n := W + 2) (k := W + 1) (by omega) (decide_eq_true hW)
  exact ⟨of_decide_eq_true h2, fun i hi => by have := of_decide_eq_false (h3 i hi); omega⟩
theorem P_le {c m : Nat → Int32} (h : ST c m) {t W j P : Nat} (hj : IN m j t) (hW : W ≤ 144808) (hP : ∀ i, i < P → bd m (j + i) - t < W) : P ≤ 454 := by
  rcases Nat.lt_or_ge 454 P with z | z
  · have h1 := hP 454 z
    have h2 := bd_ge h (j + 1) 453
    have h3 := hj.2
    rw [show j + 1 + 453 = j + 454 from by omega] at h2
    omega
  · exact z
theorem raw_len (m : Nat → Int32) (t W j : Nat) : ∀ i, 2 * (raw m t W j i).length ≤ i + (j + i) % 2 := by
  intro i
  induction i with
  | zero => exact Nat.zero_le _
  | succ i ih =>
    unfold raw
    by_cases q : (j + i) % 2 = 0
    · rw [if_pos q, List.length_append]
      show 2 * (_ + 1) ≤ _
      omega
    · rw [if_neg q]; omega
/-- the part that the walk is in, behind i parts -/
theorem IN_i {c m : Nat → Int32} (h : ST c m) {j t : Nat} (hj : IN m j t) (i : Nat) : IN m (j + i) (t + (bd m (j + i) - t)) := by
  cases i with
  | zero =>
    have h1 := hj.1
    rw [Nat.add_zero, show t + (bd m j - t) = t from by omega]; exact hj
  | succ i =>
    have h1 := bd_mono h (show j + 1 ≤ j + (i + 1) by omega)
    have h2 := hj.2
    have h3 := bd_lt h (show j + (i + 1) < j + (i + 1) + 1 by omega)
    exact ⟨by omega, by omega⟩
theorem raw_at {c m : Nat → Int32} (h : ST c m) {t W j P : Nat} (hj : IN m j t) (hP : ∀ i, i < P → bd m (j + i) - t < W) : ∀ i, i ≤ P → ∀ (k : Nat) (q : Nat × Nat), (raw m t W j i)[k]? = some q → q.1 < W ∧ 1 ≤ q.2 ∧ q.1 + q.2 ≤ W := by
  intro i
  induction i with
  | zero => intro _ k q hq; exact absurd hq (by simp [raw])
  | succ i ih =>
    intro hi k q hq
    unfold raw at hq
    by_cases z : (j + i) % 2 = 0
    · rw [if_pos z] at hq
      rcases hx_ap hq with ⟨_, h1⟩ | ⟨_, rfl⟩
      · exact ih (by omega) k q h1
      · have h1 := hP i (by omega)
        have h2 := (IN_i h hj i).2
        refine ⟨h1, ?_, ?_⟩
        · show 1 ≤ min W (bd m (j + i + 1) - t) - (bd m (j + i) - t)
          omega
        · show bd m (j + i) - t + (min W (bd m (j + i + 1) - t) - (bd m (j + i) - t)) ≤ W
          omega
    · rw [if_neg z] at hq; exact ih (by omega) k q hq
def HoA (L : List (Nat × Nat)) (ra rl : Nat → Int32) : Prop := ∀ (i : Nat) (q : Nat × Nat), L[i]? = some q → ra i = nI q.1 ∧ rl i = nI q.2
theorem HoA.ap {L : List (Nat × Nat)} {ra rl : Nat → Int32} (h : HoA L ra rl) (a b : Nat) : HoA (L ++ [(a, b)]) (upd ra L.length (nI a)) (upd rl L.length (nI b)) := by
  intro i q hq
  rcases hx_ap hq with ⟨h1, h2⟩ | ⟨rfl, rfl⟩
  · rw [ud_n (by omega), ud_n (by omega)]; exact h i q h2
  · rw [ud_e rfl, ud_e rfl]; exact ⟨rfl, rfl⟩
theorem j79_p {W k d f : Nat} {ra rl : Nat → Int32} (hf : 1 ≤ f) (hf2 : f ≤ 1073741824) (hd : d < W) (hW : W ≤ 144808) (hk : k < 240) : F_X12_laysRuns_j79 (nI W) (nI k) ra rl (nI d) (nI f) = some (.inl (nI (min W (d + f)), nI (k + 1), upd ra k (nI d), upd rl k (nI (min W (d + f) - d)))) := by
  unfold F_X12_laysRuns_j79 F_X12_laysRuns_j94 F_X12_laysRuns_j118 F_X12_laysRuns_j156
  simp only [gd_in hk (show 240 < 2 ^ 31 by decide), nI_clamp (show k < 2 ^ 31 by omega), lt_eq, zl_1, nI_add]
  rw [if_pos (nI_pos' (by omega)), pk_sub (by omega), if_neg (nI_nle (by omega) (by omega))]
  by_cases q : W - d ≤ f
  · rw [if_pos (nI_le q (by omega)), show min W (d + f) = W from by omega, nI_add, show d + (W - d) = W from by omega]
  · rw [if_neg (nI_ge (by omega) (by omega)), if_neg (nI_nle (by omega) (by omega)), show min W (d + f) = d + f from by omega, show d + f - d = f from by omega]
theorem neg_nI {f : Nat} (hf : 1 ≤ f) (hf2 : f ≤ 1073741824) : ¬ 0 ≤ - nI f ∧ - (- nI f) = nI f ∧ - nI f ≤ 0 := by
  have e1 : (nI f).toInt = (f : Int) := nI_toInt (by omega)
  have e : (- nI f).toInt = -(f : Int) := by rw [fb_negI (by omega), e1]
  refine ⟨?_, ?_, ?_⟩
  · rw [fa_le, e, show (0 : Int32).toInt = 0 from by decide]; omega
  · rw [ii_n, ii_neg, ii_neg]; congr 1; omega
  · rw [fa_le, e, show (0 : Int32).toInt = 0 from by decide]; omega
theorem j79_n {W k d f : Nat} {ra rl : Nat → Int32} (hf : 1 ≤ f) (hf2 : f ≤ 1073741824) (hd : d < W) (hW : W ≤ 144808) : F_X12_laysRuns_j79 (nI W) (nI k) ra rl (nI d) (- nI f) = some (.inl (nI (min W (d + f)), nI k, ra, rl)) := by
  have hn := neg_nI hf hf2
  unfold F_X12_laysRuns_j79 F_X12_laysRuns_j94 F_X12_laysRuns_j118 F_X12_laysRuns_j156
  rw [if_neg hn.1, hn.2.1, pk_sub (by omega), if_pos hn.2.2, if_pos hn.2.2, lt_eq, lt_eq, nI_add, nI_add]
  by_cases q : W - d ≤ f
  · rw [if_pos (nI_le q (by omega)), show min W (d + f) = W from by omega, show d + (W - d) = W from by omega]
  · rw [if_neg (nI_ge (by omega) (by omega)), show min W (d + f) = d + f from by omega]
set_option maxHeartbeats 1000000 in
theorem rl_m {n : Nat} (hn : 10000 ≤ n) {c m m' : Nat → Int32} (hm : E86 m' m) (h : ST c m) {t W j P : Nat} (hj : IN m j t) (ht : t ≤ 700000) (hW : W ≤ 144808) (hP1 : W ≤ bd m (j + P) - t) (hP2 : ∀ i, i < P → bd m (j + i) - t < W) (a23 a24 : Nat → Int32) :
    ∃ r23 r24, lpq (F_X12_laysRuns_b47 n (nI W) m' (nI t)) n (0, 0, a23, a24) = some (nI (raw m t W j P).length, r23, r24) ∧ HoA (raw m t W j P) r23 r24 := by
  have hP3 := P_le h hj hW hP2
  have hD := nD_e h
  have key : ∃ w, lpq (F_X12_laysRuns_b47 n (nI W) m' (nI t)) n (0, 0, a23, a24) = some w ∧ ∃ r23 r24, w = (nI (raw m t W j P).length, r23, r24) ∧ HoA (raw m t W j P) r23 r24 := by
    refine lpq_i0 (fun i st => ∃ r23 r24, st = (nI (min W (bd m (j + i) - t)), nI (raw m t W j i).length, r23, r24) ∧ HoA (raw m t W j i) r23 r24) _ P ?_ (by omega) ?_
    · rintro i st hi ⟨r23, r24, rfl, hH⟩
      have hl := raw_len m t W j i
      unfold F_X12_laysRuns_b47
      by_cases q : i = P
      · left
        subst q
        refine ⟨_, ?_, r23, r24, rfl, hH⟩
        exact if_pos (nI_le (by omega) (by omega))
      · right
        refine ⟨by omega, ?_⟩
        have hd := hP2 i (by omega)
        have hI := IN_i h hj i
        have hdl : bd m (j + i + 1) - (t + (bd m (j + i) - t)) ≤ 1073741824 := by
          have := dl_le h (j + i)
          have e := bd_s (m := m) (j + i)
          have := hI.1
          omega
        obtain ⟨d, hde⟩ : ∃ d, d = bd m (j + i) - t := ⟨_, rfl⟩
        obtain ⟨f, hfe⟩ : ∃ f, f = bd m (j + i + 1) - (t + d) := ⟨_, rfl⟩
        have hf1 : 1 ≤ f := by have := hI.2; omega
        have hmin : min W (bd m (j + (i + 1)) - t) = min W (d + f) := by
          rw [show j + (i + 1) = j + i + 1 from rfl]
          have := hI.2; congr 1; omega
        have hraw : raw m t W j (i + 1) = if (j + i) % 2 = 0 then raw m t W j i ++ [(d, min W (d + f) - d)] else raw m t W j i := by
          rw [raw, ← hmin, ← hde]; rfl
        have hgo : ∀ x, (x = if (j + i) % 2 = 0 then nI f else - nI f) → ∃ s', F_X12_laysRuns_j79 (nI W) (nI (raw m t W j i).length) r23 r24 (nI d) x = some (.inl s') ∧ ∃ r23 r24, s' = (nI (min W (bd m (j + (i + 1)) - t)), nI (raw m t W j (i + 1)).length, r23, r24) ∧ HoA (raw m t W j (i + 1)) r23 r24 := by
          intro x hx
          rw [hx, hmin, hraw]
          by_cases z : (j + i) % 2 = 0
          · rw [if_pos z, if_pos z, j79_p hf1 (by omega) (by omega) hW (by omega), List.length_append]
            exact ⟨_, rfl, _, _, rfl, hH.ap _ _⟩
          · rw [if_neg z, if_neg z, j79_n hf1 (by omega) (by omega) hW]
            exact ⟨_, rfl, _, _, rfl, hH⟩
        rw [show min W (bd m (j + i) - t) = d from by omega]
        show ∃ s', (if nI W ≤ nI d then _ else gd (decide (vpi 6 86)) (if m' (6 : Int32).toNatClampNeg = 0 then F_X12_laysRuns_j79 (nI W) (nI (raw m t W j i).length) r23 r24 (nI d) (nI W) else obd (F_X12_stretch n m' (nI t + nI d)) (fun u => F_X12_laysRuns_j79 (nI W) (nI (raw m t W j i).length) r23 r24 (nI d) u))) = _ ∧ _
        rw [if_neg (nI_ge (by omega) (by omega)), gd_in' (z := 6) (i := 6) rfl (by decide) (by decide), cl_6, hm 6 (by decide), hD.2]
        by_cases z : nD m = 0
        · rw [z, if_pos (show nI 0 = 0 from rfl)]
          have hb1 : bd m 1 = 1073741824 := by
            have e : bd m 1 = 0 + dl m 0 := rfl
            rw [e]; unfold dl; rw [if_pos z]
          have hj0 : j = 0 := by
            rcases Nat.eq_zero_or_pos j with y | y
            · exact y
            · have := bd_mono h (show 1 ≤ j from y); have := hj.1; omega
          have hi0 : i = 0 := by
            rcases Nat.eq_zero_or_pos i with y | y
            · exact y
            · have := bd_mono h (show 1 ≤ j + i by omega); omega
          subst hj0 hi0
          have hd0 : d = 0 := by rw [hde]; have e : bd m (0 + 0) = 0 := rfl; omega
          have hff : W ≤ f := by rw [hfe, show 0 + 0 + 1 = 1 from rfl, hb1]; omega
          have e1 : F_X12_laysRuns_j79 (nI W) (nI (raw m t W 0 0).length) r23 r24 (nI d) (nI W) = F_X12_laysRuns_j79 (nI W) (nI (raw m t W 0 0).length) r23 r24 (nI d) (nI f) := by
            rw [j79_p (by omega) (by omega) (by omega) hW (by omega), j79_p (by omega) (by omega) (by omega) hW (by omega), show min W (d + W) = min W (d + f) from by omega]
          rw [e1]
          exact hgo _ (by rw [if_pos (by decide)])
        · rw [if_neg (nI_ne0 (by omega) (by omega)), nI_add, str_m (by omega) hm h z (by rw [hde]; exact hI) (by omega), obd_s, ← hfe]
          exact hgo _ rfl
    · refine ⟨a23, a24, ?_, fun i q hq => absurd hq (by simp [raw])⟩
      have h1 := hj.1
      rw [Nat.add_zero, show min W (bd m j - t) = 0 from by omega]; rfl
  obtain ⟨w, e, r23, r24, rfl, hH⟩ := key
  exact ⟨r23, r24, e, hH⟩
