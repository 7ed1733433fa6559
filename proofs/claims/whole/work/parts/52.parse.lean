/-! ===== parse ===== -/
theorem lpq_sm {S X T Y : Type} {b1 : S → Option (Sum S X)} {b2 : T → Option (Sum T Y)} {R : Nat → S → T → Prop} {Q : X → Y → Prop} {k : Nat}
    (step : ∀ i s t, i ≤ k → R i s t → (∃ x y, b1 s = some (.inr x) ∧ b2 t = some (.inr y) ∧ Q x y) ∨ (i < k ∧ ∃ s' t', b1 s = some (.inl s') ∧ b2 t = some (.inl t') ∧ R (i + 1) s' t')) :
    ∀ (j i n1 n2 : Nat) (s : S) (t : T), i + j = k → j < n1 → j < n2 → R i s t → ∃ x y, lpq b1 n1 s = some x ∧ lpq b2 n2 t = some y ∧ Q x y := by
  intro j
  induction j with
  | zero =>
    intro i n1 n2 s t hi h1 h2 hr
    obtain ⟨a, rfl⟩ : ∃ a, n1 = a + 1 := ⟨n1 - 1, by omega⟩
    obtain ⟨b, rfl⟩ : ∃ b, n2 = b + 1 := ⟨n2 - 1, by omega⟩
    rcases step i s t (by omega) hr with ⟨x, y, e1, e2, q⟩ | ⟨h, -⟩
    · exact ⟨x, y, lpq_en e1, lpq_en e2, q⟩
    · omega
  | succ j ih =>
    intro i n1 n2 s t hi h1 h2 hr
    obtain ⟨a, rfl⟩ : ∃ a, n1 = a + 1 := ⟨n1 - 1, by omega⟩
    obtain ⟨b, rfl⟩ : ∃ b, n2 = b + 1 := ⟨n2 - 1, by omega⟩
    rcases step i s t (by omega) hr with ⟨x, y, e1, e2, q⟩ | ⟨h, s', t', e1, e2, q⟩
    · exact ⟨x, y, lpq_en e1, lpq_en e2, q⟩
    · obtain ⟨x, y, f1, f2, f3⟩ := ih (i + 1) a b s' t' (by omega) (by omega) (by omega) q
      exact ⟨x, y, lpq_st e1 f1, lpq_st e2 f2, f3⟩
theorem m1_ne (k : Nat) (hk : k < 2 ^ 31) : ¬ nI k = -1 := fun h => by
  have := congrArg Int32.toInt h
  rw [nI_toInt hk, show (-1 : Int32).toInt = -1 from by decide] at this; omega
section PT
variable {len : Nat} {bc bm : Nat → Int32}
/-- whether byte w stands at place a -/
def hit (len : Nat) (bm : Nat → Int32) (a : Nat) (w : Int32) : Prop := a < len ∧ bm a = w
def dig (len : Nat) (bm : Nat → Int32) (a : Nat) : Prop := a < len ∧ 48 ≤ bm a ∧ bm a ≤ 57
theorem next_c (hl : len ≤ 150) (hb : ∀ i, i < len → bc i = bm i) (a : Nat) (ha : a ≤ 150) : F_X5_next (nI len) (nI a) bc = some (if a < len then bm a else -1) := by
  unfold F_X5_next F_X5_next_j32
  rw [if_neg (nI_pos (by omega))]
  by_cases q : a < len
  · rw [if_neg (nI_ge q (by omega)), if_pos q, at_4 (by omega) (by decide), obd_s, hb a q]
  · rw [if_pos (nI_le (by omega) (by omega)), if_neg q]
theorem isAt_m (hl : len ≤ 150) (a : Nat) (ha : a ≤ 150) (x y : Int32) : F_X12_isAt (nI len) (nI a) bm x y = some (if a < len ∧ x ≤ bm a ∧ bm a ≤ y then 1 else 0) := by
  unfold F_X12_isAt F_X12_isAt_j32
  by_cases q : a < len
  · rw [if_neg (nI_ge q (by omega)), gd_in (by omega) (by decide), nI_clamp (by omega), lt_eq]
    by_cases z : x ≤ bm a ∧ bm a ≤ y
    · rw [wi_in z, if_neg (by decide), if_pos ⟨q, z⟩]
    · rw [wi_out z, if_pos rfl, if_neg (fun h => z h.2)]
  · rw [if_pos (nI_le (by omega) (by omega)), if_neg (fun h => q h.1)]
theorem pass_y (hl : len ≤ 150) {a : Nat} {w : Int32} (h : hit len bm a w) : F_X12_passes (nI len) (nI a) bm w = some (1, nI (a + 1)) := by
  unfold F_X12_passes F_X12_passes_j21
  have e : w ≤ bm a ∧ bm a ≤ w := by rw [h.2]; exact ⟨(fa_le _ _).mpr (Int.le_refl _), (fa_le _ _).mpr (Int.le_refl _)⟩
  rw [isAt_m hl a (by have := h.1; omega), obd_s, if_pos (show a < len ∧ w ≤ bm a ∧ bm a ≤ w from ⟨h.1, e⟩), if_neg (show ¬ (1 : Int32) = 0 from by decide), lt_eq, gd_t (show (1 : Int32) = 0 ∨ (1 : Int32) = 1 from Or.inr rfl), zl_1, nI_add]
theorem pass_n (hl : len ≤ 150) {a : Nat} (ha : a ≤ 150) {w : Int32} (h : ¬ hit len bm a w) : F_X12_passes (nI len) (nI a) bm w = some (0, nI a) := by
  unfold F_X12_passes F_X12_passes_j21
  have e : ¬ (a < len ∧ w ≤ bm a ∧ bm a ≤ w) := fun z => h ⟨z.1, by
    have z1 := (fa_le _ _).mp z.2.1
    have z2 := (fa_le _ _).mp z.2.2
    rw [fa_eq]; omega⟩
  rw [isAt_m hl a ha, obd_s, if_neg e, if_pos rfl, lt_eq, gd_t (show (0 : Int32) = 0 ∨ (0 : Int32) = 1 from Or.inl rfl), zl_0, nI_add, Nat.add_zero]
theorem exp_y (hl : len ≤ 150) (hb : ∀ i, i < len → bc i = bm i) {a : Nat} {w : Int32} (h : hit len bm a w) : F_X5_expect (nI len) (nI a) (-1) bc w = some (nI (a + 1), -1) := by
  unfold F_X5_expect
  rw [if_pos rfl, next_c hl hb a (by have := h.1; omega), obd_s, if_pos h.1, if_pos h.2, lt_eq, zl_1, nI_add]
theorem exp_n (hl : len ≤ 150) (hb : ∀ i, i < len → bc i = bm i) {a : Nat} (ha : a ≤ 150) {w : Int32} (hw : ¬ w = -1) (h : ¬ hit len bm a w) : F_X5_expect (nI len) (nI a) (-1) bc w = some (nI a, nI a) := by
  unfold F_X5_expect
  rw [if_pos rfl, next_c hl hb a ha, obd_s]
  by_cases q : a < len
  · rw [if_pos q, if_neg (fun z => h ⟨q, z⟩)]
  · rw [if_neg q, if_neg (fun z => hw z.symm)]
theorem exp_f {a f : Int32} {w : Int32} (hf : ¬ f = -1) : F_X5_expect (nI len) a f bc w = some (a, f) := by
  unfold F_X5_expect
  rw [if_neg hf]
theorem nxt_is (hl : len ≤ 150) (hb : ∀ i, i < len → bc i = bm i) {a : Nat} (ha : a ≤ 150) {w : Int32} (hw : ¬ w = -1) : ∃ v, F_X5_next (nI len) (nI a) bc = some v ∧ (v = w ↔ hit len bm a w) := by
  refine ⟨_, next_c hl hb a ha, ?_⟩
  by_cases q : a < len
  · rw [if_pos q]; exact ⟨fun h => ⟨q, h⟩, fun h => h.2⟩
  · rw [if_neg q]; exact ⟨fun h => absurd h.symm hw, fun h => absurd h.1 q⟩
theorem dig_c (hl : len ≤ 150) (hb : ∀ i, i < len → bc i = bm i) {a : Nat} (ha : a ≤ 150) : ∃ v, F_X5_next (nI len) (nI a) bc = some v ∧ ((F_X5_isDigit v = 1 ∧ dig len bm a ∧ v = bm a) ∨ (F_X5_isDigit v = 0 ∧ ¬ dig len bm a)) := by
  refine ⟨_, next_c hl hb a ha, ?_⟩
  unfold F_X5_isDigit F_X5_isDigit_j16
  by_cases q : a < len
  · rw [if_pos q]
    by_cases z1 : bm a < 48
    · rw [if_pos z1]
      refine Or.inr ⟨rfl, fun d => ?_⟩
      have d1 := (fa_le _ _).mp d.2.1
      have z1 := (fa_lt _ _).mp z1
      omega
    · rw [if_neg z1]
      by_cases z2 : 57 < bm a
      · rw [if_pos z2]
        refine Or.inr ⟨rfl, fun d => ?_⟩
        have d1 := (fa_le _ _).mp d.2.2
        have z2 := (fa_lt _ _).mp z2
        omega
      · rw [if_neg z2]
        exact Or.inl ⟨rfl, ⟨q, fa_of_nlt z1, fa_of_nlt z2⟩, rfl⟩
  · rw [if_neg q, if_pos (by decide)]
    exact Or.inr ⟨rfl, fun d => q d.1⟩
theorem dig_m (hl : len ≤ 150) {a : Nat} (ha : a ≤ 150) : (dig len bm a → F_X12_isAt (nI len) (nI a) bm 48 57 = some 1) ∧ (¬ dig len bm a → F_X12_isAt (nI len) (nI a) bm 48 57 = some 0) :=
  ⟨fun h => by rw [isAt_m hl a ha, if_pos (show a < len ∧ 48 ≤ bm a ∧ bm a ≤ 57 from h)], fun h => by rw [isAt_m hl a ha, if_neg (show ¬ (a < len ∧ 48 ≤ bm a ∧ bm a ≤ 57) from h)]⟩
/-- the digits of a number -/
theorem digs (hl : len ≤ 150) (hb : ∀ i, i < len → bc i = bm i) {n a0 : Nat} (hn : 1000 ≤ n) (ha : a0 ≤ len) :
    ∃ v d a, lpq (F_X5_readNumber_b49 (nI len) bc) n (0, 0, nI a0) = some (nI v, nI d, nI a) ∧ lpq (F_X12_reads_b19 (nI len) bm) n (0, nI a0, 0) = some (nI d, nI a, nI v) ∧ v < 1000 ∧ d ≤ 3 ∧ a0 ≤ a ∧ a ≤ len := by
  obtain ⟨x, y, e1, e2, v, d, a, rfl, rfl, h⟩ := lpq_sm (b1 := F_X5_readNumber_b49 (nI len) bc) (b2 := F_X12_reads_b19 (nI len) bm)
    (R := fun i s t => ∃ v a, s = (nI v, nI i, nI a) ∧ t = (nI i, nI a, nI v) ∧ v < 10 ^ i ∧ a0 ≤ a ∧ a ≤ len)
    (Q := fun x y => ∃ v d a, x = (nI v, nI d, nI a) ∧ y = (nI d, nI a, nI v) ∧ v < 1000 ∧ d ≤ 3 ∧ a0 ≤ a ∧ a ≤ len) (k := 3)
    (by
      rintro i s t hi ⟨v, a, rfl, rfl, h1, h2, h3⟩
      have hv : v < 1000 := Nat.lt_of_lt_of_le h1 (Nat.pow_le_pow_right (by decide) hi)
      have E1 : F_X5_readNumber_b49 (nI len) bc (nI v, nI i, nI a) = if (3 : Int32) ≤ nI i then some (Sum.inr (nI v, nI i, nI a)) else obd (F_X5_next (nI len) (nI a) bc) (fun u_8 => lt (F_X5_isDigit u_8) (fun u_9 => if u_9 = 0 then some (Sum.inr (nI v, nI i, nI a)) else obd (F_X5_next (nI len) (nI a) bc) (fun u_11 => lt (((10 * nI v) + u_11) - 48) (fun y_12 => lt (nI a + 1) (fun y_13 => lt (nI i + 1) (fun y_14 => some (Sum.inl (y_12, y_14, y_13)))))))) := rfl
      have E2 : F_X12_reads_b19 (nI len) bm (nI i, nI a, nI v) = if (3 : Int32) ≤ nI i then some (Sum.inr (nI i, nI a, nI v)) else obd (F_X12_isAt (nI len) (nI a) bm 48 57) (fun u_9 => if u_9 = 0 then some (Sum.inr (nI i, nI a, nI v)) else gd (decide (vpi (nI a) 150)) (lt (((10 * nI v) + (bm (nI a).toNatClampNeg)) - 48) (fun y_12 => lt (nI a + 1) (fun y_13 => lt (nI i + 1) (fun y_14 => some (Sum.inl (y_14, y_13, y_12))))))) := rfl
      rw [E1, E2]
      by_cases h3i : i = 3
      · left
        rw [if_pos (show (3 : Int32) ≤ nI i from by rw [h3i]; decide), if_pos (show (3 : Int32) ≤ nI i from by rw [h3i]; decide)]
        exact ⟨_, _, rfl, rfl, v, i, a, rfl, rfl, hv, by omega, h2, h3⟩
      · rw [if_neg (show ¬ (3 : Int32) ≤ nI i from nI_ge (b := 3) (by omega) (by decide)), if_neg (show ¬ (3 : Int32) ≤ nI i from nI_ge (b := 3) (by omega) (by decide))]
        obtain ⟨z, z1, z2⟩ := dig_c hl hb (a := a) (by omega)
        rw [z1, obd_s, lt_eq]
        rcases z2 with ⟨d1, d2, d3⟩ | ⟨d1, d2⟩
        · right
          rw [d1, if_neg (by decide), (dig_m hl (by omega)).1 d2, obd_s, obd_s, if_neg (show ¬ (1 : Int32) = 0 from by decide)]
          have b1 := (fa_le _ _).mp d2.2.1
          have b2 := (fa_le _ _).mp d2.2.2
          have e48 : (48 : Int32).toInt = 48 := by decide
          have e57 : (57 : Int32).toInt = 57 := by decide
          obtain ⟨w, w1, w2⟩ := nn_i (x := bm a) (b := 57) (by omega) (by omega)
          have w3 : 48 ≤ w := by
            rw [w2, nI_toInt (by omega)] at b1; omega
          have ev : ∀ u : Int32, u = bm a → 10 * nI v + u - 48 = nI (10 * v + (w - 48)) := fun u hu => by
            rw [hu, w2, zl_10, zl_48, pk_mul, nI_add, pk_sub (by omega)]; congr 1; omega
          refine ⟨by omega, (nI (10 * v + (w - 48)), nI (i + 1), nI (a + 1)), (nI (i + 1), nI (a + 1), nI (10 * v + (w - 48))), ?_, ?_, 10 * v + (w - 48), a + 1, rfl, rfl, ?_, by omega, by have := d2.1; omega⟩
          · rw [lt_eq, lt_eq, lt_eq, ev z d3, zl_1, nI_add, nI_add]
          · rw [gd_in (by have := d2.1; omega) (by decide), lt_eq, lt_eq, lt_eq, nI_clamp (by omega), ev _ rfl, zl_1, nI_add, nI_add]
          · rw [Nat.pow_succ]; omega
        · left
          rw [d1, if_pos rfl, (dig_m hl (by omega)).2 d2, obd_s, if_pos rfl]
          exact ⟨_, _, rfl, rfl, v, i, a, rfl, rfl, hv, by omega, h2, h3⟩)
    3 0 n n (nI 0, nI 0, nI a0) (nI 0, nI a0, nI 0) (by omega) (by omega) (by omega) ⟨0, a0, rfl, rfl, by decide, by omega, ha⟩
  exact ⟨v, d, a, e1, e2, h⟩
theorem neg_within {v : Nat} (hv : v < 1000) : (-100 ≤ -nI v ∧ -nI v ≤ 100) ↔ v ≤ 100 := by
  have e1 : (-100 : Int32).toInt = -100 := by decide
  have e2 : (100 : Int32).toInt = 100 := by decide
  rw [fa_le, fa_le, e1, e2, sb_negT (by omega)]; omega
theorem pos_within {v : Nat} (hv : v < 1000) : (-100 ≤ nI v ∧ nI v ≤ 100) ↔ v ≤ 100 := by
  have e1 : (-100 : Int32).toInt = -100 := by decide
  have e2 : (100 : Int32).toInt = 100 := by decide
  rw [fa_le, fa_le, e1, e2, nI_toInt (by omega)]; omega
/-- a number: read by both, or both fail at the same place -/
theorem num_rd (hl : len ≤ 150) (hb : ∀ i, i < len → bc i = bm i) {n a0 : Nat} (hn : 1000 ≤ n) (ha : a0 ≤ len) :
    (∃ z a, F_X5_readNumber n (nI len) (nI a0) (-1) bc = some (z, nI a, -1) ∧ F_X12_reads n (nI len) (nI a0) bm = some (1, nI a, z) ∧ CO z ∧ a0 ≤ a ∧ a ≤ len) ∨
    (∃ z a f z2, F_X5_readNumber n (nI len) (nI a0) (-1) bc = some (z, a, nI f) ∧ F_X12_reads n (nI len) (nI a0) bm = some (0, nI f, z2) ∧ a0 ≤ f ∧ f ≤ len) := by
  have body : ∀ (t : Int32) (a1 : Nat), (t = 0 ∨ t = 1) → a0 ≤ a1 → a1 ≤ len → 
      (∃ z a, F_X5_readNumber_j44 n (nI len) (nI a1) (-1) bc (nI a0) t = some (z, nI a, -1) ∧ F_X12_reads_j19 n (nI len) (nI a1) 0 bm (nI a0) t 0 = some (1, nI a, z) ∧ CO z ∧ a0 ≤ a ∧ a ≤ len) ∨
      (∃ z a f z2, F_X5_readNumber_j44 n (nI len) (nI a1) (-1) bc (nI a0) t = some (z, a, nI f) ∧ F_X12_reads_j19 n (nI len) (nI a1) 0 bm (nI a0) t 0 = some (0, nI f, z2) ∧ a0 ≤ f ∧ f ≤ len) := by
    intro t a1 ht h1 h2
    obtain ⟨v, d, a, e1, e2, h3, h4, h5, h6⟩ := digs hl hb hn h2
    unfold F_X5_readNumber_j44 F_X5_readNumber_j49 F_X12_reads_j19
    rw [e1, e2, obd_s, obd_s]
    show (∃ z a', F_X5_readNumber_j94 (nI len) (nI a) (-1) bc (nI a0) t (nI v) (nI d) = _ ∧ F_X12_reads_j75 (nI len) (nI a) (nI v) bm (nI a0) t (nI d) = _ ∧ _) ∨ (∃ z a' f z2, F_X5_readNumber_j94 (nI len) (nI a) (-1) bc (nI a0) t (nI v) (nI d) = _ ∧ F_X12_reads_j75 (nI len) (nI a) (nI v) bm (nI a0) t (nI d) = _ ∧ _)
    obtain ⟨z, z1, z2⟩ := dig_c hl hb (a := a) (by omega)
    have s131 : ∀ g : Int32, ∃ y, F_X5_readNumber_j131 (nI a) g t (nI v) = some (y, nI a, g) ∧ y = if t = 0 then nI v else -nI v := fun g => by
      unfold F_X5_readNumber_j131
      by_cases q : t = 0
      · rw [if_pos q, if_pos q]; exact ⟨_, rfl, rfl⟩
      · rw [if_neg q, if_neg q]; exact ⟨_, rfl, rfl⟩
    have r75 : F_X12_reads_j75 (nI len) (nI a) (nI v) bm (nI a0) t (nI d) = F_X12_reads_j92 (nI len) (nI a) bm (nI a0) (nI d) (if t = 0 then nI v else -nI v) := by
      unfold F_X12_reads_j75
      by_cases q : t = 0
      · rw [if_pos q, if_pos q]
      · rw [if_neg q, if_neg q]
    rw [r75]
    have hw : (-100 ≤ (if t = 0 then nI v else -nI v) ∧ (if t = 0 then nI v else -nI v) ≤ 100) ↔ v ≤ 100 := by
      by_cases q : t = 0
      · rw [if_pos q]; exact pos_within h3
      · rw [if_neg q]; exact neg_within h3
    unfold F_X5_readNumber_j94 F_X5_readNumber_j109 F_X12_reads_j92 F_X12_reads_j110 F_X12_reads_j139
    by_cases q : d = 0
    · right
      rw [if_pos (show nI d = 0 from by rw [q]; rfl), if_pos (show nI d = 0 from by rw [q]; rfl)]
      obtain ⟨y, y1, y2⟩ := s131 (nI a)
      rw [y1]
      exact ⟨_, _, a, _, rfl, rfl, by omega, h6⟩
    · rw [if_neg (show ¬ nI d = 0 from nI_ne0 (by omega) (by omega)), if_neg (show ¬ nI d = 0 from nI_ne0 (by omega) (by omega)), z1, obd_s, lt_eq]
      rcases z2 with ⟨d1, d2, d3⟩ | ⟨d1, d2⟩
      · right
        rw [d1, if_neg (by decide), (dig_m hl (by omega)).1 d2, obd_s, if_neg (by decide)]
        obtain ⟨y, y1, y2⟩ := s131 (nI a)
        rw [y1]
        exact ⟨_, _, a, _, rfl, rfl, by omega, h6⟩
      · rw [d1, if_pos rfl, (dig_m hl (by omega)).2 d2, obd_s, if_pos rfl, lt_eq]
        by_cases w : v ≤ 100
        · left
          rw [if_pos (show nI v ≤ 100 from nI_le (b := 100) w (by decide)), wi_in (hw.mpr w), if_neg (by decide), gd_t (Or.inr rfl)]
          obtain ⟨y, y1, y2⟩ := s131 (-1)
          rw [y1]
          exact ⟨y, a, rfl, by rw [y2], by rw [y2]; exact co_of (hw.mpr w), by omega, h6⟩
        · right
          rw [if_neg (show ¬ nI v ≤ 100 from nI_ge (a := 100) (by omega) (by omega)), wi_out (fun h => w (hw.mp h)), if_pos rfl, gd_t (Or.inl rfl)]
          obtain ⟨y, y1, y2⟩ := s131 (nI a0)
          rw [y1]
          exact ⟨_, _, a0, _, rfl, rfl, by omega, ha⟩
  unfold F_X5_readNumber F_X12_reads F_X5_readNumber_j29
  rw [if_pos rfl]
  obtain ⟨v, v1, v2⟩ := nxt_is hl hb (a := a0) (by omega) (w := 45) (by decide)
  rw [v1, obd_s]
  by_cases h : hit len bm a0 45
  · rw [if_pos (v2.mpr h), pass_y hl h, obd_s, if_neg (by decide), lt_eq, zl_1, nI_add]
    exact body 1 (a0 + 1) (Or.inr rfl) (by omega) (by have := h.1; omega)
  · rw [if_neg (fun q => h (v2.mp q)), pass_n hl (by omega) h, obd_s, if_pos rfl]
    exact body 0 a0 (Or.inl rfl) (by omega) ha
theorem rd_f {n : Nat} {a f : Int32} (hf : ¬ f = -1) : F_X5_readNumber n (nI len) a f bc = some (0, a, f) := by
  unfold F_X5_readNumber
  rw [if_neg hf]
/-- a point -/
theorem pnt_rd (hl : len ≤ 150) (hb : ∀ i, i < len → bc i = bm i) {n a0 : Nat} (hn : 1000 ≤ n) (ha : a0 ≤ len) (r : Int32) :
    (∃ x y a, F_X5_readPoint n (nI len) (nI a0) (-1) bc = some (nI a, -1, x, y) ∧ F_X12_readsPoint n (nI len) (nI a0) r bm = some (1, nI a, y, x) ∧ CO x ∧ CO y ∧ a0 ≤ a ∧ a ≤ len) ∨
    (∃ x y a f w1 w2, F_X5_readPoint n (nI len) (nI a0) (-1) bc = some (a, nI f, x, y) ∧ F_X12_readsPoint n (nI len) (nI a0) r bm = some (0, nI f, w1, w2) ∧ a0 ≤ f ∧ f ≤ len) := by
  have F1 : ∀ z a f, F_X5_readNumber n (nI len) (nI a0) (-1) bc = some (z, a, f) → F_X5_readPoint n (nI len) (nI a0) (-1) bc = obd (F_X5_expect (nI len) a f bc 44) (fun u_2 => obd (F_X5_readNumber n (nI len) u_2.1 u_2.2 bc) (fun u_3 => some (u_3.2.1, u_3.2.2, z, u_3.1))) := fun z a f h => by
    unfold F_X5_readPoint; rw [h]; rfl
  have F2 : ∀ z a, F_X12_reads n (nI len) (nI a0) bm = some (1, a, z) → F_X12_readsPoint n (nI len) (nI a0) r bm = obd (F_X12_passes (nI len) a bm 44) (fun u_3 => if u_3.1 = 0 then some (0, u_3.2, z, z) else obd (F_X12_reads n (nI len) u_3.2 bm) (fun u_5 => if u_5.1 = 0 then some (0, u_5.2.1, u_5.2.2, z) else some (1, u_5.2.1, u_5.2.2, z))) := fun z a h => by
    unfold F_X12_readsPoint F_X12_readsPoint_j37; rw [h]; rfl
  rcases num_rd hl hb hn ha with ⟨z, a, e1, e2, h1, h2, h3⟩ | ⟨z, a, f, z2, e1, e2, h2, h3⟩
  · rw [F1 _ _ _ e1, F2 _ _ e2]
    by_cases h : hit len bm a 44
    · rw [exp_y hl hb h, pass_y hl h, obd_s, obd_s, if_neg (show ¬ (1 : Int32) = 0 from by decide)]
      have G1 : ∀ y b g, F_X5_readNumber n (nI len) (nI (a + 1)) (-1) bc = some (y, b, g) → obd (F_X5_readNumber n (nI len) (nI (a + 1), (-1 : Int32)).1 (nI (a + 1), (-1 : Int32)).2 bc) (fun u_3 => some (u_3.2.1, u_3.2.2, z, u_3.1)) = some (b, g, z, y) := fun y b g h => by
        show obd (F_X5_readNumber n (nI len) (nI (a + 1)) (-1) bc) _ = _
        rw [h]; rfl
      have G2 : ∀ (y b g : Int32), F_X12_reads n (nI len) (nI (a + 1)) bm = some (g, b, y) → obd (F_X12_reads n (nI len) ((1 : Int32), nI (a + 1)).2 bm) (fun u_5 => if u_5.1 = 0 then some ((0 : Int32), u_5.2.1, u_5.2.2, z) else some (1, u_5.2.1, u_5.2.2, z)) = if g = 0 then some (0, b, y, z) else some (1, b, y, z) := fun y b g h => by
        show obd (F_X12_reads n (nI len) (nI (a + 1)) bm) _ = _
        rw [h]; rfl
      rcases num_rd hl hb hn (show a + 1 ≤ len by have := h.1; omega) with ⟨y, b, g1, g2, k1, k2, k3⟩ | ⟨y, b, f, z2, g1, g2, k2, k3⟩
      · rw [G1 _ _ _ g1, G2 _ _ _ g2, if_neg (show ¬ (1 : Int32) = 0 from by decide)]
        exact Or.inl ⟨z, y, b, rfl, rfl, h1, k1, by omega, k3⟩
      · rw [G1 _ _ _ g1, G2 _ _ _ g2, if_pos rfl]
        exact Or.inr ⟨z, y, b, f, _, _, rfl, rfl, by omega, k3⟩
    · rw [exp_n hl hb (by omega) (by decide) h, pass_n hl (by omega) h, obd_s, obd_s, if_pos rfl]
      have G1 : obd (F_X5_readNumber n (nI len) (nI a, nI a).1 (nI a, nI a).2 bc) (fun u_3 => some (u_3.2.1, u_3.2.2, z, u_3.1)) = some (nI a, nI a, z, 0) := by
        show obd (F_X5_readNumber n (nI len) (nI a) (nI a) bc) _ = _
        rw [rd_f (m1_ne a (by omega))]; rfl
      rw [G1]
      exact Or.inr ⟨_, _, _, a, _, _, rfl, rfl, by omega, h3⟩
  · have G1 : F_X5_readPoint n (nI len) (nI a0) (-1) bc = some (a, nI f, z, 0) := by
      rw [F1 _ _ _ e1, exp_f (m1_ne f (by omega)), obd_s]
      show obd (F_X5_readNumber n (nI len) a (nI f) bc) _ = _
      rw [rd_f (m1_ne f (by omega))]; rfl
    have G2 : F_X12_readsPoint n (nI len) (nI a0) r bm = some (0, nI f, z2, r) := by
      unfold F_X12_readsPoint; rw [e2]; rfl
    rw [G1, G2]
    exact Or.inr ⟨_, _, _, f, _, _, rfl, rfl, h2, h3⟩
end PT
