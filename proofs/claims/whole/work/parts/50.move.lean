/-! ===== transform ===== -/
def tX (q : Nat) (x y : Int32) : Int32 := if q = 0 then x else if q = 1 then -y else if q = 2 then -x else y
def tY (q : Nat) (x y : Int32) : Int32 := if q = 0 then y else if q = 1 then x else if q = 2 then -y else -x
theorem nnI (x : Int32) : - -x = x := by grind
theorem tX_c {q : Nat} (hq : q < 4) (x y : Int32) : F_X1_turnedX x y (nI q) = tX q x y := by
  unfold F_X1_turnedX F_X1_turnedX_j12 tX
  have : q = 0 ∨ q = 1 ∨ q = 2 ∨ q = 3 := by omega
  rcases this with rfl | rfl | rfl | rfl
  · rw [if_pos (by decide), if_neg (by decide), if_pos rfl]
  · rw [if_neg (by decide), if_neg (by decide), if_neg (by decide), if_pos rfl]
  · rw [if_pos (by decide), if_pos (by decide), if_neg (by decide), if_neg (by decide), if_pos rfl]
  · rw [if_neg (by decide), if_pos (by decide), if_neg (by decide), if_neg (by decide), if_neg (by decide), nnI]
theorem tY_c {q : Nat} (hq : q < 4) (x y : Int32) : F_X1_turnedY x y (nI q) = tY q x y := by
  unfold F_X1_turnedY F_X1_turnedY_j11 tY
  have : q = 0 ∨ q = 1 ∨ q = 2 ∨ q = 3 := by omega
  rcases this with rfl | rfl | rfl | rfl
  · rw [if_pos (by decide), if_neg (by decide), if_pos rfl]
  · rw [if_neg (by decide), if_neg (by decide), if_neg (by decide), if_pos rfl]
  · rw [if_pos (by decide), if_pos (by decide), if_neg (by decide), if_neg (by decide), if_pos rfl]
  · rw [if_neg (by decide), if_pos (by decide), if_neg (by decide), if_neg (by decide), if_neg (by decide)]
theorem tX_m {q : Nat} (hq : q < 4) (x y : Int32) : F_X12_turned x y (nI q) = tX q x y := by
  unfold F_X12_turned tX
  have : q = 0 ∨ q = 1 ∨ q = 2 ∨ q = 3 := by omega
  rcases this with rfl | rfl | rfl | rfl
  · rw [if_pos (by decide), if_pos rfl]
  · rw [if_neg (by decide), if_pos (by decide), if_neg (by decide), if_pos rfl]
  · rw [if_neg (by decide), if_neg (by decide), if_pos (by decide), if_neg (by decide), if_neg (by decide), if_pos rfl]
  · rw [if_neg (by decide), if_neg (by decide), if_neg (by decide), if_neg (by decide), if_neg (by decide), if_neg (by decide)]
theorem tY_m {q : Nat} (hq : q < 4) (x y : Int32) : F_X12_turned y (-x) (nI q) = tY q x y := by
  unfold F_X12_turned tY
  have : q = 0 ∨ q = 1 ∨ q = 2 ∨ q = 3 := by omega
  rcases this with rfl | rfl | rfl | rfl
  · rw [if_pos (by decide), if_pos rfl]
  · rw [if_neg (by decide), if_pos (by decide), if_neg (by decide), if_pos rfl, nnI]
  · rw [if_neg (by decide), if_neg (by decide), if_pos (by decide), if_neg (by decide), if_neg (by decide), if_pos rfl]
  · rw [if_neg (by decide), if_neg (by decide), if_neg (by decide), if_neg (by decide), if_neg (by decide), if_neg (by decide)]
theorem co_neg {x : Int32} (h : CO x) : CO (-x) := by
  unfold CO at *
  rw [fb_negI (by omega)]; omega
theorem tX_co {q : Nat} {x y : Int32} (hx : CO x) (hy : CO y) : CO (tX q x y) := by
  unfold tX
  by_cases h0 : q = 0
  · rw [if_pos h0]; exact hx
  · rw [if_neg h0]
    by_cases h1 : q = 1
    · rw [if_pos h1]; exact co_neg hy
    · rw [if_neg h1]
      by_cases h2 : q = 2
      · rw [if_pos h2]; exact co_neg hx
      · rw [if_neg h2]; exact hy
theorem tY_co {q : Nat} {x y : Int32} (hx : CO x) (hy : CO y) : CO (tY q x y) := by
  unfold tY
  by_cases h0 : q = 0
  · rw [if_pos h0]; exact hy
  · rw [if_neg h0]
    by_cases h1 : q = 1
    · rw [if_pos h1]; exact hx
    · rw [if_neg h1]
      by_cases h2 : q = 2
      · rw [if_pos h2]; exact co_neg hy
      · rw [if_neg h2]; exact co_neg hx
theorem ab100 {z : Int32} (h : -1000 ≤ z.toInt ∧ z.toInt ≤ 1000) : (if 0 ≤ z then z else 0 - z) ≤ 100 ↔ -100 ≤ z ∧ z ≤ 100 := by
  have e0 : (0 : Int32).toInt = 0 := by decide
  have e1 : (-100 : Int32).toInt = -100 := by decide
  have e2 : (100 : Int32).toInt = 100 := by decide
  rw [fa_le (-100), fa_le z, e1, e2]
  by_cases q : 0 ≤ z
  · rw [if_pos q, fa_le, e2]
    have := (fa_le _ _).mp q
    omega
  · rw [if_neg q, fa_le, e2, fb_subI (by omega) (by omega), e0]
    have q2 : ¬ (0 : Int32).toInt ≤ z.toInt := fun w => q ((fa_le _ _).mpr w)
    omega
theorem mx100 (a b : Int32) : (if b < a then a else b) ≤ 100 ↔ a ≤ 100 ∧ b ≤ 100 := by
  by_cases q : b < a
  · rw [if_pos q]
    have := (fa_lt _ _).mp q
    constructor
    · intro h
      have h2 := (fa_le _ _).mp h
      exact ⟨h, (fa_le _ _).mpr (by omega)⟩
    · exact fun h => h.1
  · rw [if_neg q]
    have q2 : ¬ b.toInt < a.toInt := fun w => q ((fa_lt _ _).mpr w)
    constructor
    · intro h
      have h2 := (fa_le _ _).mp h
      exact ⟨(fa_le _ _).mpr (by omega), h⟩
    · exact fun h => h.2
section TR
variable (m : Nat → Int32) (p : Nat → Nat) (q : Nat) (dx dy : Int32)
def okP (s k : Nat) : Prop := (-100 ≤ tX q (m (16 + 18 * s + 2 * k)) (m (17 + 18 * s + 2 * k)) + dx ∧ tX q (m (16 + 18 * s + 2 * k)) (m (17 + 18 * s + 2 * k)) + dx ≤ 100) ∧
  (-100 ≤ tY q (m (16 + 18 * s + 2 * k)) (m (17 + 18 * s + 2 * k)) + dy ∧ tY q (m (16 + 18 * s + 2 * k)) (m (17 + 18 * s + 2 * k)) + dy ≤ 100)
def okS (s : Nat) (a : Int32) : Nat → Int32
  | 0 => a
  | k + 1 => if okS s a k = 0 then 0 else F_X12_isPlace (tX q (m (16 + 18 * s + 2 * k)) (m (17 + 18 * s + 2 * k)) + dx) (tY q (m (16 + 18 * s + 2 * k)) (m (17 + 18 * s + 2 * k)) + dy)
def okA : Nat → Int32
  | 0 => 1
  | s + 1 => okS m q dx dy s (okA s) (p s)
end TR
theorem okS_0 {m : Nat → Int32} {q : Nat} {dx dy : Int32} {s : Nat} {a : Int32} {k : Nat} (h : okS m q dx dy s a k = 0) : ∀ j, okS m q dx dy s a (k + j) = 0 := by
  intro j
  induction j with
  | zero => exact h
  | succ j ih =>
    show okS m q dx dy s a (k + j + 1) = 0
    rw [okS, if_pos ih]
theorem okA_0 {m : Nat → Int32} {p : Nat → Nat} {q : Nat} {dx dy : Int32} {s : Nat} (h : okA m p q dx dy s = 0) : ∀ j, okA m p q dx dy (s + j) = 0 := by
  intro j
  induction j with
  | zero => exact h
  | succ j ih =>
    show okS m q dx dy (s + j) (okA m p q dx dy (s + j)) (p (s + j)) = 0
    have e : okS m q dx dy (s + j) (okA m p q dx dy (s + j)) 0 = 0 := ih
    have := okS_0 e (p (s + j))
    rw [Nat.zero_add] at this
    exact this
theorem okS_all {m : Nat → Int32} {q : Nat} {dx dy : Int32} {s : Nat} {a : Int32} : ∀ {k : Nat}, ¬ okS m q dx dy s a k = 0 → ¬ a = 0 ∧ ∀ j, j < k → okP m q dx dy s j := by
  intro k
  induction k with
  | zero => exact fun h => ⟨h, fun j hj => absurd hj (by omega)⟩
  | succ k ih =>
    intro h
    rw [okS] at h
    by_cases z : okS m q dx dy s a k = 0
    · rw [if_pos z] at h; exact absurd rfl h
    · rw [if_neg z] at h
      obtain ⟨h1, h2⟩ := ih z
      refine ⟨h1, fun j hj => ?_⟩
      by_cases hjk : j = k
      · subst hjk
        by_cases o : okP m q dx dy s j
        · exact o
        · exact absurd (ip_out o) h
      · exact h2 j (by omega)
theorem okA_all {m : Nat → Int32} {p : Nat → Nat} {q : Nat} {dx dy : Int32} : ∀ {s : Nat}, ¬ okA m p q dx dy s = 0 → ∀ t, t < s → ∀ k, k < p t → okP m q dx dy t k := by
  intro s
  induction s with
  | zero => exact fun _ t ht => absurd ht (by omega)
  | succ s ih =>
    intro h t ht k hk
    obtain ⟨h1, h2⟩ := okS_all h
    by_cases e : t = s
    · subst e; exact h2 k hk
    · exact ih h1 t (by omega) k hk
theorem okS_01 {m : Nat → Int32} {q : Nat} {dx dy : Int32} {s : Nat} {a : Int32} (ha : a = 0 ∨ a = 1) : ∀ k, okS m q dx dy s a k = 0 ∨ okS m q dx dy s a k = 1 := by
  intro k
  cases k with
  | zero => exact ha
  | succ k =>
    rw [okS]
    by_cases z : okS m q dx dy s a k = 0
    · rw [if_pos z]; exact Or.inl rfl
    · rw [if_neg z]
      by_cases o : okP m q dx dy s k
      · exact Or.inr (ip_in o.1 o.2)
      · exact Or.inl (ip_out o)
theorem okA_01 {m : Nat → Int32} {p : Nat → Nat} {q : Nat} {dx dy : Int32} : ∀ s, okA m p q dx dy s = 0 ∨ okA m p q dx dy s = 1 := by
  intro s
  induction s with
  | zero => exact Or.inr rfl
  | succ s ih => exact okS_01 ih _
theorem can_c {w : Nat} (hw : 1000 ≤ w) {N : Nat} {p : Nat → Nat} {c m : Nat → Int32} (hR : RW N p c m) {q : Nat} (hq : q < 4) {dx dy : Int32} (hdx : -200 ≤ dx.toInt ∧ dx.toInt ≤ 200) (hdy : -200 ≤ dy.toInt ∧ dy.toInt ≤ 200) :
    F_X1_canMove w c (nI q) dx dy = some (okA m p q dx dy N) := by
  have hN4 := hR.1
  unfold F_X1_canMove F_X1_canMove_j3
  have key : ∃ x, lpq (F_X1_canMove_b3 w c (nI q) dx dy) w (nI 0) = some x ∧ ((x = .inl () ∧ okA m p q dx dy N = 0) ∨ (x = .inr () ∧ okA m p q dx dy N = 1)) := by
    refine lpq_i0 (fun i s => s = nI i ∧ i ≤ N ∧ okA m p q dx dy i = 1) _ N ?_ (by omega) ⟨rfl, by omega, rfl⟩
    rintro i s hi ⟨rfl, hiN, hok⟩
    unfold F_X1_canMove_b3 F_X1_canMove_j15
    rw [X1_count, obd_s, hR.c13]
    by_cases he : i = N
    · left
      rw [if_pos (nI_le (by omega) (by omega))]
      exact ⟨_, rfl, Or.inr ⟨rfl, by rw [← he]; exact hok⟩⟩
    · have hs : i < N := by omega
      have g := hR.sp hs
      have h8 := g.2.1
      rw [if_neg (nI_ge hs (by omega))]
      have k2 : ∃ x, lpq (F_X1_canMove_b15 c (nI q) dx dy (nI i)) w (nI 0) = some x ∧ ((x = .inl () ∧ okA m p q dx dy (i + 1) = 0) ∨ (x = .inr () ∧ okA m p q dx dy (i + 1) = 1)) := by
        refine lpq_i0 (fun k s => s = nI k ∧ k ≤ p i ∧ okS m q dx dy i 1 k = 1) _ (p i) ?_ (by omega) ⟨rfl, by omega, rfl⟩
        rintro k s hk ⟨rfl, hkp, hokk⟩
        unfold F_X1_canMove_b15
        rw [X1_pts hR.c13 hs hN4, obd_s, g.pc]
        by_cases hke : k = p i
        · left
          rw [if_pos (nI_le (by omega) (by omega))]
          refine ⟨_, rfl, Or.inr ⟨rfl, ?_⟩⟩
          show okS m q dx dy i (okA m p q dx dy i) (p i) = 1
          rw [hok, ← hke]; exact hokk
        · have hk2 : k < p i := by omega
          have xy := g.xy hk2
          rw [if_neg (nI_ge hk2 (by omega)), X1_x (by omega) (by omega), obd_s, X1_y (by omega) (by omega), obd_s, lt_eq, tX_c hq, lt_eq]
          rw [obd_s, obd_s, lt_eq, tY_c hq, lt_eq, lt_eq, lt_eq, xy.1, xy.2.1]
          have bx := tX_co (q := q) xy.2.2.1 xy.2.2.2
          have by_ := tY_co (q := q) xy.2.2.1 xy.2.2.2
          unfold CO at bx by_
          have sx := fb_addI (x := tX q (m (16 + 18 * i + 2 * k)) (m (17 + 18 * i + 2 * k))) (y := dx) (by omega) (by omega)
          have sy := fb_addI (x := tY q (m (16 + 18 * i + 2 * k)) (m (17 + 18 * i + 2 * k))) (y := dy) (by omega) (by omega)
          by_cases o : okP m q dx dy i k
          · right
            rw [if_pos ((mx100 _ _).mpr ⟨(ab100 (by omega)).mpr o.2, (ab100 (by omega)).mpr o.1⟩), lt_eq]
            refine ⟨hk2, _, rfl, by rw [zl_1, nI_add], by omega, ?_⟩
            rw [okS, hokk, if_neg (by decide)]
            exact ip_in o.1 o.2
          · left
            rw [if_neg (fun h => o ⟨(ab100 (by omega)).mp ((mx100 _ _).mp h).2, (ab100 (by omega)).mp ((mx100 _ _).mp h).1⟩)]
            refine ⟨_, rfl, Or.inl ⟨rfl, ?_⟩⟩
            show okS m q dx dy i (okA m p q dx dy i) (p i) = 0
            rw [hok]
            have z : okS m q dx dy i 1 (k + 1) = 0 := by
              rw [okS, hokk, if_neg (by decide)]
              exact ip_out o
            have := okS_0 z (p i - (k + 1))
            rw [show k + 1 + (p i - (k + 1)) = p i from by omega] at this
            exact this
      obtain ⟨x, e, hx⟩ := k2
      have e' : lpq (F_X1_canMove_b15 c (nI q) dx dy (nI i)) w 0 = some x := e
      rw [e', obd_s]
      rcases hx with ⟨rfl, hx⟩ | ⟨rfl, hx⟩
      · left
        refine ⟨.inl (), rfl, Or.inl ⟨rfl, ?_⟩⟩
        have := okA_0 hx (N - (i + 1))
        rw [show i + 1 + (N - (i + 1)) = N from by omega] at this
        exact this
      · right
        refine ⟨hs, nI (i + 1), ?_, rfl, by omega, hx⟩
        show F_X1_canMove_j100 (nI i) = _
        unfold F_X1_canMove_j100
        rw [lt_eq, zl_1, nI_add]
  obtain ⟨x, e, hx⟩ := key
  have e' : lpq (F_X1_canMove_b3 w c (nI q) dx dy) w 0 = some x := e
  rw [e', obd_s]
  rcases hx with ⟨rfl, hx⟩ | ⟨rfl, hx⟩
  · rw [hx]; rfl
  · rw [hx]; rfl
theorem can_m {w : Nat} (hw : 1000 ≤ w) {N : Nat} {p : Nat → Nat} {c m : Nat → Int32} (hR : RW N p c m) {q : Nat} (hq : q < 4) (dx dy : Int32) :
    lpq (F_X12_transform_b58 w m (nI q) dx dy) w (1, 0, 0) = some (okA m p q dx dy N, nI (fb_sm p N)) := by
  have hN4 := hR.1
  have key : lpq (F_X12_transform_b58 w m (nI q) dx dy) w (okA m p q dx dy 0, nI (fb_sm p 0), nI 0) = some (okA m p q dx dy N, nI (fb_sm p N)) := by
    refine lpq_run N (fun s => (okA m p q dx dy s, nI (fb_sm p s), nI s)) (fun s hs => ?_) ?_ (by omega)
    · have g := hR.sp hs
      have h8 := g.2.1
      unfold F_X12_transform_b58 F_X12_transform_j73
      rw [gd_13, cl_13, hR.m13]
      show (if nI N ≤ nI s then _ else obd (lpq (F_X12_transform_b73 m (nI q) dx dy (nI s)) w (okA m p q dx dy s, nI (fb_sm p s), 0)) _) = _
      rw [if_neg (nI_ge hs (by omega))]
      have k2 : lpq (F_X12_transform_b73 m (nI q) dx dy (nI s)) w (okS m q dx dy s (okA m p q dx dy s) 0, nI (fb_sm p s + 0), nI 0) = some (okS m q dx dy s (okA m p q dx dy s) (p s), nI (fb_sm p s + p s)) := by
        refine lpq_run (p s) (fun k => (okS m q dx dy s (okA m p q dx dy s) k, nI (fb_sm p s + k), nI k)) (fun k hk => ?_) ?_ (by omega)
        · unfold F_X12_transform_b73 F_X12_transform_j144 F_X12_transform_j145
          rw [m_pts (by omega), obd_s, g.pm]
          simp only [lt_eq, zl_1, nI_add]
          rw [if_neg (nI_ge hk (by omega))]
          show _ = some (Sum.inl (okS m q dx dy s (okA m p q dx dy s) (k + 1), nI (fb_sm p s + k + 1), nI (k + 1)))
          rw [okS]
          by_cases z : okS m q dx dy s (okA m p q dx dy s) k = 0
          · rw [if_pos z, if_pos z]
          · rw [if_neg z, if_neg z, m_x (by omega) (by omega), obd_s, m_y (by omega) (by omega), obd_s, obd_s, obd_s, tX_m hq, tY_m hq]
            by_cases o : F_X12_isPlace (tX q (m (16 + 18 * s + 2 * k)) (m (17 + 18 * s + 2 * k)) + dx) (tY q (m (16 + 18 * s + 2 * k)) (m (17 + 18 * s + 2 * k)) + dy) = 0
            · rw [if_pos o, o]
            · rw [if_neg o]
              have o1 : F_X12_isPlace (tX q (m (16 + 18 * s + 2 * k)) (m (17 + 18 * s + 2 * k)) + dx) (tY q (m (16 + 18 * s + 2 * k)) (m (17 + 18 * s + 2 * k)) + dy) = 1 := by
                by_cases o2 : okP m q dx dy s k
                · exact ip_in o2.1 o2.2
                · exact absurd (ip_out o2) o
              rw [o1]; rfl
        · unfold F_X12_transform_b73
          rw [m_pts (by omega), obd_s, g.pm]
          exact if_pos (nI_le (Nat.le_refl _) (by omega))
      have k3 : lpq (F_X12_transform_b73 m (nI q) dx dy (nI s)) w (okA m p q dx dy s, nI (fb_sm p s), 0) = some (okS m q dx dy s (okA m p q dx dy s) (p s), nI (fb_sm p s + p s)) := k2
      rw [k3, obd_s]
      unfold F_X12_transform_j156
      rw [lt_eq]
      show some (Sum.inl (okS m q dx dy s (okA m p q dx dy s) (p s), nI (fb_sm p s + p s), nI s + 1)) = _
      rw [zl_1, nI_add]; rfl
    · unfold F_X12_transform_b58
      rw [gd_13, cl_13, hR.m13]
      exact if_pos (nI_le (Nat.le_refl _) (by omega))
  exact key
/-- the row while the points move -/
def mvR (c : Nat → Int32) (p : Nat → Nat) (q : Nat) (dx dy : Int32) (s k : Nat) : Nat → Int32 := fun j =>
  if 16 ≤ j ∧ 2 ≤ (j - 14) % 18 ∧ (((j - 14) / 18 < s ∧ ((j - 14) % 18 - 2) / 2 < p ((j - 14) / 18)) ∨ ((j - 14) / 18 = s ∧ ((j - 14) % 18 - 2) / 2 < k)) then
    (if j % 2 = 0 then tX q (c j) (c (j + 1)) + dx else tY q (c (j - 1)) (c j) + dy) else c j
section MV
variable {c : Nat → Int32} {p : Nat → Nat} {q : Nat} {dx dy : Int32}
theorem mv_in {s k j : Nat} (h : 16 ≤ j ∧ 2 ≤ (j - 14) % 18 ∧ (((j - 14) / 18 < s ∧ ((j - 14) % 18 - 2) / 2 < p ((j - 14) / 18)) ∨ ((j - 14) / 18 = s ∧ ((j - 14) % 18 - 2) / 2 < k))) : mvR c p q dx dy s k j = (if j % 2 = 0 then tX q (c j) (c (j + 1)) + dx else tY q (c (j - 1)) (c j) + dy) := if_pos h
theorem mv_out {s k j : Nat} (h : ¬ (16 ≤ j ∧ 2 ≤ (j - 14) % 18 ∧ (((j - 14) / 18 < s ∧ ((j - 14) % 18 - 2) / 2 < p ((j - 14) / 18)) ∨ ((j - 14) / 18 = s ∧ ((j - 14) % 18 - 2) / 2 < k)))) : mvR c p q dx dy s k j = c j := if_neg h
theorem mv_00 : mvR c p q dx dy 0 0 = c := funext fun j => mv_out (by omega)
theorem mv_ss (s : Nat) : mvR c p q dx dy s (p s) = mvR c p q dx dy (s + 1) 0 := by
  funext j
  by_cases e : (j - 14) / 18 = s
  · by_cases z : 16 ≤ j ∧ 2 ≤ (j - 14) % 18 ∧ ((j - 14) % 18 - 2) / 2 < p s
    · rw [mv_in ⟨z.1, z.2.1, Or.inr ⟨e, z.2.2⟩⟩, mv_in ⟨z.1, z.2.1, Or.inl ⟨by omega, by rw [e]; exact z.2.2⟩⟩]
    · rw [mv_out (fun h => z ⟨h.1, h.2.1, by rcases h.2.2 with h | h; exact absurd h.1 (by omega); exact h.2⟩), mv_out (fun h => z ⟨h.1, h.2.1, by rcases h.2.2 with h | h; rw [e] at h; exact h.2; exact absurd h.1 (by omega)⟩)]
  · by_cases z : 16 ≤ j ∧ 2 ≤ (j - 14) % 18 ∧ (((j - 14) / 18 < s ∧ ((j - 14) % 18 - 2) / 2 < p ((j - 14) / 18)) ∨ ((j - 14) / 18 = s ∧ ((j - 14) % 18 - 2) / 2 < p s))
    · rw [mv_in z, mv_in (by omega)]
    · rw [mv_out z, mv_out (by omega)]
theorem mv_old {s k : Nat} (hk : k < 8) : mvR c p q dx dy s k (16 + 18 * s + 2 * k) = c (16 + 18 * s + 2 * k) ∧ mvR c p q dx dy s k (17 + 18 * s + 2 * k) = c (17 + 18 * s + 2 * k) := ⟨mv_out (by omega), mv_out (by omega)⟩
theorem mv_s {s k : Nat} (hk : k < 8) : upd (upd (mvR c p q dx dy s k) (16 + 18 * s + 2 * k) (tX q (c (16 + 18 * s + 2 * k)) (c (17 + 18 * s + 2 * k)) + dx)) (17 + 18 * s + 2 * k) (tY q (c (16 + 18 * s + 2 * k)) (c (17 + 18 * s + 2 * k)) + dy) = mvR c p q dx dy s (k + 1) := by
  funext j
  by_cases q1 : j = 17 + 18 * s + 2 * k
  · rw [q1, ud_e rfl, mv_in (by omega), if_neg (by omega), show 17 + 18 * s + 2 * k - 1 = 16 + 18 * s + 2 * k from by omega]
  · rw [ud_n q1]
    by_cases q2 : j = 16 + 18 * s + 2 * k
    · rw [q2, ud_e rfl, mv_in (by omega), if_pos (by omega), show 16 + 18 * s + 2 * k + 1 = 17 + 18 * s + 2 * k from by omega]
    · rw [ud_n q2]
      by_cases z : 16 ≤ j ∧ 2 ≤ (j - 14) % 18 ∧ (((j - 14) / 18 < s ∧ ((j - 14) % 18 - 2) / 2 < p ((j - 14) / 18)) ∨ ((j - 14) / 18 = s ∧ ((j - 14) % 18 - 2) / 2 < k))
      · rw [mv_in z, mv_in (by omega)]
      · rw [mv_out z, mv_out (by omega)]
theorem mv_hd {s k t : Nat} (h : t < 16 ∨ (t - 14) % 18 < 2) : mvR c p q dx dy s k t = c t := mv_out (by omega)
end MV
theorem move_c {w : Nat} (hw : 1000 ≤ w) {N : Nat} {p : Nat → Nat} {c m : Nat → Int32} (hR : RW N p c m) {q : Nat} (hq : q < 4) (dx dy : Int32) :
    F_X1_move w c (nI q) dx dy = some (nI (fb_sm p N), mvR c p q dx dy N 0) := by
  have hN4 := hR.1
  unfold F_X1_move F_X1_move_j12
  rw [X1_count, obd_s, hR.c13]
  have key : lpq (F_X1_move_b12 w (nI q) dx dy (nI N)) w (nI (fb_sm p 0), nI 0, mvR c p q dx dy 0 0) = some (nI (fb_sm p N), mvR c p q dx dy N 0) := by
    refine lpq_run N (fun s => (nI (fb_sm p s), nI s, mvR c p q dx dy s 0)) (fun s hs => ?_) ?_ (by omega)
    · have g := hR.sp hs
      have h8 := g.2.1
      have c13 : ∀ k, mvR c p q dx dy s k 13 = nI N := fun k => by rw [mv_hd (by omega)]; exact hR.c13
      unfold F_X1_move_b12 F_X1_move_j30
      show (if nI N ≤ nI s then _ else obd (F_X1_pointCount (mvR c p q dx dy s 0) (nI s)) _) = _
      rw [if_neg (nI_ge hs (by omega)), X1_pts (c13 0) hs hN4, obd_s, mv_hd (by omega), g.pc]
      have k2 : lpq (F_X1_move_b30 (nI q) dx dy (nI s) (nI (p s))) w (nI (fb_sm p s + 0), nI 0, mvR c p q dx dy s 0) = some (nI (fb_sm p s + p s), mvR c p q dx dy s (p s)) := by
        refine lpq_run (p s) (fun k => (nI (fb_sm p s + k), nI k, mvR c p q dx dy s k)) (fun k hk => ?_) ?_ (by omega)
        · have o := mv_old (c := c) (p := p) (q := q) (dx := dx) (dy := dy) (s := s) (show k < 8 by omega)
          unfold F_X1_move_b30
          simp only [lt_eq, zl_1, nI_add]
          rw [if_neg (nI_ge hk (by omega)), X1_x (by omega) (by omega), obd_s, X1_y (by omega) (by omega), obd_s, obd_s, obd_s, o.1, o.2, tX_c hq, tY_c hq, X1_pp (by omega) (by omega), obd_s, mv_s (by omega)]
          rfl
        · unfold F_X1_move_b30
          exact if_pos (nI_le (Nat.le_refl _) (by omega))
      have k3 : lpq (F_X1_move_b30 (nI q) dx dy (nI s) (nI (p s))) w (nI (fb_sm p s), 0, mvR c p q dx dy s 0) = some (nI (fb_sm p s + p s), mvR c p q dx dy s (p s)) := k2
      show obd (lpq (F_X1_move_b30 (nI q) dx dy (nI s) (nI (p s))) w (nI (fb_sm p s), 0, mvR c p q dx dy s 0)) _ = _
      rw [k3, obd_s]
      unfold F_X1_move_j106
      rw [lt_eq, mv_ss]
      show some (Sum.inl (nI (fb_sm p s + p s), nI s + 1, mvR c p q dx dy (s + 1) 0)) = _
      rw [zl_1, nI_add]; rfl
    · unfold F_X1_move_b12
      exact if_pos (nI_le (Nat.le_refl _) (by omega))
  have key2 : lpq (F_X1_move_b12 w (nI q) dx dy (nI N)) w (0, 0, c) = some (nI (fb_sm p N), mvR c p q dx dy N 0) := by
    rw [mv_00] at key; exact key
  rw [key2, obd_s]; rfl
theorem move_m {w : Nat} (hw : 1000 ≤ w) {N : Nat} {p : Nat → Nat} {c m : Nat → Int32} (hR : RW N p c m) {q : Nat} (hq : q < 4) (dx dy : Int32) :
    lpq (F_X12_transform_b188 w (nI q) dx dy) w (0, m) = some (mvR m p q dx dy N 0) := by
  have hN4 := hR.1
  have key : lpq (F_X12_transform_b188 w (nI q) dx dy) w (nI 0, mvR m p q dx dy 0 0) = some (mvR m p q dx dy N 0) := by
    refine lpq_run N (fun s => (nI s, mvR m p q dx dy s 0)) (fun s hs => ?_) ?_ (by omega)
    · have g := hR.sp hs
      have h8 := g.2.1
      have m13 : ∀ s k, mvR m p q dx dy s k 13 = nI N := fun s k => by rw [mv_hd (by omega)]; exact hR.m13
      unfold F_X12_transform_b188 F_X12_transform_j203
      rw [gd_13, cl_13]
      show (if mvR m p q dx dy s 0 13 ≤ nI s then _ else obd (lpq (F_X12_transform_b203 (nI q) dx dy (nI s)) w (0, mvR m p q dx dy s 0)) _) = _
      rw [m13, if_neg (nI_ge hs (by omega))]
      have k2 : lpq (F_X12_transform_b203 (nI q) dx dy (nI s)) w (nI 0, mvR m p q dx dy s 0) = some (mvR m p q dx dy s (p s)) := by
        refine lpq_run (p s) (fun k => (nI k, mvR m p q dx dy s k)) (fun k hk => ?_) ?_ (by omega)
        · have o := mv_old (c := m) (p := p) (q := q) (dx := dx) (dy := dy) (s := s) (show k < 8 by omega)
          unfold F_X12_transform_b203
          simp only [lt_eq, zl_1, nI_add]
          rw [m_pts (by omega), obd_s, mv_hd (by omega), g.pm, if_neg (nI_ge hk (by omega)), m_x (by omega) (by omega), obd_s, m_y (by omega) (by omega), obd_s, obd_s, obd_s, o.1, o.2, tX_m hq, tY_m hq, m_pp (by omega) (by omega), obd_s, mv_s (by omega)]
        · unfold F_X12_transform_b203
          show obd (F_X12_points (mvR m p q dx dy s (p s)) (nI s)) _ = _
          rw [m_pts (by omega), obd_s, mv_hd (by omega), g.pm]
          exact if_pos (nI_le (Nat.le_refl _) (by omega))
      have k3 : lpq (F_X12_transform_b203 (nI q) dx dy (nI s)) w (0, mvR m p q dx dy s 0) = some (mvR m p q dx dy s (p s)) := k2
      rw [k3, obd_s]
      unfold F_X12_transform_j273
      rw [lt_eq, mv_ss]
      show some (Sum.inl (nI s + 1, mvR m p q dx dy (s + 1) 0)) = _
      rw [zl_1, nI_add]
    · unfold F_X12_transform_b188
      rw [gd_13, cl_13]
      show (if mvR m p q dx dy N 0 13 ≤ nI N then _ else _) = _
      rw [show mvR m p q dx dy N 0 13 = nI N from by rw [mv_hd (by omega)]; exact hR.m13]
      exact if_pos (nI_le (Nat.le_refl _) (by omega))
  rw [mv_00] at key
  exact key
theorem RW_move {N : Nat} {p : Nat → Nat} {c m : Nat → Int32} {q : Nat} {dx dy : Int32} (h : RW N p c m) (ho : ¬ okA m p q dx dy N = 0) : RW N p (mvR c p q dx dy N 0) (mvR m p q dx dy N 0) := by
  have h4 := h.1
  refine ⟨h.1, by rw [mv_hd (by omega)]; exact h.c13, by rw [mv_hd (by omega)]; exact h.m13, h.st.fr (fun i hi => mv_hd (by omega)) (fun i hi => mv_hd (by omega)), fun s hs => ?_⟩
  have g := h.sp hs
  have h8 := g.2.1
  refine ⟨g.1, g.2.1, by rw [mv_hd (by omega)]; exact g.pc, by rw [mv_hd (by omega)]; exact g.pm, by rw [mv_hd (by omega), mv_hd (by omega)]; exact g.cl, by rw [mv_hd (by omega)]; exact g.bo, fun k hk => ?_⟩
  have x := g.xy hk
  have e1 : (16 + 18 * s + 2 * k - 14) / 18 = s := by omega
  have e2 : (17 + 18 * s + 2 * k - 14) / 18 = s := by omega
  have i1 : ∀ r : Nat → Int32, mvR r p q dx dy N 0 (16 + 18 * s + 2 * k) = tX q (r (16 + 18 * s + 2 * k)) (r (17 + 18 * s + 2 * k)) + dx := fun r => by
    rw [mv_in ⟨by omega, by omega, Or.inl ⟨by omega, by rw [e1]; omega⟩⟩, if_pos (by omega), show 16 + 18 * s + 2 * k + 1 = 17 + 18 * s + 2 * k from by omega]
  have i2 : ∀ r : Nat → Int32, mvR r p q dx dy N 0 (17 + 18 * s + 2 * k) = tY q (r (16 + 18 * s + 2 * k)) (r (17 + 18 * s + 2 * k)) + dy := fun r => by
    rw [mv_in ⟨by omega, by omega, Or.inl ⟨by omega, by rw [e2]; omega⟩⟩, if_neg (by omega), show 17 + 18 * s + 2 * k - 1 = 16 + 18 * s + 2 * k from by omega]
  have o := okA_all ho s hs k hk
  rw [i1, i1, i2, i2, x.1, x.2.1]
  exact ⟨rfl, rfl, co_of o.1, co_of o.2⟩
set_option maxHeartbeats 1000000 in
theorem ag_transform {CA : Nat → (Nat → Nat) → (Nat → Int32) → SC → Prop} (hz : CAz CA) : Ag_transform (Inv CA) := by
  unfold Ag_transform
  intro d0 d1 d2 d3 d4 d5 d6 d7 d8 d9 d10 d11 d12 d13 d14 d15 d16 d17 d18 d19 d20 d21 d22 d23 d24 d25 d26 d27 d28 d29 d30 d31 d32 d33 d34 d35 d36 d37 d38 d39 d40 d41 d42 d43 d44 d45 d46 d47 d48 d49 d50 m0 m1 m2 m3 m4 m5 m6 m7 m8 m9 m10 m11 m12 m13 m14 m15 m16 m17 m18 m19 m20 m21 m22 m23 m24 m25 m26 m27 m28 m29 m30 p1 p2 p3 hI
  obtain ⟨N, p, hR, hH, hT, hC⟩ := Inv_un hI
  have hN4 := hR.1
  have c13 := hR.c13
  have m13 := hR.m13
  by_cases hx : (0 ≤ p1 ∧ p1 ≤ 3) ∧ (-200 ≤ p2 ∧ p2 ≤ 200) ∧ (-200 ≤ p3 ∧ p3 ≤ 200)
  · obtain ⟨q, hq, rfl⟩ : ∃ q, q < 4 ∧ p1 = nI q := by
      obtain ⟨k, a, b⟩ := nn_i (x := p1) (b := 3) ((fa_le 0 p1).mp hx.1.1) ((fa_le p1 3).mp hx.1.2)
      exact ⟨k, by omega, b⟩
    have bx : -200 ≤ p2.toInt ∧ p2.toInt ≤ 200 := rg_of hx.2.1
    have by_ : -200 ≤ p3.toInt ∧ p3.toInt ≤ 200 := rg_of hx.2.2
    have kc := can_c (w := 1000) (by omega) hR hq bx by_
    have km := can_m (w := 1000) (by omega) hR hq p2 p3
    rcases okA_01 (m := m14) (p := p) (q := q) (dx := p2) (dy := p3) N with o | o
    · refine Or.inr (Or.inr ⟨1000, 1000, (2, d0, d2, d3, d12), (0, m0, 2, m14, m15), ?_, rfl, ?_, rfl, Inv_mk hR hH hT hC⟩)
      · unfold F_X11_transform
        rw [ck_in hx.1, obx_l, ck_in hx.2.1, obx_l, ck_in hx.2.2, obx_l, kc, obd_s, o, cs_0, obx_r]
      · unfold F_X12_transform F_X12_transform_j41 F_X12_transform_j58
        rw [wi_in hx.1, lt_eq, if_neg (by decide), wi_in hx.2.1, lt_eq, if_neg (by decide), wi_in hx.2.2, lt_eq, if_neg (by decide), rf_0, lt_eq, if_pos rfl, km, obd_s, o]
        unfold F_X12_transform_j162 F_X12_transform_j173
        rw [if_pos rfl, rf_2, lt_eq, if_neg (by decide)]
    · obtain ⟨y, a', b', s1, s2, s3⟩ := save_both (n := 1000) (by omega) hR hH
      have hR' := RW_move (q := q) (dx := p2) (dy := p3) hR (by rw [o]; decide)
      refine Or.inl ⟨1000, 1000, (nI (fb_sm p N), mvR d0 p q p2 p3 N 0, y, a', 0), (nI (fb_sm p N), y, 0, mvR m14 p q p2 p3 N 0, b'), ?_, ?_, rfl, rfl, Inv_mk hR' s3 hT (hz _ _ _ _)⟩
      · unfold F_X11_transform
        rw [ck_in hx.1, obx_l, ck_in hx.2.1, obx_l, ck_in hx.2.2, obx_l, kc, obd_s, o, cs_1, obx_l, s1, obd_s, move_c (by omega) hR hq, obd_s]
      · unfold F_X12_transform F_X12_transform_j41 F_X12_transform_j58
        rw [wi_in hx.1, lt_eq, if_neg (by decide), wi_in hx.2.1, lt_eq, if_neg (by decide), wi_in hx.2.2, lt_eq, if_neg (by decide), rf_0, lt_eq, if_pos rfl, km, obd_s, o]
        unfold F_X12_transform_j162 F_X12_transform_j173 F_X12_transform_j188 F_X12_transform_j279
        rw [if_neg (show ¬ (1 : Int32) = 0 from by decide), rf_0, lt_eq, if_pos rfl, s2, obd_s, move_m (by omega) hR hq, obd_s]
  · refine Or.inr (Or.inl ⟨0, 0, (1, d0, d2, d3, d12), (0, m0, 1, m14, m15), ?_, rfl, ?_, rfl, Inv_mk hR hH hT hC⟩)
    · unfold F_X11_transform
      by_cases q1 : 0 ≤ p1 ∧ p1 ≤ 3
      · rw [ck_in q1, obx_l]
        by_cases q2 : -200 ≤ p2 ∧ p2 ≤ 200
        · rw [ck_in q2, obx_l, ck_out (fun q3 => hx ⟨q1, q2, q3⟩), obx_r]
        · rw [ck_out q2, obx_r]
      · rw [ck_out q1, obx_r]
    · unfold F_X12_transform F_X12_transform_j40 F_X12_transform_j41
      by_cases q1 : 0 ≤ p1 ∧ p1 ≤ 3
      · rw [wi_in q1, lt_eq, if_neg (by decide)]
        by_cases q2 : -200 ≤ p2 ∧ p2 ≤ 200
        · rw [wi_in q2, lt_eq, if_neg (by decide), wi_out (fun q3 => hx ⟨q1, q2, q3⟩), lt_eq, if_pos rfl, rf_1, lt_eq, if_neg (by decide)]
        · rw [wi_out q2, lt_eq, if_pos rfl, rf_1, lt_eq, if_neg (by decide)]
      · rw [wi_out q1, lt_eq, if_pos rfl, rf_1, lt_eq, if_neg (by decide)]
