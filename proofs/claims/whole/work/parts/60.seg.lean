/-! ===== segments of a subpath, as both sides see them ===== -/
theorem hx_ap {α : Type} {l : List α} {a b : α} {i : Nat} (h : (l ++ [a])[i]? = some b) : (i < l.length ∧ l[i]? = some b) ∨ (i = l.length ∧ b = a) := by
  by_cases q : i < l.length
  · rw [List.getElem?_append_left q] at h; exact Or.inl ⟨q, h⟩
  · rw [List.getElem?_append_right (by omega)] at h
    obtain ⟨j, hj⟩ : ∃ j, j = i - l.length := ⟨_, rfl⟩
    rw [← hj] at h
    cases j with
    | zero => exact Or.inr ⟨by omega, (Option.some.inj h).symm⟩
    | succ j => exact absurd h (by simp)
theorem hx_lt {α : Type} {l : List α} {b : α} {i : Nat} (h : l[i]? = some b) : i < l.length := by
  by_cases q : i < l.length
  · exact q
  · rw [List.getElem?_eq_none (by omega)] at h; exact absurd h (by simp)
theorem hx_at {α : Type} {l : List α} {i : Nat} (h : i < l.length) : ∃ b, l[i]? = some b := ⟨_, List.getElem?_eq_getElem h⟩
def sgS (f : Nat → Nat) (l : List Nat) (i : Nat) : Nat := ((l.take i).map f).sum
theorem sgS_0 (f : Nat → Nat) (l : List Nat) : sgS f l 0 = 0 := by simp [sgS]
theorem sgS_s {f : Nat → Nat} {l : List Nat} {i k : Nat} (h : l[i]? = some k) : sgS f l (i + 1) = sgS f l i + f k := by
  unfold sgS
  rw [List.take_add_one, h]; simp
theorem sgS_ap {f : Nat → Nat} {l : List Nat} {i k : Nat} (h : i ≤ l.length) : sgS f (l ++ [k]) i = sgS f l i := by
  unfold sgS
  rw [List.take_append_of_le_length h]
theorem sgS_mono {f : Nat → Nat} {l : List Nat} (i : Nat) : ∀ j, sgS f l i ≤ sgS f l (i + j) := by
  intro j
  induction j with
  | zero => exact Nat.le_refl _
  | succ j ih =>
    by_cases q : i + j < l.length
    · obtain ⟨b, hb⟩ := hx_at q
      have := sgS_s (f := f) hb
      rw [show i + (j + 1) = i + j + 1 from rfl]; omega
    · have e : sgS f l (i + (j + 1)) = sgS f l (i + j) := by
        unfold sgS
        rw [List.take_of_length_le (by omega), List.take_of_length_le (by omega)]
      omega
def sgx (m : Nat → Int32) (s n k : Nat) : Int32 := m (16 + 18 * s + 2 * ((k + 1) % n)) - m (16 + 18 * s + 2 * k)
def sgy (m : Nat → Int32) (s n k : Nat) : Int32 := m (17 + 18 * s + 2 * ((k + 1) % n)) - m (17 + 18 * s + 2 * k)
/-- the steps that count, by the index of the point that they begin at -/
def sgL (m : Nat → Int32) (s n : Nat) : Nat → List Nat
  | 0 => []
  | k + 1 => if sgx m s n k = 0 ∧ sgy m s n k = 0 then sgL m s n k else sgL m s n k ++ [k]
def sgE (m : Nat → Int32) (s n : Nat) : Nat := if m (15 + 18 * s) = 1 then n else n - 1
def sg (N : Nat) (p : Nat → Nat) (m : Nat → Int32) (s : Nat) : List Nat := if s < N then sgL m s (p s) (sgE m s (p s)) else []
def sgq (m : Nat → Int32) (s n k : Nat) : Nat := (sgx m s n k).toInt.natAbs * (sgx m s n k).toInt.natAbs + (sgy m s n k).toInt.natAbs * (sgy m s n k).toInt.natAbs
def sgl (m : Nat → Int32) (s n k : Nat) : Nat := rtS (4096 * sgq m s n k)
def sA (N : Nat) (p : Nat → Nat) (m : Nat → Int32) (s g : Nat) : Nat := sgS (sgl m s (p s)) (sg N p m s) g
def sW (N : Nat) (p : Nat → Nat) (m : Nat → Int32) (s : Nat) : Nat := sA N p m s (sg N p m s).length
theorem sq_nI (x y : Int32) : x * x + y * y = nI (x.toInt.natAbs * x.toInt.natAbs + y.toInt.natAbs * y.toInt.natAbs) := by
  rw [ii_n, Int.natCast_add, Int.natAbs_mul_self, Int.natAbs_mul_self, ← ii_add, ← ii_mul, ← ii_mul, ii_of, ii_of]
theorem sgL_len (m : Nat → Int32) (s n : Nat) : ∀ k, (sgL m s n k).length ≤ k := by
  intro k
  induction k with
  | zero => exact Nat.le_refl _
  | succ k ih =>
    unfold sgL
    by_cases q : sgx m s n k = 0 ∧ sgy m s n k = 0
    · rw [if_pos q]; omega
    · rw [if_neg q, List.length_append]; show _ + 1 ≤ _; omega
theorem sgL_at {m : Nat → Int32} {s n : Nat} : ∀ {k i j : Nat}, (sgL m s n k)[i]? = some j → j < k ∧ ¬ (sgx m s n j = 0 ∧ sgy m s n j = 0) := by
  intro k
  induction k with
  | zero => intro i j h; exact absurd h (by simp [sgL])
  | succ k ih =>
    intro i j h
    unfold sgL at h
    by_cases q : sgx m s n k = 0 ∧ sgy m s n k = 0
    · rw [if_pos q] at h; exact ⟨by have := (ih h).1; omega, (ih h).2⟩
    · rw [if_neg q] at h
      rcases hx_ap h with ⟨_, h1⟩ | ⟨_, rfl⟩
      · exact ⟨by have := (ih h1).1; omega, (ih h1).2⟩
      · exact ⟨by omega, q⟩
/-- what a step is -/
theorem stp {s n : Nat} {c m : Nat → Int32} (h : SP s n c m) {k : Nat} (hk : k < n) : (-200 ≤ (sgx m s n k).toInt ∧ (sgx m s n k).toInt ≤ 200) ∧ (-200 ≤ (sgy m s n k).toInt ∧ (sgy m s n k).toInt ≤ 200) := by
  have h1 := (h.xy hk).2.2
  have h2 := (h.xy (k := (k + 1) % n) (Nat.mod_lt _ (by omega))).2.2
  unfold CO at h1 h2
  unfold sgx sgy
  rw [fb_subI (by omega) (by omega), fb_subI (by omega) (by omega)]
  omega
theorem sgq_le {s n : Nat} {c m : Nat → Int32} (h : SP s n c m) {k : Nat} (hk : k < n) : sgq m s n k ≤ 80000 := by
  have h1 := stp h hk
  have a1 : (sgx m s n k).toInt.natAbs ≤ 200 := by omega
  have a2 : (sgy m s n k).toInt.natAbs ≤ 200 := by omega
  have b1 := Nat.mul_le_mul a1 a1
  have b2 := Nat.mul_le_mul a2 a2
  unfold sgq; omega
theorem sgq_pos {m : Nat → Int32} {s n k : Nat} (h : ¬ (sgx m s n k = 0 ∧ sgy m s n k = 0)) : 1 ≤ sgq m s n k := by
  unfold sgq
  by_cases q : sgx m s n k = 0
  · have q2 : ¬ sgy m s n k = 0 := fun e => h ⟨q, e⟩
    have : (sgy m s n k).toInt ≠ 0 := fun e => q2 (by rw [fa_eq, e]; rfl)
    have a : 1 ≤ (sgy m s n k).toInt.natAbs := by omega
    have := Nat.mul_le_mul a a
    omega
  · have : (sgx m s n k).toInt ≠ 0 := fun e => q (by rw [fa_eq, e]; rfl)
    have a : 1 ≤ (sgx m s n k).toInt.natAbs := by omega
    have := Nat.mul_le_mul a a
    omega
theorem sgl_le {s n : Nat} {c m : Nat → Int32} (h : SP s n c m) {k : Nat} (hk : k < n) : sgl m s n k ≤ 18101 := by
  have h1 := sgq_le h hk
  have h2 := (rtS_sq (4096 * sgq m s n k)).1
  unfold sgl
  by_cases q : rtS (4096 * sgq m s n k) ≤ 18101
  · exact q
  · have := sq_mono (a := 18102) (b := rtS (4096 * sgq m s n k)) (by omega)
    omega
theorem sgl_ge {m : Nat → Int32} {s n k : Nat} (h : ¬ (sgx m s n k = 0 ∧ sgy m s n k = 0)) : 64 ≤ sgl m s n k := by
  have h1 := sgq_pos h
  have h2 := (rtS_sq (4096 * sgq m s n k)).2
  unfold sgl
  by_cases q : 64 ≤ rtS (4096 * sgq m s n k)
  · exact q
  · have := sq_mono (a := rtS (4096 * sgq m s n k) + 1) (b := 64) (by omega)
    omega
/-- the reference's arrays hold the segments l -/
def HoR (m : Nat → Int32) (s n : Nat) (l : List Nat) (ax ay bx bz sl sa : Nat → Int32) : Prop :=
  ∀ i k, l[i]? = some k → ax i = sgx m s n k ∧ ay i = sgy m s n k ∧ bx i = m (16 + 18 * s + 2 * k) ∧ bz i = m (17 + 18 * s + 2 * k) ∧ sl i = nI (sgl m s n k) ∧ sa i = nI (sgS (sgl m s n) l i)
theorem HoR.ap {m : Nat → Int32} {s n : Nat} {l : List Nat} {ax ay bx bz sl sa : Nat → Int32} (h : HoR m s n l ax ay bx bz sl sa) (k : Nat) :
    HoR m s n (l ++ [k]) (upd ax l.length (sgx m s n k)) (upd ay l.length (sgy m s n k)) (upd bx l.length (m (16 + 18 * s + 2 * k))) (upd bz l.length (m (17 + 18 * s + 2 * k))) (upd sl l.length (nI (sgl m s n k))) (upd sa l.length (nI (sgS (sgl m s n) l l.length))) := by
  intro i j hj
  rcases hx_ap hj with ⟨h1, h2⟩ | ⟨rfl, rfl⟩
  · have := h i j h2
    rw [ud_n (by omega), ud_n (by omega), ud_n (by omega), ud_n (by omega), ud_n (by omega), ud_n (by omega), sgS_ap (by omega)]
    exact this
  · rw [ud_e rfl, ud_e rfl, ud_e rfl, ud_e rfl, ud_e rfl, ud_e rfl, sgS_ap (by omega)]
    exact ⟨rfl, rfl, rfl, rfl, rfl, rfl⟩
theorem sgS_len {f : Nat → Nat} {l : List Nat} {k : Nat} : sgS f (l ++ [k]) (l ++ [k]).length = sgS f l l.length + f k := by
  rw [List.length_append]
  show sgS f (l ++ [k]) (l.length + 1) = _
  rw [sgS_s (k := k) (by simp), sgS_ap (Nat.le_refl _)]
theorem sgS_le {f : Nat → Nat} {l : List Nat} {b : Nat} (h : ∀ i k : Nat, l[i]? = some k → f k ≤ b) : ∀ i, sgS f l i ≤ b * i := by
  intro i
  induction i with
  | zero => rw [sgS_0]; omega
  | succ i ih =>
    by_cases q : i < l.length
    · obtain ⟨k, hk⟩ := hx_at q
      rw [sgS_s hk, Nat.mul_succ]
      have := h i k hk
      omega
    · have e : sgS f l (i + 1) = sgS f l i := by
        unfold sgS
        rw [List.take_of_length_le (by omega), List.take_of_length_le (by omega)]
      rw [e, Nat.mul_succ]; omega
theorem sgE_le {m : Nat → Int32} {s n : Nat} : sgE m s n ≤ n := by
  unfold sgE
  by_cases q : m (15 + 18 * s) = 1
  · rw [if_pos q]; omega
  · rw [if_neg q]; omega
theorem sgL_w {s n : Nat} {c m : Nat → Int32} (h : SP s n c m) (k : Nat) (hk : k ≤ n) : sgS (sgl m s n) (sgL m s n k) (sgL m s n k).length ≤ 144808 := by
  have h1 := sgS_le (f := sgl m s n) (l := sgL m s n k) (b := 18101) (fun i j hj => sgl_le h (by have := (sgL_at hj).1; omega)) (sgL m s n k).length
  have h2 := sgL_len m s n k
  have h3 := h.2.1
  have : 18101 * (sgL m s n k).length ≤ 18101 * 8 := Nat.mul_le_mul (Nat.le_refl _) (by omega)
  omega
/-- two rows alike in the 86 cells -/
def E86 (m' m : Nat → Int32) : Prop := ∀ i, i < 86 → m' i = m i
theorem m_pts' {m' m : Nat → Int32} (h : E86 m' m) {s : Nat} (hs : s < 4) : F_X12_points m' (nI s) = some (m (14 + 18 * s)) := by rw [m_pts hs, h _ (by omega)]
theorem m_clo' {m' m : Nat → Int32} (h : E86 m' m) {s : Nat} (hs : s < 4) : F_X12_isClosed m' (nI s) = some (if m (15 + 18 * s) = 1 then 1 else 0) := by rw [m_clo hs, h _ (by omega)]
theorem m_x' {m' m : Nat → Int32} (h : E86 m' m) {s k : Nat} (hs : s < 4) (hk : k < 8) : F_X12_x m' (nI s) (nI k) = some (m (16 + 18 * s + 2 * k)) := by rw [m_x hs hk, h _ (by omega)]
theorem m_y' {m' m : Nat → Int32} (h : E86 m' m) {s k : Nat} (hs : s < 4) (hk : k < 8) : F_X12_y m' (nI s) (nI k) = some (m (17 + 18 * s + 2 * k)) := by rw [m_y hs hk, h _ (by omega)]
set_option maxHeartbeats 1000000 in
theorem lays_m {n : Nat} (hn : 200000 ≤ n) {N : Nat} {p : Nat → Nat} {c m m' : Nat → Int32} (hR : RW N p c m) (hm' : E86 m' m) {s : Nat} (hs : s < N) (a17 a18 a19 a20 a21 a22 : Nat → Int32) :
    ∃ b17 b18 b19 b20 b21 b22, F_X12_laysSegments n m' a17 a18 a19 a20 a21 a22 (nI s) = some (nI (sg N p m s).length, nI (sW N p m s), b17, b18, b19, b20, b21, b22) ∧ HoR m s (p s) (sg N p m s) b17 b18 b19 b20 b21 b22 := by
  have g := hR.sp hs
  have g1 := g.1
  have g8 := g.2.1
  have hN4 := hR.1
  have hE : sg N p m s = sgL m s (p s) (sgE m s (p s)) := if_pos hs
  have hEle : sgE m s (p s) ≤ p s := sgE_le
  have hW : sW N p m s = sgS (sgl m s (p s)) (sgL m s (p s) (sgE m s (p s))) (sgL m s (p s) (sgE m s (p s))).length := by unfold sW sA; rw [hE]
  unfold F_X12_laysSegments F_X12_laysSegments_j18
  rw [m_pts' hm' (by omega), obd_s, g.pm, hW, hE]
  have key : ∃ x, lpq (F_X12_laysSegments_b18 n m' (nI s) (nI (p s))) n (0, 0, 0, a17, a18, a19, a20, a21, a22) = some x ∧
      ∃ b17 b18 b19 b20 b21 b22, x = (nI (sgL m s (p s) (sgE m s (p s))).length, nI (sgS (sgl m s (p s)) (sgL m s (p s) (sgE m s (p s))) (sgL m s (p s) (sgE m s (p s))).length), b17, b18, b19, b20, b21, b22) ∧ HoR m s (p s) (sgL m s (p s) (sgE m s (p s))) b17 b18 b19 b20 b21 b22 := by
    refine lpq_i0 (fun i st => ∃ b17 b18 b19 b20 b21 b22, st = (nI i, nI (sgL m s (p s) i).length, nI (sgS (sgl m s (p s)) (sgL m s (p s) i) (sgL m s (p s) i).length), b17, b18, b19, b20, b21, b22) ∧ HoR m s (p s) (sgL m s (p s) i) b17 b18 b19 b20 b21 b22) _ (sgE m s (p s)) ?_ (by omega) ?_
    · rintro i st hi ⟨b17, b18, b19, b20, b21, b22, rfl, hH⟩
      have hb : ∀ {α : Type} (A B : Option α) (h1 : m (15 + 18 * s) = 1 → A = B), (if (if m (15 + 18 * s) = 1 then (1 : Int32) else 0) = 0 then B else A) = B := fun A B h1 => by
        by_cases q : m (15 + 18 * s) = 1
        · rw [if_pos q, if_neg (by decide), h1 q]
        · rw [if_neg q, if_pos rfl]
      have e0 : F_X12_laysSegments_b18 n m' (nI s) (nI (p s)) (nI i, nI (sgL m s (p s) i).length, nI (sgS (sgl m s (p s)) (sgL m s (p s) i) (sgL m s (p s) i).length), b17, b18, b19, b20, b21, b22) =
          F_X12_laysSegments_j34 n (nI (sgL m s (p s) i).length) (nI (sgS (sgl m s (p s)) (sgL m s (p s) i) (sgL m s (p s) i).length)) m' b17 b18 b19 b20 b21 b22 (nI s) (nI (p s)) (nI i) (nI i) (nI (sgE m s (p s))) := by
        unfold F_X12_laysSegments_b18
        rw [m_clo' hm' (by omega), obd_s]
        unfold sgE
        by_cases q : m (15 + 18 * s) = 1
        · rw [if_pos q, if_pos q, if_neg (by decide)]
        · rw [if_neg q, if_neg q, if_pos rfl, zl_1, pk_sub g1]
      rw [e0]
      unfold F_X12_laysSegments_j34
      by_cases h9 : i = sgE m s (p s)
      · left
        subst h9
        rw [if_pos (nI_le (Nat.le_refl _) (by omega))]
        exact ⟨_, rfl, b17, b18, b19, b20, b21, b22, rfl, hH⟩
      · right
        refine ⟨by omega, ?_⟩
        have hk : i < p s := by omega
        have hm : (i + 1) % p s < p s := Nat.mod_lt _ (by omega)
        have hl := sgL_len m s (p s) i
        have hw := sgL_w g i (by omega)
        rw [if_neg (nI_ge (by omega) (by omega)), gd_t (nI_ne0 g1 (by omega)), lt_eq, zl_1, nI_add, lt_eq, pk_rem (by omega) (by omega) (by omega), m_x' hm' (by omega) (by omega), obd_s, m_x' hm' (by omega) (by omega), obd_s, lt_eq, m_y' hm' (by omega) (by omega), obd_s, m_y' hm' (by omega) (by omega), obd_s, lt_eq]
        rw [show m (16 + 18 * s + 2 * ((i + 1) % p s)) - m (16 + 18 * s + 2 * i) = sgx m s (p s) i from rfl, show m (17 + 18 * s + 2 * ((i + 1) % p s)) - m (17 + 18 * s + 2 * i) = sgy m s (p s) i from rfl]
        have e1 : F_X12_laysSegments_j86 n (nI (sgL m s (p s) i).length) (nI (sgS (sgl m s (p s)) (sgL m s (p s) i) (sgL m s (p s) i).length)) m' b17 b18 b19 b20 b21 b22 (nI s) (nI i) (sgx m s (p s) i) (sgy m s (p s) i) =
            some (.inl (nI (i + 1), nI (sgL m s (p s) i ++ [i]).length, nI (sgS (sgl m s (p s)) (sgL m s (p s) i ++ [i]) (sgL m s (p s) i ++ [i]).length), upd b17 (sgL m s (p s) i).length (sgx m s (p s) i), upd b18 (sgL m s (p s) i).length (sgy m s (p s) i), upd b19 (sgL m s (p s) i).length (m (16 + 18 * s + 2 * i)), upd b20 (sgL m s (p s) i).length (m (17 + 18 * s + 2 * i)), upd b21 (sgL m s (p s) i).length (nI (sgl m s (p s) i)), upd b22 (sgL m s (p s) i).length (nI (sgS (sgl m s (p s)) (sgL m s (p s) i) (sgL m s (p s) i).length)))) := by
          have hq := sgq_le g hk
          have er : F_X12_root n (4096 * (sgx m s (p s) i * sgx m s (p s) i + sgy m s (p s) i * sgy m s (p s) i).toInt64) = some (nI (sgl m s (p s) i)) := by
            rw [sq_nI, nI_l (by show sgq m s (p s) i < _; omega), show (4096 : Int64) = lN 4096 from rfl, lN_mul]
            exact root_ref hn (by show 4096 * sgq m s (p s) i < _; omega)
          unfold F_X12_laysSegments_j86 F_X12_laysSegments_j207
          simp only [lt_eq, gd_in (show (sgL m s (p s) i).length < 8 by omega) (by decide), nI_clamp (show (sgL m s (p s) i).length < 2 ^ 31 by omega)]
          rw [m_x' hm' (by omega) (by omega), obd_s, m_y' hm' (by omega) (by omega), obd_s, er, obd_s]
          simp only [ud_e, zl_1, nI_add]
          rw [sgS_len, List.length_append]; rfl
        have e3 : ∀ {α : Type} (A B : α) (C D : Prop) [Decidable C] [Decidable D], (if C then if D then A else B else B) = if C ∧ D then A else B := fun A B C D _ _ => by
          by_cases q : C
          · by_cases q2 : D
            · rw [if_pos q, if_pos q2, if_pos ⟨q, q2⟩]
            · rw [if_pos q, if_neg q2, if_neg (fun h => q2 h.2)]
          · rw [if_neg q, if_neg (fun h => q h.1)]
        rw [e3]
        by_cases hz : sgx m s (p s) i = 0 ∧ sgy m s (p s) i = 0
        · rw [if_pos hz]
          unfold F_X12_laysSegments_j207
          rw [lt_eq, zl_1, nI_add]
          have e2 : sgL m s (p s) (i + 1) = sgL m s (p s) i := by rw [sgL, if_pos hz]
          exact ⟨_, rfl, b17, b18, b19, b20, b21, b22, by rw [e2], by rw [e2]; exact hH⟩
        · rw [if_neg hz]
          have e2 : sgL m s (p s) (i + 1) = sgL m s (p s) i ++ [i] := by rw [sgL, if_neg hz]
          exact ⟨_, e1, _, _, _, _, _, _, by rw [e2], by rw [e2]; exact hH.ap i⟩
    · exact ⟨a17, a18, a19, a20, a21, a22, by rw [sgL]; rfl, fun i k h => absurd h (by simp [sgL])⟩
  obtain ⟨x, e, b17, b18, b19, b20, b21, b22, rfl, hH⟩ := key
  rw [e, obd_s]
  exact ⟨b17, b18, b19, b20, b21, b22, rfl, hH⟩
