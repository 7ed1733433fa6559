/-! ===== what covers a point ===== -/
def allB (f : Nat → Bool) : Nat → Bool
  | 0 => true
  | k + 1 => allB f k && f k
def anyB (f : Nat → Bool) : Nat → Bool
  | 0 => false
  | k + 1 => anyB f k || f k
def b2 (b : Bool) : Int32 := if b = true then 1 else 0
theorem b2_0 (b : Bool) : (b2 b = 0) ↔ b = false := by cases b <;> decide
theorem allB_f {f : Nat → Bool} {k : Nat} (h : allB f k = false) : ∀ j, allB f (k + j) = false := by
  intro j
  induction j with
  | zero => exact h
  | succ j ih => rw [show k + (j + 1) = k + j + 1 from rfl, allB, ih]; rfl
def crP (q : Pc) (x y : Int32) (k : Nat) : Int64 := (q.2.1 ((k + 1) % nc q.1) - q.2.1 k).toInt64 * (y - q.2.2 k).toInt64 - (q.2.2 ((k + 1) % nc q.1) - q.2.2 k).toInt64 * (x - q.2.1 k).toInt64
def upB (q : Pc) (x y : Int32) : Nat → Bool := allB (fun j => decide ((0 : Int64) ≤ crP q x y j))
def dnB (q : Pc) (x y : Int32) : Nat → Bool := allB (fun j => decide (crP q x y j ≤ (0 : Int64)))
def lfB (q : Pc) (x : Int32) : Nat → Bool := anyB (fun j => decide (q.2.1 j ≤ x))
def rtB (q : Pc) (x : Int32) : Nat → Bool := anyB (fun j => decide (x ≤ q.2.1 j))
def abB (q : Pc) (y : Int32) : Nat → Bool := anyB (fun j => decide (y ≤ q.2.2 j))
def blB (q : Pc) (y : Int32) : Nat → Bool := anyB (fun j => decide (q.2.2 j ≤ y))
def bxB (q : Pc) (x y : Int32) : Bool := lfB q x (nc q.1) && rtB q x (nc q.1) && abB q y (nc q.1) && blB q y (nc q.1)
def dcB (r : Int32) (q : Pc) (x y : Int32) : Bool := decide (¬ 0 < lg_cmp ((x - q.2.1 0).toInt64 * (x - q.2.1 0).toInt64 + (y - q.2.2 0).toInt64 * (y - q.2.2 0).toInt64) (r.toInt64 * r.toInt64))
def cvB (r : Int32) (q : Pc) (x y : Int32) : Bool := if q.1 = 3 then dcB r q x y else (upB q x y (nc q.1) || dnB q x y (nc q.1)) && bxB q x y
section CVM
variable {L : List Pc} {K X Y R : Nat → Int32} {i : Nat} {q : Pc}
theorem g_ge (c : Int64) : (0 ≤ lg_cmp c 0) ↔ (0 : Int64) ≤ c := by rw [lg_cmp_ge]
theorem g_le (c : Int64) : (lg_cmp c 0 ≤ 0) ↔ c ≤ (0 : Int64) := by rw [lg_cmp_le]
theorem g_lt (c : Int64) : (lg_cmp c 0 < 0) ↔ ¬ (0 : Int64) ≤ c := by rw [lg_cmp_lt, fa_lt64, fa_le64]; omega
theorem g_gt (c : Int64) : (0 < lg_cmp c 0) ↔ ¬ c ≤ (0 : Int64) := by rw [lg_cmp_gt, fa_lt64, fa_le64]; omega
theorem nle_i {a b : Int32} : ¬ a < b ↔ b ≤ a := by rw [fa_lt, fa_le]; omega
theorem fA (x2 x3 x6 x7 x8 x9 x10 x11 x12 : Int32) (c : Int64) (u d : Bool) :
    (if b2 u = 0 then F_X12_isInPolygon_j106 x2 x3 (b2 d) x6 x7 x8 x9 x10 x11 x12 c else if lg_cmp c 0 < 0 then F_X12_isInPolygon_j106 x2 x3 (b2 d) x6 x7 x8 x9 x10 x11 x12 c else F_X12_isInPolygon_j107 x2 x3 (b2 d) x6 x7 x8 x9 x10 x11 x12 c 1) = F_X12_isInPolygon_j107 x2 x3 (b2 d) x6 x7 x8 x9 x10 x11 x12 c (b2 (u && decide ((0 : Int64) ≤ c))) := by
  unfold F_X12_isInPolygon_j106
  cases u with
  | false => rw [if_pos ((b2_0 _).mpr rfl)]; rfl
  | true =>
    rw [if_neg (fun h => by have := (b2_0 _).mp h; exact absurd this (by decide))]
    by_cases z : (0 : Int64) ≤ c
    · rw [if_neg (fun h => (g_lt c).mp h z), decide_eq_true z]; rfl
    · rw [if_pos ((g_lt c).mpr z), decide_eq_false z]; rfl
theorem fB (x2 x3 x6 x7 x8 x9 x10 x11 x12 t0 : Int32) (c : Int64) (d : Bool) :
    F_X12_isInPolygon_j107 x2 x3 (b2 d) x6 x7 x8 x9 x10 x11 x12 c t0 = F_X12_isInPolygon_j126 x2 x3 t0 x6 x7 x8 x9 x10 x11 x12 (b2 (d && decide (c ≤ (0 : Int64)))) := by
  unfold F_X12_isInPolygon_j107 F_X12_isInPolygon_j125
  cases d with
  | false => rw [if_pos ((b2_0 _).mpr rfl)]; rfl
  | true =>
    rw [if_neg (fun h => by have := (b2_0 _).mp h; exact absurd this (by decide))]
    by_cases z : c ≤ (0 : Int64)
    · rw [if_neg (fun h => (g_gt c).mp h z), decide_eq_true z]; rfl
    · rw [if_pos ((g_gt c).mpr z), decide_eq_false z]; rfl
theorem fC (x2 x3 x4 x7 x8 x9 x10 x11 x12 t0 : Int32) (d : Bool) : F_X12_isInPolygon_j126 x2 x3 x4 (b2 d) x7 x8 x9 x10 x11 x12 t0 = F_X12_isInPolygon_j144 x2 x3 x4 t0 x7 x8 x9 x10 x11 x12 (b2 (d || decide (x11 ≤ x2))) := by
  unfold F_X12_isInPolygon_j126 F_X12_isInPolygon_j139
  cases d with
  | true => rw [if_neg (fun h => by have := (b2_0 _).mp h; exact absurd this (by decide))]; rfl
  | false =>
    rw [if_pos ((b2_0 _).mpr rfl)]
    by_cases z : x11 ≤ x2
    · rw [if_neg (nle_i.mpr z), decide_eq_true z]; rfl
    · rw [if_pos (fa_of_nle z), decide_eq_false z]; rfl
theorem fD (x2 x3 x4 x5 x8 x9 x10 x11 x12 t0 : Int32) (d : Bool) : F_X12_isInPolygon_j144 x2 x3 x4 x5 (b2 d) x8 x9 x10 x11 x12 t0 = F_X12_isInPolygon_j162 x3 x4 x5 t0 x8 x9 x10 x12 (b2 (d || decide (x2 ≤ x11))) := by
  unfold F_X12_isInPolygon_j144 F_X12_isInPolygon_j157
  cases d with
  | true => rw [if_neg (fun h => by have := (b2_0 _).mp h; exact absurd this (by decide))]; rfl
  | false =>
    rw [if_pos ((b2_0 _).mpr rfl)]
    by_cases z : x2 ≤ x11
    · rw [if_neg (nle_i.mpr z), decide_eq_true z]; rfl
    · rw [if_pos (fa_of_nle z), decide_eq_false z]; rfl
theorem fE (x3 x4 x5 x6 x9 x10 x12 t0 : Int32) (d : Bool) : F_X12_isInPolygon_j162 x3 x4 x5 x6 (b2 d) x9 x10 x12 t0 = F_X12_isInPolygon_j180 x3 x4 x5 x6 t0 x9 x10 x12 (b2 (d || decide (x3 ≤ x12))) := by
  unfold F_X12_isInPolygon_j162 F_X12_isInPolygon_j175
  cases d with
  | true => rw [if_neg (fun h => by have := (b2_0 _).mp h; exact absurd this (by decide))]; rfl
  | false =>
    rw [if_pos ((b2_0 _).mpr rfl)]
    by_cases z : x3 ≤ x12
    · rw [if_neg (nle_i.mpr z), decide_eq_true z]; rfl
    · rw [if_pos (fa_of_nle z), decide_eq_false z]; rfl
theorem fF (x3 x4 x5 x6 x7 x10 x12 t0 : Int32) (d : Bool) : F_X12_isInPolygon_j180 x3 x4 x5 x6 x7 (b2 d) x10 x12 t0 = F_X12_isInPolygon_j198 x4 x5 x6 x7 t0 x10 (b2 (d || decide (x12 ≤ x3))) := by
  unfold F_X12_isInPolygon_j180 F_X12_isInPolygon_j193
  cases d with
  | true => rw [if_neg (fun h => by have := (b2_0 _).mp h; exact absurd this (by decide))]; rfl
  | false =>
    rw [if_pos ((b2_0 _).mpr rfl)]
    by_cases z : x12 ≤ x3
    · rw [if_neg (nle_i.mpr z), decide_eq_true z]; rfl
    · rw [if_pos (fa_of_nle z), decide_eq_false z]; rfl
theorem j206_m (u d l r a b : Bool) : F_X12_isInPolygon_j206 (b2 u) (b2 d) (b2 l) (b2 r) (b2 a) (b2 b) = some (b2 ((u || d) && (l && r && a && b))) := by
  cases u <;> cases d <;> cases l <;> cases r <;> cases a <;> cases b <;> rfl
theorem poly_m (h : HoQ L R) (hL : L.length ≤ 2792) (hq : L[i]? = some q) (x y : Int32) {n : Nat} (hn : 1000 ≤ n) : F_X12_isInPolygon n R (nI i) x y = some (b2 ((upB q x y (nc q.1) || dnB q x y (nc q.1)) && bxB q x y)) := by
  have n1 := nc_pos q.1
  have n4 := nc_le q.1
  have key : lpq (F_X12_isInPolygon_b21 R (nI i) x y) n (b2 (upB q x y 0), b2 (dnB q x y 0), b2 (lfB q x 0), b2 (rtB q x 0), b2 (abB q y 0), b2 (blB q y 0), nI 0) = some (b2 (upB q x y (nc q.1)), b2 (dnB q x y (nc q.1)), b2 (lfB q x (nc q.1)), b2 (rtB q x (nc q.1)), b2 (abB q y (nc q.1)), b2 (blB q y (nc q.1))) := by
    refine lpq_run (nc q.1) (fun k => (b2 (upB q x y k), b2 (dnB q x y k), b2 (lfB q x k), b2 (rtB q x k), b2 (abB q y k), b2 (blB q y k), nI k)) (fun k hk => ?_) ?_ (by omega)
    · have c0 := cx_m h hL hq (c := k) (by omega)
      have c1 := cx_m h hL hq (c := k + 1) (by omega)
      rw [Nat.mod_eq_of_lt hk] at c0
      unfold F_X12_isInPolygon_b21
      rw [cc_m h hL hq, obd_s]
      dsimp only
      rw [if_neg (nI_ge hk (by omega)), c0.1, obd_s, c0.2, obd_s, zl_1, nI_add, c1.1, obd_s, c1.2, obd_s, lt_eq]
      show (if b2 (upB q x y k) = 0 then F_X12_isInPolygon_j106 x y (b2 (dnB q x y k)) (b2 (lfB q x k)) (b2 (rtB q x k)) (b2 (abB q y k)) (b2 (blB q y k)) (nI k) (q.2.1 k) (q.2.2 k) (crP q x y k) else if lg_cmp (crP q x y k) 0 < 0 then F_X12_isInPolygon_j106 x y (b2 (dnB q x y k)) (b2 (lfB q x k)) (b2 (rtB q x k)) (b2 (abB q y k)) (b2 (blB q y k)) (nI k) (q.2.1 k) (q.2.2 k) (crP q x y k) else F_X12_isInPolygon_j107 x y (b2 (dnB q x y k)) (b2 (lfB q x k)) (b2 (rtB q x k)) (b2 (abB q y k)) (b2 (blB q y k)) (nI k) (q.2.1 k) (q.2.2 k) (crP q x y k) 1) = _
      rw [fA, fB, fC, fD, fE, fF]
      unfold F_X12_isInPolygon_j198
      rw [lt_eq, zl_1, nI_add]; rfl
    · unfold F_X12_isInPolygon_b21
      rw [cc_m h hL hq, obd_s]
      exact if_pos (nI_le (Nat.le_refl _) (by omega))
  have key' : lpq (F_X12_isInPolygon_b21 R (nI i) x y) n (1, 1, 0, 0, 0, 0, 0) = some (b2 (upB q x y (nc q.1)), b2 (dnB q x y (nc q.1)), b2 (lfB q x (nc q.1)), b2 (rtB q x (nc q.1)), b2 (abB q y (nc q.1)), b2 (blB q y (nc q.1))) := key
  unfold F_X12_isInPolygon F_X12_isInPolygon_j21
  rw [key', obd_s]
  exact j206_m _ _ _ _ _ _
theorem cov_m (h : HoQ L R) (hL : L.length ≤ 2792) (hq : L[i]? = some q) {m' : Nat → Int32} {r : Int32} (hm : F_X12_half m' = some r) (x y : Int32) {n : Nat} (hn : 1000 ≤ n) : F_X12_covers n m' R (nI i) x y = some (b2 (cvB r q x y)) := by
  have hk4 := (h i q hq).1
  have e3 : (nI q.1 = 3) ↔ q.1 = 3 := by
    rw [zl_3]; exact nI_eq (by omega) (by omega)
  unfold F_X12_covers cvB
  rw [kd_m h hL hq, obd_s]
  by_cases z : q.1 = 3
  · have c0 := cx_m h hL hq (c := 0) (by omega)
    rw [Nat.zero_mod] at c0
    have c0x : F_X12_cornerX R (nI i) 0 = some (q.2.1 0) := c0.1
    have c0y : F_X12_cornerY R (nI i) 0 = some (q.2.2 0) := c0.2
    rw [if_pos (e3.mpr z), if_pos z]
    unfold F_X12_isInDisc dcB
    rw [c0x, obd_s, lt_eq, c0y, obd_s, lt_eq, hm, obd_s, obd_s]
    by_cases w : 0 < lg_cmp ((x - q.2.1 0).toInt64 * (x - q.2.1 0).toInt64 + (y - q.2.2 0).toInt64 * (y - q.2.2 0).toInt64) (r.toInt64 * r.toInt64)
    · rw [if_pos w, obd_s, decide_eq_false (fun h => h w)]; rfl
    · rw [if_neg w, obd_s, decide_eq_true w]; rfl
  · rw [if_neg (fun e => z (e3.mp e)), if_neg z, poly_m h hL hq x y hn, obd_s]
/-! the class -/
theorem c143 (a b : Bool) (k : Nat) : F_X7_isOnOneSide_j143 (b2 a) (nI k) (b2 b) = some (if (a && b) = true then .inr (.inl ()) else .inl (b2 a, b2 b, nI (k + 1))) := by
  unfold F_X7_isOnOneSide_j143 F_X7_isOnOneSide_j157
  rw [lt_eq, zl_1, nI_add]
  cases a <;> cases b <;> rfl
theorem c124 (b : Bool) (k : Nat) (c : Int64) (a : Bool) : F_X7_isOnOneSide_j124 (b2 b) (nI k) c (b2 a) = F_X7_isOnOneSide_j143 (b2 a) (nI k) (b2 (b || !decide ((0 : Int64) ≤ c))) := by
  unfold F_X7_isOnOneSide_j124 F_X7_isOnOneSide_j138
  cases b with
  | true => rw [if_neg (fun h => by have := (b2_0 _).mp h; exact absurd this (by decide))]; rfl
  | false =>
    rw [if_pos ((b2_0 _).mpr rfl)]
    by_cases z : (0 : Int64) ≤ c
    · rw [if_pos ((g_ge c).mpr z), decide_eq_true z]; rfl
    · rw [if_neg (fun h => z ((g_ge c).mp h)), decide_eq_false z]; rfl
theorem c40 (a b : Bool) (k : Nat) (c : Int64) : (if b2 a = 0 then if lg_cmp c 0 ≤ 0 then F_X7_isOnOneSide_j124 (b2 b) (nI k) c 0 else F_X7_isOnOneSide_j119 (b2 b) (nI k) c else F_X7_isOnOneSide_j119 (b2 b) (nI k) c) = F_X7_isOnOneSide_j124 (b2 b) (nI k) c (b2 (a || !decide (c ≤ (0 : Int64)))) := by
  unfold F_X7_isOnOneSide_j119
  cases a with
  | true => rw [if_neg (fun h => by have := (b2_0 _).mp h; exact absurd this (by decide))]; rfl
  | false =>
    rw [if_pos ((b2_0 _).mpr rfl)]
    by_cases z : c ≤ (0 : Int64)
    · rw [if_pos ((g_le c).mpr z), decide_eq_true z]; rfl
    · rw [if_neg (fun h => z ((g_le c).mp h)), decide_eq_false z]; rfl
theorem upB_s (x y : Int32) (k : Nat) : (!upB q x y k || !decide ((0 : Int64) ≤ crP q x y k)) = !upB q x y (k + 1) := by
  show _ = !(upB q x y k && decide ((0 : Int64) ≤ crP q x y k))
  cases upB q x y k <;> cases decide ((0 : Int64) ≤ crP q x y k) <;> rfl
theorem dnB_s (x y : Int32) (k : Nat) : (!dnB q x y k || !decide (crP q x y k ≤ (0 : Int64))) = !dnB q x y (k + 1) := by
  show _ = !(dnB q x y k && decide (crP q x y k ≤ (0 : Int64)))
  cases dnB q x y k <;> cases decide (crP q x y k ≤ (0 : Int64)) <;> rfl
theorem side_c (h : HoP L K X Y) (hL : L.length ≤ 2792) (hq : L[i]? = some q) (x y : Int32) {n : Nat} (hn : 1000 ≤ n) : F_X7_isOnOneSide n K X Y (nI i) x y = some (b2 (upB q x y (nc q.1) || dnB q x y (nc q.1))) := by
  have n1 := nc_pos q.1
  have n4 := nc_le q.1
  have key : ∃ z, lpq (F_X7_isOnOneSide_b16 X Y (nI i) x y (nI (nc q.1))) n (0, 0, 0) = some z ∧ z = (if (upB q x y (nc q.1) || dnB q x y (nc q.1)) = true then .inr () else .inl ()) := by
    refine lpq_i0 (fun k st => st = (b2 (!dnB q x y k), b2 (!upB q x y k), nI k) ∧ (upB q x y k || dnB q x y k) = true) _ (nc q.1) ?_ (by omega) ⟨rfl, rfl⟩
    rintro k st hk ⟨rfl, hu⟩
    unfold F_X7_isOnOneSide_b16
    by_cases w : k = nc q.1
    · left
      subst w
      exact ⟨_, if_pos (nI_le (Nat.le_refl _) (by omega)), by rw [if_pos hu]⟩
    · have cx := cx_c h hL hq (show k < nc q.1 by omega)
      have stp : ∀ t, t < nc q.1 → (k + 1) % nc q.1 = t → F_X7_isOnOneSide_j40 X Y (nI i) x y (b2 (!dnB q x y k)) (b2 (!upB q x y k)) (nI k) (nI t) = some (if (!dnB q x y (k + 1) && !upB q x y (k + 1)) = true then .inr (.inl ()) else .inl (b2 (!dnB q x y (k + 1)), b2 (!upB q x y (k + 1)), nI (k + 1))) := fun t ht e => by
        have ct := cx_c h hL hq ht
        unfold F_X7_isOnOneSide_j40
        rw [ct.1, obd_s, cx.1, obd_s, lt_eq, ct.2, obd_s, cx.2, obd_s, lt_eq, obd_s, obd_s, lt_eq]
        have ec : (q.2.1 t - q.2.1 k).toInt64 * (y - q.2.2 k).toInt64 - (q.2.2 t - q.2.2 k).toInt64 * (x - q.2.1 k).toInt64 = crP q x y k := by unfold crP; rw [e]
        rw [ec, c40, c124, c143, upB_s, dnB_s]
      have e0 : (if nI (nc q.1) ≤ nI k then some (.inr (.inr ())) else if nI (nc q.1) ≤ nI k + 1 then F_X7_isOnOneSide_j40 X Y (nI i) x y (b2 (!dnB q x y k)) (b2 (!upB q x y k)) (nI k) 0 else F_X7_isOnOneSide_j40 X Y (nI i) x y (b2 (!dnB q x y k)) (b2 (!upB q x y k)) (nI k) (nI k + 1)) = some (if (!dnB q x y (k + 1) && !upB q x y (k + 1)) = true then .inr (.inl ()) else .inl (b2 (!dnB q x y (k + 1)), b2 (!upB q x y (k + 1)), nI (k + 1))) := by
        rw [if_neg (nI_ge (by omega) (by omega)), zl_1, nI_add]
        by_cases v : k + 1 = nc q.1
        · rw [if_pos (nI_le (by omega) (by omega))]
          exact stp 0 (by omega) (by rw [v, Nat.mod_self])
        · rw [if_neg (nI_ge (by omega) (by omega))]
          exact stp (k + 1) (by omega) (Nat.mod_eq_of_lt (by omega))
      by_cases v : (!dnB q x y (k + 1) && !upB q x y (k + 1)) = true
      · left
        rw [if_pos v] at e0
        refine ⟨_, e0, ?_⟩
        have vd : dnB q x y (k + 1) = false := by
          cases hd : dnB q x y (k + 1)
          · rfl
          · rw [hd] at v; exact absurd v (by simp)
        have vu : upB q x y (k + 1) = false := by
          cases hd : upB q x y (k + 1)
          · rfl
          · rw [hd] at v; exact absurd v (by simp)
        have d2 := allB_f vd (nc q.1 - (k + 1))
        have u2 := allB_f vu (nc q.1 - (k + 1))
        rw [show k + 1 + (nc q.1 - (k + 1)) = nc q.1 from by omega] at d2 u2
        have d3 : dnB q x y (nc q.1) = false := d2
        have u3 : upB q x y (nc q.1) = false := u2
        rw [d3, u3]; rfl
      · right
        rw [if_neg v] at e0
        refine ⟨by omega, _, e0, rfl, ?_⟩
        cases hd : dnB q x y (k + 1)
        · cases hu2 : upB q x y (k + 1)
          · rw [hd, hu2] at v; exact absurd rfl v
          · rfl
        · cases upB q x y (k + 1) <;> rfl
  obtain ⟨z, e, rfl⟩ := key
  unfold F_X7_isOnOneSide F_X7_isOnOneSide_j16 F_X7_isOnOneSide_j155 F_X7_isOnOneSide_j163
  rw [cc_c h hL hq, obd_s, e, obd_s]
  by_cases w : (upB q x y (nc q.1) || dnB q x y (nc q.1)) = true
  · rw [if_pos w, w]; rfl
  · rw [if_neg w, (show (upB q x y (nc q.1) || dnB q x y (nc q.1)) = false from by cases hz : (upB q x y (nc q.1) || dnB q x y (nc q.1)) with | false => rfl | true => exact absurd hz w)]; rfl
theorem any_ext {f g : Nat → Bool} (h : ∀ j, f j = g j) : ∀ k, anyB f k = anyB g k := by
  intro k
  induction k with
  | zero => rfl
  | succ k ih => rw [anyB, anyB, ih, h]
theorem ex_lo (sd : Nat) (h : ¬ sd % 2 = 1) (v : Int) : ∀ k, anyB (fun j => decide (vI sd q j ≤ v)) (k + 1) = decide (exI sd q k ≤ v) := by
  intro k
  induction k with
  | zero => rfl
  | succ k ih =>
    rw [anyB, ih, exI]
    unfold mg
    rw [if_neg h, ← Bool.decide_or]
    exact decide_eq_decide.mpr (by omega)
theorem ex_hi (sd : Nat) (h : sd % 2 = 1) (v : Int) : ∀ k, anyB (fun j => decide (v ≤ vI sd q j)) (k + 1) = decide (v ≤ exI sd q k) := by
  intro k
  induction k with
  | zero => rfl
  | succ k ih =>
    rw [anyB, ih, exI]
    unfold mg
    rw [if_pos h, ← Bool.decide_or]
    exact decide_eq_decide.mpr (by omega)
theorem bx_e (x y : Int32) : bxB q x y = (decide (exI 0 q (nc q.1 - 1) ≤ x.toInt) && decide (x.toInt ≤ exI 1 q (nc q.1 - 1)) && decide (y.toInt ≤ exI 3 q (nc q.1 - 1)) && decide (exI 2 q (nc q.1 - 1) ≤ y.toInt)) := by
  have n1 := nc_pos q.1
  have en : nc q.1 - 1 + 1 = nc q.1 := by omega
  have l := ex_lo (q := q) 0 (by decide) x.toInt (nc q.1 - 1)
  have r := ex_hi (q := q) 1 (by decide) x.toInt (nc q.1 - 1)
  have a := ex_hi (q := q) 3 (by decide) y.toInt (nc q.1 - 1)
  have b := ex_lo (q := q) 2 (by decide) y.toInt (nc q.1 - 1)
  rw [en] at l r a b
  have l2 : lfB q x (nc q.1) = anyB (fun j => decide (vI 0 q j ≤ x.toInt)) (nc q.1) := any_ext (fun j => decide_eq_decide.mpr (fa_le _ _)) _
  have r2 : rtB q x (nc q.1) = anyB (fun j => decide (x.toInt ≤ vI 1 q j)) (nc q.1) := any_ext (fun j => decide_eq_decide.mpr (fa_le _ _)) _
  have a2 : abB q y (nc q.1) = anyB (fun j => decide (y.toInt ≤ vI 3 q j)) (nc q.1) := any_ext (fun j => decide_eq_decide.mpr (fa_le _ _)) _
  have b2' : blB q y (nc q.1) = anyB (fun j => decide (vI 2 q j ≤ y.toInt)) (nc q.1) := any_ext (fun j => decide_eq_decide.mpr (fa_le _ _)) _
  unfold bxB
  rw [l2, r2, a2, b2', l, r, a, b]
theorem box_c (h : HoP L K X Y) (hL : L.length ≤ 2792) (hq : L[i]? = some q) (hp : PB q) (h3 : q.1 ≠ 3) {hh : Int} (h1 : 0 ≤ hh ∧ hh ≤ 1280) (x y : Int32) {n : Nat} (hn : 1000 ≤ n) : F_X7_isInBox n (iI hh) K X Y (nI i) x y = some (b2 (bxB q x y)) := by
  have eo : ∀ sd, eoI sd hh q = exI sd q (nc q.1 - 1) := fun sd => by
    have er : rcI hh q = 0 := if_neg h3
    unfold eoI ad
    rw [er]
    by_cases z : sd % 2 = 1
    · rw [if_pos z]; omega
    · rw [if_neg z]; omega
  have e0 := eo_c (sd := 0) h hL hq hp (by omega) h1 hn
  have e1 := eo_c (sd := 1) h hL hq hp (by omega) h1 hn
  have e2 := eo_c (sd := 2) h hL hq hp (by omega) h1 hn
  have e3 := eo_c (sd := 3) h hL hq hp (by omega) h1 hn
  rw [eo] at e0 e1 e2 e3
  have n1 := nc_pos q.1
  have x0 := exI_b (sd := 0) hp (nc q.1 - 1) (by omega)
  have x1 := exI_b (sd := 1) hp (nc q.1 - 1) (by omega)
  have x2 := exI_b (sd := 2) hp (nc q.1 - 1) (by omega)
  have x3 := exI_b (sd := 3) hp (nc q.1 - 1) (by omega)
  have e0' : F_X7_edgeOf n (iI hh) K X Y (nI i) 0 = some (iI (exI 0 q (nc q.1 - 1))) := e0
  have e1' : F_X7_edgeOf n (iI hh) K X Y (nI i) 1 = some (iI (exI 1 q (nc q.1 - 1))) := e1
  have e2' : F_X7_edgeOf n (iI hh) K X Y (nI i) 2 = some (iI (exI 2 q (nc q.1 - 1))) := e2
  have e3' : F_X7_edgeOf n (iI hh) K X Y (nI i) 3 = some (iI (exI 3 q (nc q.1 - 1))) := e3
  have l0 : (x < iI (exI 0 q (nc q.1 - 1))) ↔ ¬ exI 0 q (nc q.1 - 1) ≤ x.toInt := by rw [fa_lt, ii_t (by omega) (by omega)]; omega
  have l1 : (iI (exI 1 q (nc q.1 - 1)) < x) ↔ ¬ x.toInt ≤ exI 1 q (nc q.1 - 1) := by rw [fa_lt, ii_t (by omega) (by omega)]; omega
  have l2 : (y < iI (exI 2 q (nc q.1 - 1))) ↔ ¬ exI 2 q (nc q.1 - 1) ≤ y.toInt := by rw [fa_lt, ii_t (by omega) (by omega)]; omega
  have l3 : (iI (exI 3 q (nc q.1 - 1)) < y) ↔ ¬ y.toInt ≤ exI 3 q (nc q.1 - 1) := by rw [fa_lt, ii_t (by omega) (by omega)]; omega
  unfold F_X7_isInBox F_X7_isInBox_j44
  rw [bx_e, e0', obd_s]
  by_cases z0 : exI 0 q (nc q.1 - 1) ≤ x.toInt
  · rw [if_neg (fun h => l0.mp h z0), e1', obd_s, decide_eq_true z0]
    by_cases z1 : x.toInt ≤ exI 1 q (nc q.1 - 1)
    · rw [if_neg (fun h => l1.mp h z1), e2', obd_s, decide_eq_true z1]
      by_cases z2 : exI 2 q (nc q.1 - 1) ≤ y.toInt
      · rw [if_neg (fun h => l2.mp h z2), e3', obd_s, decide_eq_true z2]
        by_cases z3 : y.toInt ≤ exI 3 q (nc q.1 - 1)
        · rw [if_neg (fun h => l3.mp h z3), decide_eq_true z3]; rfl
        · rw [if_pos (l3.mpr z3), decide_eq_false z3]; rfl
      · rw [if_pos (l2.mpr z2), decide_eq_false z2, Bool.and_false]; rfl
    · rw [if_pos (l1.mpr z1), decide_eq_false z1]; rfl
  · rw [if_pos (l0.mpr z0), decide_eq_false z0]; rfl
theorem cov_c (h : HoP L K X Y) (hL : L.length ≤ 2792) (hq : L[i]? = some q) (hp : PB q) {hh : Int} (h1 : 0 ≤ hh ∧ hh ≤ 1280) (x y : Int32) {n : Nat} (hn : 1000 ≤ n) : F_X7_covers n (iI hh) K X Y (nI i) x y = some (b2 (cvB (iI hh) q x y)) := by
  have hk4 := (h i q hq).1
  have e3 : (nI q.1 = 3) ↔ q.1 = 3 := by
    rw [zl_3]; exact nI_eq (by omega) (by omega)
  unfold F_X7_covers F_X7_covers_j87 cvB
  rw [kd_c h hL hq, obd_s]
  by_cases z : q.1 = 3
  · have c0 := cx_c h hL hq (c := 0) (by have := nc_pos q.1; omega)
    have c0x : F_X7_cornerX X (nI i) 0 = some (q.2.1 0) := c0.1
    have c0y : F_X7_cornerY Y (nI i) 0 = some (q.2.2 0) := c0.2
    rw [if_pos (e3.mpr z), if_pos z]
    unfold dcB
    rw [c0x, obd_s, lt_eq, c0y, obd_s, lt_eq]
    by_cases w : 0 < lg_cmp ((x - q.2.1 0).toInt64 * (x - q.2.1 0).toInt64 + (y - q.2.2 0).toInt64 * (y - q.2.2 0).toInt64) ((iI hh).toInt64 * (iI hh).toInt64)
    · rw [if_pos w, decide_eq_false (fun h => h w)]; rfl
    · rw [if_neg w, decide_eq_true w]; rfl
  · rw [if_neg (fun e => z (e3.mp e)), if_neg z, side_c h hL hq x y hn, obd_s]
    cases (upB q x y (nc q.1) || dnB q x y (nc q.1)) with
    | false => rw [if_pos ((b2_0 _).mpr rfl)]; rfl
    | true =>
      rw [if_neg (fun h => by have := (b2_0 _).mp h; exact absurd this (by decide)), box_c h hL hq hp z h1 x y hn, obd_s, Bool.true_and]
      cases bxB q x y <;> rfl
end CVM
