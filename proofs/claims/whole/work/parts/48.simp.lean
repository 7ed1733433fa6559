/-! ===== simplify ===== -/
/-- whether v lies between a and b -/
theorem btw_eq (a v b : Int32) : (F_X12_isBetween a v b = 1 ∧ ¬ v < (if b < a then b else a) ∧ ¬ (if a < b then b else a) < v) ∨ (F_X12_isBetween a v b = 0 ∧ (v < (if b < a then b else a) ∨ (if a < b then b else a) < v)) := by
  unfold F_X12_isBetween
  simp only [lt_eq]
  have r := fa_lt
  have r2 := fa_le
  by_cases q : b ≤ a
  · have q' := (fa_le _ _).mp q
    rw [if_pos q]
    have e2 : (if a < b then b else a) = a := if_neg (by rw [fa_lt]; omega)
    have e1 : (if b < a then b else a).toInt = b.toInt := by
      by_cases w : b < a
      · rw [if_pos w]
      · rw [if_neg w]; rw [fa_lt] at w; omega
    rw [e2]
    by_cases z : b ≤ v ∧ v ≤ a
    · refine Or.inl ⟨wi_in z, ?_, ?_⟩
      · rw [fa_lt, e1]; have := (fa_le _ _).mp z.1; omega
      · rw [fa_lt]; have := (fa_le _ _).mp z.2; omega
    · refine Or.inr ⟨wi_out z, ?_⟩
      rw [fa_le, fa_le] at z
      by_cases hv : v.toInt < b.toInt
      · exact Or.inl ((fa_lt _ _).mpr (by rw [e1]; exact hv))
      · exact Or.inr ((fa_lt _ _).mpr (by omega))
  · have q' : ¬ b.toInt ≤ a.toInt := fun h => q ((fa_le _ _).mpr h)
    rw [if_neg q]
    have e2 : (if a < b then b else a) = b := if_pos (by rw [fa_lt]; omega)
    have e1 : (if b < a then b else a) = a := if_neg (by rw [fa_lt]; omega)
    rw [e1, e2]
    by_cases z : a ≤ v ∧ v ≤ b
    · refine Or.inl ⟨wi_in z, ?_, ?_⟩
      · rw [fa_lt]; have := (fa_le _ _).mp z.1; omega
      · rw [fa_lt]; have := (fa_le _ _).mp z.2; omega
    · refine Or.inr ⟨wi_out z, ?_⟩
      rw [fa_lt, fa_lt]
      rw [fa_le, fa_le] at z
      omega
theorem sub0 (a b : Int32) : a - b = 0 ↔ a = b := by
  constructor
  · intro h
    have : a - b + b = 0 + b := by rw [h]
    grind
  · intro h; rw [h]; grind
/-- the middle part of the question: the cross product and the box -/
def mid (m : Nat → Int32) (s a k b : Nat) : Int32 :=
  if (m (16 + 18 * s + 2 * b) - m (16 + 18 * s + 2 * a)) * (m (17 + 18 * s + 2 * k) - m (17 + 18 * s + 2 * a)) = (m (17 + 18 * s + 2 * b) - m (17 + 18 * s + 2 * a)) * (m (16 + 18 * s + 2 * k) - m (16 + 18 * s + 2 * a)) ∧
    F_X12_isBetween (m (16 + 18 * s + 2 * a)) (m (16 + 18 * s + 2 * k)) (m (16 + 18 * s + 2 * b)) = 1 ∧ F_X12_isBetween (m (17 + 18 * s + 2 * a)) (m (17 + 18 * s + 2 * k)) (m (17 + 18 * s + 2 * b)) = 1 then 1 else 0
theorem btw_01 (a v b : Int32) : F_X12_isBetween a v b = 0 ∨ F_X12_isBetween a v b = 1 := by
  rcases btw_eq a v b with h | h
  · exact Or.inr h.1
  · exact Or.inl h.1
theorem mid_c {c m : Nat → Int32} {s q a k b : Nat} (hs : s < 4) (g : SP s q c m) (ha : a < q) (hk : k < q) (hb : b < q) : F_X1_isBetween c (nI s) (nI a) (nI k) (nI b) = some (mid m s a k b) := by
  have h8 := g.2.1
  unfold F_X1_isBetween F_X1_isBetween_j127 mid
  rw [X1_x hs (by omega), obd_s, X1_y hs (by omega), obd_s, X1_x hs (by omega), obd_s, X1_y hs (by omega), obd_s, X1_x hs (by omega), obd_s, X1_y hs (by omega), obd_s,
    (g.xy ha).1, (g.xy ha).2.1, (g.xy hb).1, (g.xy hb).2.1, (g.xy hk).1, (g.xy hk).2.1]
  generalize m (16 + 18 * s + 2 * a) = xa
  generalize m (17 + 18 * s + 2 * a) = ya
  generalize m (16 + 18 * s + 2 * b) = xb
  generalize m (17 + 18 * s + 2 * b) = yb
  generalize m (16 + 18 * s + 2 * k) = x
  generalize m (17 + 18 * s + 2 * k) = y
  by_cases h1 : (xb - xa) * (y - ya) = (yb - ya) * (x - xa)
  · rw [if_pos h1]
    rcases btw_eq xa x xb with ⟨e1, e2, e3⟩ | ⟨e1, e2⟩
    · rw [if_neg e2, if_neg e3]
      rcases btw_eq ya y yb with ⟨f1, f2, f3⟩ | ⟨f1, f2⟩
      · rw [if_neg f2, if_neg f3, if_pos ⟨h1, e1, f1⟩]
      · rw [if_neg (show ¬ (_ ∧ _ ∧ _) from fun h => absurd (f1.symm.trans h.2.2) (by decide))]
        rcases f2 with f2 | f2
        · rw [if_pos f2]
        · by_cases f3 : y < (if yb < ya then yb else ya)
          · rw [if_pos f3]
          · rw [if_neg f3, if_pos f2]
    · rw [if_neg (show ¬ (_ ∧ _ ∧ _) from fun h => absurd (e1.symm.trans h.2.1) (by decide))]
      rcases e2 with e2 | e2
      · rw [if_pos e2]
      · by_cases e3 : x < (if xb < xa then xb else xa)
        · rw [if_pos e3]
        · rw [if_neg e3, if_pos e2]
  · rw [if_neg h1, if_neg (fun h => h1 h.1)]
theorem mid_m {m : Nat → Int32} {s a k b : Nat} (hs : s < 4) (ha : a < 8) (hk : k < 8) (hb : b < 8) : F_X12_isIdle_j101 m (nI s) (nI k) (nI a) (nI b) = some (mid m s a k b) := by
  unfold F_X12_isIdle_j101 F_X12_isIdle_j239 F_X12_isIdle_j113 mid
  have ne : ∀ w, w < 8 → ¬ nI w = -1 := fun w hw h => by
    have := congrArg Int32.toInt h
    rw [nI_toInt (by omega), show (-1 : Int32).toInt = -1 from by decide] at this; omega
  rw [if_neg (ne a ha), if_neg (ne b hb)]
  simp only [m_x hs hb, m_x hs ha, m_x hs hk, m_y hs hb, m_y hs ha, m_y hs hk, obd_s, lt_eq]
  generalize m (16 + 18 * s + 2 * a) = xa
  generalize m (17 + 18 * s + 2 * a) = ya
  generalize m (16 + 18 * s + 2 * b) = xb
  generalize m (17 + 18 * s + 2 * b) = yb
  generalize m (16 + 18 * s + 2 * k) = x
  generalize m (17 + 18 * s + 2 * k) = y
  by_cases h1 : (xb - xa) * (y - ya) = (yb - ya) * (x - xa)
  · rw [if_pos ((sub0 _ _).mpr h1)]
    rcases btw_01 xa x xb with e | e
    · rw [e, if_pos rfl, if_neg (show ¬ (_ ∧ _ ∧ _) from fun h => absurd h.2.1 (by decide))]
    · rw [e, if_neg (by decide)]
      rcases btw_01 ya y yb with f | f
      · rw [f, if_pos rfl, if_neg (show ¬ (_ ∧ _ ∧ _) from fun h => absurd h.2.2 (by decide))]
      · rw [f, if_neg (by decide), if_pos ⟨h1, rfl, rfl⟩]
  · rw [if_neg (fun h => h1 ((sub0 _ _).mp h)), if_neg (fun h => h1 h.1)]
/-- whether point k of n may go; o: whether the subpath is closed -/
def idl (m : Nat → Int32) (o : Prop) [Decidable o] (s n k : Nat) : Int32 :=
  if k = 0 ∧ ¬ o then 0
  else if m (16 + 18 * s + 2 * (if k = 0 then n - 1 else k - 1)) = m (16 + 18 * s + 2 * k) ∧ m (17 + 18 * s + 2 * (if k = 0 then n - 1 else k - 1)) = m (17 + 18 * s + 2 * k) then 1
  else if k = n - 1 ∧ ¬ o then 0
  else mid m s (if k = 0 then n - 1 else k - 1) k (if k = n - 1 then 0 else k + 1)
theorem mid_01 (m : Nat → Int32) (s a k b : Nat) : mid m s a k b = 0 ∨ mid m s a k b = 1 := by
  unfold mid
  split
  · exact Or.inr rfl
  · exact Or.inl rfl
theorem idle_c {c m : Nat → Int32} {N s n k : Nat} (h13 : c 13 = nI N) (hN : N ≤ 4) (hs : s < N) (g : SP s n c m) (hn : 2 ≤ n) (hk : k < n) : F_X1_isIdle c (nI s) (nI k) = some (idl m (m (15 + 18 * s) = 1) s n k) := by
  have h8 := g.2.1
  unfold F_X1_isIdle F_X1_isIdle_j27
  rw [X1_pts h13 hs hN, obd_s, g.pc, X1_clo h13 hs hN, obd_s, g.cl, if_neg (show ¬ nI n < 2 from nI_nlt (b := 2) hn (by omega))]
  have main : (if k = 0 then m (15 + 18 * s) = 1 else True) → F_X1_isIdle_j29 c (nI s) (nI k) (nI n) (if m (15 + 18 * s) = 1 then 1 else 0) = some (idl m (m (15 + 18 * s) = 1) s n k) := by
    intro hc
    obtain ⟨a, ha, ea⟩ : ∃ a, a < n ∧ a = (if k = 0 then n - 1 else k - 1) := ⟨_, by by_cases q : k = 0; rw [if_pos q]; omega; rw [if_neg q]; omega, rfl⟩
    have e29 : F_X1_isIdle_j29 c (nI s) (nI k) (nI n) (if m (15 + 18 * s) = 1 then 1 else 0) = F_X1_isIdle_j42 c (nI s) (nI k) (nI n) (if m (15 + 18 * s) = 1 then 1 else 0) (nI a) := by
      unfold F_X1_isIdle_j29
      by_cases q : k = 0
      · rw [if_pos q] at ea
        subst q
        rw [if_pos (show nI 0 ≤ 0 from by decide), zl_1, pk_sub (by omega), ea]
      · rw [if_neg q] at ea
        rw [if_neg (nI_nle (by omega) (by omega)), zl_1, pk_sub (by omega), ea]
    rw [e29]
    unfold F_X1_isIdle_j42 F_X1_isIdle_j78 F_X1_isIdle_j92 F_X1_isIdle_j104 F_X1_isIdle_j121 idl
    rw [← ea, X1_x (by omega) (by omega), obd_s, X1_x (by omega) (by omega), obd_s, X1_y (by omega) (by omega), obd_s, X1_y (by omega) (by omega), obd_s, (g.xy ha).1, (g.xy ha).2.1, (g.xy hk).1, (g.xy hk).2.1]
    have n0 : ¬ (k = 0 ∧ ¬ m (15 + 18 * s) = 1) := fun h => by rw [if_pos h.1] at hc; exact h.2 hc
    rw [if_neg n0]
    have rest : (if nI n - 1 ≤ nI k then (if 0 < (0 : Int32) then obd (F_X1_isBetween c (nI s) (nI a) (nI k) 0) (fun u_1 => if u_1 = 0 then some 0 else some 1) else if (if m (15 + 18 * s) = 1 then (1 : Int32) else 0) = 0 then some 0 else obd (F_X1_isBetween c (nI s) (nI a) (nI k) 0) (fun u_1 => if u_1 = 0 then some 0 else some 1))
        else if 0 < nI k + 1 then obd (F_X1_isBetween c (nI s) (nI a) (nI k) (nI k + 1)) (fun u_1 => if u_1 = 0 then some 0 else some 1) else if (if m (15 + 18 * s) = 1 then (1 : Int32) else 0) = 0 then some 0 else obd (F_X1_isBetween c (nI s) (nI a) (nI k) (nI k + 1)) (fun u_1 => if u_1 = 0 then some 0 else some 1))
        = some (if k = n - 1 ∧ ¬ m (15 + 18 * s) = 1 then 0 else mid m s a k (if k = n - 1 then 0 else k + 1)) := by
      have fin : ∀ w : Int32, (w = 0 ∨ w = 1) → obd (some w) (fun u_1 => if u_1 = 0 then some (0 : Int32) else some 1) = some w := fun w hw => by
        rcases hw with rfl | rfl <;> rfl
      by_cases q : k = n - 1
      · rw [if_pos (show nI n - 1 ≤ nI k from by rw [zl_1, pk_sub (by omega)]; exact nI_le (by omega) (by omega)), if_neg (by decide), if_pos q]
        by_cases o : m (15 + 18 * s) = 1
        · rw [if_pos o, if_neg (by decide), if_neg (show ¬ (k = n - 1 ∧ ¬ m (15 + 18 * s) = 1) from fun h => h.2 o), zl_0, mid_c (by omega) g ha hk (by omega)]
          exact fin _ (mid_01 _ _ _ _ _)
        · rw [if_neg o, if_pos rfl, if_pos ⟨q, o⟩]
      · rw [if_neg (show ¬ nI n - 1 ≤ nI k from by rw [zl_1, pk_sub (by omega)]; exact nI_ge (by omega) (by omega)), if_neg (show ¬ (k = n - 1 ∧ ¬ m (15 + 18 * s) = 1) from fun h => q h.1), if_neg q, zl_1, nI_add, if_pos (show (0 : Int32) < nI (k + 1) from nI_lt (a := 0) (by omega) (by omega)), mid_c (by omega) g ha hk (by omega)]
        exact fin _ (mid_01 _ _ _ _ _)
    by_cases h1 : m (16 + 18 * s + 2 * a) = m (16 + 18 * s + 2 * k)
    · rw [if_pos h1]
      by_cases h2 : m (17 + 18 * s + 2 * a) = m (17 + 18 * s + 2 * k)
      · rw [if_pos h2, if_pos (show m (16 + 18 * s + 2 * a) = m (16 + 18 * s + 2 * k) ∧ m (17 + 18 * s + 2 * a) = m (17 + 18 * s + 2 * k) from ⟨h1, h2⟩)]
      · rw [if_neg h2, if_neg (show ¬ (m (16 + 18 * s + 2 * a) = m (16 + 18 * s + 2 * k) ∧ m (17 + 18 * s + 2 * a) = m (17 + 18 * s + 2 * k)) from fun h => h2 h.2)]; exact rest
    · rw [if_neg h1, if_neg (show ¬ (m (16 + 18 * s + 2 * a) = m (16 + 18 * s + 2 * k) ∧ m (17 + 18 * s + 2 * a) = m (17 + 18 * s + 2 * k)) from fun h => h1 h.1)]; exact rest
  by_cases q : k = 0
  · rw [if_pos (show nI k = 0 from by rw [q]; rfl)]
    by_cases o : m (15 + 18 * s) = 1
    · rw [if_neg (show ¬ (if m (15 + 18 * s) = 1 then (1 : Int32) else 0) = 0 from by rw [if_pos o]; decide)]
      exact main (by rw [if_pos q]; exact o)
    · rw [if_pos (show (if m (15 + 18 * s) = 1 then (1 : Int32) else 0) = 0 from if_neg o)]
      unfold idl
      rw [if_pos ⟨q, o⟩]
  · rw [if_neg (show ¬ nI k = 0 from nI_ne0 (by omega) (by omega))]
    exact main (by rw [if_neg q]; trivial)
theorem idle_m {m : Nat → Int32} {s n k : Nat} (hs : s < 4) (hp : m (14 + 18 * s) = nI n) (hn : 2 ≤ n) (h8 : n ≤ 8) (hk : k < n) : F_X12_isIdle m (nI s) (nI k) = some (idl m (m (15 + 18 * s) = 1) s n k) := by
  have ne : ∀ w, w < 8 → ¬ nI w = -1 := fun w hw h => by
    have := congrArg Int32.toInt h
    rw [nI_toInt (by omega), show (-1 : Int32).toInt = -1 from by decide] at this; omega
  unfold F_X12_isIdle
  rw [m_pts hs, obd_s, hp, m_clo hs, obd_s]
  have j59 : ∀ a b, a < 8 → b < 8 → F_X12_isIdle_j59 m (nI s) (nI k) (nI a) (nI b) = some (if m (16 + 18 * s + 2 * a) = m (16 + 18 * s + 2 * k) ∧ m (17 + 18 * s + 2 * a) = m (17 + 18 * s + 2 * k) then 1 else mid m s a k b) := fun a b ha hb => by
    unfold F_X12_isIdle_j59
    rw [if_neg (ne a ha), m_x hs ha, obd_s, m_x hs (by omega), obd_s, m_y hs ha, obd_s, m_y hs (by omega), obd_s, mid_m hs ha (by omega) hb]
    by_cases h1 : m (16 + 18 * s + 2 * a) = m (16 + 18 * s + 2 * k)
    · rw [if_pos h1]
      by_cases h2 : m (17 + 18 * s + 2 * a) = m (17 + 18 * s + 2 * k)
      · rw [if_pos h2, if_pos ⟨h1, h2⟩]
      · rw [if_neg h2, if_neg (fun h => h2 h.2)]
    · rw [if_neg h1, if_neg (fun h => h1 h.1)]
  have j59n : ∀ a, a < 8 → F_X12_isIdle_j59 m (nI s) (nI k) (nI a) (-1) = some (if m (16 + 18 * s + 2 * a) = m (16 + 18 * s + 2 * k) ∧ m (17 + 18 * s + 2 * a) = m (17 + 18 * s + 2 * k) then 1 else 0) := fun a ha => by
    have n101 : F_X12_isIdle_j101 m (nI s) (nI k) (nI a) (-1) = some 0 := by
      unfold F_X12_isIdle_j101 F_X12_isIdle_j113
      rw [if_neg (ne a ha), if_pos rfl]
    unfold F_X12_isIdle_j59
    rw [if_neg (ne a ha), m_x hs ha, obd_s, m_x hs (by omega), obd_s, m_y hs ha, obd_s, m_y hs (by omega), obd_s, n101]
    by_cases h1 : m (16 + 18 * s + 2 * a) = m (16 + 18 * s + 2 * k)
    · rw [if_pos h1]
      by_cases h2 : m (17 + 18 * s + 2 * a) = m (17 + 18 * s + 2 * k)
      · rw [if_pos h2, if_pos ⟨h1, h2⟩]
      · rw [if_neg h2, if_neg (fun h => h2 h.2)]
    · rw [if_neg h1, if_neg (fun h => h1 h.1)]
  have j59o : ∀ b : Int32, F_X12_isIdle_j59 m (nI s) (nI k) (-1) b = some 0 := fun b => by
    unfold F_X12_isIdle_j59 F_X12_isIdle_j101 F_X12_isIdle_j113
    rw [if_pos rfl, if_pos rfl]
  have j31 : ∀ t : Int32, F_X12_isIdle_j31 m (nI s) (nI k) (nI n) t = if k = n - 1 then (if m (15 + 18 * s) = 1 then F_X12_isIdle_j59 m (nI s) (nI k) t (nI 0) else F_X12_isIdle_j59 m (nI s) (nI k) t (-1)) else F_X12_isIdle_j59 m (nI s) (nI k) t (nI (k + 1)) := fun t => by
    unfold F_X12_isIdle_j31
    rw [m_clo hs, obd_s]
    by_cases q : k = n - 1
    · rw [if_pos (show nI n - 1 ≤ nI k from by rw [zl_1, pk_sub (by omega)]; exact nI_le (by omega) (by omega)), if_pos q]
      by_cases o : m (15 + 18 * s) = 1
      · rw [if_pos o, if_pos o, if_neg (by decide)]; rfl
      · rw [if_neg o, if_neg o, if_pos rfl]
    · rw [if_neg (show ¬ nI n - 1 ≤ nI k from by rw [zl_1, pk_sub (by omega)]; exact nI_ge (by omega) (by omega)), if_neg q, zl_1, nI_add]
  have fin : ∀ a, a < n → F_X12_isIdle_j31 m (nI s) (nI k) (nI n) (nI a) = some (if m (16 + 18 * s + 2 * a) = m (16 + 18 * s + 2 * k) ∧ m (17 + 18 * s + 2 * a) = m (17 + 18 * s + 2 * k) then 1 else if k = n - 1 ∧ ¬ m (15 + 18 * s) = 1 then 0 else mid m s a k (if k = n - 1 then 0 else k + 1)) := fun a ha => by
    rw [j31]
    by_cases q : k = n - 1
    · rw [if_pos q, if_pos q]
      by_cases o : m (15 + 18 * s) = 1
      · rw [if_pos o, j59 a 0 (by omega) (by omega), if_neg (show ¬ (k = n - 1 ∧ ¬ m (15 + 18 * s) = 1) from fun h => h.2 o)]
      · rw [if_neg o, j59n a (by omega), if_pos (show k = n - 1 ∧ ¬ m (15 + 18 * s) = 1 from ⟨q, o⟩)]
    · rw [if_neg q, if_neg q, j59 a (k + 1) (by omega) (by omega), if_neg (show ¬ (k = n - 1 ∧ ¬ m (15 + 18 * s) = 1) from fun h => q h.1)]
  unfold idl
  by_cases q : k = 0
  · rw [if_pos (show nI k ≤ 0 from by rw [q]; decide), if_pos q]
    by_cases o : m (15 + 18 * s) = 1
    · rw [if_pos o, if_neg (by decide), if_neg (show ¬ (k = 0 ∧ ¬ m (15 + 18 * s) = 1) from fun h => h.2 o), zl_1, pk_sub (by omega)]
      exact fin (n - 1) (by omega)
    · rw [if_neg o, if_pos rfl, if_pos (show k = 0 ∧ ¬ m (15 + 18 * s) = 1 from ⟨q, o⟩), j31]
      by_cases q2 : k = n - 1
      · rw [if_pos q2, if_neg o, j59o]
      · rw [if_neg q2, j59o]
  · rw [if_neg (nI_nle (by omega) (by omega)), if_neg q, if_neg (show ¬ (k = 0 ∧ ¬ m (15 + 18 * s) = 1) from fun h => q h.1), zl_1, pk_sub (by omega)]
    exact fin (k - 1) (by omega)
