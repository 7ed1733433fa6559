/-! ===== the saved states, the text, and what holds between class and reference ===== -/
def HI (d2 : Int32) (d3 : Nat → Int32) (m0 : Int32) (m15 : Nat → Int32) : Prop :=
  ∃ h : Nat, h ≤ 4 ∧ d2 = nI h ∧ m0 = nI h ∧ ∀ q, q < h → ∃ N p, RW N p (fun i => d3 (86 * q + i)) (fun i => m15 (86 * q + i))
def TX (d4 : Int32) (d9 : Nat → Int32) (m2 : Int32) (m16 : Nat → Int32) : Prop :=
  ∃ k : Nat, k ≤ 150 ∧ d4 = nI k ∧ m2 = nI k ∧ ∀ i, i < k → d9 i = m16 i
abbrev SC : Type := Int32 × Int32 × Int32 × Int32 × Int32 × Int32 × (Nat → Int32) × (Nat → Int32) × (Nat → Int32) × (Nat → Int32) × (Nat → Int32) × (Nat → Int32) × (Nat → Int32) × (Nat → Int32) × (Nat → Int32) × (Nat → Int32) × Int32 × Int32 × (Nat → Int32) × (Nat → Int32) × (Nat → Int32) × (Nat → Int32) × (Nat → Int32) × (Nat → Int32) × (Nat → Int32) × (Nat → Int32) × (Nat → Int32) × Int32 × Int32 × Int32 × Int32 × (Nat → Int32) × Int32 × Int32 × Int32 × (Nat → Int32) × (Nat → Int32) × (Nat → Int32) × (Nat → Int32)
/-- class and reference alike; CA: what the class keeps beside the drawing -/
def Inv (CA : Nat → (Nat → Nat) → (Nat → Int32) → SC → Prop) (X : SX) (M : SM) : Prop :=
  ∃ N p, RW N p X.1 M.2.2.2.2.2.2.2.2.2.2.2.2.2.2.1 ∧ HI X.2.2.1 X.2.2.2.1 M.1 M.2.2.2.2.2.2.2.2.2.2.2.2.2.2.2.1 ∧ TX X.2.2.2.2.1 X.2.2.2.2.2.2.2.2.2.1 M.2.2.1 M.2.2.2.2.2.2.2.2.2.2.2.2.2.2.2.2.1 ∧
    CA N p M.2.2.2.2.2.2.2.2.2.2.2.2.2.2.1 X.2.2.2.2.2.2.2.2.2.2.2.2
/-- nothing is kept at stage 0 -/
def CAz (CA : Nat → (Nat → Nat) → (Nat → Int32) → SC → Prop) : Prop := ∀ N p m t, CA N p m (0, t)
def shf (b : Nat → Int32) (k : Nat) : Nat → Int32 := fun i => if i < k then b (i + 86) else b i
theorem shf_s (b : Nat → Int32) (k : Nat) : upd (shf b k) k (b (k + 86)) = shf b (k + 1) := by
  funext i
  unfold upd shf
  by_cases h1 : i = k
  · subst h1; rw [if_pos rfl, if_pos (by omega)]
  · rw [if_neg h1]
    by_cases h2 : i < k
    · rw [if_pos h2, if_pos (by omega)]
    · rw [if_neg h2, if_neg (by omega)]
theorem shf_0 (b : Nat → Int32) : shf b 0 = b := funext fun i => if_neg (by omega)
theorem keep_c {h : Nat} (hh : h ≤ 4) (a c : Nat → Int32) : ∃ r, F_X3_keep (nI h) a c = some (nI (min h 3 + 1), r) ∧
    (∀ i, i < 86 → r (86 * min h 3 + i) = c i) ∧ (∀ i, i < 86 * min h 3 → r i = if h = 4 then a (i + 86) else a i) := by
  unfold F_X3_keep F_X3_keep_j35
  by_cases q : h = 4
  · subst q
    rw [if_pos (show nI 4 = 4 from rfl), gd_t (by decide), lt_eq, lt_eq, show nI 4 - 1 = nI 3 from by decide, zl_86, pk_mul]
    unfold F_X1_copyTo
    rw [if_neg (show ¬ nI (3 * 86) < 0 from by decide), if_neg (show ¬ (Int32.ofNat 344 - 86 < nI (3 * 86)) from by decide), gd_t (by decide), lt_eq, obd_s, lt_eq]
    refine ⟨_, by rfl, fun i hi => ?_, fun i hi => ?_⟩
    · show (if (nI (3 * 86)).toNatClampNeg ≤ 86 * 3 + i ∧ 86 * 3 + i < (nI (3 * 86)).toNatClampNeg + (86 : Int32).toNatClampNeg then c ((0 : Int32).toNatClampNeg + (86 * 3 + i - (nI (3 * 86)).toNatClampNeg)) else _) = c i
      rw [show (nI (3 * 86)).toNatClampNeg = 258 from by decide, show (86 : Int32).toNatClampNeg = 86 from by decide, cl_0, if_pos (by omega)]
      exact congrArg c (by omega)
    · have hi : i < 258 := hi
      show (if (nI (3 * 86)).toNatClampNeg ≤ i ∧ i < (nI (3 * 86)).toNatClampNeg + (86 : Int32).toNatClampNeg then c ((0 : Int32).toNatClampNeg + (i - (nI (3 * 86)).toNatClampNeg)) else (if (0 : Int32).toNatClampNeg ≤ i ∧ i < (0 : Int32).toNatClampNeg + (258 : Int32).toNatClampNeg then a ((86 : Int32).toNatClampNeg + (i - (0 : Int32).toNatClampNeg)) else a i)) = _
      rw [show (nI (3 * 86)).toNatClampNeg = 258 from by decide, show (86 : Int32).toNatClampNeg = 86 from by decide, show (258 : Int32).toNatClampNeg = 258 from by decide, cl_0, if_neg (by omega), if_pos (by omega), if_pos rfl]
      exact congrArg a (by omega)
  · rw [if_neg (show ¬ nI h = 4 from nI_ne (b := 4) q (by omega) (by omega)), zl_86, pk_mul]
    unfold F_X1_copyTo
    have e1 : (nI (h * 86)).toNatClampNeg = h * 86 := nI_clamp (by omega)
    have e2 : Int32.ofNat 344 - 86 = nI 258 := by decide
    have e4 : (86 : Int32).toInt = 86 := by decide
    have m3 : min h 3 = h := by omega
    have e3 : (nI (h * 86)).toInt = ((h * 86 : Nat) : Int) := nI_toInt (by omega)
    rw [if_neg (nI_pos (by omega)), e2, if_neg (nI_nlt (by omega) (by omega)), gd_t ⟨by decide, by omega, by decide, by decide, by omega⟩, lt_eq, obd_s, lt_eq, m3]
    refine ⟨_, by rw [zl_1, nI_add], fun i hi => ?_, fun i hi => ?_⟩
    · show (if (nI (h * 86)).toNatClampNeg ≤ 86 * h + i ∧ 86 * h + i < (nI (h * 86)).toNatClampNeg + (86 : Int32).toNatClampNeg then c ((0 : Int32).toNatClampNeg + (86 * h + i - (nI (h * 86)).toNatClampNeg)) else _) = c i
      rw [e1, show (86 : Int32).toNatClampNeg = 86 from by decide, cl_0, if_pos (by omega)]
      exact congrArg c (by omega)
    · show (if (nI (h * 86)).toNatClampNeg ≤ i ∧ i < (nI (h * 86)).toNatClampNeg + (86 : Int32).toNatClampNeg then c ((0 : Int32).toNatClampNeg + (i - (nI (h * 86)).toNatClampNeg)) else a i) = _
      rw [e1, show (86 : Int32).toNatClampNeg = 86 from by decide, if_neg (by omega), if_neg q]
theorem keep_m1 {n : Nat} (hn : 1000 ≤ n) {h : Nat} (hh : h ≤ 3) (c a : Nat → Int32) : F_X12_saves_j48 n (nI h) c a = some (nI (h + 1), fb_put a c (86 * h) 86) := by
  unfold F_X12_saves_j48 F_X12_saves_j50
  have key : lpq (F_X12_saves_b50 (nI h) c) n (nI 0, fb_put a c (86 * h) 0) = some (fb_put a c (86 * h) 86) := by
    refine lpq_run 86 (fun k => (nI k, fb_put a c (86 * h) k)) (fun i hi => ?_) ?_ (by omega)
    · unfold F_X12_saves_b50
      simp only [zl_86, lt_eq, pk_mul, nI_add]
      rw [if_neg (nI_ge hi (by omega)), gd_in hi (by decide), gd_in (by omega) (by decide), nI_clamp (by omega), nI_clamp (by omega), fb_put_succ, zl_1, nI_add]
    · unfold F_X12_saves_b50
      exact if_pos (show (86 : Int32) ≤ nI 86 from by decide)
  rw [fb_put_0] at key
  rw [show (0 : Int32) = nI 0 from rfl, key, obd_s]
  unfold F_X12_saves_j82
  rw [lt_eq, zl_1, nI_add]
theorem keep_m {n : Nat} (hn : 1000 ≤ n) {h : Nat} (hh : h ≤ 4) (c a : Nat → Int32) : ∃ r, F_X12_saves n (nI h) c a = some (nI (min h 3 + 1), r) ∧
    (∀ i, i < 86 → r (86 * min h 3 + i) = c i) ∧ (∀ i, i < 86 * min h 3 → r i = if h = 4 then a (i + 86) else a i) := by
  unfold F_X12_saves
  by_cases q : h = 4
  · subst q
    rw [if_pos (show nI 4 = 4 from rfl)]
    unfold F_X12_saves_j10
    have key : lpq F_X12_saves_b10 n (nI 0, shf a 0) = some (shf a 258) := by
      refine lpq_run 258 (fun k => (nI k, shf a k)) (fun i hi => ?_) ?_ (by omega)
      · unfold F_X12_saves_b10
        simp only [zl_86, zl_258, lt_eq, nI_add]
        rw [if_neg (nI_ge hi (by omega)), gd_in (by omega) (by decide), gd_in (by omega) (by decide), nI_clamp (by omega), nI_clamp (by omega), show shf a i (i + 86) = a (i + 86) from if_neg (by omega), shf_s, zl_1, nI_add]
      · unfold F_X12_saves_b10
        exact if_pos (show (258 : Int32) ≤ nI 258 from by decide)
    rw [shf_0] at key
    rw [show (0 : Int32) = nI 0 from rfl, key, obd_s]
    unfold F_X12_saves_j38
    rw [lt_eq, show nI 4 - 1 = nI 3 from by decide, keep_m1 hn (by omega)]
    refine ⟨_, rfl, fun i hi => ?_, fun i hi => ?_⟩
    · rw [show min 4 3 = 3 from rfl, fb_put_in (by omega) (by omega)]; exact congrArg c (by omega)
    · have hi : i < 258 := hi
      rw [fb_put_out (by omega), if_pos rfl]; exact if_pos hi
  · rw [if_neg (show ¬ nI h = 4 from nI_ne (b := 4) q (by omega) (by omega)), keep_m1 hn (by omega)]
    have m3 : min h 3 = h := by omega
    rw [m3]
    refine ⟨_, rfl, fun i hi => ?_, fun i hi => ?_⟩
    · rw [fb_put_in (by omega) (by omega)]; exact congrArg c (by omega)
    · rw [fb_put_out (by omega), if_neg q]
/-- saving in both -/
theorem save_both {n : Nat} (hn : 1000 ≤ n) {N : Nat} {p : Nat → Nat} {c m a b : Nat → Int32} {z w : Int32} (hR : RW N p c m) (hH : HI z a w b) :
    ∃ y a' b', F_X11_saveState c z a = some (y, a', 0) ∧ F_X12_saves n w m b = some (y, b') ∧ HI y a' y b' := by
  obtain ⟨h, h1, rfl, rfl, h2⟩ := hH
  obtain ⟨r, e1, e2, e3⟩ := keep_c h1 a c
  obtain ⟨t, f1, f2, f3⟩ := keep_m hn h1 m b
  refine ⟨nI (min h 3 + 1), r, t, ?_, f1, min h 3 + 1, by omega, rfl, rfl, fun q hq => ?_⟩
  · unfold F_X11_saveState; rw [e1, obd_s, lt_eq]; rfl
  · by_cases hq3 : q = min h 3
    · subst hq3
      exact ⟨N, p, hR.i86 e2 f2⟩
    · by_cases h4 : h = 4
      · obtain ⟨N', p', hR'⟩ := h2 (q + 1) (by omega)
        refine ⟨N', p', hR'.i86 (fun i hi => ?_) (fun i hi => ?_)⟩
        · show r (86 * q + i) = a (86 * (q + 1) + i)
          rw [e3 _ (by omega), if_pos h4]; exact congrArg a (by omega)
        · show t (86 * q + i) = b (86 * (q + 1) + i)
          rw [f3 _ (by omega), if_pos h4]; exact congrArg b (by omega)
      · obtain ⟨N', p', hR'⟩ := h2 q (by omega)
        refine ⟨N', p', hR'.i86 (fun i hi => ?_) (fun i hi => ?_)⟩
        · show r (86 * q + i) = a (86 * q + i)
          rw [e3 _ (by omega), if_neg h4]
        · show t (86 * q + i) = b (86 * q + i)
          rw [f3 _ (by omega), if_neg h4]
