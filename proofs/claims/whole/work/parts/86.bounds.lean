/-! ===== bounds ===== -/
def vI (sd : Nat) (q : Pc) (c : Nat) : Int := if 2 ≤ sd then (q.2.2 c).toInt else (q.2.1 c).toInt
def mg (sd : Nat) (a b : Int) : Int := if sd % 2 = 1 then max a b else min a b
def exI (sd : Nat) (q : Pc) : Nat → Int
  | 0 => vI sd q 0
  | k + 1 => mg sd (exI sd q k) (vI sd q (k + 1))
def rcI (hh : Int) (q : Pc) : Int := if q.1 = 3 then hh else 0
def ad (sd : Nat) (a r : Int) : Int := if sd % 2 = 1 then a + r else a - r
def eoI (sd : Nat) (hh : Int) (q : Pc) : Int := ad sd (exI sd q (nc q.1 - 1)) (rcI hh q)
theorem mg_b {sd : Nat} {a b B : Int} (ha : -B ≤ a ∧ a ≤ B) (hb : -B ≤ b ∧ b ≤ B) : -B ≤ mg sd a b ∧ mg sd a b ≤ B := by
  unfold mg
  by_cases h : sd % 2 = 1
  · rw [if_pos h]; omega
  · rw [if_neg h]; omega
theorem vI_b {sd : Nat} {q : Pc} (h : PB q) {c : Nat} (hc : c < nc q.1) : -100000 ≤ vI sd q c ∧ vI sd q c ≤ 100000 := by
  have := h c hc
  unfold BN at this
  unfold vI
  by_cases z : 2 ≤ sd
  · rw [if_pos z]; exact this.2
  · rw [if_neg z]; exact this.1
theorem exI_b {sd : Nat} {q : Pc} (h : PB q) : ∀ k, k < nc q.1 → -100000 ≤ exI sd q k ∧ exI sd q k ≤ 100000 := by
  intro k
  induction k with
  | zero => intro hk; exact vI_b h hk
  | succ k ih => intro hk; exact mg_b (ih (by omega)) (vI_b h hk)
theorem rcI_b {hh : Int} (h : 0 ≤ hh ∧ hh ≤ 1280) (q : Pc) : 0 ≤ rcI hh q ∧ rcI hh q ≤ 1280 := by
  unfold rcI
  by_cases z : q.1 = 3
  · rw [if_pos z]; exact h
  · rw [if_neg z]; omega
theorem ad_b {sd : Nat} {a r : Int} (ha : -100000 ≤ a ∧ a ≤ 100000) (hr : 0 ≤ r ∧ r ≤ 1280) : -200000 ≤ ad sd a r ∧ ad sd a r ≤ 200000 := by
  unfold ad
  by_cases h : sd % 2 = 1
  · rw [if_pos h]; omega
  · rw [if_neg h]; omega
theorem eoI_b {sd : Nat} {hh : Int} (hh1 : 0 ≤ hh ∧ hh ≤ 1280) {q : Pc} (h : PB q) : -200000 ≤ eoI sd hh q ∧ eoI sd hh q ≤ 200000 :=
  ad_b (exI_b h _ (by have := nc_pos q.1; omega)) (rcI_b hh1 q)
theorem flg {sd : Nat} (h : sd ≤ 3) : ((nI sd &&& 1) = 1 ↔ sd % 2 = 1) ∧ (nI (sd % 2) = 0 ↔ ¬ sd % 2 = 1) ∧ (nI sd < 2 ↔ ¬ 2 ≤ sd) ∧ (2 ≤ nI sd ↔ 2 ≤ sd) := by
  have : sd = 0 ∨ sd = 1 ∨ sd = 2 ∨ sd = 3 := by omega
  rcases this with rfl | rfl | rfl | rfl <;> decide
section EDG
variable {L : List Pc} {K X Y R : Nat → Int32} {i : Nat} {q : Pc} {sd : Nat} {hh : Int}
theorem j51_c (hsd : sd ≤ 3) {a b : Int} (ha : -100000 ≤ a ∧ a ≤ 100000) (hb : -100000 ≤ b ∧ b ≤ 100000) {k : Nat} (hk : 1 ≤ k) (hk2 : k < 100) : F_X7_edgeOf_j51 (nI (sd % 2)) (iI a) (nI k) (iI b) = some (.inl (iI (mg sd a b), nI (k + 1))) := by
  have f := flg hsd
  unfold F_X7_edgeOf_j51 F_X7_edgeOf_j79 F_X7_edgeOf_j83 mg
  rw [if_neg (show ¬ nI k = 0 from nI_ne (b := 0) (by omega) (by omega) (by omega)), lt_eq, lt_eq, zl_1, nI_add]
  by_cases h : sd % 2 = 1
  · rw [if_neg (fun e => f.2.1.mp e h), if_pos h]
    by_cases z : b ≤ a
    · rw [if_pos ((ii_le (by omega) (by omega)).mpr z), show max a b = a from by omega]
    · rw [if_neg (fun e => z ((ii_le (by omega) (by omega)).mp e)), show max a b = b from by omega]
  · rw [if_pos (f.2.1.mpr h), if_neg h]
    by_cases z : a ≤ b
    · rw [if_pos ((ii_le (by omega) (by omega)).mpr z), show min a b = a from by omega]
    · rw [if_neg (fun e => z ((ii_le (by omega) (by omega)).mp e)), show min a b = b from by omega]
theorem eo_c (h : HoP L K X Y) (hL : L.length ≤ 2792) (hq : L[i]? = some q) (hp : PB q) (hsd : sd ≤ 3) (h1 : 0 ≤ hh ∧ hh ≤ 1280) {n : Nat} (hn : 1000 ≤ n) : F_X7_edgeOf n (iI hh) K X Y (nI i) (nI sd) = some (iI (eoI sd hh q)) := by
  have f := flg hsd
  have n1 := nc_pos q.1
  have n4 := nc_le q.1
  have hk4 := (h i q hq).1
  have key : lpq (F_X7_edgeOf_b19 K X Y (nI i) (nI sd) (nI (sd % 2))) n (0, 0) = some (iI (exI sd q (nc q.1 - 1))) := by
    have key : lpq (F_X7_edgeOf_b19 K X Y (nI i) (nI sd) (nI (sd % 2))) n (if 0 = 0 then 0 else iI (exI sd q (0 - 1)), nI 0) = some (iI (exI sd q (nc q.1 - 1))) := by
      refine lpq_run (nc q.1) (fun k => (if k = 0 then 0 else iI (exI sd q (k - 1)), nI k)) (fun k hk => ?_) ?_ (by omega)
      · have cx := cx_c h hL hq hk
        have stp : ∀ z : Int32, z = iI (vI sd q k) → F_X7_edgeOf_j51 (nI (sd % 2)) (if k = 0 then 0 else iI (exI sd q (k - 1))) (nI k) z = some (.inl (iI (exI sd q k), nI (k + 1))) := fun z e => by
          subst e
          cases k with
          | zero =>
            unfold F_X7_edgeOf_j51 F_X7_edgeOf_j79 F_X7_edgeOf_j83
            rw [if_pos (show nI 0 = 0 from rfl), lt_eq, zl_1, nI_add]; rfl
          | succ k =>
            rw [if_neg (by omega)]
            exact j51_c hsd (exI_b hp k (by omega)) (vI_b hp hk) (by omega) (by omega)
        unfold F_X7_edgeOf_b19
        rw [cc_c h hL hq, obd_s]
        show (if nI (nc q.1) ≤ nI k then _ else if nI sd < 2 then obd (F_X7_cornerX X (nI i) (nI k)) _ else obd (F_X7_cornerY Y (nI i) (nI k)) _) = _
        rw [if_neg (nI_ge hk (by omega)), show (if k + 1 = 0 then (0 : Int32) else iI (exI sd q (k + 1 - 1))) = iI (exI sd q k) from if_neg (by omega)]
        by_cases z : 2 ≤ sd
        · rw [if_neg (fun e => f.2.2.1.mp e z), cx.2, obd_s]
          exact stp _ (by unfold vI; rw [if_pos z, ii_of])
        · rw [if_pos (f.2.2.1.mpr z), cx.1, obd_s]
          exact stp _ (by unfold vI; rw [if_neg z, ii_of])
      · unfold F_X7_edgeOf_b19
        rw [cc_c h hL hq, obd_s]
        show (if nI (nc q.1) ≤ nI (nc q.1) then some (Sum.inr (if nc q.1 = 0 then 0 else iI (exI sd q (nc q.1 - 1)))) else _) = _
        rw [if_pos (nI_le (Nat.le_refl _) (by omega)), if_neg (by omega)]
    exact key
  have eb := exI_b (sd := sd) hp (nc q.1 - 1) (by omega)
  have rb := rcI_b h1 q
  have e89 : F_X7_edgeOf_j89 (iI hh) K (nI i) (nI (sd % 2)) (iI (exI sd q (nc q.1 - 1))) = some (iI (eoI sd hh q)) := by
    unfold F_X7_edgeOf_j89 F_X7_edgeOf_j106 eoI ad
    rw [kd_c h hL hq, obd_s]
    have e3 : (nI q.1 = 3) ↔ q.1 = 3 := by
      rw [zl_3]; exact nI_eq (by omega) (by omega)
    have go : (if nI (sd % 2) = 0 then some (iI (exI sd q (nc q.1 - 1)) - iI (rcI hh q)) else some (iI (exI sd q (nc q.1 - 1)) + iI (rcI hh q))) = some (iI (if sd % 2 = 1 then exI sd q (nc q.1 - 1) + rcI hh q else exI sd q (nc q.1 - 1) - rcI hh q)) := by
      by_cases z : sd % 2 = 1
      · rw [if_neg (fun e => f.2.1.mp e z), if_pos z, ii_add]
      · rw [if_pos (f.2.1.mpr z), if_neg z, ii_sub]
    by_cases z : q.1 = 3
    · rw [if_pos (e3.mpr z)]
      have er : rcI hh q = hh := if_pos z
      rw [er] at go ⊢; exact go
    · rw [if_neg (fun e => z (e3.mp e))]
      have er : rcI hh q = 0 := if_neg z
      rw [er] at go ⊢; exact go
  unfold F_X7_edgeOf F_X7_edgeOf_j12 F_X7_edgeOf_j19
  by_cases z : sd % 2 = 1
  · rw [if_pos (f.1.mpr z)]
    rw [z] at key e89
    show obd (lpq (F_X7_edgeOf_b19 K X Y (nI i) (nI sd) (nI 1)) n (0, 0)) _ = _
    rw [key, obd_s]; exact e89
  · rw [if_neg (fun e => z (f.1.mp e))]
    have z0 : sd % 2 = 0 := by omega
    rw [z0] at key e89
    show obd (lpq (F_X7_edgeOf_b19 K X Y (nI i) (nI sd) (nI 0)) n (0, 0)) _ = _
    rw [key, obd_s]; exact e89
end EDG
def ini (sd : Nat) : Int := if sd % 2 = 1 then -1000000 else 1000000
/-- the end of all pieces, the first k of L -/
def EI (sd : Nat) (hh : Int) (L : List Pc) : Nat → Int
  | 0 => ini sd
  | k + 1 => match L[k]? with
    | some q => mg sd (EI sd hh L k) (eoI sd hh q)
    | none => EI sd hh L k
theorem EI_s {sd : Nat} {hh : Int} {L : List Pc} {k : Nat} {q : Pc} (h : L[k]? = some q) : EI sd hh L (k + 1) = mg sd (EI sd hh L k) (eoI sd hh q) := by
  rw [EI, h]
theorem ini_b (sd : Nat) : -1000000 ≤ ini sd ∧ ini sd ≤ 1000000 := by
  unfold ini
  by_cases h : sd % 2 = 1
  · rw [if_pos h]; omega
  · rw [if_neg h]; omega
section BDS
variable {L : List Pc} {K X Y R : Nat → Int32} {sd : Nat} {hh : Int}
theorem EI_b (hp : ∀ (i : Nat) (q : Pc), L[i]? = some q → PB q) (h1 : 0 ≤ hh ∧ hh ≤ 1280) : ∀ k, k ≤ L.length → -1000000 ≤ EI sd hh L k ∧ EI sd hh L k ≤ 1000000 := by
  intro k
  induction k with
  | zero => intro _; exact ini_b sd
  | succ k ih =>
    intro hk
    obtain ⟨q, hq⟩ := hx_at (show k < L.length by omega)
    have e := eoI_b (sd := sd) h1 (hp k q hq)
    rw [EI_s hq]
    exact mg_b (ih (by omega)) (by omega)
theorem sel_c (hsd : sd ≤ 3) {a b : Int} (ha : -1000000 ≤ a ∧ a ≤ 1000000) (hb : -1000000 ≤ b ∧ b ≤ 1000000) : (if sd % 2 = 1 then (if iI a < iI b then iI b else iI a) else (if iI b < iI a then iI b else iI a)) = iI (mg sd a b) := by
  unfold mg
  by_cases h : sd % 2 = 1
  · rw [if_pos h, if_pos h]
    by_cases z : a < b
    · rw [if_pos ((ii_lt (by omega) (by omega)).mpr z), show max a b = b from by omega]
    · rw [if_neg (fun e => z ((ii_lt (by omega) (by omega)).mp e)), show max a b = a from by omega]
  · rw [if_neg h, if_neg h]
    by_cases z : b < a
    · rw [if_pos ((ii_lt (by omega) (by omega)).mpr z), show min a b = b from by omega]
    · rw [if_neg (fun e => z ((ii_lt (by omega) (by omega)).mp e)), show min a b = a from by omega]
theorem eall_c (h : HoP L K X Y) (hL : L.length ≤ 2792) (h0 : 0 < L.length) (hp : ∀ (i : Nat) (q : Pc), L[i]? = some q → PB q) (hsd : sd ≤ 3) (h1 : 0 ≤ hh ∧ hh ≤ 1280) {n : Nat} (hn : 10000 ≤ n) : F_X7_edgeOfAll n (nI L.length) (iI hh) K X Y (nI sd) = some (iI (EI sd hh L L.length)) := by
  have f := flg hsd
  obtain ⟨q0, hq0⟩ := hx_at h0
  have b0 := eoI_b (sd := sd) h1 (hp 0 q0 hq0)
  have e1 : EI sd hh L 1 = eoI sd hh q0 := by
    rw [EI_s hq0, EI]
    unfold mg ini
    by_cases z : sd % 2 = 1
    · rw [if_pos z, if_pos z]; omega
    · rw [if_neg z, if_neg z]; omega
  have key : lpq (F_X7_edgeOfAll_b23 n (nI L.length) (iI hh) K X Y (nI sd) (nI (sd % 2))) n (iI (EI sd hh L (1 + 0)), nI (1 + 0)) = some (iI (EI sd hh L L.length)) := by
    have := lpq_run (body := F_X7_edgeOfAll_b23 n (nI L.length) (iI hh) K X Y (nI sd) (nI (sd % 2))) (x := iI (EI sd hh L L.length)) (L.length - 1) (fun k => (iI (EI sd hh L (1 + k)), nI (1 + k))) (n := n) (fun k hk => ?_) ?_ (by omega)
    · exact this
    · obtain ⟨q, hq⟩ := hx_at (show 1 + k < L.length by omega)
      have eb := EI_b (sd := sd) hp h1 (1 + k) (by omega)
      have qb := eoI_b (sd := sd) h1 (hp _ q hq)
      have es := sel_c hsd eb (show -1000000 ≤ eoI sd hh q ∧ eoI sd hh q ≤ 1000000 by omega)
      unfold F_X7_edgeOfAll_b23 F_X7_edgeOfAll_j60
      show (if nI L.length ≤ nI (1 + k) then _ else obd (F_X7_edgeOf n (iI hh) K X Y (nI (1 + k)) (nI sd)) _) = _
      rw [if_neg (nI_ge (by omega) (by omega)), eo_c h hL hq (hp _ q hq) hsd h1 (by omega), obd_s, show 1 + (k + 1) = 1 + k + 1 from by omega, EI_s hq, ← es]
      by_cases z : sd % 2 = 1
      · rw [if_neg (fun e => f.2.1.mp e z), lt_eq, if_pos z, ← nI_add (1 + k) 1]; rfl
      · rw [if_pos (f.2.1.mpr z), lt_eq, if_neg z, ← nI_add (1 + k) 1]; rfl
    · unfold F_X7_edgeOfAll_b23
      show (if nI L.length ≤ nI (1 + (L.length - 1)) then some (Sum.inr (iI (EI sd hh L (1 + (L.length - 1))))) else _) = _
      rw [if_pos (nI_le (by omega) (by omega)), show 1 + (L.length - 1) = L.length from by omega]
  rw [Nat.add_zero, e1] at key
  have k0 : F_X7_edgeOf n (iI hh) K X Y 0 (nI sd) = some (iI (eoI sd hh q0)) := eo_c h hL hq0 (hp 0 q0 hq0) hsd h1 (by omega)
  unfold F_X7_edgeOfAll F_X7_edgeOfAll_j12 F_X7_edgeOfAll_j23 F_X7_edgeOfAll_j67
  rw [k0, obd_s, obd_s]
  by_cases z : sd % 2 = 1
  · rw [if_pos (f.1.mpr z)]
    rw [z] at key
    show obd (lpq (F_X7_edgeOfAll_b23 n (nI L.length) (iI hh) K X Y (nI sd) (nI 1)) n (iI (eoI sd hh q0), nI 1)) _ = _
    rw [key, obd_s]
  · rw [if_neg (fun e => z (f.1.mp e))]
    have z0 : sd % 2 = 0 := by omega
    rw [z0] at key
    show obd (lpq (F_X7_edgeOfAll_b23 n (nI L.length) (iI hh) K X Y (nI sd) (nI 0)) n (iI (eoI sd hh q0), nI 1)) _ = _
    rw [key, obd_s]
/-! the reference -/
theorem mg_ad {a e v r : Int} : mg sd (mg sd a (ad sd e r)) (ad sd v r) = mg sd a (ad sd (mg sd e v) r) := by
  unfold mg ad
  by_cases z : sd % 2 = 1
  · rw [if_pos z, if_pos z, if_pos z, if_pos z, if_pos z, if_pos z, if_pos z]; omega
  · rw [if_neg z, if_neg z, if_neg z, if_neg z, if_neg z, if_neg z, if_neg z]; omega
def rst (sd : Nat) (a r : Int) (q : Pc) : Nat → Int
  | 0 => a
  | k + 1 => mg sd (rst sd a r q k) (ad sd (vI sd q k) r)
theorem rst_e {a r : Int} {q : Pc} : ∀ k, rst sd a r q (k + 1) = mg sd a (ad sd (exI sd q k) r) := by
  intro k
  induction k with
  | zero => rfl
  | succ k ih => rw [rst, ih, mg_ad]; rfl
theorem j135_m (hsd : sd ≤ 3) {a v r : Int} (ha : -1000000 ≤ a ∧ a ≤ 1000000) (hv : -100000 ≤ v ∧ v ≤ 100000) (hr : 0 ≤ r ∧ r ≤ 1280) (k : Nat) : F_X12_bounds_j135 (nI (sd % 2)) (iI a) (iI r) (nI k) (iI v) = some (.inl (iI (mg sd a (ad sd v r)), nI (k + 1))) := by
  have f := flg hsd
  have ab := ad_b (sd := sd) hv hr
  unfold F_X12_bounds_j135 F_X12_bounds_j151 F_X12_bounds_j185
  simp only [lt_eq]
  unfold ad at ab ⊢
  unfold mg
  by_cases h : sd % 2 = 1
  · rw [if_pos h] at ab
    rw [if_neg (fun e => f.2.1.mp e h), if_neg (fun e => f.2.1.mp e h), ii_add, zl_1, nI_add, if_pos h, if_pos h]
    by_cases z : v + r ≤ a
    · rw [if_pos ((ii_le (by omega) (by omega)).mpr z), show max a (v + r) = a from by omega]
    · rw [if_neg (fun e => z ((ii_le (by omega) (by omega)).mp e)), show max a (v + r) = v + r from by omega]
  · rw [if_neg h] at ab
    rw [if_pos (f.2.1.mpr h), if_pos (f.2.1.mpr h), ii_neg, ii_add, show v + -r = v - r from by omega, zl_1, nI_add, if_neg h, if_neg h]
    by_cases z : a ≤ v - r
    · rw [if_pos ((ii_le (by omega) (by omega)).mpr z), show min a (v - r) = a from by omega]
    · rw [if_neg (fun e => z ((ii_le (by omega) (by omega)).mp e)), show min a (v - r) = v - r from by omega]
theorem j100_m (h : HoQ L R) (hL : L.length ≤ 2792) {i : Nat} {q : Pc} (hq : L[i]? = some q) (hp : PB q) (hsd : sd ≤ 3) {a r : Int} (ha : -1000000 ≤ a ∧ a ≤ 1000000) (hr : 0 ≤ r ∧ r ≤ 1280) {n : Nat} (hn : 1000 ≤ n) :
    F_X12_bounds_j95 n R (nI sd) (nI (sd % 2)) (iI a) (nI i) (iI r) = some (.inl (iI (mg sd a (ad sd (exI sd q (nc q.1 - 1)) r)), nI (i + 1))) := by
  have f := flg hsd
  have n1 := nc_pos q.1
  have n4 := nc_le q.1
  have rb : ∀ k, k ≤ nc q.1 → -1000000 ≤ rst sd a r q k ∧ rst sd a r q k ≤ 1000000 := by
    intro k
    induction k with
    | zero => intro _; exact ha
    | succ k ih =>
      intro hk
      have ab := ad_b (sd := sd) (vI_b (sd := sd) hp (show k < nc q.1 by omega)) hr
      exact mg_b (ih (by omega)) (by omega)
  have key : lpq (F_X12_bounds_b100 R (nI sd) (nI (sd % 2)) (nI i) (iI r)) n (iI (rst sd a r q 0), nI 0) = some (iI (rst sd a r q (nc q.1))) := by
    refine lpq_run (nc q.1) (fun k => (iI (rst sd a r q k), nI k)) (fun k hk => ?_) ?_ (by omega)
    · have c0 := cx_m h hL hq (c := k) (by omega)
      rw [Nat.mod_eq_of_lt hk] at c0
      have st := j135_m hsd (rb k (by omega)) (vI_b (sd := sd) hp hk) hr k
      unfold F_X12_bounds_b100
      rw [cc_m h hL hq, obd_s]
      show (if nI (nc q.1) ≤ nI k then _ else if 2 ≤ nI sd then obd (F_X12_cornerY R (nI i) (nI k)) _ else obd (F_X12_cornerX R (nI i) (nI k)) _) = _
      rw [if_neg (nI_ge hk (by omega))]
      by_cases z : 2 ≤ sd
      · have ev : q.2.2 k = iI (vI sd q k) := by unfold vI; rw [if_pos z, ii_of]
        rw [if_pos (f.2.2.2.mpr z), c0.2, obd_s, ev]
        exact st
      · have ev : q.2.1 k = iI (vI sd q k) := by unfold vI; rw [if_neg z, ii_of]
        rw [if_neg (fun e => z (f.2.2.2.mp e)), c0.1, obd_s, ev]
        exact st
    · unfold F_X12_bounds_b100
      rw [cc_m h hL hq, obd_s]
      exact if_pos (nI_le (Nat.le_refl _) (by omega))
  unfold F_X12_bounds_j95 F_X12_bounds_j100 F_X12_bounds_j192
  have key' : lpq (F_X12_bounds_b100 R (nI sd) (nI (sd % 2)) (nI i) (iI r)) n (iI a, 0) = some (iI (rst sd a r q (nc q.1))) := key
  rw [key', obd_s, lt_eq, zl_1, nI_add]
  have e := rst_e (sd := sd) (a := a) (r := r) (q := q) (nc q.1 - 1)
  rw [show nc q.1 - 1 + 1 = nc q.1 from by omega] at e
  rw [e]
theorem ball_m (h : HoQ L R) (hL : L.length ≤ 2792) (hp : ∀ (i : Nat) (q : Pc), L[i]? = some q → PB q) (hsd : sd ≤ 3) (h1 : 0 ≤ hh ∧ hh ≤ 1280) {m' : Nat → Int32} (hm : F_X12_half m' = some (iI hh)) {n : Nat} (hn : 10000 ≤ n) :
    lpq (F_X12_bounds_b68 n (nI L.length) m' R (nI sd) (nI (sd % 2))) n (iI (ini sd), 0) = some (iI (EI sd hh L L.length)) := by
  have key : lpq (F_X12_bounds_b68 n (nI L.length) m' R (nI sd) (nI (sd % 2))) n (iI (EI sd hh L 0), nI 0) = some (iI (EI sd hh L L.length)) := by
    refine lpq_run L.length (fun k => (iI (EI sd hh L k), nI k)) (fun k hk => ?_) ?_ (by omega)
    · obtain ⟨q, hq⟩ := hx_at hk
      have hk4 := (h k q hq).1
      have e3 : (nI q.1 = 3) ↔ q.1 = 3 := by
        rw [zl_3]; exact nI_eq (by omega) (by omega)
      have go := j100_m h hL hq (hp k q hq) hsd (EI_b (sd := sd) hp h1 k (by omega)) (rcI_b h1 q) (n := n) (by omega)
      unfold F_X12_bounds_b68
      show (if nI L.length ≤ nI k then _ else obd (F_X12_kindOf R (nI k)) _) = _
      rw [if_neg (nI_ge hk (by omega)), kd_m h hL hq, obd_s, EI_s hq]
      by_cases z : q.1 = 3
      · rw [if_pos (e3.mpr z), hm, obd_s]
        have er : rcI hh q = hh := if_pos z
        unfold eoI
        rw [er] at go ⊢; exact go
      · rw [if_neg (fun e => z (e3.mp e))]
        have er : rcI hh q = 0 := if_neg z
        unfold eoI
        rw [er] at go ⊢; exact go
    · unfold F_X12_bounds_b68
      exact if_pos (nI_le (Nat.le_refl _) (by omega))
  exact key
end BDS
theorem hf_e {c m : Nat → Int32} (h : ST c m) : 32 * m 0 = iI (32 * (m 0).toInt) := by
  rw [← ii_mul, ii_of]; rfl
set_option maxHeartbeats 4000000 in
theorem ag_bounds : Ag_bounds (Inv (CAg WS PS)) := by
  unfold Ag_bounds
  intro d0 d1 d2 d3 d4 d5 d6 d7 d8 d9 d10 d11 d12 d13 d14 d15 d16 d17 d18 d19 d20 d21 d22 d23 d24 d25 d26 d27 d28 d29 d30 d31 d32 d33 d34 d35 d36 d37 d38 d39 d40 d41 d42 d43 d44 d45 d46 d47 d48 d49 d50 m0 m1 m2 m3 m4 m5 m6 m7 m8 m9 m10 m11 m12 m13 m14 m15 m16 m17 m18 m19 m20 m21 m22 m23 m24 m25 m26 m27 m28 m29 m30 p1 hI
  obtain ⟨N, p, hR, hH, hT, hC⟩ := Inv_un hI
  have hN4 := hR.1
  have c13 := hR.c13
  have m13 := hR.m13
  have hL := pcs_len hR.red N
  have hL' : (pcs N p (red m14) N).length ≤ 2792 := by omega
  have hw := hR.red.st.w
  have hp : ∀ (i : Nat) (q : Pc), (pcs N p (red m14) N)[i]? = some q → PB q := fun i q h => pcs_at hR.red h
  have hh : 0 ≤ 32 * (red m14 0).toInt ∧ 32 * (red m14 0).toInt ≤ 1280 := by omega
  obtain ⟨y12, y13, y16, y17, y21, b6, b7, b8, b9, b10, b11, b14, b15, b18, b19, b20, R', k4, k5⟩ := lp_m hR.red (red_E m14) (n := 200000) (by omega) m3 m4 m5 m6 m7 m17 m18 m19 m20 m21 m22 m23 m24 m25 m26 m27 m28
  by_cases h1 : 0 ≤ p1 ∧ p1 ≤ 3
  · have hck : F_X11_checkRange p1 0 3 = some (.inl ()) := ck_in h1
    have hwi : F_X12_within p1 0 3 = 1 := wi_in h1
    obtain ⟨sd, hsd, rfl⟩ := ix_le (N := 3) (by omega) h1
    have f := flg hsd
    obtain ⟨e12, e13, e14, e15, e16, e44, e45, e46, e47, e48, e49, e28, e29, e30, e31, e32, e33, e34, e35, e36, e37, e38, e39, e40, e41, e42, e43, e17, e18, e19, e20, e21, e22, e23, e24, e25, e26, e27, k1, ⟨k2, k2b, k2c⟩, k3⟩ := outd hR hC (n := 200000) (by omega)
    rw [hf_e hR.red.st] at k2b
    by_cases h2 : (pcs N p (red m14) N).length = 0
    · refine Or.inr (Or.inr ⟨200000, 200000, (2, e12, e13, e14, e15, e16, e44, e45, e46, e47, e48, e49, e28, e29, e30, e31, e32, e33, e34, e35, e36, e37, e38, e39, e40, e41, e42, e43, e17, e18, e19, e20, e21, e22, e23, e24, e25, e26, e27), (0, 2, y12, y13, y16, y17, y21, nI (pcs N p (red m14) N).length, b6, b7, b8, b9, b10, b11, b14, b15, b18, b19, b20, R'), ?_, rfl, ?_, rfl, Inv_mk hR hH hT k3⟩)
      · unfold F_X11_bounds F_X7_size F_X11_bounds_j30
        rw [hck, obx_l, k1, obd_s, lt_eq]
        dsimp only
        rw [k2, h2, if_pos (show nI 0 ≤ 0 by decide), cs_0, obx_r, ← h2, ← k2]
      · unfold F_X12_bounds F_X12_bounds_j30
        rw [k4, obd_s, hwi, lt_eq, if_neg (by decide)]
        dsimp only
        rw [h2, if_pos (show nI 0 = 0 from rfl), rf_2, lt_eq, if_neg (by decide)]
    · refine Or.inl ⟨200000, 200000, (iI (EI sd (32 * (red m14 0).toInt) (pcs N p (red m14) N) (pcs N p (red m14) N).length), e12, e13, e14, e15, e16, e44, e45, e46, e47, e48, e49, e28, e29, e30, e31, e32, e33, e34, e35, e36, e37, e38, e39, e40, e41, e42, e43, e17, e18, e19, e20, e21, e22, e23, e24, e25, e26, e27), (iI (EI sd (32 * (red m14 0).toInt) (pcs N p (red m14) N) (pcs N p (red m14) N).length), 0, y12, y13, y16, y17, y21, nI (pcs N p (red m14) N).length, b6, b7, b8, b9, b10, b11, b14, b15, b18, b19, b20, R'), ?_, ?_, rfl, rfl, Inv_mk hR hH hT k3⟩
      · unfold F_X11_bounds F_X7_size F_X11_bounds_j30
        rw [hck, obx_l, k1, obd_s, lt_eq]
        dsimp only
        rw [k2, k2b, if_neg (nI_nle (by omega) (by omega)), cs_1, obx_l, eall_c k2c hL' (by omega) hp hsd hh (by omega), obd_s, ← k2b, ← k2]
      · unfold F_X12_bounds F_X12_bounds_j30
        rw [k4, obd_s, hwi, lt_eq, if_neg (by decide)]
        dsimp only
        rw [if_neg (show ¬ nI (pcs N p (red m14) N).length = 0 from nI_ne (b := 0) h2 (by omega) (by omega)), rf_0, lt_eq, if_pos rfl, show nI sd - nI sd / 2 * 2 = nI (sd % 2) from (show nI sd - nI sd / nI 2 * nI 2 = nI (sd % 2) from pk_rem (by omega) (by omega) (by omega))]
        have kb := ball_m k5 hL' hp hsd hh (m' := m14) (by rw [hf_m (red_E m14), hf_e hR.red.st]) (n := 200000) (by omega)
        unfold F_X12_bounds_j50 F_X12_bounds_j64 F_X12_bounds_j68 F_X12_bounds_j198
        by_cases z : sd % 2 = 1
        · rw [z] at kb
          rw [z, if_pos (show nI 1 = 1 from rfl), if_neg (show ¬ (1 : Int32) = 0 by decide)]
          have ei : ini sd = -1000000 := if_pos z
          rw [ei] at kb
          show obd (lpq (F_X12_bounds_b68 200000 (nI (pcs N p (red m14) N).length) m14 R' (nI sd) (nI 1)) 200000 (iI (-1000000), 0)) _ = _
          rw [kb, obd_s]
        · have z0 : sd % 2 = 0 := by omega
          rw [z0] at kb
          rw [z0, if_neg (show ¬ nI 0 = 1 by decide), if_pos (show (0 : Int32) = 0 from rfl)]
          have ei : ini sd = 1000000 := if_neg z
          rw [ei] at kb
          show obd (lpq (F_X12_bounds_b68 200000 (nI (pcs N p (red m14) N).length) m14 R' (nI sd) (nI 0)) 200000 (iI 1000000, 0)) _ = _
          rw [kb, obd_s]
  · refine Or.inr (Or.inl ⟨0, 200000, (1, d12, d13, d14, d15, d16, d44, d45, d46, d47, d48, d49, d28, d29, d30, d31, d32, d33, d34, d35, d36, d37, d38, d39, d40, d41, d42, d43, d17, d18, d19, d20, d21, d22, d23, d24, d25, d26, d27), (0, 1, y12, y13, y16, y17, y21, nI (pcs N p (red m14) N).length, b6, b7, b8, b9, b10, b11, b14, b15, b18, b19, b20, R'), ?_, rfl, ?_, rfl, Inv_mk hR hH hT hC⟩)
    · unfold F_X11_bounds
      rw [ck_out h1, obx_r]
    · unfold F_X12_bounds F_X12_bounds_j30
      rw [k4, obd_s, wi_out h1, lt_eq, if_pos rfl, rf_1, lt_eq, if_neg (by decide)]
