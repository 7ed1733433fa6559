/-! ===== covered: the marks ===== -/
def MK (w : Nat → Int32) (G : Nat → Nat → Bool) : Prop := ∀ r, r < 21 → ∃ M, M < 2 ^ 21 ∧ w r = nI M ∧ ∀ c, c < 21 → M.testBit c = G r c
theorem MK.cong {w : Nat → Int32} {G G' : Nat → Nat → Bool} (h : MK w G) (e : ∀ r c, r < 21 → c < 21 → G r c = G' r c) : MK w G' := fun r hr => by
  obtain ⟨M, h1, h2, h3⟩ := h r hr
  exact ⟨M, h1, h2, fun c hc => by rw [h3 c hc, e r c hr hc]⟩
theorem sh_1 : ∀ c : Fin 21, (1 : Int32) <<< (nI c.val &&& 31) = nI (2 ^ c.val) := by decide
theorem sm_sw (F : Nat → Nat → Nat) (m : Nat) : ∀ n, fb_sm (fun i => fb_sm (fun j => F i j) m) n = fb_sm (fun j => fb_sm (fun i => F i j) n) m := by
  intro n
  induction n with
  | zero => exact (fb_sm_const 0 m ▸ (by rw [Nat.mul_zero]; rfl) : fb_sm (fun i => fb_sm (fun j => F i j) m) 0 = fb_sm (fun _ => 0) m)
  | succ n ih =>
    rw [fb_sm_succ, ih, ← fb_sm_add]; rfl
theorem sm_cut (f : Nat → Nat) {a b : Nat} (hab : a ≤ b) (h : ∀ k, a ≤ k → k < b → f k = 0) : fb_sm f b = fb_sm f a := by
  have e := fb_sm_split f a (b - a)
  rw [show a + (b - a) = b from by omega] at e
  rw [e, fb_sm_cong (g := fun _ => 0) (fun k hk => h (a + k) (by omega) (by omega)), fb_sm_const, Nat.mul_zero, Nat.add_zero]
theorem dsum (f : Nat → Nat → Bool) {ht wd : Nat} (h1 : ht ≤ 20) (h2 : wd ≤ 20) :
    fb_sm (fun r => fb_sm (fun c => if (decide (r ≤ ht ∧ c ≤ wd) && f r c) = true then 1 else 0) 21) 21 = fb_sm (fun c => fb_sm (fun r => if f r c = true then 1 else 0) (ht + 1)) (wd + 1) := by
  rw [sm_sw, sm_cut (a := wd + 1) _ (by omega) (fun c hc hc2 => ?_)]
  · refine fb_sm_cong (fun c hc => ?_)
    rw [sm_cut (a := ht + 1) _ (by omega) (fun r hr hr2 => ?_)]
    · refine fb_sm_cong (fun r hr => ?_)
      rw [decide_eq_true (show r ≤ ht ∧ c ≤ wd by omega), Bool.true_and]
    · show (if (decide (r ≤ ht ∧ c ≤ wd) && f r c) = true then 1 else 0) = 0
      rw [decide_eq_false (show ¬ (r ≤ ht ∧ c ≤ wd) by omega), Bool.false_and]; rfl
  · show fb_sm (fun r => if (decide (r ≤ ht ∧ c ≤ wd) && f r c) = true then 1 else 0) 21 = 0
    rw [fb_sm_cong (g := fun _ => 0) (fun r hr => ?_), fb_sm_const, Nat.mul_zero]
    rw [decide_eq_false (show ¬ (r ≤ ht ∧ c ≤ wd) by omega), Bool.false_and]; rfl
section GRD
variable {L : List Pc} {K X Y R : Nat → Int32} {i : Nat} {q : Pc} {hh px py : Int} {w : Nat → Int32} {G : Nat → Nat → Bool}
def cvG (hh px py : Int) (q : Pc) (r c : Nat) : Bool := cvB (iI hh) q (64 * iI (px + c)) (64 * iI (py + r))
theorem co_e (px : Int) (c : Nat) : 64 * (iI px + nI c) = 64 * iI (px + c) := by rw [ii_n, ii_add]
theorem mk_step (hcov : ∀ r c : Nat, ∀ n, 1000 ≤ n → F_X7_covers n (iI hh) K X Y (nI i) (64 * (iI px + nI c)) (64 * (iI py + nI r)) = some (b2 (cvG hh px py q r c))) (h : MK w G) {r c : Nat} (hr : r < 21) (hc : c < 21) {ri : Int} (hri : (c : Int) ≤ ri) (hri2 : ri ≤ 20) {n : Nat} (hn : 1000 ≤ n) :
    ∃ w', F_X2_markCovered_b97 n (iI hh) K X Y (nI i) (iI px) (iI py) (iI ri) (nI r) (nI c, w) = some (.inl (nI (c + 1), w')) ∧ MK w' (fun r' c' => G r' c' || (decide (r' = r ∧ c' = c) && cvG hh px py q r' c')) := by
  obtain ⟨M, hM, hw, ht⟩ := h r hr
  have e1 := sh_1 ⟨c, hc⟩
  dsimp only at e1
  have kp : ∀ b : Bool, (M.testBit c = true ∨ cvG hh px py q r c = false) → MK w (fun r' c' => G r' c' || (decide (r' = r ∧ c' = c) && cvG hh px py q r' c')) := fun _ hor => by
    refine h.cong (fun r' c' hr' hc' => ?_)
    by_cases z : r' = r ∧ c' = c
    · obtain ⟨rfl, rfl⟩ := z
      rw [decide_eq_true (show r' = r' ∧ c' = c' from ⟨rfl, rfl⟩), Bool.true_and]
      rcases hor with y | y
      · rw [← ht c' hc', y]; rfl
      · rw [y, Bool.or_false]
    · rw [decide_eq_false z, Bool.false_and, Bool.or_false]
  unfold F_X2_markCovered_b97 F_X2_markCovered_j158
  dsimp only
  rw [if_neg (show ¬ iI ri < nI c from by rw [ii_n, ii_lt (by omega) (by omega)]; omega), e1, lt_eq, gd_in hr (by decide), nI_clamp (by omega)]
  have hz : (w r &&& nI (2 ^ c) = 0) ↔ M.testBit c = false := by rw [hw]; exact fa_bit (by omega)
  by_cases z : M.testBit c = false
  · rw [if_pos (hz.mpr z), hcov r c n hn, obd_s]
    by_cases b : cvG hh px py q r c = true
    · rw [if_neg (b2_t b), gd_in hr (by decide), hw, fa_or, lt_eq, gd_in hr (by decide), lt_eq, lt_eq, zl_1, nI_add]
      refine ⟨_, rfl, fun r' hr' => ?_⟩
      by_cases y : r' = r
      · subst y
        have h2c : 2 ^ c < 2 ^ 21 := Nat.pow_lt_pow_right (by decide) hc
        refine ⟨M ||| 2 ^ c, Nat.or_lt_two_pow hM h2c, ud_e rfl, fun c' hc' => ?_⟩
        show _ = (G r' c' || (decide (r' = r' ∧ c' = c) && cvG hh px py q r' c'))
        rw [Nat.testBit_or, ht c' hc', Nat.testBit_two_pow]
        by_cases v : c = c'
        · subst v
          rw [decide_eq_true rfl, decide_eq_true (show r' = r' ∧ c = c from ⟨rfl, rfl⟩), b]; rfl
        · rw [decide_eq_false v, decide_eq_false (show ¬ (r' = r' ∧ c' = c) from fun h => v h.2.symm)]; rfl
      · obtain ⟨M', g1, g2, g3⟩ := h r' hr'
        refine ⟨M', g1, by rw [ud_n y]; exact g2, fun c' hc' => ?_⟩
        show _ = (G r' c' || (decide (r' = r ∧ c' = c) && cvG hh px py q r' c'))
        rw [g3 c' hc', decide_eq_false (show ¬ (r' = r ∧ c' = c) from fun h => y h.1), Bool.false_and, Bool.or_false]
    · have bf : cvG hh px py q r c = false := by
        cases hb : cvG hh px py q r c with
        | false => rfl
        | true => exact absurd hb b
      rw [if_pos (b2_f b), lt_eq, zl_1, nI_add]
      exact ⟨w, rfl, kp true (Or.inr bf)⟩
  · have zt : M.testBit c = true := by
      cases hb : M.testBit c with
      | false => exact absurd hb z
      | true => rfl
    rw [if_neg (fun e => z (hz.mp e)), lt_eq, zl_1, nI_add]
    exact ⟨w, rfl, kp true (Or.inl zt)⟩
theorem row_c (hcov : ∀ r c : Nat, ∀ n, 1000 ≤ n → F_X7_covers n (iI hh) K X Y (nI i) (64 * (iI px + nI c)) (64 * (iI py + nI r)) = some (b2 (cvG hh px py q r c))) (h : MK w G) {r le : Nat} (hr : r < 21) (hle : le ≤ 1000000) {ri : Int} (hri : -1000000 ≤ ri) (hri2 : ri ≤ 20) {n : Nat} (hn : 1000 ≤ n) :
    ∃ w', F_X2_markCovered_j97 n w (iI hh) K X Y (nI i) (iI px) (iI py) (iI ri) (nI r) (nI le) = some (.inl (nI (r + 1), w')) ∧ MK w' (fun r' c' => G r' c' || (decide (r' = r ∧ le ≤ c' ∧ (c' : Int) ≤ ri) && cvG hh px py q r' c')) := by
  have key : ∃ x, lpq (F_X2_markCovered_b97 n (iI hh) K X Y (nI i) (iI px) (iI py) (iI ri) (nI r)) n (nI le, w) = some x ∧ MK x (fun r' c' => G r' c' || (decide (r' = r ∧ le ≤ c' ∧ (c' : Int) ≤ ri) && cvG hh px py q r' c')) := by
    refine lpq_i0 (fun k st => ∃ w1, st = (nI (le + k), w1) ∧ MK w1 (fun r' c' => G r' c' || (decide (r' = r ∧ le ≤ c' ∧ c' < le + k) && cvG hh px py q r' c'))) _ (ri + 1 - le).toNat ?_ (by omega) ⟨w, rfl, h.cong (fun r' c' _ _ => ?_)⟩
    · rintro k st hk ⟨w1, rfl, h1⟩
      by_cases z : (le + k : Int) ≤ ri
      · right
        refine ⟨by omega, ?_⟩
        obtain ⟨w2, e2, h2⟩ := mk_step hcov h1 hr (c := le + k) (by omega) (ri := ri) (by omega) hri2 hn
        refine ⟨_, e2, w2, rfl, h2.cong (fun r' c' _ _ => ?_)⟩
        rw [Bool.or_assoc, ← Bool.and_or_distrib_right, ← Bool.decide_or]
        congr 2
        exact decide_eq_decide.mpr (by omega)
      · left
        refine ⟨w1, ?_, h1.cong (fun r' c' _ _ => ?_)⟩
        · unfold F_X2_markCovered_b97
          exact if_pos (show iI ri < nI (le + k) from by rw [ii_n, ii_lt (by omega) (by omega)]; omega)
        · congr 2
          exact decide_eq_decide.mpr (by omega)
    · rw [decide_eq_false (show ¬ (r' = r ∧ le ≤ c' ∧ c' < le + 0) by omega), Bool.false_and, Bool.or_false]
  obtain ⟨x, e, hx⟩ := key
  unfold F_X2_markCovered_j97 F_X2_markCovered_j164
  rw [e, obd_s, lt_eq, zl_1, nI_add]
  exact ⟨x, rfl, hx⟩
theorem rows_c (hcov : ∀ r c : Nat, ∀ n, 1000 ≤ n → F_X7_covers n (iI hh) K X Y (nI i) (64 * (iI px + nI c)) (64 * (iI py + nI r)) = some (b2 (cvG hh px py q r c))) (h : MK w G) {lo le : Nat} (hlo : lo ≤ 1000000) (hle : le ≤ 1000000) {ri hi : Int} (hri : -1000000 ≤ ri) (hri2 : ri ≤ 20) (hhi : -1000000 ≤ hi) (hhi2 : hi ≤ 20) {n : Nat} (hn : 1000 ≤ n) :
    ∃ w', F_X2_markCovered_j86 n w (iI hh) K X Y (nI i) (iI px) (iI py) (nI le) (iI ri) (iI hi) (nI lo) = some w' ∧ MK w' (fun r' c' => G r' c' || (decide ((lo ≤ r' ∧ (r' : Int) ≤ hi) ∧ le ≤ c' ∧ (c' : Int) ≤ ri) && cvG hh px py q r' c')) := by
  have key : ∃ x, lpq (F_X2_markCovered_b86 n (iI hh) K X Y (nI i) (iI px) (iI py) (nI le) (iI ri) (iI hi)) n (nI lo, w) = some x ∧ MK x (fun r' c' => G r' c' || (decide ((lo ≤ r' ∧ (r' : Int) ≤ hi) ∧ le ≤ c' ∧ (c' : Int) ≤ ri) && cvG hh px py q r' c')) := by
    refine lpq_i0 (fun k st => ∃ w1, st = (nI (lo + k), w1) ∧ MK w1 (fun r' c' => G r' c' || (decide ((lo ≤ r' ∧ r' < lo + k) ∧ le ≤ c' ∧ (c' : Int) ≤ ri) && cvG hh px py q r' c'))) _ (hi + 1 - lo).toNat ?_ (by omega) ⟨w, rfl, h.cong (fun r' c' _ _ => ?_)⟩
    · rintro k st hk ⟨w1, rfl, h1⟩
      by_cases z : (lo + k : Int) ≤ hi
      · right
        refine ⟨by omega, ?_⟩
        obtain ⟨w2, e2, h2⟩ := row_c hcov h1 (r := lo + k) (by omega) hle hri hri2 hn
        refine ⟨(nI (lo + k + 1), w2), ?_, w2, rfl, h2.cong (fun r' c' _ _ => ?_)⟩
        · unfold F_X2_markCovered_b86
          show (if iI hi < nI (lo + k) then _ else F_X2_markCovered_j97 n w1 (iI hh) K X Y (nI i) (iI px) (iI py) (iI ri) (nI (lo + k)) (nI le)) = _
          rw [if_neg (show ¬ iI hi < nI (lo + k) from by rw [ii_n, ii_lt (by omega) (by omega)]; omega), e2]
        · rw [Bool.or_assoc, ← Bool.and_or_distrib_right, ← Bool.decide_or]
          congr 2
          exact decide_eq_decide.mpr (by omega)
      · left
        refine ⟨w1, ?_, h1.cong (fun r' c' _ _ => ?_)⟩
        · unfold F_X2_markCovered_b86
          exact if_pos (show iI hi < nI (lo + k) from by rw [ii_n, ii_lt (by omega) (by omega)]; omega)
        · congr 2
          exact decide_eq_decide.mpr (by omega)
    · rw [decide_eq_false (show ¬ ((lo ≤ r' ∧ r' < lo + 0) ∧ le ≤ c' ∧ (c' : Int) ≤ ri) by omega), Bool.false_and, Bool.or_false]
  obtain ⟨x, e, hx⟩ := key
  unfold F_X2_markCovered_j86
  rw [e, obd_s]
  exact ⟨x, rfl, hx⟩
/-- what covers a point has it in its box -/
theorem cv_box (hp : PB q) (h1 : 0 ≤ hh ∧ hh ≤ 1280) {x y : Int32} (hx : BN 20000 x) (hy : BN 20000 y) (h : cvB (iI hh) q x y = true) : (eoI 0 hh q ≤ x.toInt ∧ x.toInt ≤ eoI 1 hh q) ∧ eoI 2 hh q ≤ y.toInt ∧ y.toInt ≤ eoI 3 hh q := by
  unfold cvB at h
  by_cases z : q.1 = 3
  · rw [if_pos z] at h
    unfold dcB at h
    have hd := of_decide_eq_true h
    have n1 : nc q.1 = 1 := by rw [z]; rfl
    have b0 := hp 0 (by omega)
    unfold BN at b0 hx hy
    have er : rcI hh q = hh := if_pos z
    have e0 : ∀ sd, exI sd q (nc q.1 - 1) = vI sd q 0 := fun sd => by rw [n1]; rfl
    have f0 : eoI 0 hh q = (q.2.1 0).toInt - hh := by unfold eoI ad; rw [er, e0]; rfl
    have f1 : eoI 1 hh q = (q.2.1 0).toInt + hh := by unfold eoI ad; rw [er, e0]; rfl
    have f2 : eoI 2 hh q = (q.2.2 0).toInt - hh := by unfold eoI ad; rw [er, e0]; rfl
    have f3 : eoI 3 hh q = (q.2.2 0).toInt + hh := by unfold eoI ad; rw [er, e0]; rfl
    have dx : (x - q.2.1 0).toInt64 = lI (x.toInt - (q.2.1 0).toInt) := by rw [ii_w', fb_subI (by omega) (by omega)]
    have dy : (y - q.2.2 0).toInt64 = lI (y.toInt - (q.2.2 0).toInt) := by rw [ii_w', fb_subI (by omega) (by omega)]
    obtain ⟨a, ha⟩ : ∃ a, a = x.toInt - (q.2.1 0).toInt := ⟨_, rfl⟩
    obtain ⟨b, hb⟩ : ∃ b, b = y.toInt - (q.2.2 0).toInt := ⟨_, rfl⟩
    have m1 := mb (a := a) (b := a) (A := 200000) (B := 200000) (by omega) (by omega)
    have m2 := mb (a := b) (b := b) (A := 200000) (B := 200000) (by omega) (by omega)
    have m3 := mb (a := hh) (b := hh) (A := 1280) (B := 1280) (by omega) (by omega)
    rw [dx, dy, ← ha, ← hb, ii_w (by omega) (by omega), li_mul, li_mul, li_mul, li_add, lg_cmp_gt, li_lt (by constructor <;> omega) (by constructor <;> omega)] at hd
    have pa := sq_nn a
    have pb := sq_nn b
    have qa : a ≤ hh := sq_rev h1.1 (by omega)
    have qa2 : -a ≤ hh := sq_rev h1.1 (by have e : -a * -a = a * a := by grind
                                          omega)
    have qb : b ≤ hh := sq_rev h1.1 (by omega)
    have qb2 : -b ≤ hh := sq_rev h1.1 (by have e : -b * -b = b * b := by grind
                                          omega)
    omega
  · rw [if_neg z, bx_e] at h
    have er : rcI hh q = 0 := if_neg z
    have eo : ∀ sd, eoI sd hh q = exI sd q (nc q.1 - 1) := fun sd => by
      unfold eoI ad
      rw [er]
      by_cases y : sd % 2 = 1
      · rw [if_pos y]; omega
      · rw [if_neg y]; omega
    rw [eo, eo, eo, eo]
    simp only [Bool.and_eq_true, decide_eq_true_eq] at h
    exact ⟨⟨h.2.1.1.1, h.2.1.1.2⟩, h.2.2, h.2.1.2⟩
theorem mark_c (h : HoP L K X Y) (hL : L.length ≤ 2792) (hq : L[i]? = some q) (hp : PB q) (h1 : 0 ≤ hh ∧ hh ≤ 1280) (hpx : -100 ≤ px ∧ px ≤ 100) (hpy : -100 ≤ py ∧ py ≤ 100) {wd ht : Nat} (hwd : wd ≤ 20) (hht : ht ≤ 20) (hM : MK w G) {n : Nat} (hn : 1000 ≤ n) :
    ∃ w', F_X2_markCovered n w (iI hh) K X Y (nI i) (iI px) (iI py) (nI wd) (nI ht) = some w' ∧ MK w' (fun r c => G r c || (decide (r ≤ ht ∧ c ≤ wd) && cvG hh px py q r c)) := by
  have hcov : ∀ r c : Nat, ∀ n, 1000 ≤ n → F_X7_covers n (iI hh) K X Y (nI i) (64 * (iI px + nI c)) (64 * (iI py + nI r)) = some (b2 (cvG hh px py q r c)) := fun r c n hn => by
    rw [co_e, co_e]; exact cov_c h hL hq hp h1 _ _ hn
  have b0 := eoI_b (sd := 0) h1 hp
  have b1 := eoI_b (sd := 1) h1 hp
  have b2 := eoI_b (sd := 2) h1 hp
  have b3 := eoI_b (sd := 3) h1 hp
  have e0 : F_X7_edgeOf n (iI hh) K X Y (nI i) 0 = some (iI (eoI 0 hh q)) := eo_c (sd := 0) h hL hq hp (by omega) h1 hn
  have e1 : F_X7_edgeOf n (iI hh) K X Y (nI i) 1 = some (iI (eoI 1 hh q)) := eo_c (sd := 1) h hL hq hp (by omega) h1 hn
  have e2 : F_X7_edgeOf n (iI hh) K X Y (nI i) 2 = some (iI (eoI 2 hh q)) := eo_c (sd := 2) h hL hq hp (by omega) h1 hn
  have e3 : F_X7_edgeOf n (iI hh) K X Y (nI i) 3 = some (iI (eoI 3 hh q)) := eo_c (sd := 3) h hL hq hp (by omega) h1 hn
  have mx0 : ∀ z : Int, -1000000 ≤ z → z ≤ 1000000 → (if 0 < iI z then iI z else 0) = nI z.toNat := fun z z1 z2 => by
    have l : (0 < iI z) ↔ 0 < z := by rw [show (0 : Int32) = iI 0 from rfl, ii_lt (by omega) (by omega)]
    by_cases y : 0 < z
    · rw [if_pos (l.mpr y), ii_n, Int.toNat_of_nonneg (by omega)]
    · rw [if_neg (fun e => y (l.mp e)), show z.toNat = 0 from by omega]; rfl
  have mn0 : ∀ (z : Int) (k : Nat), -1000000 ≤ z → z ≤ 1000000 → k ≤ 20 → (if iI z < nI k then iI z else nI k) = iI (min z k) := fun z k z1 z2 hk => by
    have l : (iI z < nI k) ↔ z < k := by rw [ii_n, ii_lt (by omega) (by omega)]
    by_cases y : z < k
    · rw [if_pos (l.mpr y), show min z (k : Int) = z from by omega]
    · rw [if_neg (fun e => y (l.mp e)), show min z (k : Int) = (k : Int) from by omega, ii_n]
  have cap : ∀ k : Nat, k ≤ 20 → (if (20 : Int32) < nI k then (20 : Int32) else nI k) = nI k := fun k hk => if_neg (nI_nlt (a := 20) (b := k) hk (by omega))
  have sb : ∀ a b : Int, iI a - iI b = iI (a - b) := fun a b => ii_sub a b
  obtain ⟨w', k1, k2⟩ := rows_c hcov hM (lo := ((eoI 2 hh q + 63) / 64 - py).toNat) (le := ((eoI 0 hh q + 63) / 64 - px).toNat) (by omega) (by omega) (ri := min (eoI 1 hh q / 64 - px) wd) (hi := min (eoI 3 hh q / 64 - py) ht) (by omega) (by omega) (by omega) (by omega) hn
  refine ⟨w', ?_, k2.cong (fun r c hr hc => ?_)⟩
  · unfold F_X2_markCovered
    rw [e0, obd_s, up_c (by omega), obd_s, sb, lt_eq, mx0 _ (by omega) (by omega), lt_eq, e1, obd_s, down_c (by omega), obd_s, sb, lt_eq, cap _ hwd, lt_eq, mn0 _ _ (by omega) (by omega) hwd, lt_eq, e2, obd_s, up_c (by omega), obd_s, sb, lt_eq, mx0 _ (by omega) (by omega), lt_eq, e3, obd_s, down_c (by omega), obd_s, sb, lt_eq, cap _ hht, lt_eq, mn0 _ _ (by omega) (by omega) hht, lt_eq]
    exact k1
  · congr 1
    cases hv : cvG hh px py q r c with
    | false => rw [Bool.and_false, Bool.and_false]
    | true =>
      rw [Bool.and_true, Bool.and_true]
      have ex : ∀ z : Int, -200 ≤ z → z ≤ 200 → (64 * iI z).toInt = 64 * z := fun z z1 z2 => by rw [show (64 : Int32) = iI 64 from rfl, ii_mul, ii_t (by omega) (by omega)]
      have bx : BN 20000 (64 * iI (px + c)) := by unfold BN; rw [ex _ (by omega) (by omega)]; omega
      have bY : BN 20000 (64 * iI (py + r)) := by unfold BN; rw [ex _ (by omega) (by omega)]; omega
      have bb := cv_box hp h1 bx bY hv
      rw [ex _ (by omega) (by omega), ex _ (by omega) (by omega)] at bb
      exact decide_eq_decide.mpr (by omega)
end GRD
