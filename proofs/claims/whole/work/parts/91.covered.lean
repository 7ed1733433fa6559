/-! ===== covered ===== -/
def cvL (r : Int32) (x y : Int32) (L : List Pc) : Nat → Bool := anyB (fun k => match L[k]? with
  | some q => cvB r q x y
  | none => false)
theorem cvL_s {r x y : Int32} {L : List Pc} {k : Nat} {q : Pc} (h : L[k]? = some q) : cvL r x y L (k + 1) = (cvL r x y L k || cvB r q x y) := by
  unfold cvL
  rw [anyB, h]
theorem cvL_t {r x y : Int32} {L : List Pc} {k : Nat} (h : cvL r x y L k = true) : ∀ j, cvL r x y L (k + j) = true := by
  intro j
  induction j with
  | zero => exact h
  | succ j ih =>
    have : cvL r x y L (k + (j + 1)) = (cvL r x y L (k + j) || _) := rfl
    rw [this, ih]; rfl
section CVD
variable {L : List Pc} {K X Y R : Nat → Int32} {hh px py : Int}
theorem isc_m (h : HoQ L R) (hL : L.length ≤ 2792) {m' : Nat → Int32} {r : Int32} (hm : F_X12_half m' = some r) (x y : Int32) {n : Nat} (hn : 10000 ≤ n) : F_X12_isCovered n (nI L.length) m' R x y = some (b2 (cvL r x y L L.length)) := by
  have key : ∃ z, lpq (F_X12_isCovered_b2 n (nI L.length) m' R x y) n 0 = some z ∧ z = (if cvL r x y L L.length = true then .inl () else .inr ()) := by
    refine lpq_i0 (fun k st => st = nI k ∧ cvL r x y L k = false) _ L.length ?_ (by omega) ⟨rfl, rfl⟩
    rintro k st hk ⟨rfl, hf⟩
    unfold F_X12_isCovered_b2
    by_cases w : k = L.length
    · left
      subst w
      exact ⟨_, if_pos (nI_le (Nat.le_refl _) (by omega)), by rw [hf]; rfl⟩
    · obtain ⟨q, hq⟩ := hx_at (show k < L.length by omega)
      have e := cvL_s (r := r) (x := x) (y := y) hq
      rw [hf, Bool.false_or] at e
      rw [if_neg (nI_ge (by omega) (by omega)), cov_m h hL hq hm x y (by omega), obd_s]
      by_cases z : cvB r q x y = true
      · left
        rw [if_neg (b2_t z)]
        rw [z] at e
        have t := cvL_t e (L.length - (k + 1))
        rw [show k + 1 + (L.length - (k + 1)) = L.length from by omega] at t
        exact ⟨_, rfl, by rw [t]; rfl⟩
      · right
        have zf : cvB r q x y = false := by
          cases hb : cvB r q x y with
          | false => rfl
          | true => exact absurd hb z
        rw [if_pos (b2_f z), lt_eq, zl_1, nI_add]
        exact ⟨by omega, _, rfl, rfl, by rw [e, zf]⟩
  obtain ⟨z, e, rfl⟩ := key
  unfold F_X12_isCovered F_X12_isCovered_j2 F_X12_isCovered_j20 F_X12_isCovered_j28
  rw [e, obd_s]
  cases cvL r x y L L.length <;> rfl
def cvS (hh px py : Int) (L : List Pc) (r c : Nat) : Bool := cvL (iI hh) (64 * iI (px + c)) (64 * iI (py + r)) L L.length
theorem cols_m (h : HoQ L R) (hL : L.length ≤ 2792) {m' : Nat → Int32} (hm : F_X12_half m' = some (iI hh)) (hpx : -100 ≤ px ∧ px ≤ 100) (hpy : -100 ≤ py ∧ py ≤ 100) {wd ht : Nat} (hwd : wd ≤ 20) (hht : ht ≤ 20) {n : Nat} (hn : 10000 ≤ n) :
    lpq (F_X12_covered_b53 n (nI L.length) m' R (iI px) (iI py) (nI wd) (nI ht)) n (0, iI px) = some (nI (fb_sm (fun c => fb_sm (fun r => if cvS hh px py L r c = true then 1 else 0) (ht + 1)) (wd + 1))) := by
  have sb : ∀ f : Nat → Bool, ∀ k, fb_sm (fun r => if f r = true then 1 else 0) k ≤ k := fun f k => by
    have := fb_sm_bound (f := fun r => if f r = true then 1 else 0) (c := 1) (n := k) (fun r _ => by
      show (if f r = true then 1 else 0) ≤ 1
      by_cases z : f r = true
      · rw [if_pos z]; omega
      · rw [if_neg z]; omega)
    omega
  have key : lpq (F_X12_covered_b53 n (nI L.length) m' R (iI px) (iI py) (nI wd) (nI ht)) n (nI (fb_sm (fun c => fb_sm (fun r => if cvS hh px py L r c = true then 1 else 0) (ht + 1)) 0), iI (px + (0 : Nat))) = some (nI (fb_sm (fun c => fb_sm (fun r => if cvS hh px py L r c = true then 1 else 0) (ht + 1)) (wd + 1))) := by
    refine lpq_run (wd + 1) (fun c => (nI (fb_sm (fun c => fb_sm (fun r => if cvS hh px py L r c = true then 1 else 0) (ht + 1)) c), iI (px + (c : Nat)))) (fun c hc => ?_) ?_ (by omega)
    · obtain ⟨T, hT⟩ : ∃ T, T = fb_sm (fun c => fb_sm (fun r => if cvS hh px py L r c = true then 1 else 0) (ht + 1)) c := ⟨_, rfl⟩
      have inn : lpq (F_X12_covered_b64 n (nI L.length) m' R (iI py) (nI ht) (iI (px + c))) n (nI (T + fb_sm (fun r => if cvS hh px py L r c = true then 1 else 0) 0), iI (py + (0 : Nat))) = some (nI (T + fb_sm (fun r => if cvS hh px py L r c = true then 1 else 0) (ht + 1))) := by
        refine lpq_run (ht + 1) (fun r => (nI (T + fb_sm (fun r => if cvS hh px py L r c = true then 1 else 0) r), iI (py + (r : Nat)))) (fun r hr => ?_) ?_ (by omega)
        · unfold F_X12_covered_b64 F_X12_covered_j97
          show (if iI py + nI ht < iI (py + r) then _ else obd (F_X12_isCovered n (nI L.length) m' R (64 * iI (px + c)) (64 * iI (py + r))) _) = _
          rw [if_neg (show ¬ iI py + nI ht < iI (py + r) from by rw [ii_n, ii_add, ii_lt (by omega) (by omega)]; omega), isc_m h hL hm _ _ hn, obd_s, fb_sm_succ]
          have e1 : iI (py + (r : Nat)) + 1 = iI (py + ((r + 1 : Nat) : Int)) := by rw [show (1 : Int32) = iI 1 from rfl, ii_add]; congr 1; omega
          by_cases z : cvS hh px py L r c = true
          · rw [if_neg (b2_t (b := cvL (iI hh) (64 * iI (px + c)) (64 * iI (py + r)) L L.length) z), if_pos z, lt_eq, lt_eq, ← e1, ← Nat.add_assoc, ← nI_add _ 1]; rfl
          · rw [if_pos (b2_f (b := cvL (iI hh) (64 * iI (px + c)) (64 * iI (py + r)) L L.length) z), if_neg z, lt_eq, lt_eq, ← e1, Nat.add_zero]
            show some (Sum.inl (nI (T + fb_sm (fun r => if cvS hh px py L r c = true then 1 else 0) r) + 0, _)) = _
            rw [Int32.add_zero]
        · unfold F_X12_covered_b64
          exact if_pos (show iI py + nI ht < iI (py + ((ht + 1 : Nat) : Int)) from by rw [ii_n, ii_add, ii_lt (by omega) (by omega)]; omega)
      have inn' : lpq (F_X12_covered_b64 n (nI L.length) m' R (iI py) (nI ht) (iI (px + c))) n (nI T, iI py) = some (nI (T + fb_sm (fun r => if cvS hh px py L r c = true then 1 else 0) (ht + 1))) := by
        have e0 : iI (py + ((0 : Nat) : Int)) = iI py := by congr 1; omega
        rw [e0] at inn; exact inn
      unfold F_X12_covered_b53 F_X12_covered_j64 F_X12_covered_j106
      show (if iI px + nI wd < iI (px + c) then _ else obd (lpq (F_X12_covered_b64 n (nI L.length) m' R (iI py) (nI ht) (iI (px + c))) n (_, iI py)) _) = _
      rw [if_neg (show ¬ iI px + nI wd < iI (px + c) from by rw [ii_n, ii_add, ii_lt (by omega) (by omega)]; omega), ← hT, inn', obd_s, lt_eq]
      have es : fb_sm (fun c => fb_sm (fun r => if cvS hh px py L r c = true then 1 else 0) (ht + 1)) (c + 1) = T + fb_sm (fun r => if cvS hh px py L r c = true then 1 else 0) (ht + 1) := by rw [hT]; rfl
      have e1 : iI (px + (c : Nat)) + 1 = iI (px + ((c + 1 : Nat) : Int)) := by rw [show (1 : Int32) = iI 1 from rfl, ii_add]; congr 1; omega
      rw [es, ← e1]
    · unfold F_X12_covered_b53
      exact if_pos (show iI px + nI wd < iI (px + ((wd + 1 : Nat) : Int)) from by rw [ii_n, ii_add, ii_lt (by omega) (by omega)]; omega)
  have e0 : iI (px + ((0 : Nat) : Int)) = iI px := by congr 1; omega
  rw [e0] at key
  exact key
theorem marked_c (h : HoP L K X Y) (hL : L.length ≤ 2792) (hp : ∀ (i : Nat) (q : Pc), L[i]? = some q → PB q) (h1 : 0 ≤ hh ∧ hh ≤ 1280) (hpx : -100 ≤ px ∧ px ≤ 100) (hpy : -100 ≤ py ∧ py ≤ 100) {wd ht : Nat} (hwd : wd ≤ 20) (hht : ht ≤ 20) (w : Nat → Int32) {n : Nat} (hn : 10000 ≤ n) :
    ∃ w', F_X2_countMarked n w (nI L.length) (iI hh) K X Y (iI px) (iI py) (nI wd) (nI ht) = some (nI (fb_sm (fun c => fb_sm (fun r => if cvS hh px py L r c = true then 1 else 0) (ht + 1)) (wd + 1)), w') := by
  -- cleared
  have k3 : ∃ x, lpq F_X2_countMarked_b3 n (0, w) = some x ∧ MK x (fun r c => decide (r ≤ ht ∧ c ≤ wd) && cvL (iI hh) (64 * iI (px + c)) (64 * iI (py + r)) L 0) := by
    refine lpq_i0 (fun k st => ∃ w1, st = (nI k, w1) ∧ ∀ r, r < k → w1 r = nI 0) _ 21 ?_ (by omega) ⟨w, rfl, fun r hr => absurd hr (by omega)⟩
    rintro k st hk ⟨w1, rfl, hz⟩
    unfold F_X2_countMarked_b3
    by_cases z : k = 21
    · left
      subst z
      refine ⟨w1, if_pos (show (20 : Int32) < nI 21 by decide), fun r hr => ⟨0, by decide, hz r hr, fun c hc => ?_⟩⟩
      have e : cvL (iI hh) (64 * iI (px + c)) (64 * iI (py + r)) L 0 = false := rfl
      show Nat.testBit 0 c = (decide (r ≤ ht ∧ c ≤ wd) && cvL (iI hh) (64 * iI (px + c)) (64 * iI (py + r)) L 0)
      rw [e, Bool.and_false, Nat.zero_testBit]
    · right
      refine ⟨by omega, ?_⟩
      show ∃ s', (if (20 : Int32) < nI k then _ else gd (decide (vpi (nI k) 21)) (lt (upd w1 (nI k).toNatClampNeg 0) _)) = _ ∧ _
      rw [if_neg (show ¬ (20 : Int32) < nI k from nI_nlt (a := 20) (b := k) (by omega) (by omega)), gd_in (by omega) (by decide), nI_clamp (by omega), lt_eq, lt_eq]
      refine ⟨_, rfl, upd w1 k (nI 0), by rw [← nI_add k 1]; rfl, fun r hr => ?_⟩
      by_cases y : r = k
      · rw [y, ud_e rfl]
      · rw [ud_n y]; exact hz r (by omega)
  obtain ⟨w0, e3, m0⟩ := k3
  -- marked
  have k27 : ∃ x, lpq (F_X2_countMarked_b27 n (nI L.length) (iI hh) K X Y (iI px) (iI py) (nI wd) (nI ht)) n (0, w0) = some x ∧ MK x (fun r c => decide (r ≤ ht ∧ c ≤ wd) && cvS hh px py L r c) := by
    refine lpq_i0 (fun k st => ∃ w1, st = (nI k, w1) ∧ MK w1 (fun r c => decide (r ≤ ht ∧ c ≤ wd) && cvL (iI hh) (64 * iI (px + c)) (64 * iI (py + r)) L k)) _ L.length ?_ (by omega) ⟨w0, rfl, m0⟩
    rintro k st hk ⟨w1, rfl, hm⟩
    unfold F_X2_countMarked_b27 F_X7_size
    by_cases z : k = L.length
    · left
      subst z
      refine ⟨w1, ?_, hm⟩
      rw [lt_eq]
      exact if_pos (nI_le (Nat.le_refl _) (by omega))
    · right
      refine ⟨by omega, ?_⟩
      obtain ⟨q, hq⟩ := hx_at (show k < L.length by omega)
      obtain ⟨w2, e2, hm2⟩ := mark_c h hL hq (hp k q hq) h1 hpx hpy hwd hht hm (n := n) (by omega)
      rw [lt_eq]
      show ∃ s', (if nI L.length ≤ nI k then _ else obd (F_X2_markCovered n w1 (iI hh) K X Y (nI k) (iI px) (iI py) (nI wd) (nI ht)) _) = _ ∧ _
      rw [if_neg (nI_ge (by omega) (by omega)), e2, obd_s, lt_eq]
      refine ⟨_, rfl, w2, by rw [← nI_add k 1]; rfl, hm2.cong (fun r c _ _ => ?_)⟩
      rw [cvL_s hq, ← Bool.and_or_distrib_left]; rfl
  obtain ⟨w1, e27, m1⟩ := k27
  -- counted
  have k61 : lpq (F_X2_countMarked_b61 w1) n (nI (fb_sm (fun r => fb_sm (fun c => if (decide (r ≤ ht ∧ c ≤ wd) && cvS hh px py L r c) = true then 1 else 0) 21) 0), nI 0) = some (nI (fb_sm (fun r => fb_sm (fun c => if (decide (r ≤ ht ∧ c ≤ wd) && cvS hh px py L r c) = true then 1 else 0) 21) 21)) := by
    refine lpq_run 21 (fun k => (nI (fb_sm (fun r => fb_sm (fun c => if (decide (r ≤ ht ∧ c ≤ wd) && cvS hh px py L r c) = true then 1 else 0) 21) k), nI k)) (fun k hk => ?_) ?_ (by omega)
    · obtain ⟨M, g1, g2, g3⟩ := m1 k hk
      unfold F_X2_countMarked_b61
      show (if (20 : Int32) < nI k then _ else gd (decide (vpi (nI k) 21)) (lt (F_J6_bitCount_0f7a4 (w1 (nI k).toNatClampNeg)) _)) = _
      rw [if_neg (show ¬ (20 : Int32) < nI k from nI_nlt (a := 20) (b := k) (by omega) (by omega)), gd_in (by omega) (by decide), nI_clamp (by omega), g2, bc_m g1, lt_eq, lt_eq, lt_eq, fb_sm_succ]
      have e : pcN M 21 = fb_sm (fun c => if (decide (k ≤ ht ∧ c ≤ wd) && cvS hh px py L k c) = true then 1 else 0) 21 := fb_sm_cong (fun c hc => by rw [g3 c hc])
      rw [e, ← nI_add _ (fb_sm _ 21), ← nI_add k 1]; rfl
    · unfold F_X2_countMarked_b61
      exact if_pos (show (20 : Int32) < nI 21 by decide)
  rw [dsum (cvS hh px py L) hht hwd] at k61
  have k61' : lpq (F_X2_countMarked_b61 w1) n (0, 0) = some (nI (fb_sm (fun c => fb_sm (fun r => if cvS hh px py L r c = true then 1 else 0) (ht + 1)) (wd + 1))) := k61
  refine ⟨w1, ?_⟩
  unfold F_X2_countMarked F_X2_countMarked_j3 F_X2_countMarked_j24 F_X2_countMarked_j27 F_X2_countMarked_j55 F_X2_countMarked_j61 F_X2_countMarked_j89
  rw [e3, obd_s, e27, obd_s, k61', obd_s]
end CVD
