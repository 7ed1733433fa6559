/-! ===== the reference's cuts of a run ===== -/
def HoC (l : List Cut) (co cf ct : Nat → Int32) : Prop := ∀ (i : Nat) (z : Cut), l[i]? = some z → co i = nI z.1 ∧ cf i = nI z.2.1 ∧ ct i = nI z.2.2
theorem HoC.ap {l : List Cut} {co cf ct : Nat → Int32} (h : HoC l co cf ct) (a b e : Nat) : HoC (l ++ [(a, b, e)]) (upd co l.length (nI a)) (upd cf l.length (nI b)) (upd ct l.length (nI e)) := by
  intro i z hz
  rcases hx_ap hz with ⟨h1, h2⟩ | ⟨rfl, rfl⟩
  · rw [ud_n (by omega), ud_n (by omega), ud_n (by omega)]; exact h i z h2
  · rw [ud_e rfl, ud_e rfl, ud_e rfl]; exact ⟨rfl, rfl, rfl⟩
theorem sub_lt {a b f : Nat} (h : a < b) (hb : b < 1000000) (hf : f < 1000000) : nI a - nI b ≤ nI f := by
  rw [fa_le, pk_sub_toInt (by omega) (by omega), nI_toInt (by omega)]; omega
theorem j68_m {co cf ct : Nat → Int32} {l : List Cut} {g a : Nat} {e : Int32} {r : Nat} (hl : l.length < 20) (hH : HoC l co cf ct) (hg : g < 1000) (ha : a < 1000000) (hr : r < 1000000) (he : e = nI r ∨ (e ≤ nI a ∧ ¬ a < r)) :
    ∃ co' cf' ct', F_X12_cutsFrom_j68 (nI l.length) co cf ct (nI g) (nI a) e = some (.inl (nI (g + 1), nI (if a < r then l ++ [(g, a, r)] else l).length, co', cf', ct')) ∧ HoC (if a < r then l ++ [(g, a, r)] else l) co' cf' ct' := by
  unfold F_X12_cutsFrom_j68 F_X12_cutsFrom_j119
  simp only [gd_in hl (show 20 < 2 ^ 31 by decide), nI_clamp (show l.length < 2 ^ 31 by omega), lt_eq, zl_1, nI_add]
  by_cases q : a < r
  · rcases he with rfl | ⟨_, h⟩
    · rw [if_neg (nI_ge q (by omega)), if_pos q, List.length_append]
      exact ⟨_, _, _, rfl, hH.ap g a r⟩
    · exact absurd q h
  · have : e ≤ nI a := by
      rcases he with rfl | ⟨h, _⟩
      · exact nI_le (by omega) (by omega)
      · exact h
    rw [if_pos this, if_neg q]
    exact ⟨_, _, _, rfl, hH⟩
theorem cf_m {n : Nat} (hn : 1000 ≤ n) {N : Nat} {p : Nat → Nat} {c m : Nat → Int32} (hR : RW N p c m) {s : Nat} {ax ay bx bz sl sa : Nat → Int32} (hS : HoR m s (p s) (sg N p m s) ax ay bx bz sl sa) {b e : Nat} (hb : b ≤ 300000) (he : e ≤ 300000)
    (l : List Cut) (hl : l.length ≤ 8) (co cf ct : Nat → Int32) (hH : HoC l co cf ct) :
    ∃ co' cf' ct', F_X12_cutsFrom n (nI (sg N p m s).length) (nI l.length) sl sa co cf ct (nI b) (nI e) = some (nI (l ++ cutL (sA N p m s) b e (sg N p m s).length).length, co', cf', ct') ∧ HoC (l ++ cutL (sA N p m s) b e (sg N p m s).length) co' cf' ct' := by
  have h8 := sg_len hR s
  have key : ∃ w, lpq (F_X12_cutsFrom_b2 (nI (sg N p m s).length) sl sa (nI b) (nI e)) n (0, nI l.length, co, cf, ct) = some w ∧ ∃ co' cf' ct', w = (nI (l ++ cutL (sA N p m s) b e (sg N p m s).length).length, co', cf', ct') ∧ HoC (l ++ cutL (sA N p m s) b e (sg N p m s).length) co' cf' ct' := by
    refine lpq_i0 (fun i st => ∃ co' cf' ct', st = (nI i, nI (l ++ cutL (sA N p m s) b e i).length, co', cf', ct') ∧ HoC (l ++ cutL (sA N p m s) b e i) co' cf' ct') _ (sg N p m s).length ?_ (by omega) ⟨co, cf, ct, by rw [cutL, List.append_nil]; rfl, by rw [cutL, List.append_nil]; exact hH⟩
    rintro g st hg ⟨co', cf', ct', rfl, hH'⟩
    unfold F_X12_cutsFrom_b2
    by_cases q : g = (sg N p m s).length
    · left
      subst q
      exact ⟨_, if_pos (nI_le (Nat.le_refl _) (by omega)), co', cf', ct', rfl, hH'⟩
    · right
      refine ⟨by omega, ?_⟩
      obtain ⟨k, hk⟩ := hx_at (show g < (sg N p m s).length by omega)
      have hA := (hS g k hk).2.2.2.2
      have hAe : sa g = nI (sA N p m s g) := hA.2
      have hAs := sA_s hk
      have hw1 := sA_w (N := N) (p := p) (m := m) (s := s) (g := g) (by omega)
      have hw2 := sA_w (N := N) (p := p) (m := m) (s := s) (g := g + 1) (by omega)
      have hW := sW_le hR s
      have hcl := cut_len (sA N p m s) b e g
      have hll : (l ++ cutL (sA N p m s) b e g).length < 20 := by rw [List.length_append]; omega
      have hnext : l ++ cutL (sA N p m s) b e (g + 1) = if b - sA N p m s g < min e (sA N p m s (g + 1)) - sA N p m s g then (l ++ cutL (sA N p m s) b e g) ++ [(g, b - sA N p m s g, min e (sA N p m s (g + 1)) - sA N p m s g)] else l ++ cutL (sA N p m s) b e g := by
        rw [cutL]
        by_cases z : b - sA N p m s g < min e (sA N p m s (g + 1)) - sA N p m s g
        · rw [if_pos z, if_pos z, List.append_assoc]
        · rw [if_neg z, if_neg z]
      have e32 : F_X12_cutsFrom_j32 (nI (l ++ cutL (sA N p m s) b e g).length) sl sa co' cf' ct' (nI e) (nI g) (nI (b - sA N p m s g)) = F_X12_cutsFrom_j68 (nI (l ++ cutL (sA N p m s) b e g).length) co' cf' ct' (nI g) (nI (b - sA N p m s g)) (if sA N p m s (g + 1) ≤ e then nI (sgl m s (p s) k) else nI e - nI (sA N p m s g)) := by
        unfold F_X12_cutsFrom_j32
        rw [gd_in (by omega) (by decide), gd_in (by omega) (by decide), gd_in (by omega) (by decide), gd_in (by omega) (by decide), nI_clamp (by omega), hAe, hA.1, nI_add, ← hAs]
        by_cases z : sA N p m s (g + 1) ≤ e
        · rw [if_pos (nI_le z (by omega)), if_pos z]
        · rw [if_neg (nI_ge (by omega) (by omega)), if_neg z]
      obtain ⟨co2, cf2, ct2, k1, k2⟩ := j68_m (g := g) (a := b - sA N p m s g) (e := if sA N p m s (g + 1) ≤ e then nI (sgl m s (p s) k) else nI e - nI (sA N p m s g)) (r := min e (sA N p m s (g + 1)) - sA N p m s g) hll hH' (by omega) (by omega) (by omega) (by
        by_cases z : sA N p m s (g + 1) ≤ e
        · rw [if_pos z]; left; congr 1; omega
        · rw [if_neg z]
          by_cases y : sA N p m s g ≤ e
          · left; rw [pk_sub y]; congr 1; omega
          · right; exact ⟨sub_lt (by omega) (by omega) (by omega), by omega⟩)
      have ef : F_X12_cutsFrom_b2 (nI (sg N p m s).length) sl sa (nI b) (nI e) (nI g, nI (l ++ cutL (sA N p m s) b e g).length, co', cf', ct') = F_X12_cutsFrom_j32 (nI (l ++ cutL (sA N p m s) b e g).length) sl sa co' cf' ct' (nI e) (nI g) (nI (b - sA N p m s g)) := by
        unfold F_X12_cutsFrom_b2
        show (if nI (sg N p m s).length ≤ nI g then _ else gd (decide (vpi (nI g) 8)) (if nI b ≤ sa (nI g).toNatClampNeg then _ else gd (decide (vpi (nI g) 8)) (F_X12_cutsFrom_j32 _ sl sa co' cf' ct' (nI e) (nI g) (nI b - sa (nI g).toNatClampNeg)))) = _
        rw [if_neg (nI_ge (by omega) (by omega)), gd_in (by omega) (by decide), gd_in (by omega) (by decide), nI_clamp (by omega), hAe]
        by_cases z : b ≤ sA N p m s g
        · rw [if_pos (nI_le z (by omega)), show b - sA N p m s g = 0 from by omega]; rfl
        · rw [if_neg (nI_ge (by omega) (by omega)), pk_sub (by omega)]
      rw [← hnext] at k1 k2
      have ee := ef.trans (e32.trans k1)
      unfold F_X12_cutsFrom_b2 at ee
      exact ⟨_, ee, co2, cf2, ct2, rfl, k2⟩
  obtain ⟨w, ew, co', cf', ct', rfl, h⟩ := key
  unfold F_X12_cutsFrom F_X12_cutsFrom_j2
  rw [ew]
  exact ⟨co', cf', ct', rfl, h⟩
theorem lc_m {n : Nat} (hn : 1000 ≤ n) {N : Nat} {p : Nat → Nat} {c m : Nat → Int32} (hR : RW N p c m) {s : Nat} {ax ay bx bz sl sa : Nat → Int32} (hS : HoR m s (p s) (sg N p m s) ax ay bx bz sl sa) {f : Nat} {ra rl : Nat → Int32} (hF : HoF (fin N p m s) f ra rl) {i : Nat} {r : Run} (hr : (fin N p m s)[i]? = some r) (co cf ct : Nat → Int32) :
    ∃ co' cf' ct', F_X12_laysCuts n (nI (sg N p m s).length) (nI (sW N p m s)) sl sa ra rl co cf ct (nI i) = some (nI r.2.2.2.length, co', cf', ct') ∧ HoC r.2.2.2 co' cf' ct' := by
  have h8 := sg_len hR s
  have hW := sW_le hR s
  have hi := hx_lt hr
  have h227 := fin_len hR s
  have fa := fin_at hR hr
  have fh := hF i r hr
  have hcl := cut_len (sA N p m s) r.1 (min (r.1 + r.2.1) (sW N p m s)) (sg N p m s).length
  obtain ⟨co1, cf1, ct1, k1, k2⟩ := cf_m hn hR hS (b := r.1) (e := min (r.1 + r.2.1) (sW N p m s)) (by omega) (by omega) [] (by show 0 ≤ 8; omega) co cf ct (fun i z h => absurd h (by simp))
  rw [List.nil_append] at k1 k2
  have e0 : F_X12_laysCuts n (nI (sg N p m s).length) (nI (sW N p m s)) sl sa ra rl co cf ct (nI i) = F_X12_laysCuts_j42 n (nI (sg N p m s).length) (nI (sW N p m s)) (nI 0) sl sa co cf ct (nI (r.1 + r.2.1)) (nI r.1) (nI (min (r.1 + r.2.1) (sW N p m s))) := by
    unfold F_X12_laysCuts
    rw [gd_in (by omega) (by decide), gd_in (by omega) (by decide), nI_clamp (by omega), fh.1, fh.2.1, nI_add, lt_eq, gd_in (by omega) (by decide)]
    by_cases z : sW N p m s ≤ r.1 + r.2.1
    · rw [if_pos (nI_le z (by omega)), show min (r.1 + r.2.1) (sW N p m s) = sW N p m s from by omega]; rfl
    · rw [if_neg (nI_ge (by omega) (by omega)), show min (r.1 + r.2.1) (sW N p m s) = r.1 + r.2.1 from by omega]; rfl
  rw [e0]
  unfold F_X12_laysCuts_j42
  have k1' : F_X12_cutsFrom n (nI (sg N p m s).length) (nI 0) sl sa co cf ct (nI r.1) (nI (min (r.1 + r.2.1) (sW N p m s))) = some (nI (cutL (sA N p m s) r.1 (min (r.1 + r.2.1) (sW N p m s)) (sg N p m s).length).length, co1, cf1, ct1) := k1
  rw [k1', obd_s]
  by_cases z : r.1 + r.2.1 ≤ sW N p m s
  · have e1 : r.2.2.2 = cutL (sA N p m s) r.1 (min (r.1 + r.2.1) (sW N p m s)) (sg N p m s).length := by
      rw [fa.2.2.2, show r.1 + r.2.1 - sW N p m s = 0 from by omega, cut_n (Nat.le_refl 0), List.append_nil]
    rw [if_pos (nI_le z (by omega)), e1]
    exact ⟨co1, cf1, ct1, rfl, k2⟩
  · obtain ⟨co2, cf2, ct2, k3, k4⟩ := cf_m hn hR hS (b := 0) (e := r.1 + r.2.1 - sW N p m s) (by omega) (by omega) (cutL (sA N p m s) r.1 (min (r.1 + r.2.1) (sW N p m s)) (sg N p m s).length) (by omega) co1 cf1 ct1 k2
    rw [← fa.2.2.2] at k3 k4
    have k3' : F_X12_cutsFrom n (nI (sg N p m s).length) (nI (cutL (sA N p m s) r.1 (min (r.1 + r.2.1) (sW N p m s)) (sg N p m s).length).length) sl sa co1 cf1 ct1 0 (nI (r.1 + r.2.1 - sW N p m s)) = some (nI r.2.2.2.length, co2, cf2, ct2) := k3
    rw [if_neg (nI_ge (by omega) (by omega)), pk_sub (by omega), k3', obd_s]
    exact ⟨co2, cf2, ct2, rfl, k4⟩
def rvl (r : Run) (w : Nat) : Nat := if w = 0 then r.1 else if w = 1 then r.2.1 else if w = 2 then r.2.2.2.length else r.2.2.1
theorem tr_m {n : Nat} (hn : 1000 ≤ n) {N : Nat} {p : Nat → Nat} {c m : Nat → Int32} (hR : RW N p c m) {s : Nat} {ax ay bx bz sl sa : Nat → Int32} (hS : HoR m s (p s) (sg N p m s) ax ay bx bz sl sa) {f : Nat} (hf : f = 0 ∨ f = 1) {ra rl : Nat → Int32} (hF : HoF (fin N p m s) f ra rl) {i : Nat} {r : Run} (hr : (fin N p m s)[i]? = some r) {w : Nat} (hw : w < 4) (x21 : Int32) (co cf ct : Nat → Int32) :
    ∃ y21 co' cf' ct', F_X12_tellRun n (nI (sg N p m s).length) (nI (sW N p m s)) (nI f) x21 sl sa ra rl co cf ct (nI i) (nI w) = some (nI (rvl r w), y21, co', cf', ct') := by
  have hi := hx_lt hr
  have h227 := fin_len hR s
  have fh := hF i r hr
  obtain ⟨co1, cf1, ct1, k1, k2⟩ := lc_m hn hR hS hF hr co cf ct
  unfold F_X12_tellRun
  have hw4 : w = 0 ∨ w = 1 ∨ w = 2 ∨ w = 3 := by omega
  rcases hw4 with rfl | rfl | rfl | rfl
  · rw [if_pos (show nI 0 = 0 from rfl), gd_in (by omega) (by decide), nI_clamp (by omega), fh.1]
    exact ⟨_, _, _, _, rfl⟩
  · rw [if_neg (by decide), if_pos (show nI 1 = 1 from rfl), gd_in (by omega) (by decide), nI_clamp (by omega), fh.2.1]
    exact ⟨_, _, _, _, rfl⟩
  · rw [if_neg (by decide), if_neg (by decide), if_pos (show nI 2 = 2 from rfl), k1, obd_s]
    exact ⟨_, _, _, _, rfl⟩
  · rw [if_neg (by decide), if_neg (by decide), if_neg (by decide), show rvl r 3 = f from fh.2.2]
    rcases hf with rfl | rfl
    · rw [if_pos (show nI 0 = 0 from rfl)]; exact ⟨_, _, _, _, rfl⟩
    · rw [if_neg (by decide)]; exact ⟨_, _, _, _, rfl⟩
