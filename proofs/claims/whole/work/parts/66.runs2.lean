/-! ===== cuts of runs by the segments; the runs of a subpath ===== -/
abbrev Cut : Type := Nat × Nat × Nat
abbrev Run : Type := Nat × Nat × Nat × List Cut
def cutL (A : Nat → Nat) (b e : Nat) : Nat → List Cut
  | 0 => []
  | g + 1 => if b - A g < min e (A (g + 1)) - A g then cutL A b e g ++ [(g, b - A g, min e (A (g + 1)) - A g)] else cutL A b e g
def joinR (cl : Bool) (W : Nat) (L : List Run) : List Run :=
  match L[0]?, L[L.length - 1]? with
  | some q, some z => if cl = true ∧ q.1 = 0 ∧ z.1 + z.2.1 = W then (if L.length = 1 then [(q.1, q.2.1, 1, q.2.2.2)] else (z.1, q.2.1 + z.2.1, 0, z.2.2.2 ++ q.2.2.2) :: (L.drop 1).take (L.length - 2)) else L
  | _, _ => []
def rawR (N : Nat) (p : Nat → Nat) (m : Nat → Int32) (s : Nat) : List Run := (raws N p m s).map (fun q => (q.1, q.2, 0, cutL (sA N p m s) q.1 (q.1 + q.2) (sg N p m s).length))
def clo (m : Nat → Int32) (s : Nat) : Bool := decide (m (15 + 18 * s) = 1)
def fin (N : Nat) (p : Nat → Nat) (m : Nat → Int32) (s : Nat) : List Run := joinR (clo m s) (sW N p m s) (rawR N p m s)
theorem joinR_0 (cl : Bool) (W : Nat) : joinR cl W [] = [] := rfl
theorem joinR_n {cl : Bool} {W : Nat} {L : List Run} {q z : Run} (h1 : L[0]? = some q) (h2 : L[L.length - 1]? = some z) (h : ¬ (cl = true ∧ q.1 = 0 ∧ z.1 + z.2.1 = W)) : joinR cl W L = L := by
  unfold joinR; rw [h1, h2]; exact if_neg h
theorem joinR_1 {cl : Bool} {W : Nat} {L : List Run} {q z : Run} (h1 : L[0]? = some q) (h2 : L[L.length - 1]? = some z) (h : cl = true ∧ q.1 = 0 ∧ z.1 + z.2.1 = W) (hl : L.length = 1) : joinR cl W L = [(q.1, q.2.1, 1, q.2.2.2)] := by
  unfold joinR; rw [h1, h2]; exact (if_pos h).trans (if_pos hl)
theorem joinR_2 {cl : Bool} {W : Nat} {L : List Run} {q z : Run} (h1 : L[0]? = some q) (h2 : L[L.length - 1]? = some z) (h : cl = true ∧ q.1 = 0 ∧ z.1 + z.2.1 = W) (hl : L.length ≠ 1) : joinR cl W L = (z.1, q.2.1 + z.2.1, 0, z.2.2.2 ++ q.2.2.2) :: (L.drop 1).take (L.length - 2) := by
  unfold joinR; rw [h1, h2]; exact (if_pos h).trans (if_neg hl)
theorem jn_at {L : List Run} {a r : Run} {i : Nat} (h : (a :: (L.drop 1).take (L.length - 2))[i]? = some r) : (i = 0 ∧ r = a) ∨ (1 ≤ i ∧ i + 1 < L.length ∧ L[i]? = some r) := by
  cases i with
  | zero => exact Or.inl ⟨rfl, (Option.some.inj h).symm⟩
  | succ i =>
    rw [List.getElem?_cons_succ, List.getElem?_take] at h
    by_cases q : i < L.length - 2
    · rw [if_pos q, List.getElem?_drop, Nat.add_comm 1 i] at h
      exact Or.inr ⟨by omega, by omega, h⟩
    · rw [if_neg q] at h; exact absurd h (by simp)
theorem jn_len {L : List Run} {a : Run} (h : 2 ≤ L.length) : (a :: (L.drop 1).take (L.length - 2)).length = L.length - 1 := by
  rw [List.length_cons, List.length_take, List.length_drop]; omega
theorem rawR_at {N : Nat} {p : Nat → Nat} {m : Nat → Int32} {s i : Nat} {r : Run} (h : (rawR N p m s)[i]? = some r) : ∃ q, (raws N p m s)[i]? = some q ∧ r = (q.1, q.2, 0, cutL (sA N p m s) q.1 (q.1 + q.2) (sg N p m s).length) := by
  unfold rawR at h
  rw [List.getElem?_map] at h
  cases e : (raws N p m s)[i]? with
  | none => rw [e] at h; exact absurd h (by simp)
  | some q => rw [e] at h; exact ⟨q, rfl, (Option.some.inj h).symm⟩
theorem rawR_len {N : Nat} {p : Nat → Nat} {m : Nat → Int32} {s : Nat} : (rawR N p m s).length = (raws N p m s).length := List.length_map ..
theorem rawR_of {N : Nat} {p : Nat → Nat} {m : Nat → Int32} {s i : Nat} {q : Nat × Nat} (h : (raws N p m s)[i]? = some q) : (rawR N p m s)[i]? = some (q.1, q.2, 0, cutL (sA N p m s) q.1 (q.1 + q.2) (sg N p m s).length) := by
  unfold rawR; rw [List.getElem?_map, h]; rfl
/-! what one knows of the raw runs of a subpath -/
section RAW
variable {N : Nat} {p : Nat → Nat} {c m : Nat → Int32}
theorem sm_le {f : Nat → Nat} {b : Nat} (h : ∀ s, f s ≤ b) (s : Nat) : fb_sm f s ≤ s * b := fb_sm_bound (fun k _ => h k)
theorem sT_le (hR : RW N p c m) {s : Nat} (hs : s ≤ 4) : sT N p m s ≤ 617632 := by
  have h1 := ph_e hR.st
  have h2 := sm_le (sW_le hR) s
  have h3 : s * 144808 ≤ 4 * 144808 := Nat.mul_le_mul hs (Nat.le_refl _)
  unfold sT
  by_cases q : m 5 = 1
  · rw [if_pos q]; omega
  · rw [if_neg q]; omega
theorem raws_at (hR : RW N p c m) {s i : Nat} {q : Nat × Nat} (h : (raws N p m s)[i]? = some q) : q.1 < sW N p m s ∧ 1 ≤ q.2 ∧ q.1 + q.2 ≤ sW N p m s :=
  raw_at hR.st (fj_in hR.st _) (nP_ok hR.st (fj_in hR.st _)).2 _ (Nat.le_refl _) i q h
theorem raws_len (hR : RW N p c m) (s : Nat) : (raws N p m s).length ≤ 227 := by
  have h1 := raw_len m (sT N p m s) (sW N p m s) (fj m (sT N p m s)) (nP m (sT N p m s) (sW N p m s) (fj m (sT N p m s)))
  have h2 := P_le hR.st (fj_in hR.st (sT N p m s)) (sW_le hR s) (nP_ok hR.st (fj_in hR.st _)).2
  unfold raws; omega
theorem cut_n {A : Nat → Nat} {b e : Nat} (h : e ≤ b) : ∀ g, cutL A b e g = [] := by
  intro g
  induction g with
  | zero => rfl
  | succ g ih => unfold cutL; rw [if_neg (by omega), ih]
theorem cut_len (A : Nat → Nat) (b e : Nat) : ∀ g, (cutL A b e g).length ≤ g := by
  intro g
  induction g with
  | zero => exact Nat.le_refl _
  | succ g ih =>
    unfold cutL
    by_cases q : b - A g < min e (A (g + 1)) - A g
    · rw [if_pos q, List.length_append]; show _ + 1 ≤ _; omega
    · rw [if_neg q]; omega
theorem cut_at {A : Nat → Nat} {b e : Nat} : ∀ {g i : Nat} {z : Cut}, (cutL A b e g)[i]? = some z → z.1 < g ∧ z.2.1 = b - A z.1 ∧ z.2.2 = min e (A (z.1 + 1)) - A z.1 ∧ z.2.1 < z.2.2 := by
  intro g
  induction g with
  | zero => intro i z h; exact absurd h (by simp [cutL])
  | succ g ih =>
    intro i z h
    unfold cutL at h
    by_cases q : b - A g < min e (A (g + 1)) - A g
    · rw [if_pos q] at h
      rcases hx_ap h with ⟨_, h1⟩ | ⟨_, rfl⟩
      · exact ⟨by have := (ih h1).1; omega, (ih h1).2⟩
      · exact ⟨by show g < g + 1; omega, rfl, rfl, q⟩
    · rw [if_neg q] at h; exact ⟨by have := (ih h).1; omega, (ih h).2⟩
/-- the final runs: their cuts are those of two stretches -/
theorem fin_at (hR : RW N p c m) {s i : Nat} {r : Run} (h : (fin N p m s)[i]? = some r) :
    r.1 < sW N p m s ∧ 1 ≤ r.2.1 ∧ r.1 + r.2.1 ≤ 2 * sW N p m s ∧ r.2.2.2 = cutL (sA N p m s) r.1 (min (r.1 + r.2.1) (sW N p m s)) (sg N p m s).length ++ cutL (sA N p m s) 0 (r.1 + r.2.1 - sW N p m s) (sg N p m s).length := by
  have base : ∀ (k : Nat) (r' : Run), (rawR N p m s)[k]? = some r' → r'.1 < sW N p m s ∧ 1 ≤ r'.2.1 ∧ r'.1 + r'.2.1 ≤ sW N p m s ∧ r'.2.2.2 = cutL (sA N p m s) r'.1 (r'.1 + r'.2.1) (sg N p m s).length := fun k r' hr => by
    obtain ⟨q, h1, rfl⟩ := rawR_at hr
    have := raws_at hR h1
    exact ⟨this.1, this.2.1, this.2.2, rfl⟩
  have base2 : ∀ (k : Nat) (r' : Run), (rawR N p m s)[k]? = some r' → r'.1 < sW N p m s ∧ 1 ≤ r'.2.1 ∧ r'.1 + r'.2.1 ≤ 2 * sW N p m s ∧ r'.2.2.2 = cutL (sA N p m s) r'.1 (min (r'.1 + r'.2.1) (sW N p m s)) (sg N p m s).length ++ cutL (sA N p m s) 0 (r'.1 + r'.2.1 - sW N p m s) (sg N p m s).length := fun k r' hr => by
    have b := base k r' hr
    refine ⟨b.1, b.2.1, by omega, ?_⟩
    rw [show min (r'.1 + r'.2.1) (sW N p m s) = r'.1 + r'.2.1 from by omega, show r'.1 + r'.2.1 - sW N p m s = 0 from by omega, cut_n (Nat.le_refl 0), List.append_nil]; exact b.2.2.2
  unfold fin at h
  rcases Nat.eq_zero_or_pos (rawR N p m s).length with e | e
  · rw [List.eq_nil_of_length_eq_zero e, joinR_0] at h; exact absurd h (by simp)
  · obtain ⟨q, hq⟩ := hx_at e
    obtain ⟨z, hz⟩ := hx_at (show (rawR N p m s).length - 1 < (rawR N p m s).length by omega)
    have bq := base _ _ hq
    have bz := base _ _ hz
    by_cases hc : clo m s = true ∧ q.1 = 0 ∧ z.1 + z.2.1 = sW N p m s
    · by_cases hl : (rawR N p m s).length = 1
      · rw [joinR_1 hq hz hc hl] at h
        cases i with
        | zero =>
          have e2 : r = (q.1, q.2.1, 1, q.2.2.2) := (Option.some.inj h).symm
          subst e2
          have b2 := base2 _ _ hq
          exact ⟨b2.1, b2.2.1, b2.2.2.1, b2.2.2.2⟩
        | succ i => exact absurd h (by simp)
      · rw [joinR_2 hq hz hc hl] at h
        rcases jn_at h with ⟨_, rfl⟩ | ⟨_, _, h3⟩
        · refine ⟨bz.1, by show 1 ≤ q.2.1 + z.2.1; omega, by show z.1 + (q.2.1 + z.2.1) ≤ _; omega, ?_⟩
          show z.2.2.2 ++ q.2.2.2 = cutL (sA N p m s) z.1 (min (z.1 + (q.2.1 + z.2.1)) (sW N p m s)) (sg N p m s).length ++ cutL (sA N p m s) 0 (z.1 + (q.2.1 + z.2.1) - sW N p m s) (sg N p m s).length
          rw [bz.2.2.2, bq.2.2.2, hc.2.1, show min (z.1 + (q.2.1 + z.2.1)) (sW N p m s) = z.1 + z.2.1 from by omega, show z.1 + (q.2.1 + z.2.1) - sW N p m s = 0 + q.2.1 from by omega]
        · exact base2 _ _ h3
    · rw [joinR_n hq hz hc] at h; exact base2 _ _ h
theorem fin_len (hR : RW N p c m) (s : Nat) : (fin N p m s).length ≤ 227 := by
  have h1 := raws_len hR s
  have h2 := rawR_len (N := N) (p := p) (m := m) (s := s)
  unfold fin
  rcases Nat.eq_zero_or_pos (rawR N p m s).length with e | e
  · rw [List.eq_nil_of_length_eq_zero e, joinR_0]; exact Nat.zero_le _
  · obtain ⟨q, hq⟩ := hx_at e
    obtain ⟨z, hz⟩ := hx_at (show (rawR N p m s).length - 1 < (rawR N p m s).length by omega)
    by_cases hc : clo m s = true ∧ q.1 = 0 ∧ z.1 + z.2.1 = sW N p m s
    · by_cases hl : (rawR N p m s).length = 1
      · rw [joinR_1 hq hz hc hl]; show 1 ≤ 227; omega
      · rw [joinR_2 hq hz hc hl, jn_len (by omega)]; omega
    · rw [joinR_n hq hz hc]; omega
end RAW
/-- the reference holds the runs L, closed or not by f -/
def HoF (L : List Run) (f : Nat) (ra rl : Nat → Int32) : Prop := ∀ (i : Nat) (r : Run), L[i]? = some r → ra i = nI r.1 ∧ rl i = nI r.2.1 ∧ r.2.2.1 = f
theorem ahead_m {n : Nat} (hn : 200000 ≤ n) {N : Nat} {p : Nat → Nat} {c m m' : Nat → Int32} (hR : RW N p c m) (hm : E86 m' m) {s : Nat} (hs : s ≤ N) (x3 x4 : Int32) (a17 a18 a19 a20 a21 a22 : Nat → Int32) :
    ∃ y3 y4 b17 b18 b19 b20 b21 b22, F_X12_ahead n x3 x4 m' a17 a18 a19 a20 a21 a22 (nI s) = some (nI (fb_sm (sW N p m) s), y3, y4, b17, b18, b19, b20, b21, b22) := by
  have hN4 := hR.1
  have key : ∃ w, lpq (F_X12_ahead_b4 n m' (nI s)) n (0, 0, x3, x4, a17, a18, a19, a20, a21, a22) = some w ∧ ∃ y3 y4 b17 b18 b19 b20 b21 b22, w = (nI (fb_sm (sW N p m) s), y3, y4, b17, b18, b19, b20, b21, b22) := by
    refine lpq_i0 (fun i st => ∃ y3 y4 b17 b18 b19 b20 b21 b22, st = (nI (fb_sm (sW N p m) i), nI i, y3, y4, b17, b18, b19, b20, b21, b22)) _ s ?_ (by omega) ⟨x3, x4, a17, a18, a19, a20, a21, a22, rfl⟩
    rintro i st hi ⟨y3, y4, b17, b18, b19, b20, b21, b22, rfl⟩
    unfold F_X12_ahead_b4
    by_cases q : i = s
    · left
      subst q
      exact ⟨_, if_pos (nI_le (Nat.le_refl _) (by omega)), _, _, _, _, _, _, _, _, rfl⟩
    · right
      refine ⟨by omega, ?_⟩
      obtain ⟨e17, e18, e19, e20, e21, e22, k1, _⟩ := lays_m hn hR hm (s := i) (by omega) b17 b18 b19 b20 b21 b22
      show ∃ s', (if nI s ≤ nI i then _ else obd (F_X12_laysSegments n m' b17 b18 b19 b20 b21 b22 (nI i)) _) = _ ∧ _
      rw [if_neg (nI_ge (by omega) (by omega)), k1, obd_s]
      simp only [lt_eq, zl_1, nI_add]
      exact ⟨_, rfl, _, _, _, _, _, _, _, _, rfl⟩
  obtain ⟨w, e, y3, y4, b17, b18, b19, b20, b21, b22, rfl⟩ := key
  unfold F_X12_ahead F_X12_ahead_j4 F_X12_ahead_j27
  rw [e]
  exact ⟨_, _, _, _, _, _, _, _, rfl⟩
theorem nI_z {a : Nat} (ha : a < 2 ^ 31) : (nI a = 0) = (a = 0) := propext (nI_eq (b := 0) ha (by decide))
theorem upd_0 {f : Nat → Int32} {x : Int32} : upd f (0 : Int32).toNatClampNeg x = upd f 0 x := rfl
set_option maxHeartbeats 2000000 in
theorem fin_m {N : Nat} {p : Nat → Nat} {c m m' : Nat → Int32} (hR : RW N p c m) (hm : E86 m' m) {s : Nat} (hs : s < N) (x3 : Int32) (b17 b18 b19 b20 b21 b22 ra rl : Nat → Int32) (hH : HoA (raws N p m s) ra rl) :
    ∃ f r23 r24, F_X12_laysRuns_j164 x3 (nI (sW N p m s)) (nI (raws N p m s).length) m' b17 b18 b19 b20 b21 b22 ra rl (nI s) = some (x3, nI (sW N p m s), nI (fin N p m s).length, nI f, b17, b18, b19, b20, b21, b22, r23, r24) ∧ (f = 0 ∨ f = 1) ∧ HoF (fin N p m s) f r23 r24 := by
  have hN4 := hR.1
  have g := hR.sp hs
  have hW := sW_le hR s
  have h227 := raws_len hR s
  have hlen := rawR_len (N := N) (p := p) (m := m) (s := s)
  have h0 : ∀ (k : Nat) (r : Run), (rawR N p m s)[k]? = some r → ra k = nI r.1 ∧ rl k = nI r.2.1 ∧ r.2.2.1 = 0 := fun k r hr => by
    obtain ⟨q, h1, rfl⟩ := rawR_at hr
    exact ⟨(hH k q h1).1, (hH k q h1).2, rfl⟩
  have hsame : fin N p m s = rawR N p m s → F_X12_laysRuns_j222 x3 (nI (sW N p m s)) (nI (raws N p m s).length) b17 b18 b19 b20 b21 b22 ra rl = some (x3, nI (sW N p m s), nI (fin N p m s).length, nI 0, b17, b18, b19, b20, b21, b22, ra, rl) := fun e => by
    rw [e, hlen]
    unfold F_X12_laysRuns_j222 F_X12_laysRuns_j223 F_X12_laysRuns_j243 F_X12_laysRuns_j244
    rw [if_pos rfl, gd_t (Or.inl rfl), if_pos rfl]; rfl
  unfold F_X12_laysRuns_j164
  rw [m_clo' hm (by omega), obd_s]
  rcases Nat.eq_zero_or_pos (rawR N p m s).length with e | e
  · have hf : fin N p m s = rawR N p m s := by unfold fin; rw [List.eq_nil_of_length_eq_zero e, joinR_0]
    refine ⟨0, ra, rl, ?_, Or.inl rfl, by rw [hf]; exact h0⟩
    rw [← hsame hf]
    by_cases q : m (15 + 18 * s) = 1
    · rw [if_pos q, if_neg (by decide), if_pos]
      rw [show (raws N p m s).length = 0 from by omega]; decide
    · rw [if_neg q, if_pos rfl]
  · obtain ⟨q, hq⟩ := hx_at e
    obtain ⟨z, hz⟩ := hx_at (show (rawR N p m s).length - 1 < (rawR N p m s).length by omega)
    have aq := h0 _ _ hq
    have az := h0 _ _ hz
    obtain ⟨q', hq', rfl⟩ := rawR_at hq
    obtain ⟨z', hz', rfl⟩ := rawR_at hz
    have wq := raws_at hR hq'
    have wz := raws_at hR hz'
    by_cases hc : clo m s = true ∧ q'.1 = 0 ∧ z'.1 + z'.2 = sW N p m s
    · have hcl : m (15 + 18 * s) = 1 := of_decide_eq_true hc.1
      have e1 : F_X12_laysRuns_j223 x3 (nI (sW N p m s)) (nI (raws N p m s).length) b17 b18 b19 b20 b21 b22 ra rl 1 = (if (if m (15 + 18 * s) = 1 then (1 : Int32) else 0) = 0 then F_X12_laysRuns_j222 x3 (nI (sW N p m s)) (nI (raws N p m s).length) b17 b18 b19 b20 b21 b22 ra rl else if nI (raws N p m s).length ≤ 0 then F_X12_laysRuns_j222 x3 (nI (sW N p m s)) (nI (raws N p m s).length) b17 b18 b19 b20 b21 b22 ra rl else gd (decide (vpi 0 240)) (if (ra (0 : Int32).toNatClampNeg) = 0 then lt (nI (raws N p m s).length - 1) (fun y_21 => gd (decide (vpi y_21 240)) (lt (nI (raws N p m s).length - 1) (fun y_23 => gd (decide (vpi y_23 240)) (if ((ra y_21.toNatClampNeg) + (rl y_23.toNatClampNeg)) = nI (sW N p m s) then F_X12_laysRuns_j223 x3 (nI (sW N p m s)) (nI (raws N p m s).length) b17 b18 b19 b20 b21 b22 ra rl 1 else F_X12_laysRuns_j222 x3 (nI (sW N p m s)) (nI (raws N p m s).length) b17 b18 b19 b20 b21 b22 ra rl)))) else F_X12_laysRuns_j222 x3 (nI (sW N p m s)) (nI (raws N p m s).length) b17 b18 b19 b20 b21 b22 ra rl)) := by
        rw [if_pos hcl, if_neg (by decide), if_neg (nI_nle (by omega) (by omega)), gd_in' (z := 0) (i := 0) rfl (by decide) (by decide), cl_0, aq.1, hc.2.1, if_pos (show nI 0 = 0 from rfl), zl_1, pk_sub (by omega), lt_eq, gd_in (by omega) (by decide), lt_eq, gd_in (by omega) (by decide), nI_clamp (by omega), ← hlen, az.1, az.2.1, nI_add]
        show _ = if nI (z'.1 + z'.2) = nI (sW N p m s) then _ else _
        rw [hc.2.2, if_pos rfl]
      rw [← e1]
      by_cases hl : (rawR N p m s).length = 1
      · refine ⟨1, ra, rl, ?_, Or.inr rfl, ?_⟩
        · unfold fin
          rw [joinR_1 hq hz hc hl]
          unfold F_X12_laysRuns_j223 F_X12_laysRuns_j244
          rw [if_neg (by decide), ← hlen, hl, if_pos (show nI 1 = 1 from rfl), gd_t (Or.inr rfl), if_neg (by decide), if_pos (by decide)]; rfl
        · unfold fin
          rw [joinR_1 hq hz hc hl]
          intro i r hr
          cases i with
          | zero =>
            have e2 := (Option.some.inj hr).symm
            subst e2
            exact ⟨aq.1, aq.2.1, rfl⟩
          | succ i => exact absurd hr (by simp)
      · refine ⟨0, upd ra 0 (nI z'.1), upd rl 0 (nI (q'.2 + z'.2)), ?_, Or.inl rfl, ?_⟩
        · unfold fin
          rw [joinR_2 hq hz hc hl, jn_len (by omega)]
          unfold F_X12_laysRuns_j223 F_X12_laysRuns_j243 F_X12_laysRuns_j244
          rw [if_neg (by decide), if_neg (show ¬ nI (raws N p m s).length = 1 from nI_ne (b := 1) (by omega) (by omega) (by omega)), gd_t (Or.inl rfl), if_neg (by decide), if_neg (show ¬ nI (raws N p m s).length ≤ 1 from nI_ge (a := 1) (by omega) (by omega)), zl_1, pk_sub (by omega), lt_eq, gd_in (by omega) (by decide), lt_eq, gd_in' (z := 0) (i := 0) rfl (by decide) (by decide), lt_eq, gd_in' (z := 0) (i := 0) rfl (by decide) (by decide), gd_in (by omega) (by decide), lt_eq, gd_in' (z := 0) (i := 0) rfl (by decide) (by decide), lt_eq, nI_clamp (by omega), cl_0, ← hlen, az.1, az.2.1, aq.2.1, nI_add]
          rfl
        · unfold fin
          rw [joinR_2 hq hz hc hl]
          intro i r hr
          rcases jn_at hr with ⟨rfl, rfl⟩ | ⟨h1, _, h3⟩
          · rw [ud_e rfl, ud_e rfl]; exact ⟨rfl, rfl, rfl⟩
          · rw [ud_n (by omega), ud_n (by omega)]; exact h0 i r h3
    · have hf : fin N p m s = rawR N p m s := by unfold fin; exact joinR_n hq hz hc
      refine ⟨0, ra, rl, ?_, Or.inl rfl, by rw [hf]; exact h0⟩
      rw [← hsame hf]
      by_cases hcl : m (15 + 18 * s) = 1
      · rw [if_pos hcl, if_neg (by decide), if_neg (nI_nle (by omega) (by omega)), gd_in' (z := 0) (i := 0) rfl (by decide) (by decide), cl_0, aq.1]
        show (if nI q'.1 = 0 then _ else _) = _
        by_cases h9 : q'.1 = 0
        · rw [h9, if_pos (show nI 0 = 0 from rfl), zl_1, pk_sub (by omega), lt_eq, gd_in (by omega) (by decide), lt_eq, gd_in (by omega) (by decide), nI_clamp (by omega), ← hlen, az.1, az.2.1, nI_add]
          show (if nI (z'.1 + z'.2) = nI (sW N p m s) then _ else _) = _
          rw [if_neg (nI_ne (fun e => hc ⟨decide_eq_true hcl, h9, e⟩) (by omega) (by omega)), hlen]
        · rw [if_neg (nI_ne0 (by omega) (by omega))]
      · rw [if_neg hcl, if_pos rfl]
theorem lr_m {n : Nat} (hn : 200000 ≤ n) {N : Nat} {p : Nat → Nat} {c m m' : Nat → Int32} (hR : RW N p c m) (hm : E86 m' m) {s : Nat} (hs : s < N) (x3 x4 : Int32) (a17 a18 a19 a20 a21 a22 a23 a24 : Nat → Int32) :
    ∃ f b17 b18 b19 b20 b21 b22 r23 r24, F_X12_laysRuns n x3 x4 m' a17 a18 a19 a20 a21 a22 a23 a24 (nI s) = some (nI (sg N p m s).length, nI (sW N p m s), nI (fin N p m s).length, nI f, b17, b18, b19, b20, b21, b22, r23, r24) ∧
      HoR m s (p s) (sg N p m s) b17 b18 b19 b20 b21 b22 ∧ (f = 0 ∨ f = 1) ∧ HoF (fin N p m s) f r23 r24 := by
  have hN4 := hR.1
  have hp := ph_e hR.st
  have hT := sT_le hR (s := s) (by omega)
  have go : ∀ b17 b18 b19 b20 b21 b22 y, 64 * ph m + y = sT N p m s → ∃ f e17 e18 e19 e20 e21 e22 r23 r24, F_X12_laysRuns_j28 n m' b17 b18 b19 b20 b21 b22 a23 a24 (nI s) (nI (64 * ph m)) (nI y) = some (nI (sg N p m s).length, nI (sW N p m s), nI (fin N p m s).length, nI f, e17, e18, e19, e20, e21, e22, r23, r24) ∧
      HoR m s (p s) (sg N p m s) e17 e18 e19 e20 e21 e22 ∧ (f = 0 ∨ f = 1) ∧ HoF (fin N p m s) f r23 r24 := by
    intro b17 b18 b19 b20 b21 b22 y hy
    obtain ⟨e17, e18, e19, e20, e21, e22, k1, k2⟩ := lays_m hn hR hm hs b17 b18 b19 b20 b21 b22
    have hnp := nP_ok hR.st (W := sW N p m s) (fj_in hR.st (sT N p m s))
    obtain ⟨ra, rl, k3, k4⟩ := rl_m (n := n) (by omega) hm hR.st (fj_in hR.st (sT N p m s)) (by omega) (sW_le hR s) hnp.1 hnp.2 a23 a24
    obtain ⟨f, r23, r24, k5, k6, k7⟩ := fin_m hR hm hs (nI (sg N p m s).length) e17 e18 e19 e20 e21 e22 ra rl k4
    refine ⟨f, e17, e18, e19, e20, e21, e22, r23, r24, ?_, k2, k6, k7⟩
    unfold F_X12_laysRuns_j28 F_X12_laysRuns_j47
    rw [nI_add, hy, lt_eq, k1, obd_s]
    show obd (lpq (F_X12_laysRuns_b47 n (nI (sW N p m s)) m' (nI (sT N p m s))) n (0, 0, a23, a24)) _ = _
    rw [k3, obd_s]
    exact k5
  unfold F_X12_laysRuns
  rw [gd_in' (z := 4) (i := 4) rfl (by decide) (by decide), gd_in' (z := 5) (i := 5) rfl (by decide) (by decide), cl_4, cl_5, hm 4 (by decide), hm 5 (by decide), hp.2, zl_64, pk_mul]
  by_cases q : m 5 = 1
  · obtain ⟨y3, y4, b17, b18, b19, b20, b21, b22, k⟩ := ahead_m hn hR hm (s := s) (by omega) x3 x4 a17 a18 a19 a20 a21 a22
    rw [if_pos q, k, obd_s]
    exact go _ _ _ _ _ _ _ (by unfold sT; rw [if_pos q])
  · rw [if_neg q]
    exact go _ _ _ _ _ _ 0 (by unfold sT; rw [if_neg q])
