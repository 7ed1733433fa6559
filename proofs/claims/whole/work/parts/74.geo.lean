/-! ===== neighbouring segments, neighbouring cuts ===== -/
def zst (m : Nat → Int32) (s n k : Nat) : Prop := sgx m s n k = 0 ∧ sgy m s n k = 0
theorem sgL_gap (m : Nat → Int32) (s n : Nat) : ∀ E,
    (∀ g k1 k2 : Nat, (sgL m s n E)[g]? = some k1 → (sgL m s n E)[g + 1]? = some k2 → k1 < k2 ∧ ∀ k, k1 < k → k < k2 → zst m s n k) ∧
    (∀ k2 : Nat, (sgL m s n E)[0]? = some k2 → ∀ k, k < k2 → zst m s n k) ∧
    (∀ k1 : Nat, (sgL m s n E)[(sgL m s n E).length - 1]? = some k1 → ∀ k, k1 < k → k < E → zst m s n k) ∧
    ((sgL m s n E).length = 0 → ∀ k, k < E → zst m s n k) := by
  intro E
  induction E with
  | zero => exact ⟨fun g k1 k2 h => absurd h (by simp [sgL]), fun k2 h => absurd h (by simp [sgL]), fun k1 h => absurd h (by simp [sgL]), fun _ k hk => absurd hk (by omega)⟩
  | succ E ih =>
    obtain ⟨i1, i2, i3, i4⟩ := ih
    by_cases q : sgx m s n E = 0 ∧ sgy m s n E = 0
    · have e : sgL m s n (E + 1) = sgL m s n E := by rw [sgL, if_pos q]
      rw [e]
      refine ⟨i1, i2, fun k1 h k h1 h2 => ?_, fun h k hk => ?_⟩
      · by_cases z : k = E
        · rw [z]; exact q
        · exact i3 k1 h k h1 (by omega)
      · by_cases z : k = E
        · rw [z]; exact q
        · exact i4 h k (by omega)
    · have e : sgL m s n (E + 1) = sgL m s n E ++ [E] := by rw [sgL, if_neg q]
      rw [e]
      refine ⟨fun g k1 k2 h1 h2 => ?_, fun k2 h => ?_, fun k1 h k h1 h2 => ?_, fun h => absurd h (by simp)⟩
      · rcases hx_ap h2 with ⟨g1, g2⟩ | ⟨g1, rfl⟩
        · rcases hx_ap h1 with ⟨_, g3⟩ | ⟨g3, _⟩
          · exact i1 g k1 k2 g3 g2
          · omega
        · rcases hx_ap h1 with ⟨_, g3⟩ | ⟨g3, _⟩
          · refine ⟨(sgL_at g3).1, i3 k1 ?_⟩
            rw [show (sgL m s n k2).length - 1 = g from by omega]; exact g3
          · omega
      · rcases hx_ap h with ⟨_, g2⟩ | ⟨g1, rfl⟩
        · exact i2 k2 g2
        · exact i4 g1.symm
      · rw [List.length_append, List.length_singleton, Nat.add_sub_cancel] at h
        rcases hx_ap h with ⟨g1, _⟩ | ⟨_, rfl⟩
        · omega
        · omega
theorem sbz0 {a b : Int32} (h : a - b = 0) : a = b := by
  have e : a - b + b = a := Int32.sub_add_cancel a b
  rw [h] at e; rw [← e]; exact Int32.zero_add b
theorem run_eq {m : Nat → Int32} {s n : Nat} : ∀ d a, a + d < n → (∀ k, a ≤ k → k < a + d → zst m s n k) → m (16 + 18 * s + 2 * (a + d)) = m (16 + 18 * s + 2 * a) ∧ m (17 + 18 * s + 2 * (a + d)) = m (17 + 18 * s + 2 * a) := by
  intro d
  induction d with
  | zero => intro a _ _; exact ⟨rfl, rfl⟩
  | succ d ih =>
    intro a h1 h2
    have h3 := ih a (by omega) (fun k g1 g2 => h2 k g1 (by omega))
    have h4 := h2 (a + d) (by omega) (by omega)
    unfold zst sgx sgy at h4
    rw [Nat.mod_eq_of_lt (by omega)] at h4
    rw [show a + (d + 1) = a + d + 1 from rfl, sbz0 h4.1, sbz0 h4.2]; exact h3
/-- where a segment ends the next one begins -/
theorem nxt_eq {N : Nat} {p : Nat → Nat} {c m : Nat → Int32} (hR : RW N p c m) {s g g' k1 k2 : Nat} (h1 : (sg N p m s)[g]? = some k1) (h2 : (sg N p m s)[g']? = some k2)
    (h : g' = g + 1 ∨ (g' = 0 ∧ g + 1 = (sg N p m s).length ∧ m (15 + 18 * s) = 1)) :
    m (16 + 18 * s + 2 * ((k1 + 1) % p s)) = m (16 + 18 * s + 2 * k2) ∧ m (17 + 18 * s + 2 * ((k1 + 1) % p s)) = m (17 + 18 * s + 2 * k2) := by
  have hs := sg_s h1
  have a1 := sg_at h1
  have a2 := sg_at h2
  have hE : sg N p m s = sgL m s (p s) (sgE m s (p s)) := if_pos hs
  have gap := sgL_gap m s (p s) (sgE m s (p s))
  rw [← hE] at gap
  rcases h with rfl | ⟨rfl, hl, hc⟩
  · obtain ⟨b1, b2⟩ := gap.1 g k1 k2 h1 h2
    rw [Nat.mod_eq_of_lt (by omega)]
    have := run_eq (m := m) (s := s) (n := p s) (k2 - (k1 + 1)) (k1 + 1) (by omega) (fun k q1 q2 => b2 k (by omega) (by omega))
    rw [show k1 + 1 + (k2 - (k1 + 1)) = k2 from by omega] at this
    exact ⟨this.1.symm, this.2.symm⟩
  · have hEn : sgE m s (p s) = p s := if_pos hc
    rw [hEn] at gap
    have b1 := gap.2.2.1 k1 (by rw [← hl, Nat.add_sub_cancel]; exact h1)
    have b2 := gap.2.1 k2 h2
    have c1 := run_eq (m := m) (s := s) (n := p s) k2 0 (by omega) (fun k q1 q2 => b2 k (by omega))
    rw [Nat.zero_add] at c1
    have c2 : m (16 + 18 * s + 2 * ((k1 + 1) % p s)) = m (16 + 18 * s + 2 * 0) ∧ m (17 + 18 * s + 2 * ((k1 + 1) % p s)) = m (17 + 18 * s + 2 * 0) := by
      by_cases q : k1 + 1 = p s
      · rw [q, Nat.mod_self]; exact ⟨rfl, rfl⟩
      · rw [Nat.mod_eq_of_lt (by omega)]
        have d1 := run_eq (m := m) (s := s) (n := p s) (p s - 1 - (k1 + 1)) (k1 + 1) (by omega) (fun k q1 q2 => b1 k (by omega) (by omega))
        rw [show k1 + 1 + (p s - 1 - (k1 + 1)) = p s - 1 from by omega] at d1
        have d2 := b1 (p s - 1) (by omega) (by omega)
        unfold zst sgx sgy at d2
        rw [show (p s - 1 + 1) = p s from by omega, Nat.mod_self] at d2
        rw [← d1.1, ← d1.2, sbz0 d2.1, sbz0 d2.2]; exact ⟨rfl, rfl⟩
    rw [c2.1, c2.2, c1.1, c1.2]; exact ⟨rfl, rfl⟩
theorem rnd_ex {a q : Int} (hq : 0 < q) : rnd (a * q) q = a := by
  unfold rnd
  refine fl_t (by omega) ?_ ?_
  · have : a * (2 * q) = 2 * (a * q) := by grind
    omega
  · have : a * (2 * q) = 2 * (a * q) := by grind
    omega
theorem aX_end {m : Nat → Int32} {s n k : Nat} (h : 0 < sgl m s n k) : aX m s n k (sgl m s n k) = 64 * m (16 + 18 * s + 2 * ((k + 1) % n)) ∧ aY m s n k (sgl m s n k) = 64 * m (17 + 18 * s + 2 * ((k + 1) % n)) := by
  have al : ∀ x y : Int32, 64 * x + iI (64 * (y - x).toInt) = 64 * y := fun x y => by
    have e : iI (64 * (y - x).toInt) = 64 * (y - x) := by rw [← ii_mul, ii_of]; rfl
    rw [e, show y - x = iI (y.toInt - x.toInt) from by rw [← ii_sub, ii_of, ii_of], show (64 : Int32) = iI 64 from rfl, ii_mul]
    have e1 : iI 64 * x = iI (64 * x.toInt) := by rw [← ii_mul, ii_of]
    have e2 : iI 64 * y = iI (64 * y.toInt) := by rw [← ii_mul, ii_of]
    rw [e1, e2, ii_add]; congr 1; omega
  unfold aX aY
  rw [rnd_ex (by omega), rnd_ex (by omega)]
  exact ⟨al _ _, al _ _⟩
/-! neighbouring cuts -/
theorem cut_gap {A : Nat → Nat} {b e : Nat} : ∀ g, (∀ i, i < g → A i < A (i + 1)) →
    (∀ (i : Nat) (z z' : Cut), (cutL A b e g)[i]? = some z → (cutL A b e g)[i + 1]? = some z' → z'.1 = z.1 + 1 ∧ z.2.2 = A (z.1 + 1) - A z.1) ∧
    (∀ z : Cut, (cutL A b e g)[(cutL A b e g).length - 1]? = some z → z.1 + 1 = g ∨ e ≤ A (z.1 + 1)) := by
  intro g
  induction g with
  | zero => intro _; exact ⟨fun i z z' h => absurd h (by simp [cutL]), fun z h => absurd h (by simp [cutL])⟩
  | succ g ih =>
    intro hA
    obtain ⟨i1, i2⟩ := ih (fun i hi => hA i (by omega))
    have hm : ∀ i k, i + k ≤ g → A i ≤ A (i + k) := by
      intro i k
      induction k with
      | zero => intro _; exact Nat.le_refl _
      | succ k ih => intro hk; have := ih (by omega); have := hA (i + k) (by omega); rw [show i + (k + 1) = i + k + 1 from rfl]; omega
    by_cases q : b - A g < min e (A (g + 1)) - A g
    · have e1 : cutL A b e (g + 1) = cutL A b e g ++ [(g, b - A g, min e (A (g + 1)) - A g)] := by rw [cutL, if_pos q]
      rw [e1]
      refine ⟨fun i z z' h1 h2 => ?_, fun z h => ?_⟩
      · rcases hx_ap h2 with ⟨g1, g2⟩ | ⟨g1, rfl⟩
        · rcases hx_ap h1 with ⟨_, g3⟩ | ⟨g3, _⟩
          · exact i1 i z z' g3 g2
          · omega
        · rcases hx_ap h1 with ⟨_, g3⟩ | ⟨g3, _⟩
          · have hz := cut_at g3
            have hl := i2 z (by rw [show (cutL A b e g).length - 1 = i from by omega]; exact g3)
            have hmm := hm (z.1 + 1) (g - (z.1 + 1)) (by omega)
            rw [show z.1 + 1 + (g - (z.1 + 1)) = g from by omega] at hmm
            have hzg : z.1 + 1 = g := by
              rcases hl with y | y
              · exact y
              · omega
            refine ⟨hzg.symm, ?_⟩
            rw [hz.2.2.1, hzg]; omega
          · omega
      · rw [List.length_append, List.length_singleton, Nat.add_sub_cancel] at h
        rcases hx_ap h with ⟨g1, _⟩ | ⟨_, rfl⟩
        · omega
        · exact Or.inl rfl
    · have e1 : cutL A b e (g + 1) = cutL A b e g := by rw [cutL, if_neg q]
      rw [e1]
      refine ⟨i1, fun z h => ?_⟩
      rcases i2 z h with y | y
      · have hz := cut_at h
        have := hA g (by omega)
        have h3 := hz.2.2.2
        rw [hz.2.1, hz.2.2.1, y] at h3
        right; rw [y]; omega
      · exact Or.inr y
theorem cut_first {A : Nat → Nat} {e : Nat} (h0 : A 0 = 0) (h1 : 0 < A 1) (he : 0 < e) : ∀ (g : Nat) (z : Cut), (cutL A 0 e (g + 1))[0]? = some z → z.1 = 0 := by
  have hb : cutL A 0 e 1 = [(0, 0 - A 0, min e (A 1) - A 0)] := by
    rw [cutL, if_pos (show 0 - A 0 < min e (A 1) - A 0 by rw [h0]; omega)]; rfl
  intro g
  induction g with
  | zero => intro z h; rw [hb] at h; rw [← Option.some.inj h]
  | succ g ih =>
    intro z h
    rw [cutL] at h
    by_cases q : 0 - A (g + 1) < min e (A (g + 1 + 1)) - A (g + 1)
    · rw [if_pos q] at h
      rcases hx_ap h with ⟨_, g2⟩ | ⟨g1, _⟩
      · exact ih z g2
      · have := cut_stop (A := A) (b := 0) (e := e) (g := 0) 0 (fun i hi => absurd hi (by omega))
        have hne : 0 < (cutL A 0 e (g + 1)).length := by
          have : ∀ k, 0 < (cutL A 0 e (k + 1)).length := by
            intro k
            induction k with
            | zero => rw [hb]; show 0 < 1; omega
            | succ k ih2 =>
              rw [cutL]
              by_cases y : 0 - A (k + 1) < min e (A (k + 1 + 1)) - A (k + 1)
              · rw [if_pos y, List.length_append]; omega
              · rw [if_neg y]; exact ih2
          exact this g
        omega
    · rw [if_neg q] at h; exact ih z h
