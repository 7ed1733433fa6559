/-! ===== the cuts of a run, one behind the other; the tip of a miter ===== -/
section ADJ
variable {N : Nat} {p : Nat → Nat} {c m : Nat → Int32}
theorem fin_ex (hR : RW N p c m) {s i : Nat} {r : Run} (h : (fin N p m s)[i]? = some r) :
    (sW N p m s < r.1 + r.2.1 → m (15 + 18 * s) = 1) ∧ (r.2.2.1 = 0 ∨ r.2.2.1 = 1) ∧ (r.2.2.1 = 1 → r.1 = 0 ∧ r.2.1 = sW N p m s ∧ m (15 + 18 * s) = 1) := by
  have base : ∀ (k : Nat) (r' : Run), (rawR N p m s)[k]? = some r' → (sW N p m s < r'.1 + r'.2.1 → m (15 + 18 * s) = 1) ∧ (r'.2.2.1 = 0 ∨ r'.2.2.1 = 1) ∧ (r'.2.2.1 = 1 → r'.1 = 0 ∧ r'.2.1 = sW N p m s ∧ m (15 + 18 * s) = 1) := fun k r' hr => by
    have b := rawR_cut hR hr
    exact ⟨fun h => absurd b.2.2.1 (by omega), Or.inl b.1, fun h => absurd h (by rw [b.1]; omega)⟩
  unfold fin at h
  rcases Nat.eq_zero_or_pos (rawR N p m s).length with e | e
  · rw [List.eq_nil_of_length_eq_zero e, joinR_0] at h; exact absurd h (by simp)
  · obtain ⟨q, hq⟩ := hx_at e
    obtain ⟨z, hz⟩ := hx_at (show (rawR N p m s).length - 1 < (rawR N p m s).length by omega)
    by_cases hc : clo m s = true ∧ q.1 = 0 ∧ z.1 + z.2.1 = sW N p m s
    · have hcl : m (15 + 18 * s) = 1 := of_decide_eq_true hc.1
      by_cases hl : (rawR N p m s).length = 1
      · rw [joinR_1 hq hz hc hl] at h
        cases i with
        | zero =>
          have e2 : r = (q.1, q.2.1, 1, q.2.2.2) := (Option.some.inj h).symm
          subst e2
          have ez : z = q := by rw [hl] at hz; exact Option.some.inj (hz.symm.trans hq)
          rw [ez] at hc
          exact ⟨fun _ => hcl, Or.inr rfl, fun _ => ⟨hc.2.1, by show q.2.1 = _; omega, hcl⟩⟩
        | succ i => exact absurd h (by simp)
      · rw [joinR_2 hq hz hc hl] at h
        rcases jn_at h with ⟨_, rfl⟩ | ⟨_, _, h3⟩
        · exact ⟨fun _ => hcl, Or.inl rfl, fun h => absurd h (by show ¬ 0 = 1; omega)⟩
        · exact base _ _ h3
    · rw [joinR_n hq hz hc] at h; exact base _ _ h
theorem fin_cut (hR : RW N p c m) {s i : Nat} {r : Run} (h : (fin N p m s)[i]? = some r) {k : Nat} {z : Cut} (hz : r.2.2.2[k]? = some z) :
    z.1 < (sg N p m s).length ∧ z.2.1 ≤ z.2.2 ∧ z.2.2 ≤ sA N p m s (z.1 + 1) - sA N p m s z.1 := by
  have f := fin_at hR h
  rw [f.2.2.2] at hz
  have both : ∀ {b e k : Nat}, (cutL (sA N p m s) b e (sg N p m s).length)[k]? = some z → z.1 < (sg N p m s).length ∧ z.2.1 ≤ z.2.2 ∧ z.2.2 ≤ sA N p m s (z.1 + 1) - sA N p m s z.1 := fun h => by
    have := cut_at h
    exact ⟨this.1, by omega, by rw [this.2.2.1]; omega⟩
  by_cases q : k < (cutL (sA N p m s) r.1 (min (r.1 + r.2.1) (sW N p m s)) (sg N p m s).length).length
  · rw [List.getElem?_append_left q] at hz; exact both hz
  · rw [List.getElem?_append_right (by omega)] at hz; exact both hz
theorem fin_ne (hR : RW N p c m) {s i : Nat} {r : Run} (h : (fin N p m s)[i]? = some r) : 0 < r.2.2.2.length := by
  have f := fin_at hR h
  have hS := SEG_of hR s
  rw [f.2.2.2, List.length_append]
  have hc := csum_cut (A := sA N p m s) (b := r.1) (e := min (r.1 + r.2.1) (sW N p m s)) (by omega) hS.1 (sg N p m s).length (fun i hi => Nat.le_of_lt (hS.2.1 i hi))
  rcases Nat.eq_zero_or_pos (cutL (sA N p m s) r.1 (min (r.1 + r.2.1) (sW N p m s)) (sg N p m s).length).length with e | e
  · rw [List.eq_nil_of_length_eq_zero e, hS.2.2.1] at hc
    have : csum [] = 0 := rfl
    omega
  · omega
theorem fin_adj (hR : RW N p c m) {s i : Nat} {r : Run} (h : (fin N p m s)[i]? = some r) {k k' : Nat} (hk : (k + 1 < r.2.2.2.length ∧ k' = k + 1) ∨ (k + 1 = r.2.2.2.length ∧ r.2.2.1 = 1 ∧ k' = 0)) :
    ∃ z z', r.2.2.2[k]? = some z ∧ r.2.2.2[k']? = some z' ∧ (z'.1 = z.1 + 1 ∨ (z'.1 = 0 ∧ z.1 + 1 = (sg N p m s).length ∧ m (15 + 18 * s) = 1)) ∧ z.2.2 = sA N p m s (z.1 + 1) - sA N p m s z.1 := by
  have f := fin_at hR h
  have ex := fin_ex hR h
  have hS := SEG_of hR s
  have hG : 0 < (sg N p m s).length := by
    rcases Nat.eq_zero_or_pos (sg N p m s).length with e | e
    · have := f.1
      rw [← hS.2.2.1, e, hS.1] at this; omega
    · exact e
  have hlast : ∀ {b e : Nat} {z : Cut}, sW N p m s ≤ e → (cutL (sA N p m s) b e (sg N p m s).length)[(cutL (sA N p m s) b e (sg N p m s).length).length - 1]? = some z → z.1 + 1 = (sg N p m s).length ∧ z.2.2 = sA N p m s (z.1 + 1) - sA N p m s z.1 := fun {b e z} he hz => by
    have h1 := (cut_gap (A := sA N p m s) (b := b) (e := e) (sg N p m s).length hS.2.1).2 z hz
    have h2 := cut_at hz
    have h3 : z.1 + 1 = (sg N p m s).length := by
      rcases h1 with y | y
      · exact y
      · rcases Nat.lt_or_ge (z.1 + 1) (sg N p m s).length with w | w
        · have g1 := hS.mono (i := z.1 + 1 + 1) ((sg N p m s).length - (z.1 + 1 + 1)) (by omega)
          rw [show z.1 + 1 + 1 + ((sg N p m s).length - (z.1 + 1 + 1)) = (sg N p m s).length from by omega, hS.2.2.1] at g1
          have g2 := hS.2.1 (z.1 + 1) w
          omega
        · omega
    refine ⟨h3, ?_⟩
    rw [h2.2.2.1, h3, hS.2.2.1]; omega
  have hfirst : ∀ {e : Nat} {z : Cut}, 0 < e → (cutL (sA N p m s) 0 e (sg N p m s).length)[0]? = some z → z.1 = 0 := fun {e z} he hz => by
    have h1 : 0 < sA N p m s 1 := by have := hS.2.1 0 hG; rw [hS.1] at this; exact this
    refine cut_first hS.1 h1 he ((sg N p m s).length - 1) z ?_
    rw [Nat.sub_add_cancel hG]; exact hz
  rw [f.2.2.2] at hk ⊢
  rcases hk with ⟨hk, rfl⟩ | ⟨hk, h1, rfl⟩
  · obtain ⟨z, hz⟩ := hx_at (show k < (cutL (sA N p m s) r.1 (min (r.1 + r.2.1) (sW N p m s)) (sg N p m s).length ++ cutL (sA N p m s) 0 (r.1 + r.2.1 - sW N p m s) (sg N p m s).length).length by omega)
    obtain ⟨z', hz'⟩ := hx_at hk
    refine ⟨z, z', hz, hz', ?_⟩
    rw [List.length_append] at hk
    by_cases q : k + 1 < (cutL (sA N p m s) r.1 (min (r.1 + r.2.1) (sW N p m s)) (sg N p m s).length).length
    · rw [List.getElem?_append_left (by omega)] at hz
      rw [List.getElem?_append_left q] at hz'
      have := (cut_gap (A := sA N p m s) (b := r.1) (e := min (r.1 + r.2.1) (sW N p m s)) (sg N p m s).length hS.2.1).1 k z z' hz hz'
      exact ⟨Or.inl this.1, this.2⟩
    · by_cases q2 : k + 1 = (cutL (sA N p m s) r.1 (min (r.1 + r.2.1) (sW N p m s)) (sg N p m s).length).length
      · rw [List.getElem?_append_left (by omega)] at hz
        rw [List.getElem?_append_right (by omega), q2, Nat.sub_self] at hz'
        have he : 0 < r.1 + r.2.1 - sW N p m s := by
          rcases Nat.eq_zero_or_pos (r.1 + r.2.1 - sW N p m s) with y | y
          · rw [y, cut_n (Nat.le_refl 0)] at hz'; exact absurd hz' (by simp)
          · exact y
        have l1 := hlast (b := r.1) (e := min (r.1 + r.2.1) (sW N p m s)) (z := z) (by omega) (by rw [← q2, Nat.add_sub_cancel]; exact hz)
        exact ⟨Or.inr ⟨hfirst he hz', l1.1, ex.1 (by omega)⟩, l1.2⟩
      · rw [List.getElem?_append_right (by omega)] at hz
        rw [List.getElem?_append_right (by omega)] at hz'
        rw [show k + 1 - (cutL (sA N p m s) r.1 (min (r.1 + r.2.1) (sW N p m s)) (sg N p m s).length).length = k - (cutL (sA N p m s) r.1 (min (r.1 + r.2.1) (sW N p m s)) (sg N p m s).length).length + 1 from by omega] at hz'
        have := (cut_gap (A := sA N p m s) (b := 0) (e := r.1 + r.2.1 - sW N p m s) (sg N p m s).length hS.2.1).1 _ z z' hz hz'
        exact ⟨Or.inl this.1, this.2⟩
  · obtain ⟨e1, e2, e3⟩ := ex.2.2 h1
    have eC2 : cutL (sA N p m s) 0 (r.1 + r.2.1 - sW N p m s) (sg N p m s).length = [] := by rw [show r.1 + r.2.1 - sW N p m s = 0 from by omega]; exact cut_n (Nat.le_refl 0) _
    have eC1 : min (r.1 + r.2.1) (sW N p m s) = sW N p m s := by omega
    rw [eC2, List.append_nil, eC1, e1] at hk ⊢
    have hW0 : 0 < sW N p m s := by have := f.1; omega
    obtain ⟨z, hz⟩ := hx_at (show k < (cutL (sA N p m s) 0 (sW N p m s) (sg N p m s).length).length by omega)
    obtain ⟨z', hz'⟩ := hx_at (show 0 < (cutL (sA N p m s) 0 (sW N p m s) (sg N p m s).length).length by omega)
    have l1 := hlast (b := 0) (e := sW N p m s) (z := z) (Nat.le_refl _) (by rw [← hk, Nat.add_sub_cancel]; exact hz)
    exact ⟨z, z', hz, hz', Or.inr ⟨hfirst hW0 hz', l1.1, e3⟩, l1.2⟩
end ADJ
/-! the tip of a miter is no division by 0 -/
theorem sq_le {u T : Int} (h1 : -T ≤ u) (h2 : u ≤ T) : u * u ≤ T * T := by
  have h3 : 0 ≤ (T - u) * (T + u) := Int.mul_nonneg (by omega) (by omega)
  have e : (T - u) * (T + u) = T * T - u * u := by grind
  omega
theorem sq_rev {u v : Int} (hv : 0 ≤ v) (h : u * u ≤ v * v) : u ≤ v := by
  by_cases q : u ≤ v
  · exact q
  · have h3 : 0 < (u - v) * (u + v) := Int.mul_pos (by omega) (by omega)
    have e : (u - v) * (u + v) = u * u - v * v := by grind
    omega
theorem sq_nn (u : Int) : 0 ≤ u * u := by
  rcases Int.le_total 0 u with h | h
  · exact Int.mul_nonneg h h
  · have := Int.mul_nonneg (show 0 ≤ -u by omega) (show 0 ≤ -u by omega)
    have e : -u * -u = u * u := by grind
    omega
/-- two opposite normals are beyond every limit -/
theorem tip_no {a b c d L1 L2 R M : Int} (hL1 : 0 < L1) (hL2 : 0 < L2) (hq1 : L1 * L1 ≤ 4096 * (a * a + b * b)) (hq2 : L2 * L2 ≤ 4096 * (c * c + d * d)) (hR : 2048 ≤ R)
    (hX1 : -(L1 * L2) ≤ R * (a * L2 + c * L1)) (hX2 : R * (a * L2 + c * L1) ≤ L1 * L2) (hY1 : -(L1 * L2) ≤ R * (b * L2 + d * L1)) (hY2 : R * (b * L2 + d * L1) ≤ L1 * L2) (hM : 1 ≤ M ∧ M ≤ 100)
    (h : 0 ≤ M * (a * c + b * d) ∨ (0 ≤ M - 2 ∧ (M * (a * c + b * d)) * (M * (a * c + b * d)) ≤ (M - 2) * (M - 2) * ((a * a + b * b) * (c * c + d * d)))) : False := by
  obtain ⟨S, hS⟩ : ∃ S, S = (a * L2 + c * L1) * (a * L2 + c * L1) + (b * L2 + d * L1) * (b * L2 + d * L1) := ⟨_, rfl⟩
  obtain ⟨T, hT⟩ : ∃ T, T = L1 * L2 := ⟨_, rfl⟩
  obtain ⟨α, hα⟩ : ∃ α, α = (a * a + b * b) * (L2 * L2) := ⟨_, rfl⟩
  obtain ⟨β, hβ⟩ : ∃ β, β = (c * c + d * d) * (L1 * L1) := ⟨_, rfl⟩
  obtain ⟨D, hD⟩ : ∃ D, D = a * c + b * d := ⟨_, rfl⟩
  have hT0 : 0 < T := by rw [hT]; exact Int.mul_pos hL1 hL2
  have hTT : 0 < T * T := Int.mul_pos hT0 hT0
  have hS0 : 0 ≤ S := by
    have h1 := sq_nn (a * L2 + c * L1)
    have h2 := sq_nn (b * L2 + d * L1)
    omega
  have eS : S = α + β + 2 * (D * T) := by rw [hS, hα, hβ, hD, hT]; grind
  rw [← hT] at hX1 hX2 hY1 hY2
  have g1 := sq_le hX1 hX2
  have g2 := sq_le hY1 hY2
  have eRS : R * R * S = R * (a * L2 + c * L1) * (R * (a * L2 + c * L1)) + R * (b * L2 + d * L1) * (R * (b * L2 + d * L1)) := by rw [hS]; grind
  have hRR : 2048 * 2048 ≤ R * R := Int.mul_le_mul hR hR (by omega) (by omega)
  have hRS : 2048 * 2048 * S ≤ R * R * S := Int.mul_le_mul_of_nonneg_right hRR hS0
  have a1 : T * T ≤ 4096 * α := by
    have := Int.mul_le_mul_of_nonneg_right hq1 (show 0 ≤ L2 * L2 from sq_nn L2)
    have e1 : L1 * L1 * (L2 * L2) = T * T := by rw [hT]; grind
    have e2 : 4096 * (a * a + b * b) * (L2 * L2) = 4096 * α := by rw [hα]; grind
    omega
  have b1 : T * T ≤ 4096 * β := by
    have := Int.mul_le_mul_of_nonneg_right hq2 (show 0 ≤ L1 * L1 from sq_nn L1)
    have e1 : L2 * L2 * (L1 * L1) = T * T := by rw [hT]; grind
    have e2 : 4096 * (c * c + d * d) * (L1 * L1) = 4096 * β := by rw [hβ]; grind
    omega
  rw [← hD] at h
  by_cases hD0 : 0 ≤ D
  · have : 0 ≤ D * T := Int.mul_nonneg hD0 (by omega)
    omega
  · have hMD : ¬ 0 ≤ M * D := by
      intro h9
      have : 0 < M * -D := Int.mul_pos (by omega) (by omega)
      have e : M * -D = -(M * D) := by grind
      omega
    rcases h with h | ⟨hM2, h⟩
    · exact hMD h
    · obtain ⟨P, hP⟩ : ∃ P, P = -D := ⟨_, rfl⟩
      have hab : 0 ≤ α + β := by omega
      have k1 : (2 * (M * P * T)) * (2 * (M * P * T)) ≤ ((M - 2) * (α + β)) * ((M - 2) * (α + β)) := by
        have k2 : M * D * (M * D) * (T * T) ≤ (M - 2) * (M - 2) * ((a * a + b * b) * (c * c + d * d)) * (T * T) := Int.mul_le_mul_of_nonneg_right h (by omega)
        have e1 : (2 * (M * P * T)) * (2 * (M * P * T)) = 4 * (M * D * (M * D) * (T * T)) := by rw [hP]; grind
        have e2 : (M - 2) * (M - 2) * ((a * a + b * b) * (c * c + d * d)) * (T * T) = (M - 2) * (M - 2) * (α * β) := by rw [hT, hα, hβ]; grind
        have k3 : 0 ≤ (M - 2) * (M - 2) * ((α - β) * (α - β)) := Int.mul_nonneg (sq_nn _) (sq_nn _)
        have e3 : ((M - 2) * (α + β)) * ((M - 2) * (α + β)) = 4 * ((M - 2) * (M - 2) * (α * β)) + (M - 2) * (M - 2) * ((α - β) * (α - β)) := by grind
        omega
      have k4 := sq_rev (Int.mul_nonneg hM2 hab) k1
      have e5 : M * S = M * (α + β) - 2 * (M * P * T) := by rw [eS, hP]; grind
      have e6 : (M - 2) * (α + β) = M * (α + β) - 2 * (α + β) := by grind
      have k5 : M * S ≤ 100 * S := Int.mul_le_mul_of_nonneg_right hM.2 hS0
      omega
