/-! ===== how many pieces there are ===== -/
def kx (A : Nat → Nat) (t : Nat) : Nat → Nat
  | 0 => 0
  | g + 1 => kx A t g + (if A (g + 1) < t then 1 else 0)
theorem kx_s (A : Nat → Nat) (t g : Nat) : kx A t (g + 1) = kx A t g + (if A (g + 1) < t then 1 else 0) := rfl
theorem kx_le (A : Nat → Nat) (t : Nat) : ∀ g, kx A t g ≤ g := by
  intro g
  induction g with
  | zero => exact Nat.le_refl _
  | succ g ih =>
    rw [kx_s]
    by_cases q : A (g + 1) < t
    · rw [if_pos q]; omega
    · rw [if_neg q]; omega
theorem kx_mono {A : Nat → Nat} {t t' : Nat} (h : t ≤ t') : ∀ g, kx A t g ≤ kx A t' g := by
  intro g
  induction g with
  | zero => exact Nat.le_refl _
  | succ g ih =>
    rw [kx_s, kx_s]
    by_cases q : A (g + 1) < t
    · rw [if_pos q, if_pos (show A (g + 1) < t' by omega)]; omega
    · rw [if_neg q]; omega
theorem cut_kx {A : Nat → Nat} {b e : Nat} (hbe : b ≤ e) : ∀ g, (∀ i, i < g → A i ≤ A (i + 1)) → (cutL A b e g).length + kx A b g ≤ kx A e g + 1 ∧ (A g < e → (cutL A b e g).length + kx A b g ≤ kx A e g) := by
  intro g
  induction g with
  | zero => intro _; exact ⟨Nat.zero_le _, fun _ => Nat.le_refl _⟩
  | succ g ih =>
    intro hA
    obtain ⟨i1, i2⟩ := ih (fun i hi => hA i (by omega))
    have hg := hA g (by omega)
    rw [kx_s, kx_s, cutL]
    by_cases q : b - A g < min e (A (g + 1)) - A g
    · have i3 := i2 (by omega)
      rw [if_pos q, List.length_append, List.length_singleton, if_neg (show ¬ A (g + 1) < b by omega)]
      by_cases w : A (g + 1) < e
      · rw [if_pos w]; exact ⟨by omega, fun _ => by omega⟩
      · rw [if_neg w]; exact ⟨by omega, fun h => absurd h w⟩
    · rw [if_neg q]
      by_cases w : A (g + 1) < b
      · rw [if_pos w, if_pos (show A (g + 1) < e by omega)]
        exact ⟨by omega, fun _ => by have := i2 (by omega); omega⟩
      · rw [if_neg w]
        by_cases v : A (g + 1) < e
        · rw [if_pos v]; exact ⟨by omega, fun _ => by omega⟩
        · rw [if_neg v]; exact ⟨by omega, fun h => absurd h v⟩
def rcl (r : Run) : Nat := r.2.2.2.length
def wt (r : Run) : Nat := 2 * r.2.2.2.length + 1
theorem sumf_wt (L : List Run) : sumf wt L = 2 * sumf rcl L + L.length := by
  induction L with
  | nil => rfl
  | cons a L ih =>
    have e1 : sumf wt (a :: L) = wt a + sumf wt L := by unfold sumf; simp
    have e2 : sumf rcl (a :: L) = rcl a + sumf rcl L := by unfold sumf; simp
    have e3 : wt a = 2 * rcl a + 1 := rfl
    rw [e1, e2, ih, List.length_cons, e3]; omega
theorem sumf_c {α : Type} (f : α → Nat) (a : α) (L : List α) : sumf f (a :: L) = f a + sumf f L := by unfold sumf; simp
theorem rR_sp {c m : Nat → Int32} (h : ST c m) {A : Nat → Nat} {G t W j : Nat} (hA : ∀ i, i < G → A i ≤ A (i + 1)) : ∀ i, sumf rcl (rR m A G t W j i) ≤ (rR m A G t W j i).length + kx A (bd m (j + i) - t) G := by
  intro i
  induction i with
  | zero => exact Nat.zero_le _
  | succ i ih =>
    have hm := bd_mono h (show j + i ≤ j + (i + 1) by omega)
    have hk := kx_mono (A := A) (show bd m (j + i) - t ≤ bd m (j + (i + 1)) - t by omega) G
    by_cases q : (j + i) % 2 = 0
    · rw [rR_on q, sumf_1, List.length_append, List.length_singleton]
      have c1 := (cut_kx (A := A) (b := bd m (j + i) - t) (e := bd m (j + i) - t + (min W (bd m (j + i + 1) - t) - (bd m (j + i) - t))) (by omega) G hA).1
      have c2 := kx_mono (A := A) (show bd m (j + i) - t + (min W (bd m (j + i + 1) - t) - (bd m (j + i) - t)) ≤ bd m (j + (i + 1)) - t by rw [show j + (i + 1) = j + i + 1 from rfl] at *; omega) G
      show sumf rcl (rR m A G t W j i) + (cutL A (bd m (j + i) - t) (bd m (j + i) - t + (min W (bd m (j + i + 1) - t) - (bd m (j + i) - t))) G).length ≤ _
      omega
    · rw [rR_off q]; omega
theorem sumf_ge {α : Type} {f : α → Nat} : ∀ {L : List α} {i : Nat} {a : α}, L[i]? = some a → f a ≤ sumf f L := by
  intro L
  induction L with
  | nil => intro i a h; exact absurd h (by simp)
  | cons b L ih =>
    intro i a h
    rw [sumf_c]
    cases i with
    | zero =>
      have : b = a := Option.some.inj h
      rw [this]; omega
    | succ i => have := ih (i := i) (a := a) (by simpa using h); omega
section CNT
variable {N : Nat} {p : Nat → Nat} {c m : Nat → Int32}
theorem rawR_w (hR : RW N p c m) (s : Nat) : sumf wt (rawR N p m s) ≤ 697 := by
  have hS := SEG_of hR s
  have h1 := rR_sp hR.st (A := sA N p m s) (G := (sg N p m s).length) (t := sT N p m s) (W := sW N p m s) (j := fj m (sT N p m s)) (fun i hi => Nat.le_of_lt (hS.2.1 i hi)) (nP m (sT N p m s) (sW N p m s) (fj m (sT N p m s)))
  have e : rR m (sA N p m s) (sg N p m s).length (sT N p m s) (sW N p m s) (fj m (sT N p m s)) (nP m (sT N p m s) (sW N p m s) (fj m (sT N p m s))) = rawR N p m s := rfl
  rw [e] at h1
  have h2 := kx_le (sA N p m s) (bd m (fj m (sT N p m s) + nP m (sT N p m s) (sW N p m s) (fj m (sT N p m s))) - sT N p m s) (sg N p m s).length
  have h3 := sg_len hR s
  have h4 := raws_len hR s
  have h5 : (rawR N p m s).length = (raws N p m s).length := rawR_len
  rw [sumf_wt]; omega
theorem mid_sp {L : List Run} {q z : Run} (h1 : L[0]? = some q) (h2 : L[L.length - 1]? = some z) (hl : L.length ≠ 1) : sumf wt L = wt q + sumf wt ((L.drop 1).take (L.length - 2)) + wt z := by
  cases L with
  | nil => exact absurd h1 (by simp)
  | cons a L =>
    have ea : a = q := Option.some.inj h1
    have hl2 : 0 < L.length := by
      cases L with
      | nil => exact absurd rfl hl
      | cons b L => exact Nat.succ_pos _
    obtain ⟨L0, z', e1, e2⟩ := last_sp hl2
    have ez : z' = z := by
      rw [List.length_cons, Nat.add_sub_cancel, e1] at h2
      rw [List.length_append, List.length_singleton, List.getElem?_cons_succ, List.getElem?_append_right (Nat.le_refl _), Nat.sub_self] at h2
      exact Option.some.inj h2
    subst ea
    subst ez
    rw [sumf_c, e1, sumf_1, List.length_cons]
    show _ = wt a + sumf wt ((L0 ++ [z']).take ((L0 ++ [z']).length + 1 - 2)) + wt z'
    rw [List.length_append, List.length_singleton, show L0.length + 1 + 1 - 2 = L0.length from by omega, List.take_left' rfl]
    omega
theorem fin_w (hR : RW N p c m) (s : Nat) : sumf wt (fin N p m s) ≤ 697 := by
  have h0 := rawR_w hR s
  unfold fin
  rcases Nat.eq_zero_or_pos (rawR N p m s).length with e | e
  · rw [List.eq_nil_of_length_eq_zero e, joinR_0]; exact Nat.zero_le _
  · obtain ⟨q, hq⟩ := hx_at e
    obtain ⟨z, hz⟩ := hx_at (show (rawR N p m s).length - 1 < (rawR N p m s).length by omega)
    by_cases hc : clo m s = true ∧ q.1 = 0 ∧ z.1 + z.2.1 = sW N p m s
    · by_cases hl : (rawR N p m s).length = 1
      · rw [joinR_1 hq hz hc hl]
        have := sumf_ge (f := wt) hq
        have e1 : sumf wt [((q.1, q.2.1, 1, q.2.2.2) : Run)] = wt q := by rw [sumf_c]; rfl
        rw [e1]; omega
      · rw [joinR_2 hq hz hc hl]
        have e1 := mid_sp hq hz hl
        rw [sumf_c]
        have e2 : wt ((z.1, q.2.1 + z.2.1, 0, z.2.2.2 ++ q.2.2.2) : Run) + 1 = wt z + wt q := by
          unfold wt
          show 2 * (z.2.2.2 ++ q.2.2.2).length + 1 + 1 = _
          rw [List.length_append]; omega
        omega
    · rw [joinR_n hq hz hc]; exact h0
theorem jnP_len (s n k1 k2 : Nat) : (jnP m s n k1 k2).length ≤ 1 := by
  unfold jnP
  by_cases q0 : crs m s n k1 k2 = 0 ∧ (0 < dtp m s n k1 k2 ∨ m 1 ≠ 1)
  · rw [if_pos q0]; exact Nat.zero_le _
  · rw [if_neg q0]
    by_cases q1 : m 1 = 1
    · rw [if_pos q1]; exact Nat.le_refl _
    · rw [if_neg q1]
      by_cases q2 : mit m s n k1 k2 = 0
      · simp only [q2, if_true, ite_true]; exact Nat.le_refl _
      · simp only [q2, if_false, ite_false]; exact Nat.le_refl _
theorem cpP_len (s n k t : Nat) (w : Int32) : (cpP m s n k t w).length ≤ 1 := by
  unfold cpP
  by_cases q1 : m 3 = 1
  · rw [if_pos q1]; exact Nat.le_refl _
  · rw [if_neg q1]
    by_cases q2 : m 3 = 2
    · rw [if_pos q2]; exact Nat.le_refl _
    · rw [if_neg q2]; exact Nat.zero_le _
theorem dtP_len (s : Nat) : (dtP m s).length ≤ 1 := by
  unfold dtP
  by_cases q1 : m 3 = 1
  · rw [if_pos q1]; exact Nat.le_refl _
  · rw [if_neg q1]
    by_cases q2 : m 3 = 2
    · rw [if_pos q2]; exact Nat.le_refl _
    · rw [if_neg q2]; exact Nat.zero_le _
theorem jj_len (s : Nat) (r : Run) (i i' : Nat) : (jj N p m s r i i').length ≤ 1 := by
  unfold jj
  by_cases q : (cz r i').1 = (cz r i).1
  · rw [if_pos q]; exact Nat.zero_le _
  · rw [if_neg q]; exact jnP_len _ _ _ _
theorem jo_len (s : Nat) (r : Run) (i : Nat) : (jo N p m s r i).length ≤ 1 := by
  unfold jo
  by_cases q : i + 1 < r.2.2.2.length
  · rw [if_pos q]; exact jj_len _ _ _ _
  · rw [if_neg q]
    by_cases q2 : r.2.2.1 = 1
    · rw [if_pos q2]; exact jj_len _ _ _ _
    · rw [if_neg q2]; exact Nat.zero_le _
theorem rp_s (s : Nat) (r : Run) (i : Nat) : rp N p m s r (i + 1) = rp N p m s r i ++ [stP m s (p s) (kk N p m s (cz r i).1) (cz r i).2.1 (cz r i).2.2] ++ jo N p m s r i := rfl
theorem rp_len (s : Nat) (r : Run) : ∀ i, (rp N p m s r i).length ≤ 2 * i := by
  intro i
  induction i with
  | zero => exact Nat.le_refl _
  | succ i ih =>
    have := jo_len (N := N) (p := p) (m := m) s r i
    rw [rp_s, List.length_append, List.length_append, List.length_singleton]; omega
theorem rp_mono (s : Nat) (r : Run) (i : Nat) : ∀ j, (rp N p m s r i).length ≤ (rp N p m s r (i + j)).length := by
  intro j
  induction j with
  | zero => exact Nat.le_refl _
  | succ j ih => rw [show i + (j + 1) = i + j + 1 from rfl, rp_s, List.length_append, List.length_append]; omega
theorem runP_len (hR : RW N p c m) {s i : Nat} {r : Run} (h : (fin N p m s)[i]? = some r) : (runP N p m s r).length ≤ wt r := by
  have hne := fin_ne hR h
  have hrl := rp_len (N := N) (p := p) (m := m) s r
  unfold runP wt
  rw [List.length_append]
  unfold rcp
  by_cases q : r.2.2.1 = 1
  · rw [if_pos q]
    have := hrl r.2.2.2.length
    show _ + 0 ≤ _
    omega
  · rw [if_neg q, List.length_append]
    obtain ⟨L, hL⟩ : ∃ L, r.2.2.2.length = L + 1 := ⟨r.2.2.2.length - 1, by omega⟩
    have e : jo N p m s r L = [] := by
      unfold jo
      rw [if_neg (by omega), if_neg q]
    have h1 := hrl L
    have h2 := cpP_len (m := m) s (p s) (kk N p m s (cz r 0).1) (cz r 0).2.1 (-1)
    have h3 := cpP_len (m := m) s (p s) (kk N p m s (cz r (r.2.2.2.length - 1)).1) (cz r (r.2.2.2.length - 1)).2.2 1
    have h4 : (rp N p m s r r.2.2.2.length).length = (rp N p m s r L).length + 1 := by
      rw [hL, rp_s, e, List.append_nil, List.length_append, List.length_singleton]
    omega
theorem fmP_s {s k : Nat} {r : Run} (h : (fin N p m s)[k]? = some r) : fmP N p m s (k + 1) = fmP N p m s k ++ runP N p m s r := by
  rw [fmP, h]
theorem fmP_len (hR : RW N p c m) (s : Nat) : ∀ k, k ≤ (fin N p m s).length → (fmP N p m s k).length ≤ 1 + sumf wt ((fin N p m s).take k) := by
  intro k
  induction k with
  | zero =>
    intro _
    rw [fmP]
    by_cases q : (sg N p m s).length = 0
    · rw [if_pos q]; have := dtP_len (m := m) s; omega
    · rw [if_neg q]; exact Nat.zero_le _
  | succ k ih =>
    intro hk
    obtain ⟨r, hr⟩ := hx_at (show k < (fin N p m s).length by omega)
    have := runP_len hR hr
    rw [fmP_s hr, List.length_append, sumf_t hr]
    have := ih (by omega)
    omega
theorem fmP_mono {s : Nat} (k : Nat) : ∀ j, k + j ≤ (fin N p m s).length → (fmP N p m s k).length ≤ (fmP N p m s (k + j)).length := by
  intro j
  induction j with
  | zero => intro _; exact Nat.le_refl _
  | succ j ih =>
    intro hj
    obtain ⟨r, hr⟩ := hx_at (show k + j < (fin N p m s).length by omega)
    rw [show k + (j + 1) = k + j + 1 from rfl, fmP_s hr, List.length_append]
    have := ih (by omega)
    omega
theorem subP_len (hR : RW N p c m) (s : Nat) : (subP N p m s).length ≤ 698 := by
  have h1 := fmP_len hR s _ (Nat.le_refl _)
  have h2 := fin_w hR s
  rw [List.take_length] at h1
  unfold subP; omega
theorem pcs_s (s : Nat) : pcs N p m (s + 1) = pcs N p m s ++ subP N p m s := rfl
theorem pcs_len (hR : RW N p c m) : ∀ s, (pcs N p m s).length ≤ 698 * s := by
  intro s
  induction s with
  | zero => exact Nat.le_refl _
  | succ s ih => have := subP_len hR s; rw [pcs_s, List.length_append]; omega
/-- a place among the pieces -/
theorem pl_run (hR : RW N p c m) {s i : Nat} {r : Run} (hs : s < 4) (h : (fin N p m s)[i]? = some r) : (pcs N p m s ++ fmP N p m s i).length + (runP N p m s r).length ≤ 2792 := by
  have h1 := pcs_len hR s
  have h2 := subP_len hR s
  have hi := hx_lt h
  have h3 := fmP_mono (N := N) (p := p) (m := m) (s := s) (i + 1) ((fin N p m s).length - (i + 1)) (by omega)
  rw [show i + 1 + ((fin N p m s).length - (i + 1)) = (fin N p m s).length from by omega, fmP_s h, List.length_append] at h3
  unfold subP at h2
  rw [List.length_append]; omega
end CNT
