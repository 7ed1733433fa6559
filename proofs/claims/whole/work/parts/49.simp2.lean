/-! simplify: the first point that may go, and its going -/
def fst1 (m : Nat → Int32) (s n : Nat) : Nat := fa_first (fun k => decide (2 ≤ n ∧ idl m (m (15 + 18 * s) = 1) s n k = 1)) n
theorem idl_01 (m : Nat → Int32) (o : Prop) [Decidable o] (s n k : Nat) : idl m o s n k = 0 ∨ idl m o s n k = 1 := by
  unfold idl
  generalize (if k = 0 then n - 1 else k - 1) = a
  generalize (if k = n - 1 then 0 else k + 1) = b
  by_cases h1 : k = 0 ∧ ¬ o
  · rw [if_pos h1]; exact Or.inl rfl
  · rw [if_neg h1]
    by_cases h2 : m (16 + 18 * s + 2 * a) = m (16 + 18 * s + 2 * k) ∧ m (17 + 18 * s + 2 * a) = m (17 + 18 * s + 2 * k)
    · rw [if_pos h2]; exact Or.inr rfl
    · rw [if_neg h2]
      by_cases h3 : k = n - 1 ∧ ¬ o
      · rw [if_pos h3]; exact Or.inl rfl
      · rw [if_neg h3]; exact mid_01 _ _ _ _ _
theorem fst_no {m : Nat → Int32} {s n k : Nat} (h : k < fst1 m s n) (h2 : 2 ≤ n) : idl m (m (15 + 18 * s) = 1) s n k = 0 := by
  have e := fa_first_no _ n k h
  rcases idl_01 m (m (15 + 18 * s) = 1) s n k with q | q
  · exact q
  · exact absurd (decide_eq_true (p := 2 ≤ n ∧ idl m (m (15 + 18 * s) = 1) s n k = 1) ⟨h2, q⟩) (by rw [e]; decide)
theorem fst_yes {m : Nat → Int32} {s n : Nat} (h : fst1 m s n < n) : 2 ≤ n ∧ idl m (m (15 + 18 * s) = 1) s n (fst1 m s n) = 1 := of_decide_eq_true (fa_first_yes (fun k => decide (2 ≤ n ∧ idl m (m (15 + 18 * s) = 1) s n k = 1)) n h)
theorem fst_one {m : Nat → Int32} {s n : Nat} (h : n < 2) : ¬ fst1 m s n < n := fun q => by have := (fst_yes q).1; omega
theorem first_c {w : Nat} (hw : 1000 ≤ w) {c m : Nat → Int32} {N s n : Nat} (h13 : c 13 = nI N) (hN : N ≤ 4) (hs : s < N) (g : SP s n c m) : F_X1_firstIdlePoint w c (nI s) = some (if fst1 m s n < n then nI (fst1 m s n) else -1) := by
  have h8 := g.2.1
  unfold F_X1_firstIdlePoint F_X1_firstIdlePoint_j2
  have idle1 : n < 2 → ∀ k, k < n → F_X1_isIdle c (nI s) (nI k) = some 0 := fun hn k hk => by
    unfold F_X1_isIdle F_X1_isIdle_j27
    rw [X1_pts h13 hs hN, obd_s, g.pc, X1_clo h13 hs hN, obd_s, if_pos (show nI n < 2 from nI_lt (b := 2) hn (by omega))]
  by_cases q : fst1 m s n < n
  · have key : lpq (F_X1_firstIdlePoint_b2 c (nI s)) w (nI 0) = some (.inl (nI (fst1 m s n))) := by
      refine lpq_run (fst1 m s n) (fun i => nI i) (fun i hi => ?_) ?_ (by omega)
      · unfold F_X1_firstIdlePoint_b2
        rw [X1_pts h13 hs hN, obd_s, g.pc, if_neg (nI_ge (by omega) (by omega)), idle_c h13 hN hs g (fst_yes q).1 (by omega), obd_s, fst_no hi (fst_yes q).1, if_pos rfl, lt_eq, zl_1, nI_add]
      · unfold F_X1_firstIdlePoint_b2
        rw [X1_pts h13 hs hN, obd_s, g.pc, if_neg (nI_ge q (by omega)), idle_c h13 hN hs g (fst_yes q).1 q, obd_s, (fst_yes q).2, if_neg (by decide)]
    rw [show (0 : Int32) = nI 0 from rfl, key, obd_s, if_pos q]
    rfl
  · have key : lpq (F_X1_firstIdlePoint_b2 c (nI s)) w (nI 0) = some (.inr ()) := by
      refine lpq_run n (fun i => nI i) (fun i hi => ?_) ?_ (by omega)
      · unfold F_X1_firstIdlePoint_b2
        have e0 : F_X1_isIdle c (nI s) (nI i) = some 0 := by
          by_cases h2 : n < 2
          · exact idle1 h2 i hi
          · rw [idle_c h13 hN hs g (by omega) hi, fst_no (by omega) (by omega)]
        rw [X1_pts h13 hs hN, obd_s, g.pc, if_neg (nI_ge hi (by omega)), e0, obd_s, if_pos rfl, lt_eq, zl_1, nI_add]
      · unfold F_X1_firstIdlePoint_b2
        rw [X1_pts h13 hs hN, obd_s, g.pc, if_pos (nI_le (Nat.le_refl _) (by omega))]
    rw [show (0 : Int32) = nI 0 from rfl, key, obd_s, if_neg q]
    rfl
theorem first_m {w : Nat} (hw : 1000 ≤ w) {m : Nat → Int32} {s n : Nat} (hs : s < 4) (hp : m (14 + 18 * s) = nI n) (h1 : 1 ≤ n) (h8 : n ≤ 8) : F_X12_firstIdle w m (nI s) = some (if fst1 m s n < n then nI (fst1 m s n) else -1) := by
  unfold F_X12_firstIdle F_X12_firstIdle_j2
  by_cases q : fst1 m s n < n
  · have h2 := (fst_yes q).1
    have key : lpq (F_X12_firstIdle_b2 m (nI s)) w (nI 0) = some (.inl (nI (fst1 m s n))) := by
      refine lpq_run (fst1 m s n) (fun i => nI i) (fun i hi => ?_) ?_ (by omega)
      · unfold F_X12_firstIdle_b2
        rw [m_pts hs, obd_s, hp, obd_s, if_neg (nI_ge (by omega) (by omega)), if_neg (show ¬ nI n ≤ 1 from nI_ge (a := 1) (by omega) (by omega)), idle_m hs hp h2 h8 (by omega), obd_s, fst_no hi h2, if_pos rfl, lt_eq, zl_1, nI_add]
      · unfold F_X12_firstIdle_b2
        rw [m_pts hs, obd_s, hp, obd_s, if_neg (nI_ge q (by omega)), if_neg (show ¬ nI n ≤ 1 from nI_ge (a := 1) (by omega) (by omega)), idle_m hs hp h2 h8 q, obd_s, (fst_yes q).2, if_neg (by decide)]
    rw [show (0 : Int32) = nI 0 from rfl, key, obd_s, if_pos q]
    rfl
  · by_cases h2 : n < 2
    · have key : lpq (F_X12_firstIdle_b2 m (nI s)) w (nI 0) = some (.inr ()) := by
        refine lpq_run 0 (fun i => nI i) (fun i hi => absurd hi (by omega)) ?_ (by omega)
        unfold F_X12_firstIdle_b2
        rw [m_pts hs, obd_s, hp, obd_s, if_neg (nI_ge (by omega) (by omega)), if_pos (show nI n ≤ 1 from nI_le (b := 1) (by omega) (by omega))]
      rw [show (0 : Int32) = nI 0 from rfl, key, obd_s, if_neg q]
      rfl
    · have key : lpq (F_X12_firstIdle_b2 m (nI s)) w (nI 0) = some (.inr ()) := by
        refine lpq_run n (fun i => nI i) (fun i hi => ?_) ?_ (by omega)
        · unfold F_X12_firstIdle_b2
          rw [m_pts hs, obd_s, hp, obd_s, if_neg (nI_ge hi (by omega)), if_neg (show ¬ nI n ≤ 1 from nI_ge (a := 1) (by omega) (by omega)), idle_m hs hp (by omega) h8 hi, obd_s, fst_no (by omega) (by omega), if_pos rfl, lt_eq, zl_1, nI_add]
        · unfold F_X12_firstIdle_b2
          rw [m_pts hs, obd_s, hp, if_pos (nI_le (Nat.le_refl _) (by omega))]
      rw [show (0 : Int32) = nI 0 from rfl, key, obd_s, if_neg q]
      rfl
/-- the row with the points from k on moved down, i of them so far -/
def dwn (c : Nat → Int32) (s k i : Nat) : Nat → Int32 := fun j => if 16 + 18 * s + 2 * k ≤ j ∧ j < 16 + 18 * s + 2 * (k + i) then c (j + 2) else c j
theorem dwn_in {c : Nat → Int32} {s k i j : Nat} (h1 : 16 + 18 * s + 2 * k ≤ j) (h2 : j < 16 + 18 * s + 2 * (k + i)) : dwn c s k i j = c (j + 2) := if_pos ⟨h1, h2⟩
theorem dwn_out {c : Nat → Int32} {s k i j : Nat} (h : j < 16 + 18 * s + 2 * k ∨ 16 + 18 * s + 2 * (k + i) ≤ j) : dwn c s k i j = c j := if_neg (by omega)
theorem dwn_0 (c : Nat → Int32) (s k : Nat) : dwn c s k 0 = c := funext fun j => dwn_out (by omega)
theorem dwn_s (c : Nat → Int32) (s k i : Nat) : upd (upd (dwn c s k i) (16 + 18 * s + 2 * (k + i)) (c (16 + 18 * s + 2 * (k + i + 1)))) (17 + 18 * s + 2 * (k + i)) (c (17 + 18 * s + 2 * (k + i + 1))) = dwn c s k (i + 1) := by
  funext j
  by_cases q1 : j = 17 + 18 * s + 2 * (k + i)
  · rw [q1, ud_e rfl, dwn_in (by omega) (by omega)]; exact congrArg c (by omega)
  · rw [ud_n q1]
    by_cases q2 : j = 16 + 18 * s + 2 * (k + i)
    · rw [q2, ud_e rfl, dwn_in (by omega) (by omega)]; exact congrArg c (by omega)
    · rw [ud_n q2]
      by_cases q3 : 16 + 18 * s + 2 * k ≤ j ∧ j < 16 + 18 * s + 2 * (k + i)
      · rw [dwn_in q3.1 q3.2, dwn_in q3.1 (by omega)]
      · rw [dwn_out (by omega), dwn_out (by omega)]
theorem dpt_c {w : Nat} (hw : 1000 ≤ w) {c : Nat → Int32} {N s n k : Nat} (h13 : c 13 = nI N) (hN : N ≤ 4) (hs : s < N) (hp : c (14 + 18 * s) = nI n) (h2 : 1 ≤ n) (h8 : n ≤ 8) (hk : k < n) : F_X1_dropPoint w c (nI s) (nI k) = some (upd (dwn c s k (n - 1 - k)) (14 + 18 * s) (nI (n - 1))) := by
  unfold F_X1_dropPoint F_X1_dropPoint_j9
  rw [X1_pts h13 hs hN, obd_s, hp]
  have key : lpq (F_X1_dropPoint_b9 (nI s) (nI n)) w (nI (k + 0), dwn c s k 0) = some (dwn c s k (n - 1 - k)) := by
    refine lpq_run (n - 1 - k) (fun i => (nI (k + i), dwn c s k i)) (fun i hi => ?_) ?_ (by omega)
    · unfold F_X1_dropPoint_b9
      simp only [zl_1, nI_add, lt_eq]
      rw [if_neg (show ¬ nI n - nI 1 ≤ nI (k + i) from by rw [pk_sub h2]; exact nI_ge (by omega) (by omega)), X1_x (by omega) (by omega), obd_s, X1_y (by omega) (by omega), obd_s, X1_pp (by omega) (by omega), obd_s, dwn_out (by omega), dwn_out (by omega), dwn_s]
      rfl
    · unfold F_X1_dropPoint_b9
      exact if_pos (show nI n - 1 ≤ nI (k + (n - 1 - k)) from by rw [zl_1, pk_sub h2]; exact nI_le (by omega) (by omega))
  rw [dwn_0, Nat.add_zero] at key
  rw [key, obd_s]
  unfold F_X1_dropPoint_j48
  rw [lt_eq, co_1, zl_0, nI_add, Nat.add_zero, zl_1, pk_sub h2, p1_in (by omega), obd_s]
theorem dpt_m {w : Nat} (hw : 1000 ≤ w) {m : Nat → Int32} {s n k : Nat} (hs : s < 4) (hp : m (14 + 18 * s) = nI n) (h8 : n ≤ 7) (hk : k ≤ n) : lpq (F_X12_simplify_b55 (nI s)) w (nI k, m) = some (dwn m s k (n - k)) := by
  have key : lpq (F_X12_simplify_b55 (nI s)) w (nI (k + 0), dwn m s k 0) = some (dwn m s k (n - k)) := by
    refine lpq_run (n - k) (fun i => (nI (k + i), dwn m s k i)) (fun i hi => ?_) ?_ (by omega)
    · unfold F_X12_simplify_b55
      simp only [zl_1, nI_add, lt_eq]
      rw [m_pts hs, obd_s, dwn_out (by omega), hp, if_neg (nI_ge (by omega) (by omega)), m_x hs (by omega), obd_s, m_y hs (by omega), obd_s, m_pp hs (by omega), obd_s, dwn_out (by omega), dwn_out (by omega), dwn_s]
      rfl
    · unfold F_X12_simplify_b55
      show obd (F_X12_points (dwn m s k (n - k)) (nI s)) _ = _
      rw [m_pts hs, obd_s, dwn_out (by omega), hp]
      exact if_pos (nI_le (by omega) (by omega))
  rw [dwn_0, Nat.add_zero] at key
  exact key
theorem RW_dpt {N s k : Nat} {p : Nat → Nat} {c m c' m' : Nat → Int32} (h : RW N p c m) (hs : s < N) (hk : k < p s) (h2 : 2 ≤ p s)
    (c1 : c' (14 + 18 * s) = nI (p s - 1)) (c2 : ∀ j, j ≠ 14 + 18 * s → c' j = dwn c s k (p s - 1 - k) j)
    (m1 : m' (14 + 18 * s) = nI (p s - 1)) (m2 : ∀ j, j ≠ 14 + 18 * s → m' j = dwn m s k (p s - 1 - k) j) :
    RW N (fun t => if t = s then p s - 1 else p t) c' m' := by
  have g := h.sp hs
  have g8 := g.2.1
  have h4 := h.1
  have co : ∀ j, j ≠ 14 + 18 * s → (j < 16 + 18 * s ∨ 14 + 18 * s + 18 ≤ j) → c' j = c j := fun j q1 q2 => by rw [c2 j q1, dwn_out (by omega)]
  have mo : ∀ j, j ≠ 14 + 18 * s → (j < 16 + 18 * s ∨ 14 + 18 * s + 18 ≤ j) → m' j = m j := fun j q1 q2 => by rw [m2 j q1, dwn_out (by omega)]
  refine ⟨h.1, by rw [co _ (by omega) (by omega)]; exact h.c13, by rw [mo _ (by omega) (by omega)]; exact h.m13, h.st.fr (fun i hi => co _ (by omega) (by omega)) (fun i hi => mo _ (by omega) (by omega)), fun t ht => ?_⟩
  by_cases q : t = s
  · subst q
    show SP t (if t = t then p t - 1 else p t) c' m'
    rw [if_pos rfl]
    refine ⟨by omega, by omega, c1, m1, by rw [co _ (by omega) (by omega), mo _ (by omega) (by omega)]; exact g.cl, by rw [mo _ (by omega) (by omega)]; exact g.bo, fun z hz => ?_⟩
    rw [c2 _ (by omega), c2 _ (by omega), m2 _ (by omega), m2 _ (by omega)]
    by_cases q2 : z < k
    · rw [dwn_out (by omega), dwn_out (by omega), dwn_out (by omega), dwn_out (by omega)]
      exact g.xy (by omega)
    · rw [dwn_in (by omega) (by omega), dwn_in (by omega) (by omega), dwn_in (by omega) (by omega), dwn_in (by omega) (by omega)]
      exact g.xy (k := z + 1) (by omega)
  · show SP t (if t = s then p s - 1 else p t) c' m'
    rw [if_neg q]
    exact (h.sp ht).fr (fun i h1 h2 => co _ (by omega) (by omega)) (fun i h1 h2 => mo _ (by omega) (by omega))
theorem lpq_st {S X : Type} {body : S → Option (Sum S X)} {s s' : S} {n : Nat} {r : Option X} (h : body s = some (.inl s')) (h2 : lpq body n s' = r) : lpq body (n + 1) s = r := by
  show obd (body s) _ = r
  rw [h]; exact h2
theorem lpq_en {S X : Type} {body : S → Option (Sum S X)} {s : S} {n : Nat} {x : X} (h : body s = some (.inr x)) : lpq body (n + 1) s = some x := by
  show obd (body s) _ = _
  rw [h]; rfl
theorem simp_both {w : Nat} (hw : 1000 ≤ w) {N s : Nat} (hs : s < N) : ∀ (q i f : Nat) (p : Nat → Nat) (c m : Nat → Int32), RW N p c m → p s = q → i + q ≤ 8 → q < f →
    ∃ (r : Nat) (U V : Nat → Int32) (p' : Nat → Nat), (lpq (F_X1_dropIdlePoints_b2 w (nI s)) f (nI i, c) = some (.inl (nI r, U))) ∧
      (∃ k, F_X12_firstIdle w m (nI s) = some k ∧ lpq (F_X12_simplify_b34 w (nI s)) f (nI i, k, m) = some (nI r, V)) ∧ RW N p' U V := by
  intro q
  induction q with
  | zero => intro i f p c m hR hp; have := (hR.sp hs).1; omega
  | succ q ih =>
    intro i f p c m hR hp hi hf
    have g := hR.sp hs
    have h4 := hR.1
    obtain ⟨f, rfl⟩ : ∃ f', f = f' + 1 := ⟨f - 1, by omega⟩
    have fc := first_c hw hR.c13 h4 hs g
    have fm := first_m hw (show s < 4 by omega) g.pm g.1 g.2.1
    by_cases hq : fst1 m s (p s) < p s
    · rw [if_pos hq] at fc fm
      have h2 := (fst_yes hq).1
      have dc := dpt_c hw hR.c13 h4 hs g.pc g.1 g.2.1 hq
      obtain ⟨U, eU⟩ : ∃ U, U = upd (dwn c s (fst1 m s (p s)) (p s - 1 - fst1 m s (p s))) (14 + 18 * s) (nI (p s - 1)) := ⟨_, rfl⟩
      rw [← eU] at dc
      have dm := dpt_m hw (m := upd m (14 + 18 * s) (nI (p s - 1))) (show s < 4 by omega) (ud_e rfl) (show p s - 1 ≤ 7 by have := g.2.1; omega) (show fst1 m s (p s) ≤ p s - 1 by omega)
      obtain ⟨V, eV⟩ : ∃ V, V = dwn (upd m (14 + 18 * s) (nI (p s - 1))) s (fst1 m s (p s)) (p s - 1 - fst1 m s (p s)) := ⟨_, rfl⟩
      rw [← eV] at dm
      have hR' : RW N (fun t => if t = s then p s - 1 else p t) U V := by
        refine RW_dpt hR hs hq h2 (by rw [eU, ud_e rfl]) (fun j hj => by rw [eU, ud_n hj]) (by rw [eV, dwn_out (by omega), ud_e rfl]) (fun j hj => ?_)
        rw [eV]
        by_cases z : 16 + 18 * s + 2 * fst1 m s (p s) ≤ j ∧ j < 16 + 18 * s + 2 * (fst1 m s (p s) + (p s - 1 - fst1 m s (p s)))
        · rw [dwn_in z.1 z.2, dwn_in z.1 z.2, ud_n (by omega)]
        · rw [dwn_out (by omega), dwn_out (by omega), ud_n hj]
      obtain ⟨r, U', V', p', e1, ⟨k2, e2, e3⟩, e4⟩ := ih (i + 1) f _ U V hR' (by rw [if_pos rfl]; omega) (by omega) (by omega)
      refine ⟨r, U', V', p', ?_, ⟨_, fm, ?_⟩, e4⟩
      · refine lpq_st ?_ e1
        unfold F_X1_dropIdlePoints_b2
        show (if 8 ≤ nI i then _ else obd (F_X1_firstIdlePoint w c (nI s)) _) = _
        rw [if_neg (show ¬ (8 : Int32) ≤ nI i from nI_ge (b := 8) (by omega) (by omega)), fc, obd_s, if_neg (show ¬ nI (fst1 m s (p s)) = -1 from fun h => by
          have := congrArg Int32.toInt h
          rw [nI_toInt (by have := g.2.1; omega), show (-1 : Int32).toInt = -1 from by decide] at this; omega)]
        show obd (F_X1_dropPoint w c (nI s) (nI (fst1 m s (p s)))) _ = _
        rw [dc, obd_s, lt_eq]
        show some (Sum.inl (nI i + 1, U)) = _
        rw [zl_1, nI_add]
      · refine lpq_st ?_ e3
        unfold F_X12_simplify_b34 F_X12_simplify_j55 F_X12_simplify_j96
        show (if nI (fst1 m s (p s)) = -1 then _ else _) = _
        rw [if_neg (show ¬ nI (fst1 m s (p s)) = -1 from fun h => by
          have := congrArg Int32.toInt h
          rw [nI_toInt (by have := g.2.1; omega), show (-1 : Int32).toInt = -1 from by decide] at this; omega), lt_eq, at_12, gd_in (by omega) (by decide), nI_clamp (by omega), lt_eq, gd_in (by omega) (by decide), lt_eq]
        show obd (lpq (F_X12_simplify_b55 (nI s)) w (nI (fst1 m s (p s)), upd m (14 + 18 * s) (m (14 + 18 * s) - 1))) _ = _
        rw [show m (14 + 18 * s) - 1 = nI (p s - 1) from by rw [g.pm, zl_1, pk_sub g.1], dm, obd_s, lt_eq, e2, obd_s]
        show some (Sum.inl (nI i + 1, k2, V)) = _
        rw [zl_1, nI_add]
    · rw [if_neg hq] at fc fm
      refine ⟨i, c, m, p, lpq_en ?_, ⟨_, fm, lpq_en ?_⟩, hR⟩
      · unfold F_X1_dropIdlePoints_b2
        show (if 8 ≤ nI i then _ else obd (F_X1_firstIdlePoint w c (nI s)) _) = _
        rw [if_neg (show ¬ (8 : Int32) ≤ nI i from nI_ge (b := 8) (by omega) (by omega)), fc, obd_s, if_pos rfl]
      · unfold F_X12_simplify_b34
        exact if_pos rfl
set_option maxHeartbeats 1000000 in
theorem ag_simplify {CA : Nat → (Nat → Nat) → (Nat → Int32) → SC → Prop} (hz : CAz CA) : Ag_simplify (Inv CA) := by
  unfold Ag_simplify
  intro d0 d1 d2 d3 d4 d5 d6 d7 d8 d9 d10 d11 d12 d13 d14 d15 d16 d17 d18 d19 d20 d21 d22 d23 d24 d25 d26 d27 d28 d29 d30 d31 d32 d33 d34 d35 d36 d37 d38 d39 d40 d41 d42 d43 d44 d45 d46 d47 d48 d49 d50 m0 m1 m2 m3 m4 m5 m6 m7 m8 m9 m10 m11 m12 m13 m14 m15 m16 m17 m18 m19 m20 m21 m22 m23 m24 m25 m26 m27 m28 m29 m30 p1 hI
  obtain ⟨N, p, hR, hH, hT, hC⟩ := Inv_un hI
  have hN4 := hR.1
  have c13 := hR.c13
  have m13 := hR.m13
  by_cases h1 : 0 ≤ p1 ∧ p1 < nI N
  · obtain ⟨s, hs, rfl⟩ := ix_of (by omega) h1
    have g := hR.sp hs
    obtain ⟨y, a', b', s1, s2, s3⟩ := save_both (n := 1000) (by omega) hR hH
    obtain ⟨r, U, V, p', e1, ⟨k, e2, e3⟩, e4⟩ := simp_both (w := 1000) (by omega) hs (p s) 0 1000 p d0 m14 hR rfl (by have := g.2.1; omega) (by have := g.2.1; omega)
    refine Or.inl ⟨1000, 1000, (nI r, U, y, a', 0), (nI r, y, 0, V, b'), ?_, ?_, rfl, rfl, Inv_mk e4 s3 hT (hz _ _ _ _)⟩
    · unfold F_X11_simplify F_X1_dropIdlePoints F_X1_dropIdlePoints_j2
      rw [X1_count, obd_s, c13, ci_in hs (by omega), obx_l, s1, obd_s, show (0 : Int32) = nI 0 from rfl, e1, obd_s]
      rfl
    · unfold F_X12_simplify F_X12_simplify_j14 F_X12_simplify_j34 F_X12_simplify_j108
      rw [is_in m13 hs hN4, obd_s, if_neg (by decide), rf_0, lt_eq, if_pos rfl, s2, obd_s, e2, obd_s, show (0 : Int32) = nI 0 from rfl, e3, obd_s]
  · refine Or.inr ⟨0, 0, (3, d0, d2, d3, d12), (0, m0, 1, m14, m15), ?_, rfl, ?_, rfl, Inv_mk hR hH hT hC⟩
    · unfold F_X11_simplify; rw [X1_count, obd_s, c13, ci_out h1, obx_r]
    · unfold F_X12_simplify F_X12_simplify_j14
      rw [is_out m13 hN4 h1, obd_s, if_pos rfl, rf_1, lt_eq, if_neg (by decide)]
