/-! ===== the class's walk along a subpath: what it has told when it stands at a distance ===== -/
theorem cut_stop {A : Nat → Nat} {b e g : Nat} : ∀ k, (∀ i, i < k → A (g + i) ≤ A (g + i + 1)) → e ≤ A g → cutL A b e (g + k) = cutL A b e g := by
  intro k
  induction k with
  | zero => intro _ _; rfl
  | succ k ih =>
    intro hA he
    have h1 : ∀ k', k' ≤ k → A g ≤ A (g + k') := by
      intro k'
      induction k' with
      | zero => intro _; exact Nat.le_refl _
      | succ k' ih2 => intro hk; have := ih2 (by omega); have := hA k' (by omega); rw [show g + (k' + 1) = g + k' + 1 from rfl]; omega
    have h2 := h1 k (Nat.le_refl _)
    have h3 := hA k (by omega)
    rw [show g + (k + 1) = g + k + 1 from rfl, cutL, if_neg (by omega), ih (fun i hi => hA i (by omega)) he]
theorem cut_cong {A : Nat → Nat} {b e e' : Nat} : ∀ g, (∀ i, i < g → min e (A (i + 1)) = min e' (A (i + 1))) → cutL A b e g = cutL A b e' g := by
  intro g
  induction g with
  | zero => intro _; rfl
  | succ g ih =>
    intro h
    rw [cutL, cutL, ih (fun i hi => h i (by omega)), h g (by omega)]
/-- one stretch more of the segment g -/
theorem cut_add {A : Nat → Nat} {G b d d' g : Nat} (hA : ∀ i, i < G → A i ≤ A (i + 1)) (hg : g < G) (h1 : A g ≤ d) (h2 : d < d') (h3 : d' ≤ A (g + 1)) (hb : b ≤ d) (hat : d = A g ∨ b = d) : cutL A b d' G = cutL A b d G ++ [(g, d - A g, d' - A g)] := by
  have hm : ∀ i k, i + k ≤ G → A i ≤ A (i + k) := by
    intro i k
    induction k with
    | zero => intro _; exact Nat.le_refl _
    | succ k ih => intro hk; have := ih (by omega); have := hA (i + k) (by omega); rw [show i + (k + 1) = i + k + 1 from rfl]; omega
  have e1 : cutL A b d' G = cutL A b d' (g + 1) := by
    have := cut_stop (A := A) (b := b) (e := d') (g := g + 1) (G - (g + 1)) (fun i hi => hA _ (by omega)) h3
    rwa [show g + 1 + (G - (g + 1)) = G from by omega] at this
  have e2 : cutL A b d G = cutL A b d (g + 1) := by
    have := cut_stop (A := A) (b := b) (e := d) (g := g + 1) (G - (g + 1)) (fun i hi => hA _ (by omega)) (by omega)
    rwa [show g + 1 + (G - (g + 1)) = G from by omega] at this
  have e3 : cutL A b d' g = cutL A b d g := cut_cong g (fun i hi => by
    have h := hm (i + 1) (g - (i + 1)) (by omega)
    rw [show i + 1 + (g - (i + 1)) = g from by omega] at h
    omega)
  have e4 : cutL A b d (g + 1) = cutL A b d g := by rw [cutL, if_neg (by omega)]
  rw [e1, e2, e4, cutL, if_pos (by omega), e3, show min d' (A (g + 1)) - A g = d' - A g from by omega, show b - A g = d - A g from by omega]
def rR (m : Nat → Int32) (A : Nat → Nat) (G t W j i : Nat) : List Run := (raw m t W j i).map (fun q => (q.1, q.2, 0, cutL A q.1 (q.1 + q.2) G))
theorem rR_on {m : Nat → Int32} {A : Nat → Nat} {G t W j i : Nat} (h : (j + i) % 2 = 0) : rR m A G t W j (i + 1) = rR m A G t W j i ++ [(bd m (j + i) - t, min W (bd m (j + i + 1) - t) - (bd m (j + i) - t), 0, cutL A (bd m (j + i) - t) (bd m (j + i) - t + (min W (bd m (j + i + 1) - t) - (bd m (j + i) - t))) G)] := by
  unfold rR
  rw [raw, if_pos h, List.map_append]; rfl
theorem rR_off {m : Nat → Int32} {A : Nat → Nat} {G t W j i : Nat} (h : ¬ (j + i) % 2 = 0) : rR m A G t W j (i + 1) = rR m A G t W j i := by
  unfold rR
  rw [raw, if_neg h]
theorem rR_len {m : Nat → Int32} {A : Nat → Nat} {G t W j i : Nat} : (rR m A G t W j i).length = (raw m t W j i).length := List.length_map ..
/-- the runs when the walk stands at the distance d in the part j + i -/
def LsF (m : Nat → Int32) (A : Nat → Nat) (G t W j i d : Nat) : List Run :=
  if (j + i) % 2 = 0 ∧ bd m (j + i) - t < d then rR m A G t W j i ++ [(bd m (j + i) - t, d - (bd m (j + i) - t), 0, cutL A (bd m (j + i) - t) d G)] else rR m A G t W j i
def RU (m : Nat → Int32) (t j i d : Nat) : Nat := if (j + i) % 2 = 0 ∧ bd m (j + i) - t < d then 1 else 0
theorem i_le {c m : Nat → Int32} (h : ST c m) {t W j i d : Nat} (hj : IN m j t) (hI : IN m (j + i) (t + d)) (hd : d ≤ W) (hW : W ≤ 144808) : i ≤ 453 := by
  rcases Nat.lt_or_ge 453 i with z | z
  · have h1 := bd_ge h (j + 1) (i - 1)
    have h2 := hj.2
    have h3 := hI.1
    rw [show j + 1 + (i - 1) = j + i from by omega] at h1
    omega
  · exact z
theorem LsF_len {c m : Nat → Int32} (h : ST c m) {A : Nat → Nat} {G t W j i d : Nat} (hj : IN m j t) (hI : IN m (j + i) (t + d)) (hd : d ≤ W) (hW : W ≤ 144808) : (LsF m A G t W j i d).length ≤ 227 := by
  have h1 := i_le h hj hI hd hW
  have h2 := raw_len m t W j i
  unfold LsF
  by_cases q : (j + i) % 2 = 0 ∧ bd m (j + i) - t < d
  · rw [if_pos q, List.length_append, rR_len]
    show _ + 1 ≤ _
    omega
  · rw [if_neg q, rR_len]; omega
theorem LsF_off {m : Nat → Int32} {A : Nat → Nat} {G t W j i d d' : Nat} (hoff : ¬ (j + i) % 2 = 0) (hd : bd m (j + i + 1) = t + d') : LsF m A G t W j (i + 1) d' = LsF m A G t W j i d ∧ LsF m A G t W j i d' = LsF m A G t W j i d := by
  have e1 : LsF m A G t W j (i + 1) d' = rR m A G t W j (i + 1) := by
    unfold LsF
    exact if_neg (fun h => by have := h.2; rw [show j + (i + 1) = j + i + 1 from rfl, hd] at this; omega)
  have e2 : ∀ x, LsF m A G t W j i x = rR m A G t W j i := fun x => by
    unfold LsF
    exact if_neg (fun h => hoff h.1)
  rw [e1, e2, e2, rR_off hoff]
  exact ⟨rfl, rfl⟩
theorem LsF_of {m : Nat → Int32} {A : Nat → Nat} {G t W j i d d' : Nat} (hoff : ¬ (j + i) % 2 = 0) : LsF m A G t W j i d' = LsF m A G t W j i d := by
  unfold LsF
  rw [if_neg (fun h => hoff h.1), if_neg (fun h => hoff h.1)]
/-- at the end of the subpath -/
theorem LsF_end {c m : Nat → Int32} (h : ST c m) {A : Nat → Nat} {G t W j i : Nat} (hj : IN m j t) (hI : IN m (j + i) (t + W)) : LsF m A G t W j i W = rR m A G t W j (nP m t W j) := by
  have hP := nP_ok h (W := W) hj
  have huniq : ∀ P, W ≤ bd m (j + P) - t → (∀ i', i' < P → bd m (j + i') - t < W) → nP m t W j = P := fun P h1 h2 => by
    rcases Nat.lt_trichotomy (nP m t W j) P with q | q | q
    · have := h2 _ q; have := hP.1; omega
    · exact q
    · have := hP.2 _ q; omega
  have hlt := hI.2
  have hle := hI.1
  have hmono : ∀ i', i' ≤ i → bd m (j + i') ≤ bd m (j + i) := fun i' hi => bd_mono h (by omega)
  by_cases q : bd m (j + i) - t < W
  · have e := huniq (i + 1) (by rw [show j + (i + 1) = j + i + 1 from rfl]; omega) (fun i' hi => by have := hmono i' (by omega); omega)
    rw [e]
    unfold LsF
    by_cases z : (j + i) % 2 = 0
    · rw [if_pos ⟨z, q⟩, rR_on z, show min W (bd m (j + i + 1) - t) = W from by omega, show bd m (j + i) - t + (W - (bd m (j + i) - t)) = W from by omega]
    · rw [if_neg (fun h => z h.1), rR_off z]
  · have e : nP m t W j = i := by
      refine huniq i (by omega) (fun i' hi => ?_)
      have h1 := bd_lt h (show j + i' < j + i by omega)
      have h2 := bd_mono h (show j + 1 ≤ j + i by omega)
      have h3 := hj.2
      omega
    rw [e]
    unfold LsF
    rw [if_neg (fun h => q h.2)]
/-! the class's rows of runs -/
def RH (B : Nat) (be le cl fs sc ss sf st : Nat → Int32) (sp i : Nat) (q : Run) : Prop :=
  be i = nI q.1 ∧ le i = nI q.2.1 ∧ cl i = nI q.2.2.1 ∧ sc i = nI q.2.2.2.length ∧ ∃ f, fs i = nI f ∧ f + q.2.2.2.length ≤ sp ∧ ∀ (k : Nat) (z : Cut), q.2.2.2[k]? = some z → ss (f + k) = nI (B + z.1) ∧ sf (f + k) = nI z.2.1 ∧ st (f + k) = nI z.2.2
abbrev BR : Type := Nat × Run
def HoW (F : List BR) (be le cl fs sc ss sf st : Nat → Int32) (sp : Nat) : Prop := ∀ (i : Nat) (q : BR), F[i]? = some q → RH q.1 be le cl fs sc ss sf st sp i q.2
def bse (B : Nat) (L : List Run) : List BR := L.map (fun r => (B, r))
theorem bse_len (B : Nat) (L : List Run) : (bse B L).length = L.length := List.length_map ..
theorem bse_ap (F : List BR) (B : Nat) (L : List Run) (r : Run) : F ++ bse B (L ++ [r]) = (F ++ bse B L) ++ [(B, r)] := by
  unfold bse; rw [List.map_append, List.append_assoc]; rfl
/-- the runs Ls behind F; the spans of the last one are the last -/
def WK (F : List BR) (B : Nat) (Ls : List Run) (be le cl fs sc ss sf st : Nat → Int32) (sp : Nat) : Prop :=
  HoW (F ++ bse B Ls) be le cl fs sc ss sf st sp ∧ ∀ L0 r, Ls = L0 ++ [r] → ∃ f, fs (F.length + L0.length) = nI f ∧ f + r.2.2.2.length = sp
theorem ap_inj {α : Type} {L L' : List α} {a b : α} (h : L ++ [a] = L' ++ [b]) : L = L' ∧ a = b := by
  have := List.append_inj' h rfl
  exact ⟨this.1, by have := this.2; simpa using this⟩
section WKS
variable {F : List BR} {B : Nat} {Ls : List Run} {be le cl fs sc ss sf st : Nat → Int32} {sp : Nat}
theorem WK.run (h : WK F B Ls be le cl fs sc ss sf st sp) (d : Nat) :
    WK F B (Ls ++ [(d, 0, 0, [])]) (upd be (F.length + Ls.length) (nI d)) (upd le (F.length + Ls.length) 0) (upd cl (F.length + Ls.length) 0) (upd fs (F.length + Ls.length) (nI sp)) (upd sc (F.length + Ls.length) 0) ss sf st sp := by
  refine ⟨fun i q hq => ?_, fun L0 r hr => ?_⟩
  · rw [bse_ap] at hq
    have hl : (F ++ bse B Ls).length = F.length + Ls.length := by rw [List.length_append, bse_len]
    rcases hx_ap hq with ⟨h1, h2⟩ | ⟨h1, rfl⟩
    · have := h.1 i q h2
      unfold RH
      rw [ud_n (by omega), ud_n (by omega), ud_n (by omega), ud_n (by omega), ud_n (by omega)]
      exact this
    · unfold RH
      rw [ud_e (by omega), ud_e (by omega), ud_e (by omega), ud_e (by omega), ud_e (by omega)]
      exact ⟨rfl, rfl, rfl, rfl, sp, rfl, Nat.le_refl _, fun k z hz => absurd hz (by simp)⟩
  · obtain ⟨rfl, rfl⟩ := ap_inj hr
    exact ⟨sp, ud_e rfl, rfl⟩
theorem WK.span {L0 : List Run} {b l : Nat} {cs : List Cut} (h : WK F B (L0 ++ [(b, l, 0, cs)]) be le cl fs sc ss sf st sp) (hs2 : sp < 2000) (g fr to : Nat) :
    WK F B (L0 ++ [(b, l + (to - fr), 0, cs ++ [(g, fr, to)])]) be (upd le (F.length + L0.length) (nI (l + (to - fr)))) cl fs (upd sc (F.length + L0.length) (nI (cs.length + 1))) (upd ss sp (nI (B + g))) (upd sf sp (nI fr)) (upd st sp (nI to)) (sp + 1) := by
  obtain ⟨h1, h2⟩ := h
  obtain ⟨f, hf, hsp⟩ := h2 L0 _ rfl
  have hsp : f + cs.length = sp := hsp
  have hl : (F ++ bse B L0).length = F.length + L0.length := by rw [List.length_append, bse_len]
  refine ⟨fun i q hq => ?_, fun L1 r hr => ?_⟩
  · rw [bse_ap] at hq
    rcases hx_ap hq with ⟨q1, q2⟩ | ⟨q1, rfl⟩
    · have hr := h1 i q (by rw [bse_ap, List.getElem?_append_left q1]; exact q2)
      obtain ⟨r1, r2, r3, r4, f', r5, r6, r7⟩ := hr
      refine ⟨r1, by rw [ud_n (by omega)]; exact r2, r3, by rw [ud_n (by omega)]; exact r4, f', r5, by omega, fun k z hz => ?_⟩
      have hk := hx_lt hz
      rw [ud_n (by omega), ud_n (by omega), ud_n (by omega)]
      exact r7 k z hz
    · have hr := h1 i (B, (b, l, 0, cs)) (by rw [bse_ap, q1, List.getElem?_append_right (Nat.le_refl _), Nat.sub_self]; rfl)
      obtain ⟨r1, r2, r3, r4, f', r5, r6, r7⟩ := hr
      refine ⟨r1, ud_e (by omega), r3, ?_, f, by rw [q1, hl]; exact hf, ?_, fun k z hz => ?_⟩
      · show upd sc _ _ i = nI (cs ++ [(g, fr, to)]).length
        rw [ud_e (by omega), List.length_append]; rfl
      · show f + (cs ++ [(g, fr, to)]).length ≤ sp + 1
        rw [List.length_append]; show f + (cs.length + 1) ≤ _; omega
      · have eff : f' = f := by
          have e1 : fs i = nI f := by rw [q1, hl]; exact hf
          have r6 : f' + cs.length ≤ sp := r6
          exact (nI_eq (by omega) (by omega)).mp (r5.symm.trans e1)
        rcases hx_ap hz with ⟨z1, z2⟩ | ⟨z1, rfl⟩
        · rw [ud_n (by omega), ud_n (by omega), ud_n (by omega), ← eff]
          exact r7 k z z2
        · rw [ud_e (by omega), ud_e (by omega), ud_e (by omega)]
          exact ⟨rfl, rfl, rfl⟩
  · obtain ⟨rfl, rfl⟩ := ap_inj hr
    refine ⟨f, hf, ?_⟩
    show f + (cs ++ [(g, fr, to)]).length = sp + 1
    rw [List.length_append]; show f + (cs.length + 1) = _; omega
end WKS
