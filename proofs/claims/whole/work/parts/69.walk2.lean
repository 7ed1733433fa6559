/-! ===== the class's walk along a subpath ===== -/
theorem arun_c {L sp d : Nat} {be le cl fs sc : Nat → Int32} (hL : L < 928) : F_X8_addRun (nI L) (nI sp) be le cl fs sc (nI d) = some (nI (L + 1), upd be L (nI d), upd le L 0, upd cl L 0, upd fs L (nI sp), upd sc L 0) := by
  unfold F_X8_addRun
  rw [if_neg (nI_pos (by omega)), if_neg (show ¬ (928 : Int32) ≤ nI L from nI_ge (b := 928) hL (by decide))]
  simp only [lt_eq, gd_in hL (show 928 < 2 ^ 31 by decide), nI_clamp (show L < 2 ^ 31 by omega), zl_1, nI_add]
theorem aspan_c {L sp l len x fr to : Nat} {le sc ss sf st : Nat → Int32} (hL : L < 928) (hsp : sp < 1024) (h1 : le L = nI l) (h2 : sc L = nI len) (hf : fr ≤ to) :
    F_X8_addSpan (nI (L + 1)) (nI sp) le sc ss sf st (nI x) (nI fr) (nI to) = some (nI (sp + 1), upd le L (nI (l + (to - fr))), upd sc L (nI (len + 1)), upd ss sp (nI x), upd sf sp (nI fr), upd st sp (nI to)) := by
  unfold F_X8_addSpan
  rw [nI_pred, lt_eq, if_neg (nI_pos (by omega)), if_neg (show ¬ (928 : Int32) ≤ nI L from nI_ge (b := 928) hL (by decide)), if_neg (nI_pos (by omega)), if_neg (show ¬ (1024 : Int32) ≤ nI sp from nI_ge (b := 1024) hsp (by decide))]
  simp only [lt_eq, gd_in hL (show 928 < 2 ^ 31 by decide), gd_in hsp (show 1024 < 2 ^ 31 by decide), nI_clamp (show L < 2 ^ 31 by omega), nI_clamp (show sp < 2 ^ 31 by omega), h1, h2, pk_sub hf, zl_1, nI_add]
/-- the segments of a subpath, as lengths alone -/
def SEG (A : Nat → Nat) (G W : Nat) : Prop := A 0 = 0 ∧ (∀ i, i < G → A i < A (i + 1)) ∧ A G = W ∧ W ≤ 144808 ∧ G ≤ 8
theorem SEG.mono {A : Nat → Nat} {G W : Nat} (h : SEG A G W) {i : Nat} : ∀ k, i + k ≤ G → A i ≤ A (i + k) := by
  intro k
  induction k with
  | zero => intro _; exact Nat.le_refl _
  | succ k ih => intro hk; have := ih (by omega); have := h.2.1 (i + k) (by omega); rw [show i + (k + 1) = i + k + 1 from rfl]; omega
theorem SEG.le {A : Nat → Nat} {G W : Nat} (h : SEG A G W) {i : Nat} (hi : i ≤ G) : A i ≤ W := by
  have := h.mono (i := i) (G - i) (by omega)
  rw [show i + (G - i) = G from by omega, h.2.2.1] at this; exact this
section WALK
variable {c m : Nat → Int32} {A : Nat → Nat} {G t W j : Nat} {F : List BR} {B S0 : Nat}
def WI (m : Nat → Int32) (A : Nat → Nat) (G t W j : Nat) (F : List BR) (B S0 g at' : Nat) (x : Int32 × Int32 × Int32 × Int32 × (Nat → Int32) × (Nat → Int32) × (Nat → Int32) × (Nat → Int32) × (Nat → Int32) × (Nat → Int32) × (Nat → Int32) × (Nat → Int32) × Int32 × Int32) : Prop :=
  ∃ i be le cl fs sc ss sf st sp, IN m (j + i) (t + (A g + at')) ∧ (at' = 0 ∨ at' = A (g + 1) - A g ∨ A g + at' = bd m (j + i) - t) ∧
    x = (nI (RU m t j i (A g + at')), nI at', nI (F.length + (LsF m A G t W j i (A g + at')).length), nI sp, be, le, cl, fs, sc, ss, sf, st, nI (j + i), nI (bd m (j + i + 1) - (t + (A g + at')))) ∧
    WK F B (LsF m A G t W j i (A g + at')) be le cl fs sc ss sf st sp ∧ sp ≤ S0 + (LsF m A G t W j i (A g + at')).length + (if at' = 0 then g - 1 else g)
theorem tail_c (h : ST c m) {d39 d40 : Int32} {d43 : Nat → Int32} (hC : CL m d39 d40 d43) (hS : SEG A G W) (ht : t ≤ 700000) {g at' i s r7 sp : Nat} (hg : g < G) (hat : at' < A (g + 1) - A g) (hI : IN m (j + i) (t + (A g + at')))
    (hs : s = min (bd m (j + i + 1) - (t + (A g + at'))) (A (g + 1) - A g - at')) {Ln : List Run} (h1 : LsF m A G t W j i (A g + (at' + s)) = Ln ∧ RU m t j i (A g + (at' + s)) = r7)
    (h2 : bd m (j + i + 1) = t + (A g + (at' + s)) → LsF m A G t W j (i + 1) (A g + (at' + s)) = Ln ∧ RU m t j (i + 1) (A g + (at' + s)) = 0)
    {be le cl fs sc ss sf st : Nat → Int32} (hW : WK F B Ln be le cl fs sc ss sf st sp) (hsp : sp ≤ S0 + Ln.length + g) :
    ∃ x', F_X8_walkSubpath_j102 (nI (F.length + Ln.length)) (nI sp) be le cl fs sc ss sf st d39 (nI (j + i)) (nI (bd m (j + i + 1) - (t + (A g + at')))) d43 (nI r7) (nI s) (nI at') = some (.inl x') ∧ WI m A G t W j F B S0 g (at' + s) x' := by
  have hW2 := hS.le (i := g + 1) (by omega)
  have hI1 := hI.1
  have hI2 := hI.2
  have hs1 : 1 ≤ s := by omega
  have hle : t + (A g + at') + s ≤ bd m (j + i + 1) := by omega
  have hWW := hS.2.2.2.1
  unfold F_X8_walkSubpath_j102 F_X8_walkSubpath_j116
  rw [pass_c h hC hI (by omega) hs1 hle]
  by_cases q : t + (A g + at') + s = bd m (j + i + 1)
  · obtain ⟨e1, e2⟩ := h2 (by omega)
    have h3 := bd_lt h (show j + i + 1 < j + i + 1 + 1 by omega)
    rw [if_pos q, obd_s, if_neg (show ¬ (1 : Int32) = 0 from by decide), lt_eq, nI_add]
    refine ⟨_, rfl, i + 1, be, le, cl, fs, sc, ss, sf, st, sp, ?_, Or.inr (Or.inr ?_), ?_, by rw [e1]; exact hW, ?_⟩
    · rw [show j + (i + 1) = j + i + 1 from rfl]; exact ⟨by omega, by omega⟩
    · rw [show j + (i + 1) = j + i + 1 from rfl]; omega
    · rw [e1, e2, show j + (i + 1) = j + i + 1 from rfl, show bd m (j + i + 1 + 1) - (t + (A g + (at' + s))) = dl m (j + i + 1) from by rw [bd_s]; omega]; rfl
    · rw [e1, if_neg (by omega)]; exact hsp
  · obtain ⟨e1, e2⟩ := h1
    rw [if_neg q, obd_s, if_pos rfl, lt_eq, nI_add]
    refine ⟨_, rfl, i, be, le, cl, fs, sc, ss, sf, st, sp, ⟨by omega, by omega⟩, Or.inr (Or.inl ?_), ?_, by rw [e1]; exact hW, ?_⟩
    · omega
    · rw [e1, e2, show t + (A g + at') + s = t + (A g + (at' + s)) from by omega]
    · rw [e1, if_neg (by omega)]; exact hsp
set_option maxHeartbeats 1000000 in
theorem stp_c (h : ST c m) {d39 d40 : Int32} {d43 : Nat → Int32} (hC : CL m d39 d40 d43) (hS : SEG A G W) (hj : IN m j t) (ht : t ≤ 700000) (hF : F.length ≤ 690) (hS0 : S0 ≤ 768) {g at' : Nat} (hg : g < G) (hat : at' < A (g + 1) - A g)
    {x : Int32 × Int32 × Int32 × Int32 × (Nat → Int32) × (Nat → Int32) × (Nat → Int32) × (Nat → Int32) × (Nat → Int32) × (Nat → Int32) × (Nat → Int32) × (Nat → Int32) × Int32 × Int32} (hx : WI m A G t W j F B S0 g at' x) :
    ∃ at2 x', at' < at2 ∧ at2 ≤ A (g + 1) - A g ∧ F_X8_walkSubpath_b36 d39 d43 (nI (A g)) (nI (B + g)) (nI (A (g + 1) - A g)) x = some (.inl x') ∧ WI m A G t W j F B S0 g at2 x' := by
  obtain ⟨i, be, le, cl, fs, sc, ss, sf, st, sp, hI, hcase, rfl, hW, hsp⟩ := hx
  have hW2 := hS.le (i := g + 1) (by omega)
  have hWW := hS.2.2.2.1
  have hG8 := hS.2.2.2.2
  have hI1 := hI.1
  have hI2 := hI.2
  have hL := LsF_len h (A := A) (G := G) hj hI (by omega) hWW
  have hi := i_le h hj hI (by omega) hWW
  have hjb := IN_j h hj
  have hdl := dl_le h (j + i)
  have hbs := bd_s (m := m) (j + i)
  obtain ⟨s, hs⟩ : ∃ s, s = min (bd m (j + i + 1) - (t + (A g + at'))) (A (g + 1) - A g - at') := ⟨_, rfl⟩
  have hsp2 : sp ≤ S0 + (LsF m A G t W j i (A g + at')).length + g := by
    by_cases q : at' = 0
    · rw [if_pos q] at hsp; omega
    · rw [if_neg q] at hsp; exact hsp
  have hon : F_X0_isOn (nI (j + i)) = if (j + i) % 2 = 0 then 1 else 0 := by
    unfold F_X0_isOn
    have e : nI (j + i) &&& 1 = nI ((j + i) % 2) := fa_mask (j + i) 1
    rw [e]
    have := Nat.mod_lt (j + i) (show 0 < 2 by decide)
    by_cases q : (j + i) % 2 = 0
    · rw [q, if_pos (show nI 0 = 0 from rfl), if_pos rfl]
    · rw [if_neg (nI_ne0 (by omega) (by omega)), if_neg q]
  have hbody : F_X8_walkSubpath_b36 d39 d43 (nI (A g)) (nI (B + g)) (nI (A (g + 1) - A g)) (nI (RU m t j i (A g + at')), nI at', nI (F.length + (LsF m A G t W j i (A g + at')).length), nI sp, be, le, cl, fs, sc, ss, sf, st, nI (j + i), nI (bd m (j + i + 1) - (t + (A g + at')))) =
      if (j + i) % 2 = 0 then (if RU m t j i (A g + at') = 0 then obd (F_X8_addRun (nI (F.length + (LsF m A G t W j i (A g + at')).length)) (nI sp) be le cl fs sc (nI (A g + at'))) (fun u => F_X8_walkSubpath_j87 u.1 (nI sp) u.2.1 u.2.2.1 u.2.2.2.1 u.2.2.2.2.1 u.2.2.2.2.2 ss sf st d39 (nI (j + i)) (nI (bd m (j + i + 1) - (t + (A g + at')))) d43 (nI (B + g)) (nI s) (nI at'))
        else F_X8_walkSubpath_j87 (nI (F.length + (LsF m A G t W j i (A g + at')).length)) (nI sp) be le cl fs sc ss sf st d39 (nI (j + i)) (nI (bd m (j + i + 1) - (t + (A g + at')))) d43 (nI (B + g)) (nI s) (nI at'))
      else F_X8_walkSubpath_j102 (nI (F.length + (LsF m A G t W j i (A g + at')).length)) (nI sp) be le cl fs sc ss sf st d39 (nI (j + i)) (nI (bd m (j + i + 1) - (t + (A g + at')))) d43 (nI (RU m t j i (A g + at'))) (nI s) (nI at') := by
    have hr2 : RU m t j i (A g + at') ≤ 1 := by
      unfold RU
      by_cases q : (j + i) % 2 = 0 ∧ bd m (j + i) - t < A g + at'
      · rw [if_pos q]; omega
      · rw [if_neg q]; omega
    have hst : lt (nI (A (g + 1) - A g) - nI at') (fun y_9 => lt (if y_9 < nI (bd m (j + i + 1) - (t + (A g + at'))) then y_9 else nI (bd m (j + i + 1) - (t + (A g + at')))) (fun y_10 => (if 1 < y_10 then y_10 else (1 : Int32)))) = nI s := by
      rw [pk_sub (by omega), lt_eq, lt_eq]
      by_cases q : A (g + 1) - A g - at' < bd m (j + i + 1) - (t + (A g + at'))
      · rw [if_pos (nI_lt q (by omega)), show A (g + 1) - A g - at' = s from by omega]
        by_cases z : 1 < s
        · rw [if_pos (show (1 : Int32) < nI s from nI_lt (a := 1) z (by omega))]
        · rw [if_neg (show ¬ (1 : Int32) < nI s from nI_nlt (a := 1) (by omega) (by decide)), show s = 1 from by omega]; rfl
      · rw [if_neg (nI_nlt (by omega) (by omega)), show bd m (j + i + 1) - (t + (A g + at')) = s from by omega]
        by_cases z : 1 < s
        · rw [if_pos (show (1 : Int32) < nI s from nI_lt (a := 1) z (by omega))]
        · rw [if_neg (show ¬ (1 : Int32) < nI s from nI_nlt (a := 1) (by omega) (by decide)), show s = 1 from by omega]; rfl
    unfold F_X8_walkSubpath_b36 F_X0_ahead
    show (if nI (A (g + 1) - A g) ≤ nI at' then _ else _) = _
    rw [if_neg (nI_ge hat (by omega))]
    simp only [lt_eq] at hst ⊢
    rw [hst, hon, nI_add]
    by_cases q : (j + i) % 2 = 0
    · rw [if_pos q, if_pos q, if_neg (by decide)]
      by_cases z : RU m t j i (A g + at') = 0
      · rw [z, if_pos (show nI 0 = 0 from rfl), if_pos rfl]
      · rw [if_neg (nI_ne0 (by omega) (by omega)), if_neg z]
    · rw [if_neg q, if_neg q, if_pos rfl]
  have hA' : ∀ k, k < G → A k ≤ A (k + 1) := fun k hk => Nat.le_of_lt (hS.2.1 k hk)
  refine ⟨at' + s, ?_⟩
  rw [hbody]
  by_cases q : (j + i) % 2 = 0
  · have hb : bd m (j + i) - t ≤ A g + at' := by omega
    have hcut : cutL A (bd m (j + i) - t) (A g + (at' + s)) G = cutL A (bd m (j + i) - t) (A g + at') G ++ [(g, at', at' + s)] := by
      rw [cut_add (d := A g + at') hA' hg (by omega) (by omega) (by omega) hb (by omega), show A g + at' - A g = at' from by omega, show A g + (at' + s) - A g = at' + s from by omega]
    have n1 : LsF m A G t W j i (A g + (at' + s)) = rR m A G t W j i ++ [(bd m (j + i) - t, A g + (at' + s) - (bd m (j + i) - t), 0, cutL A (bd m (j + i) - t) (A g + (at' + s)) G)] := by
      unfold LsF; exact if_pos ⟨q, by omega⟩
    have n2 : RU m t j i (A g + (at' + s)) = 1 := by unfold RU; exact if_pos ⟨q, by omega⟩
    have n3 : bd m (j + i + 1) = t + (A g + (at' + s)) → LsF m A G t W j (i + 1) (A g + (at' + s)) = rR m A G t W j i ++ [(bd m (j + i) - t, A g + (at' + s) - (bd m (j + i) - t), 0, cutL A (bd m (j + i) - t) (A g + (at' + s)) G)] ∧ RU m t j (i + 1) (A g + (at' + s)) = 0 := fun e => by
      refine ⟨?_, ?_⟩
      · unfold LsF
        rw [if_neg (fun h => by have := h.1; omega), rR_on q, e, show min W (t + (A g + (at' + s)) - t) = A g + (at' + s) from by omega, show bd m (j + i) - t + (A g + (at' + s) - (bd m (j + i) - t)) = A g + (at' + s) from by omega]
      · unfold RU
        exact if_neg (fun h => by have := h.1; omega)
    -- the span, once a run stands at the end
    have fin' : ∀ be le cl fs sc sp, sp = sp → WK F B (rR m A G t W j i ++ [(bd m (j + i) - t, A g + at' - (bd m (j + i) - t), 0, cutL A (bd m (j + i) - t) (A g + at') G)]) be le cl fs sc ss sf st sp → sp + 1 ≤ S0 + ((rR m A G t W j i).length + 1) + g → (rR m A G t W j i).length + 1 ≤ 228 →
        ∃ x', at' < at' + s ∧ at' + s ≤ A (g + 1) - A g ∧ F_X8_walkSubpath_j87 (nI (F.length + (rR m A G t W j i).length + 1)) (nI sp) be le cl fs sc ss sf st d39 (nI (j + i)) (nI (bd m (j + i + 1) - (t + (A g + at')))) d43 (nI (B + g)) (nI s) (nI at') = some (.inl x') ∧ WI m A G t W j F B S0 g (at' + s) x' := by
      intro be le cl fs sc sp _ hW hs2 hl2
      have hlast := hW.1 (F.length + (rR m A G t W j i).length) (B, (bd m (j + i) - t, A g + at' - (bd m (j + i) - t), 0, cutL A (bd m (j + i) - t) (A g + at') G)) (by
        rw [bse_ap, List.getElem?_append_right (by rw [List.length_append, bse_len]; omega), List.length_append, bse_len, Nat.sub_self]; rfl)
      have hsn := hW.span (by omega) g at' (at' + s)
      rw [← hcut, show A g + at' - (bd m (j + i) - t) + (at' + s - at') = A g + (at' + s) - (bd m (j + i) - t) from by omega] at hsn
      have e87 : F_X8_walkSubpath_j87 (nI (F.length + (rR m A G t W j i).length + 1)) (nI sp) be le cl fs sc ss sf st d39 (nI (j + i)) (nI (bd m (j + i + 1) - (t + (A g + at')))) d43 (nI (B + g)) (nI s) (nI at') =
          F_X8_walkSubpath_j102 (nI (F.length + (rR m A G t W j i).length + 1)) (nI (sp + 1)) be (upd le (F.length + (rR m A G t W j i).length) (nI (A g + (at' + s) - (bd m (j + i) - t)))) cl fs (upd sc (F.length + (rR m A G t W j i).length) (nI ((cutL A (bd m (j + i) - t) (A g + at') G).length + 1))) (upd ss sp (nI (B + g))) (upd sf sp (nI at')) (upd st sp (nI (at' + s))) d39 (nI (j + i)) (nI (bd m (j + i + 1) - (t + (A g + at')))) d43 1 (nI s) (nI at') := by
        unfold F_X8_walkSubpath_j87
        rw [nI_add, aspan_c (by omega) (by omega) hlast.2.1 hlast.2.2.2.1 (by omega), obd_s]
        show F_X8_walkSubpath_j102 _ _ _ (upd le _ (nI (A g + at' - (bd m (j + i) - t) + (at' + s - at')))) _ _ _ _ _ _ _ _ _ _ _ _ _ = _
        rw [show A g + at' - (bd m (j + i) - t) + (at' + s - at') = A g + (at' + s) - (bd m (j + i) - t) from by omega]
      rw [e87]
      obtain ⟨x', k1, k2⟩ := tail_c (S0 := S0) h hC hS ht hg hat hI hs ⟨n1, n2⟩ n3 hsn (by rw [List.length_append]; exact hs2)
      refine ⟨x', by omega, by omega, ?_, k2⟩
      rw [List.length_append] at k1
      exact k1
    rw [if_pos q]
    by_cases z : bd m (j + i) - t < A g + at'
    · have r1 : RU m t j i (A g + at') = 1 := by unfold RU; exact if_pos ⟨q, z⟩
      have l1 : LsF m A G t W j i (A g + at') = rR m A G t W j i ++ [(bd m (j + i) - t, A g + at' - (bd m (j + i) - t), 0, cutL A (bd m (j + i) - t) (A g + at') G)] := by unfold LsF; exact if_pos ⟨q, z⟩
      have hat0 : at' = 0 := by omega
      have hg0 : 0 < g := by
        rcases Nat.eq_zero_or_pos g with y | y
        · rw [y, hS.1] at z; omega
        · exact y
      have hl1 : (LsF m A G t W j i (A g + at')).length = (rR m A G t W j i).length + 1 := by rw [l1, List.length_append]; rfl
      rw [hl1, if_pos hat0] at hsp
      rw [hl1] at hL
      rw [r1, if_neg (by omega), hl1]
      rw [l1] at hW
      exact fin' be le cl fs sc sp rfl hW (by omega) (by omega)
    · have r0 : RU m t j i (A g + at') = 0 := by unfold RU; exact if_neg (fun h => z h.2)
      have l0 : LsF m A G t W j i (A g + at') = rR m A G t W j i := by unfold LsF; exact if_neg (fun h => z h.2)
      have hbd : bd m (j + i) - t = A g + at' := by omega
      rw [r0, if_pos rfl, l0, arun_c (by rw [← l0]; omega), obd_s]
      rw [l0] at hW hsp2 hL
      have hr := hW.run (A g + at')
      have e : (A g + at', 0, 0, ([] : List Cut)) = (bd m (j + i) - t, A g + at' - (bd m (j + i) - t), 0, cutL A (bd m (j + i) - t) (A g + at') G) := by
        rw [hbd, Nat.sub_self, cut_n (Nat.le_refl _)]
      rw [e] at hr
      exact fin' _ _ _ _ _ sp rfl hr (by omega) (by omega)
  · have r0 : RU m t j i (A g + at') = 0 := by unfold RU; exact if_neg (fun h => q h.1)
    have r2 : RU m t j i (A g + (at' + s)) = 0 := by unfold RU; exact if_neg (fun h => q h.1)
    rw [if_neg q, r0]
    obtain ⟨x', k1, k2⟩ := tail_c (S0 := S0) h hC hS ht hg hat hI hs (r7 := 0) (Ln := LsF m A G t W j i (A g + at')) ⟨LsF_of q, r2⟩ (fun e => ⟨(LsF_off (d := A g + at') q e).1, by
      unfold RU
      exact if_neg (fun h => by have := h.2; rw [show j + (i + 1) = j + i + 1 from rfl, e] at this; omega)⟩) hW hsp2
    exact ⟨x', by omega, by omega, k1, k2⟩
end WALK
