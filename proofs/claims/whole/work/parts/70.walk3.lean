/-! ===== the class's walk along a subpath, whole ===== -/
theorem SEG_of {N : Nat} {p : Nat → Nat} {c m : Nat → Int32} (hR : RW N p c m) (s : Nat) : SEG (sA N p m s) (sg N p m s).length (sW N p m s) := by
  refine ⟨sA_0 s, fun i hi => ?_, rfl, sW_le hR s, sg_len hR s⟩
  obtain ⟨k, hk⟩ := hx_at hi
  have := sgl_ge (sg_at hk).2
  rw [sA_s hk]; omega
section WALK3
variable {c m : Nat → Int32} {A : Nat → Nat} {G t W j : Nat} {F : List BR} {B S0 : Nat}
theorem inn_c (h : ST c m) {d39 d40 : Int32} {d43 : Nat → Int32} (hC : CL m d39 d40 d43) (hS : SEG A G W) (hj : IN m j t) (ht : t ≤ 700000) (hF : F.length ≤ 690) (hS0 : S0 ≤ 768) {n g : Nat} (hn : 200000 ≤ n) (hg : g < G)
    {x : Int32 × Int32 × Int32 × Int32 × (Nat → Int32) × (Nat → Int32) × (Nat → Int32) × (Nat → Int32) × (Nat → Int32) × (Nat → Int32) × (Nat → Int32) × (Nat → Int32) × Int32 × Int32} (hx : WI m A G t W j F B S0 g 0 x) :
    ∃ y, lpq (F_X8_walkSubpath_b36 d39 d43 (nI (A g)) (nI (B + g)) (nI (A (g + 1) - A g))) n x = some (y.1, y.2.2) ∧ WI m A G t W j F B S0 g (A (g + 1) - A g) y := by
  have hW2 := hS.le (i := g + 1) (by omega)
  have hWW := hS.2.2.2.1
  have key : ∃ w, lpq (F_X8_walkSubpath_b36 d39 d43 (nI (A g)) (nI (B + g)) (nI (A (g + 1) - A g))) n x = some w ∧ ∃ y : Int32 × Int32 × Int32 × Int32 × (Nat → Int32) × (Nat → Int32) × (Nat → Int32) × (Nat → Int32) × (Nat → Int32) × (Nat → Int32) × (Nat → Int32) × (Nat → Int32) × Int32 × Int32, w = (y.1, y.2.2) ∧ WI m A G t W j F B S0 g (A (g + 1) - A g) y := by
    refine lpq_i0 (fun k x => ∃ at', k ≤ at' ∧ at' ≤ A (g + 1) - A g ∧ WI m A G t W j F B S0 g at' x) _ (A (g + 1) - A g) ?_ (by omega) ⟨0, Nat.le_refl _, Nat.zero_le _, hx⟩
    rintro k x hk ⟨at', h1, h2, h3⟩
    by_cases q : at' = A (g + 1) - A g
    · left
      subst q
      refine ⟨_, ?_, x, rfl, h3⟩
      obtain ⟨i, be, le, cl, fs, sc, ss, sf, st, sp, _, _, rfl, _⟩ := h3
      unfold F_X8_walkSubpath_b36
      exact if_pos (nI_le (Nat.le_refl _) (by omega))
    · right
      obtain ⟨at2, x', k1, k2, k3, k4⟩ := stp_c h hC hS hj ht hF hS0 hg (show at' < A (g + 1) - A g by omega) h3
      exact ⟨by omega, x', k3, at2, by omega, k2, k4⟩
  obtain ⟨w, e, y, rfl, hy⟩ := key
  exact ⟨y, e, hy⟩
theorem WI_next (hS : SEG A G W) {g : Nat} (hg : g < G) {y : Int32 × Int32 × Int32 × Int32 × (Nat → Int32) × (Nat → Int32) × (Nat → Int32) × (Nat → Int32) × (Nat → Int32) × (Nat → Int32) × (Nat → Int32) × (Nat → Int32) × Int32 × Int32} (h : WI m A G t W j F B S0 g (A (g + 1) - A g) y) : WI m A G t W j F B S0 (g + 1) 0 (y.1, 0, y.2.2) := by
  have h1 := hS.2.1 g hg
  obtain ⟨i, be, le, cl, fs, sc, ss, sf, st, sp, hI, _, rfl, hW, hsp⟩ := h
  have e : A g + (A (g + 1) - A g) = A (g + 1) + 0 := by omega
  rw [e] at hI hW hsp
  rw [if_neg (by omega)] at hsp
  refine ⟨i, be, le, cl, fs, sc, ss, sf, st, sp, hI, Or.inl rfl, ?_, hW, ?_⟩
  · rw [e]; rfl
  · rw [if_pos rfl]; exact hsp
end WALK3
set_option maxHeartbeats 1000000 in
theorem ws_c {n : Nat} (hn : 200000 ≤ n) {N : Nat} {p : Nat → Nat} {c m : Nat → Int32} (hR : RW N p c m) {d17 : Int32} {d18 d19 d20 d21 d22 d23 d24 d25 d26 d27 : Nat → Int32} (hM : MS N p m d17 d18 d19 d20 d21 d22 d23 d24 d25 d26 d27)
    {d39 d40 : Int32} {d43 : Nat → Int32} (hC : CL m d39 d40 d43) {s j t S0 : Nat} (hs : s < 4) (hj : IN m j t) (ht : t ≤ 700000) {F : List BR} (hF : F.length ≤ 690) (hS0 : S0 ≤ 768) {be le cl fs sc ss sf st : Nat → Int32} (hW : HoW F be le cl fs sc ss sf st S0) :
    ∃ i be' le' cl' fs' sc' ss' sf' st' sp', F_X8_walkSubpath n (nI F.length) (nI S0) be le cl fs sc ss sf st d39 (nI j) (nI (bd m (j + 1) - t)) d43 d18 d23 (nI s) =
      some (nI (F.length + (rR m (sA N p m s) (sg N p m s).length t (sW N p m s) j (nP m t (sW N p m s) j)).length), nI sp', be', le', cl', fs', sc', ss', sf', st', nI (j + i), nI (bd m (j + i + 1) - (t + sW N p m s))) ∧
      IN m (j + i) (t + sW N p m s) ∧ WK F (SF N p m s) (rR m (sA N p m s) (sg N p m s).length t (sW N p m s) j (nP m t (sW N p m s) j)) be' le' cl' fs' sc' ss' sf' st' sp' ∧
      sp' ≤ S0 + (rR m (sA N p m s) (sg N p m s).length t (sW N p m s) j (nP m t (sW N p m s) j)).length + 7 := by
  have hS := SEG_of hR s
  have h := hR.st
  have h8 := sg_len hR s
  have hSF := SF_32 hR (s := s + 1) (by omega)
  rw [SF_s] at hSF
  have hWW := hS.2.2.2.1
  have key : ∃ w, lpq (F_X8_walkSubpath_b12 n d39 d43 d18 d23 (nI s)) n (0, 0, nI (SF N p m s), nI F.length, nI S0, be, le, cl, fs, sc, ss, sf, st, nI j, nI (bd m (j + 1) - t)) = some w ∧
      ∃ y : Int32 × Int32 × Int32 × Int32 × (Nat → Int32) × (Nat → Int32) × (Nat → Int32) × (Nat → Int32) × (Nat → Int32) × (Nat → Int32) × (Nat → Int32) × (Nat → Int32) × Int32 × Int32, w = y.2.2 ∧ WI m (sA N p m s) (sg N p m s).length t (sW N p m s) j F (SF N p m s) S0 (sg N p m s).length 0 y := by
    refine lpq_i0 (fun g z => ∃ y : Int32 × Int32 × Int32 × Int32 × (Nat → Int32) × (Nat → Int32) × (Nat → Int32) × (Nat → Int32) × (Nat → Int32) × (Nat → Int32) × (Nat → Int32) × (Nat → Int32) × Int32 × Int32, z = (y.1, nI (sA N p m s g), nI (SF N p m s + g), y.2.2) ∧ WI m (sA N p m s) (sg N p m s).length t (sW N p m s) j F (SF N p m s) S0 g 0 y) _ (sg N p m s).length ?_ (by omega) ?_
    · rintro g z hg ⟨y, rfl, hy⟩
      by_cases q : g = (sg N p m s).length
      · left
        subst q
        refine ⟨_, ?_, y, rfl, hy⟩
        unfold F_X8_walkSubpath_b12
        rw [hM.eo hs, obd_s, SF_s]
        exact if_pos (nI_le (Nat.le_refl _) (by omega))
      · right
        have hg' : g < (sg N p m s).length := by omega
        obtain ⟨k, hk⟩ := hx_at hg'
        have hsz : sA N p m s (g + 1) - sA N p m s g = sgl m s (p s) k := by rw [sA_s hk]; omega
        obtain ⟨y2, k1, k2⟩ := inn_c h hC hS hj ht hF hS0 hn hg' hy
        refine ⟨hg', ?_⟩
        have hy0 : y.2.1 = 0 := by
          obtain ⟨i, be, le, cl, fs, sc, ss, sf, st, sp, _, _, rfl, _⟩ := hy
          rfl
        have e0 : (y.1, (0 : Int32), y.2.2) = y := by rw [← hy0]
        unfold F_X8_walkSubpath_b12
        rw [hM.eo hs, obd_s, SF_s]
        show ∃ s', (if nI (SF N p m s + (sg N p m s).length) ≤ nI (SF N p m s + g) then _ else obd (F_X9_size d23 (nI (SF N p m s + g))) _) = _ ∧ _
        rw [if_neg (nI_ge (by omega) (by omega)), hM.sz hR hs hk, obd_s, ← hsz]
        unfold F_X8_walkSubpath_j36
        show ∃ s', obd (lpq _ n (y.1, (0 : Int32), y.2.2)) _ = _ ∧ _
        rw [e0, k1, obd_s]
        unfold F_X8_walkSubpath_j126
        have hlt := hS.2.1 g hg'
        refine ⟨_, ?_, (y2.1, 0, y2.2.2), rfl, WI_next hS hg' k2⟩
        simp only [lt_eq, zl_1, nI_add]
        rw [show sA N p m s g + (sA N p m s (g + 1) - sA N p m s g) = sA N p m s (g + 1) from by omega]
        rfl
    · refine ⟨(0, 0, nI F.length, nI S0, be, le, cl, fs, sc, ss, sf, st, nI j, nI (bd m (j + 1) - t)), ?_, ?_⟩
      · rw [sA_0]; rfl
      · have e1 : LsF m (sA N p m s) (sg N p m s).length t (sW N p m s) j 0 0 = [] := by unfold LsF; rw [if_neg (by omega)]; rfl
        have e2 : RU m t j 0 0 = 0 := by unfold RU; rw [if_neg (by omega)]
        refine ⟨0, be, le, cl, fs, sc, ss, sf, st, S0, ?_, Or.inl rfl, ?_, ?_, ?_⟩
        · rw [sA_0]; exact hj
        · rw [sA_0, Nat.add_zero, e1, e2]; rfl
        · rw [sA_0, Nat.add_zero, e1]
          refine ⟨by show HoW (F ++ []) _ _ _ _ _ _ _ _ _; rw [List.append_nil]; exact hW, fun L0 r hr => absurd hr (by simp)⟩
        · omega
  obtain ⟨w, e, y, rfl, i, be', le', cl', fs', sc', ss', sf', st', sp', hI, _, rfl, hK, hsp⟩ := key
  have eW : sA N p m s (sg N p m s).length + 0 = sW N p m s := rfl
  rw [eW] at hI hK hsp e
  rw [if_pos rfl] at hsp
  have eL := LsF_end h (A := sA N p m s) (G := (sg N p m s).length) hj hI
  rw [eL] at hK hsp e
  refine ⟨i, be', le', cl', fs', sc', ss', sf', st', sp', ?_, hI, hK, by omega⟩
  unfold F_X8_walkSubpath F_X8_walkSubpath_j12
  rw [hM.fo (by omega), obd_s, e, obd_s]
/-! the two ends of a closed subpath -/
def csum (l : List Cut) : Nat := (l.map (fun z => z.2.2 - z.2.1)).sum
theorem csum_ap (l : List Cut) (z : Cut) : csum (l ++ [z]) = csum l + (z.2.2 - z.2.1) := by
  unfold csum; rw [List.map_append, List.sum_append]; simp
theorem csum_cut {A : Nat → Nat} {b e : Nat} (hbe : b ≤ e) (h0 : A 0 = 0) : ∀ g, (∀ i, i < g → A i ≤ A (i + 1)) → csum (cutL A b e g) = min e (A g) - b := by
  intro g
  induction g with
  | zero => intro _; rw [h0]; show 0 = _; omega
  | succ g ih =>
    intro hA
    have h1 := hA g (by omega)
    have h2 := ih (fun i hi => hA i (by omega))
    rw [cutL]
    by_cases q : b - A g < min e (A (g + 1)) - A g
    · rw [if_pos q, csum_ap, h2]
      show min e (A g) - b + (min e (A (g + 1)) - A g - (b - A g)) = _
      omega
    · rw [if_neg q, h2]; omega
theorem take_s {α : Type} {l : List α} {k : Nat} {a : α} (h : l[k]? = some a) : l.take (k + 1) = l.take k ++ [a] := by
  rw [List.take_add_one, h]; rfl
theorem last_sp {α : Type} {L : List α} (h : 0 < L.length) : ∃ L0 z, L = L0 ++ [z] ∧ L0.length = L.length - 1 := by
  refine ⟨L.dropLast, L.getLast (List.ne_nil_of_length_pos h), (List.dropLast_concat_getLast _).symm, List.length_dropLast⟩
/-- copying the spans of the first run behind those of the last -/
theorem copy_c {n : Nat} (hn : 1000 ≤ n) {F : List BR} {B : Nat} {L0 : List Run} {b l sp f : Nat} {cs qs : List Cut} {q : Run} {be le cl fs sc ss sf st : Nat → Int32} (hW : WK F B (L0 ++ [(b, l, 0, cs)]) be le cl fs sc ss sf st sp)
    (hq : L0[0]? = some q) (hqs : q.2.2.2 = qs) (hqo : ∀ (k : Nat) (u : Cut), qs[k]? = some u → u.2.1 ≤ u.2.2) (hf : fs F.length = nI f) (hfl : f + qs.length ≤ sp) (hl : qs.length ≤ 8) (hsp : sp ≤ 1010) (hF : F.length + L0.length + 1 ≤ 928) :
    ∃ le' sc' ss' sf' st', lpq (F_X8_joinEnds_b98 (nI (F.length + L0.length + 1)) (nI (f + qs.length))) n (nI f, nI sp, le, sc, ss, sf, st) = some (nI (sp + qs.length), le', sc', ss', sf', st') ∧
      WK F B (L0 ++ [(b, l + csum qs, 0, cs ++ qs)]) be le' cl fs sc' ss' sf' st' (sp + qs.length) := by
  have key : ∃ w, lpq (F_X8_joinEnds_b98 (nI (F.length + L0.length + 1)) (nI (f + qs.length))) n (nI (f + 0), nI (sp + 0), le, sc, ss, sf, st) = some w ∧ ∃ le' sc' ss' sf' st', w = (nI (sp + qs.length), le', sc', ss', sf', st') ∧ WK F B (L0 ++ [(b, l + csum qs, 0, cs ++ qs)]) be le' cl fs sc' ss' sf' st' (sp + qs.length) := by
    refine lpq_i0 (fun k x => ∃ le' sc' ss' sf' st', x = (nI (f + k), nI (sp + k), le', sc', ss', sf', st') ∧ WK F B (L0 ++ [(b, l + csum (qs.take k), 0, cs ++ qs.take k)]) be le' cl fs sc' ss' sf' st' (sp + k)) _ qs.length ?_ (by omega) ⟨le, sc, ss, sf, st, rfl, by rw [List.take_zero, List.append_nil]; exact hW⟩
    rintro k x hk ⟨le', sc', ss', sf', st', rfl, hK⟩
    by_cases z : k = qs.length
    · left
      subst z
      rw [List.take_length] at hK
      refine ⟨_, ?_, le', sc', ss', sf', st', rfl, hK⟩
      unfold F_X8_joinEnds_b98
      exact if_pos (nI_le (Nat.le_refl _) (by omega))
    · right
      obtain ⟨u, hu⟩ := hx_at (show k < qs.length by omega)
      have hL0 := hx_lt hq
      have h1 := hK.1 F.length (B, q) (by
        rw [bse_ap, List.getElem?_append_left (by rw [List.length_append, bse_len]; omega), List.getElem?_append_right (Nat.le_refl _), Nat.sub_self]
        unfold bse; rw [List.getElem?_map, hq]; rfl)
      obtain ⟨r1, r2, r3, r4, f', r5, r6, r7⟩ := h1
      have hff : f' = f := (nI_eq (by have : q.2.2.2.length = qs.length := by rw [hqs]
                                      omega) (by omega)).mp (r5.symm.trans hf)
      subst hff
      have ru := r7 k u (by show q.2.2.2[k]? = _; rw [hqs]; exact hu)
      have hlast := hK.1 (F.length + L0.length) (B, (b, l + csum (qs.take k), 0, cs ++ qs.take k)) (by
        rw [bse_ap, List.getElem?_append_right (by rw [List.length_append, bse_len]; omega), List.length_append, bse_len, Nat.sub_self]; rfl)
      have hsn := hK.span (by omega) u.1 u.2.1 u.2.2
      have hft := hqo k u hu
      have e1 : cs ++ qs.take k ++ [(u.1, u.2.1, u.2.2)] = cs ++ qs.take (k + 1) := by rw [take_s hu, List.append_assoc]
      have e2 : l + csum (qs.take k) + (u.2.2 - u.2.1) = l + csum (qs.take (k + 1)) := by rw [take_s hu, csum_ap]; omega
      rw [e1, e2] at hsn
      refine ⟨by omega, _, ?_, _, _, _, _, _, rfl, hsn⟩
      unfold F_X8_joinEnds_b98 F_X8_segmentOf F_X8_fromOf F_X8_toOf
      show (if nI (f' + qs.length) ≤ nI (f' + k) then _ else obd (obd (F_X4_at 1024 ss' (nI (f' + k))) _) (fun u_19 => obd (obd (F_X4_at 1024 sf' (nI (f' + k))) _) (fun u_20 => obd (obd (F_X4_at 1024 st' (nI (f' + k))) _) (fun u_21 => obd (F_X8_addSpan (nI (F.length + L0.length + 1)) (nI (sp + k)) le' sc' ss' sf' st' u_19 u_20 u_21) _)))) = _
      rw [if_neg (nI_ge (by omega) (by omega)), at_in (by omega) (by decide), obd_s, obd_s, at_in (by omega) (by decide), obd_s, obd_s, at_in (by omega) (by decide), obd_s, obd_s, ru.1, ru.2.1, ru.2.2, aspan_c (by omega) (by omega) hlast.2.1 hlast.2.2.2.1 hft, obd_s]
      simp only [lt_eq, zl_1, nI_add]
      rw [e2]
      rfl
  obtain ⟨w, e, le', sc', ss', sf', st', rfl, hK⟩ := key
  exact ⟨le', sc', ss', sf', st', e, hK⟩
theorem rawR_cut {N : Nat} {p : Nat → Nat} {c m : Nat → Int32} (hR : RW N p c m) {s i : Nat} {r : Run} (h : (rawR N p m s)[i]? = some r) : r.2.2.1 = 0 ∧ r.1 < sW N p m s ∧ r.1 + r.2.1 ≤ sW N p m s ∧ r.2.2.2.length ≤ 8 ∧ csum r.2.2.2 = r.2.1 ∧ ∀ (k : Nat) (u : Cut), r.2.2.2[k]? = some u → u.2.1 ≤ u.2.2 := by
  obtain ⟨q, h1, rfl⟩ := rawR_at h
  have hq := raws_at hR h1
  have hS := SEG_of hR s
  have h8 := sg_len hR s
  have hl := cut_len (sA N p m s) q.1 (q.1 + q.2) (sg N p m s).length
  refine ⟨rfl, hq.1, hq.2.2, by show (cutL _ _ _ _).length ≤ 8; omega, ?_, fun k u hu => Nat.le_of_lt (cut_at hu).2.2.2⟩
  show csum (cutL _ _ _ _) = q.2
  have e : sA N p m s (sg N p m s).length = sW N p m s := rfl
  rw [csum_cut (by omega) hS.1 _ (fun i hi => Nat.le_of_lt (hS.2.1 i hi)), e]
  have := hq.2.2
  omega
set_option maxHeartbeats 1000000 in
theorem join_c {n : Nat} (hn : 1000 ≤ n) {N : Nat} {p : Nat → Nat} {c m : Nat → Int32} (hR : RW N p c m) {s : Nat} (hs : s < 4) {F : List BR} (hF : F.length ≤ 690) {be le cl fs sc ss sf st : Nat → Int32} {sp : Nat} (hsp : sp ≤ 1010) {d30 : Nat → Int32} (h30 : d30 s = nI F.length)
    (hK : WK F (SF N p m s) (rawR N p m s) be le cl fs sc ss sf st sp) :
    ∃ be' le' cl' fs' sc' ss' sf' st' sp', F_X8_joinEnds n (nI (F.length + (rawR N p m s).length)) (nI sp) d30 be le cl fs sc ss sf st (nI s) (nI (sW N p m s)) =
      some (nI (F.length + (joinR true (sW N p m s) (rawR N p m s)).length), nI sp', be', le', cl', fs', sc', ss', sf', st') ∧
      HoW (F ++ bse (SF N p m s) (joinR true (sW N p m s) (rawR N p m s))) be' le' cl' fs' sc' ss' sf' st' sp' ∧ sp ≤ sp' ∧ sp' ≤ sp + 8 := by
  have hWW := sW_le hR s
  have hlen : (rawR N p m s).length ≤ 227 := by rw [rawR_len]; exact raws_len hR s
  unfold F_X8_joinEnds F_X8_firstOf
  rw [at_in (by omega) (by decide), obd_s, obd_s, h30, lt_eq, if_neg (nI_pos (by omega))]
  rcases Nat.eq_zero_or_pos (rawR N p m s).length with e | e
  · have e2 : rawR N p m s = [] := List.eq_nil_of_length_eq_zero e
    rw [e2, joinR_0, if_pos (by
      rw [fa_lt, zl_1, pk_sub_toInt (by show F.length + 0 < _; omega) (by decide), nI_toInt (by omega)]
      show ((F.length + 0 : Nat) : Int) - ((1 : Nat) : Int) < _
      omega)]
    rw [e2] at hK
    exact ⟨be, le, cl, fs, sc, ss, sf, st, sp, rfl, hK.1, Nat.le_refl _, by omega⟩
  · obtain ⟨L0, z, eL, hL0⟩ := last_sp e
    obtain ⟨q, hq⟩ := hx_at e
    have hz : (rawR N p m s)[(rawR N p m s).length - 1]? = some z := by
      rw [← hL0, eL, List.getElem?_append_right (Nat.le_refl _), Nat.sub_self]; rfl
    have cq := rawR_cut hR hq
    have cz := rawR_cut hR hz
    have bq : (F ++ bse (SF N p m s) (rawR N p m s))[F.length]? = some (SF N p m s, q) := by
      rw [List.getElem?_append_right (Nat.le_refl _), Nat.sub_self]; unfold bse; rw [List.getElem?_map, hq]; rfl
    have bz : (F ++ bse (SF N p m s) (rawR N p m s))[F.length + L0.length]? = some (SF N p m s, z) := by
      rw [List.getElem?_append_right (by omega), show F.length + L0.length - F.length = (rawR N p m s).length - 1 from by omega]; unfold bse; rw [List.getElem?_map, hz]; rfl
    have rq := hK.1 _ _ bq
    have rz := hK.1 _ _ bz
    have elen : F.length + (rawR N p m s).length = F.length + L0.length + 1 := by omega
    rw [elen, nI_pred, if_neg (nI_nlt (by omega) (by omega)), if_neg (show ¬ (928 : Int32) ≤ nI (F.length + L0.length) from nI_ge (b := 928) (by omega) (by decide)), gd_in (by omega) (by decide), nI_clamp (by omega), rq.1]
    show ∃ be' le' cl' fs' sc' ss' sf' st' sp', (if nI q.1 = 0 then _ else _) = _ ∧ _
    by_cases h1 : q.1 = 0
    · rw [h1, if_pos (show nI 0 = 0 from rfl), gd_in (by omega) (by decide), gd_in (by omega) (by decide), nI_clamp (by omega), rz.1, rz.2.1, nI_add]
      show ∃ be' le' cl' fs' sc' ss' sf' st' sp', (if nI (z.1 + z.2.1) = nI (sW N p m s) then _ else _) = _ ∧ _
      by_cases h2 : z.1 + z.2.1 = sW N p m s
      · rw [h2, if_pos rfl]
        by_cases h3 : (rawR N p m s).length = 1
        · have : L0.length = 0 := by omega
          rw [this, Nat.add_zero, if_pos rfl, gd_in (by omega) (by decide), lt_eq, joinR_1 hq hz ⟨rfl, h1, h2⟩ h3]
          refine ⟨be, le, upd cl F.length 1, fs, sc, ss, sf, st, sp, rfl, fun i x hx => ?_, Nat.le_refl _, by omega⟩
          by_cases y : i < F.length
          · rw [List.getElem?_append_left y] at hx
            have := hK.1 i x (by rw [List.getElem?_append_left y]; exact hx)
            unfold RH
            rw [ud_n (by omega)]; exact this
          · have hl := hx_lt hx
            rw [List.length_append, bse_len] at hl
            have hl : i < F.length + 1 := hl
            have ei : i = F.length := by omega
            subst ei
            rw [List.getElem?_append_right (Nat.le_refl _), Nat.sub_self] at hx
            have ex := (Option.some.inj hx).symm
            subst ex
            obtain ⟨r1, r2, r3, r4, r5⟩ := rq
            exact ⟨r1, r2, ud_e rfl, r4, r5⟩
        · obtain ⟨r1, r2, r3, r4, f, r5, r6, r7⟩ := rq
          rw [if_neg (nI_ne (by omega) (by omega) (by omega)), gd_in (by omega) (by decide), r5, lt_eq, gd_in (by omega) (by decide), r4, nI_add, lt_eq]
          have hK' := hK
          rw [eL] at hK'
          have hz' : z = (z.1, z.2.1, 0, z.2.2.2) := by
            have := cz.1
            obtain ⟨z1, z2, z3, z4⟩ := z
            have : z3 = 0 := this
            rw [this]
          rw [hz'] at hK'
          have hq0 : L0[0]? = some q := by
            rw [eL, List.getElem?_append_left (by omega)] at hq; exact hq
          have r6 : f + q.2.2.2.length ≤ sp := r6
          obtain ⟨le', sc', ss', sf', st', k1, k2⟩ := copy_c hn hK' hq0 rfl cq.2.2.2.2.2 r5 r6 cq.2.2.2.1 hsp (by omega)
          unfold F_X8_joinEnds_j98
          have k1' : lpq (F_X8_joinEnds_b98 (nI (F.length + L0.length + 1)) (nI (f + (SF N p m s, q).2.2.2.2.length))) n (nI f, nI sp, le, sc, ss, sf, st) = some (nI (sp + q.2.2.2.length), le', sc', ss', sf', st') := k1
          rw [k1', obd_s]
          have blast : (F ++ bse (SF N p m s) (L0 ++ [(z.1, z.2.1 + csum q.2.2.2, 0, z.2.2.2 ++ q.2.2.2)]))[F.length + L0.length]? = some (SF N p m s, (z.1, z.2.1 + csum q.2.2.2, 0, z.2.2.2 ++ q.2.2.2)) := by
            rw [bse_ap, List.getElem?_append_right (by rw [List.length_append, bse_len]; omega), List.length_append, bse_len, Nat.sub_self]; rfl
          obtain ⟨t1, t2, t3, t4, f2, t5, t6, t7⟩ := k2.1 _ _ blast
          unfold F_X8_joinEnds_j133
          simp only [gd_in (show F.length + L0.length < 928 by omega) (by decide), gd_in (show F.length < 928 by omega) (by decide), nI_clamp (show F.length + L0.length < 2 ^ 31 by omega), nI_clamp (show F.length < 2 ^ 31 by omega), lt_eq]
          rw [nI_pred, joinR_2 hq hz ⟨rfl, h1, h2⟩ h3, jn_len (by omega)]
          refine ⟨upd be F.length (be (F.length + L0.length)), upd le' F.length (le' (F.length + L0.length)), cl, upd fs F.length (fs (F.length + L0.length)), upd sc' F.length (sc' (F.length + L0.length)), ss', sf', st', sp + q.2.2.2.length, ?_, fun i x hx => ?_, by omega, by have := cq.2.2.2.1; omega⟩
          · rw [show F.length + ((rawR N p m s).length - 1) = F.length + L0.length from by omega]
          · by_cases y : i < F.length
            · rw [List.getElem?_append_left y] at hx
              have := k2.1 i x (by rw [List.getElem?_append_left y]; exact hx)
              unfold RH
              rw [ud_n (by omega), ud_n (by omega), ud_n (by omega), ud_n (by omega)]; exact this
            · rw [List.getElem?_append_right (by omega)] at hx
              obtain ⟨k, hk⟩ : ∃ k, i = F.length + k := ⟨i - F.length, by omega⟩
              subst hk
              rw [Nat.add_sub_cancel_left] at hx
              unfold bse at hx
              rw [List.getElem?_map] at hx
              obtain ⟨r, hr, hxr⟩ : ∃ r, ((z.1, q.2.1 + z.2.1, 0, z.2.2.2 ++ q.2.2.2) :: ((rawR N p m s).drop 1).take ((rawR N p m s).length - 2))[k]? = some r ∧ (SF N p m s, r) = x := by
                cases ez : ((z.1, q.2.1 + z.2.1, 0, z.2.2.2 ++ q.2.2.2) :: ((rawR N p m s).drop 1).take ((rawR N p m s).length - 2))[k]? with
                | none => rw [ez] at hx; exact absurd hx (by simp)
                | some r => rw [ez] at hx; exact ⟨r, rfl, Option.some.inj hx⟩
              subst hxr
              rcases jn_at hr with ⟨rfl, rfl⟩ | ⟨g1, g2, g3⟩
              · have s3 := (k2.1 F.length (SF N p m s, q) (by
                  rw [bse_ap, List.getElem?_append_left (by rw [List.length_append, bse_len]; omega), List.getElem?_append_right (Nat.le_refl _), Nat.sub_self]
                  unfold bse; rw [List.getElem?_map, hq0]; rfl)).2.2.1
                refine ⟨?_, ?_, ?_, ?_, f2, ?_, t6, t7⟩
                · rw [ud_e (by omega)]; exact t1
                · rw [ud_e (by omega), t2]
                  show nI (z.2.1 + csum q.2.2.2) = nI (q.2.1 + z.2.1)
                  rw [cq.2.2.2.2.1, Nat.add_comm]
                · show cl (F.length + 0) = nI 0
                  rw [Nat.add_zero, s3]
                  show nI q.2.2.1 = nI 0
                  rw [cq.1]
                · rw [ud_e (by omega)]; exact t4
                · rw [ud_e (by omega)]; exact t5
              · have g4 : L0[k]? = some r := by
                  rw [eL, List.getElem?_append_left (by omega)] at g3; exact g3
                have := k2.1 (F.length + k) (SF N p m s, r) (by
                  rw [bse_ap, List.getElem?_append_left (by rw [List.length_append, bse_len]; omega), List.getElem?_append_right (by omega), Nat.add_sub_cancel_left]
                  unfold bse; rw [List.getElem?_map, g4]; rfl)
                unfold RH
                rw [ud_n (by omega), ud_n (by omega), ud_n (by omega), ud_n (by omega)]; exact this
      · rw [if_neg (nI_ne h2 (by omega) (by omega)), joinR_n hq hz (fun h => h2 h.2.2), elen]
        exact ⟨be, le, cl, fs, sc, ss, sf, st, sp, rfl, hK.1, Nat.le_refl _, by omega⟩
    · rw [if_neg (nI_ne0 (by omega) (by omega)), joinR_n hq hz (fun h => h1 h.2.1), elen]
      exact ⟨be, le, cl, fs, sc, ss, sf, st, sp, rfl, hK.1, Nat.le_refl _, by omega⟩
