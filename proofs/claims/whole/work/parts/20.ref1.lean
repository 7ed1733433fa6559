-- StrokeOutlinerModel.thrown()I
def F_X12_thrown (v0_3 : Int32) : (Int32) :=
  v0_3
abbrev wd_X12_thrown (cI : ClassId) (a0 : Nat → Nat) (v0_2 : Int32) (v0_3 : Int32) (v0_5 : Int32) (v0_12 : Int32) (v0_13 : Int32) (v0_16 : Int32) (v0_17 : Int32) (v0_21 : Int32) (v0_23 : Int32) (v0_24 : Int32) (v0_25 : Int32) (v0_26 : Int32) (v0_29 : Int32) (v0_30 : Int64) : va_W := [(a0 0, .inr (11, [.ref (a0 1), .ref (a0 2), .int v0_2, .int v0_3, .ref (a0 5), .int v0_5, .ref (a0 7), .ref (a0 8), .ref (a0 9), .ref (a0 10), .ref (a0 11), .ref (a0 12), .int v0_12, .int v0_13, .ref (a0 15), .ref (a0 16), .int v0_16, .int v0_17, .ref (a0 19), .ref (a0 20), .ref (a0 21), .int v0_21, .ref (a0 23), .int v0_23, .int v0_24, .int v0_25, .int v0_26, .ref (a0 28), .ref (a0 29), .int v0_29, .long v0_30]))]
abbrev wz_X12_thrown : List Cond := .code yX12_thrown cX12_thrown 1 (some .int) :: wALL
abbrev rm_X12_thrown : Room := { frames := 0, cells := 0, slots := 0, locals := 0 }
abbrev Q_X12_thrown (dC : Nat → ClassId) (dI : Nat → Nat → Nat) (cI : ClassId) (a0 : Nat → Nat) (v0_2 : Int32) (v0_3 : Int32) (v0_5 : Int32) (v0_12 : Int32) (v0_13 : Int32) (v0_16 : Int32) (v0_17 : Int32) (v0_21 : Int32) (v0_23 : Int32) (v0_24 : Int32) (v0_25 : Int32) (v0_26 : Int32) (v0_29 : Int32) (v0_30 : Int64) (u : (Int32)) (A : Nat → Prop) : Array Value → State → Outcome → State → Prop := va_Qi (fun (r : Int32) (_ : Unit) => r = u) (fun _ => q_at dC dI cI A (wd_X12_thrown cI a0 v0_2 v0_3 v0_5 v0_12 v0_13 v0_16 v0_17 v0_21 v0_23 v0_24 v0_25 v0_26 v0_29 v0_30)) A
set_option maxHeartbeats 4000000 in
set_option maxRecDepth 100000 in
theorem c_X12_thrown (l : Launch) (dC : Nat → ClassId) (dI : Nat → Nat → Nat) (cI : ClassId) (sz : Nat) (a0 : Nat → Nat) (v0_2 : Int32) (v0_3 : Int32) (v0_5 : Int32) (v0_12 : Int32) (v0_13 : Int32) (v0_16 : Int32) (v0_17 : Int32) (v0_21 : Int32) (v0_23 : Int32) (v0_24 : Int32) (v0_25 : Int32) (v0_26 : Int32) (v0_29 : Int32) (v0_30 : Int64) (u : (Int32)) (hF : F_X12_thrown v0_3 = u) : Met l yX12_thrown wz_X12_thrown rm_X12_thrown (va_Pc [.ref (a0 0)] (q_pre dC dI cI (wd_X12_thrown cI a0 v0_2 v0_3 v0_5 v0_12 v0_13 v0_16 v0_17 v0_21 v0_23 v0_24 v0_25 v0_26 v0_29 v0_30) sz)) (Q_X12_thrown dC dI cI a0 v0_2 v0_3 v0_5 v0_12 v0_13 v0_16 v0_17 v0_21 v0_23 v0_24 v0_25 v0_26 v0_29 v0_30 u (va_A (wd_X12_thrown cI a0 v0_2 v0_3 v0_5 v0_12 v0_13 v0_16 v0_17 v0_21 v0_23 v0_24 v0_25 v0_26 v0_29 v0_30) sz)) 0 0 (va_A (wd_X12_thrown cI a0 v0_2 v0_3 v0_5 v0_12 v0_13 v0_16 v0_17 v0_21 v0_23 v0_24 v0_25 v0_26 v0_29 v0_30) sz) := by
  refine Met.ofW (cc := cX12_thrown) (maxL := 1) (ret := (some .int)) (by decide) rfl ?_
  intro p e s m args below meth c s₁ B hml hv
  obtain ⟨rfl, hsz, hP, hK, hD0⟩ := hv
  have hx := B.exec
  have hb := B.bytes
  have hr := B.returns
  have hts := atoms_spec (ws := wz_X12_thrown) B.pre
  have hta := wz_tl hts
  have hown : s.vm.findClass RX12 = some m.cls := findClass_of_methodNamed B.named
  have hlocks := B.notSynchronized
  subst hsz
  have hD := hD0.self (sz := s.heap.size)
  generalize hAe : va_A (wd_X12_thrown cI a0 v0_2 v0_3 v0_5 v0_12 v0_13 v0_16 v0_17 v0_21 v0_23 v0_24 v0_25 v0_26 v0_29 v0_30) s.heap.size = A at hD ⊢
  have hA : ∀ q : Nat, s.heap.size ≤ q → A q := fun q h => by rw [← hAe]; exact Or.inr h
  have hS : va_S A s.heap s.heap [] := va_S.rf
  have hP : va_P (dC, dI) vwCl (wd_X12_thrown cI a0 v0_2 v0_3 v0_5 v0_12 v0_13 v0_16 v0_17 v0_21 v0_23 v0_24 v0_25 v0_26 v0_29 v0_30) s.heap := hP
  have hl := lv_entry ([.ref (a0 0)]) (n := 1) (Nat.le_of_ble_eq_true rfl)
  rw [lg_entry_eq]
  generalize (lg_sl ([.ref (a0 0)]) ++ List.replicate (1 - (lg_sl ([.ref (a0 0)])).length) Slot.unset).toArray = ls at hl ⊢
  have hl : lv_has ls 1 [(0, .ref (a0 0))] := hl
  obtain ⟨H, hHe⟩ : ∃ H, H = s.heap := ⟨_, rfl⟩
  have hS : va_S A s.heap H [] := by rw [hHe]; exact hS
  have hP : va_P (dC, dI) vwCl (wd_X12_thrown cI a0 v0_2 v0_3 v0_5 v0_12 v0_13 v0_16 v0_17 v0_21 v0_23 v0_24 v0_25 v0_26 v0_29 v0_30) H := by rw [hHe]; exact hP
  rw [← hHe]
  unfold F_X12_thrown at hF
  refine lv_aload_n hx hb dX12_thrown_0 rfl (lv_at hl 0 rfl) ?_
  refine va_get (D := (dC, dI)) (ci := 11) (v := .int v0_3) (C := RX12) (T := TX12) (N := 31) hx hb hta uw_X12 hown hK hP 0 rfl rfl 3 (by decide) (hta _ mA808) (fun _ h9 => h9) rfl dX12_thrown_1 ?_
  subst hF
  exact W.iret (v := v0_3) hx hb hr (fun t ht hW => ⟨⟨v0_3, (), rfl, rfl, by rw [ht]; exact hP, va_K.moved hW.alike hK, hD⟩, hS.F ht⟩) hS.2.2 dX12_thrown_4

-- StrokeOutlinerModel.refused(I)Z
def F_X12_refused (p1 : Int32) : (Int32 × Int32) :=
  if p1 ≤ 0 then (0, p1) else (1, p1)
abbrev wd_X12_refused (cI : ClassId) (a0 : Nat → Nat) (v0_2 : Int32) (v0_3 : Int32) (v0_5 : Int32) (v0_12 : Int32) (v0_13 : Int32) (v0_16 : Int32) (v0_17 : Int32) (v0_21 : Int32) (v0_23 : Int32) (v0_24 : Int32) (v0_25 : Int32) (v0_26 : Int32) (v0_29 : Int32) (v0_30 : Int64) : va_W := [(a0 0, .inr (11, [.ref (a0 1), .ref (a0 2), .int v0_2, .int v0_3, .ref (a0 5), .int v0_5, .ref (a0 7), .ref (a0 8), .ref (a0 9), .ref (a0 10), .ref (a0 11), .ref (a0 12), .int v0_12, .int v0_13, .ref (a0 15), .ref (a0 16), .int v0_16, .int v0_17, .ref (a0 19), .ref (a0 20), .ref (a0 21), .int v0_21, .ref (a0 23), .int v0_23, .int v0_24, .int v0_25, .int v0_26, .ref (a0 28), .ref (a0 29), .int v0_29, .long v0_30]))]
abbrev wz_X12_refused : List Cond := .code yX12_refused cX12_refused 2 (some .boolean) :: wALL
abbrev rm_X12_refused : Room := { frames := 0, cells := 0, slots := 0, locals := 0 }
abbrev Q_X12_refused (dC : Nat → ClassId) (dI : Nat → Nat → Nat) (cI : ClassId) (a0 : Nat → Nat) (v0_2 : Int32) (v0_5 : Int32) (v0_12 : Int32) (v0_13 : Int32) (v0_16 : Int32) (v0_17 : Int32) (v0_21 : Int32) (v0_23 : Int32) (v0_24 : Int32) (v0_25 : Int32) (v0_26 : Int32) (v0_29 : Int32) (v0_30 : Int64) (u : (Int32 × Int32)) (A : Nat → Prop) : Array Value → State → Outcome → State → Prop := va_Qi (fun (r : Int32) (_ : Unit) => r = u.1 ∧ (u.1 = 0 ∨ u.1 = 1)) (fun _ => q_at dC dI cI A (wd_X12_refused cI a0 v0_2 u.2 v0_5 v0_12 v0_13 v0_16 v0_17 v0_21 v0_23 v0_24 v0_25 v0_26 v0_29 v0_30)) A
set_option maxHeartbeats 4000000 in
set_option maxRecDepth 100000 in
theorem c_X12_refused (l : Launch) (dC : Nat → ClassId) (dI : Nat → Nat → Nat) (cI : ClassId) (sz : Nat) (a0 : Nat → Nat) (v0_2 : Int32) (v0_3 : Int32) (v0_5 : Int32) (v0_12 : Int32) (v0_13 : Int32) (v0_16 : Int32) (v0_17 : Int32) (v0_21 : Int32) (v0_23 : Int32) (v0_24 : Int32) (v0_25 : Int32) (v0_26 : Int32) (v0_29 : Int32) (v0_30 : Int64) (p1 : Int32) (u : (Int32 × Int32)) (hF : F_X12_refused p1 = u) : Met l yX12_refused wz_X12_refused rm_X12_refused (va_Pc [.ref (a0 0), .int p1] (q_pre dC dI cI (wd_X12_refused cI a0 v0_2 v0_3 v0_5 v0_12 v0_13 v0_16 v0_17 v0_21 v0_23 v0_24 v0_25 v0_26 v0_29 v0_30) sz)) (Q_X12_refused dC dI cI a0 v0_2 v0_5 v0_12 v0_13 v0_16 v0_17 v0_21 v0_23 v0_24 v0_25 v0_26 v0_29 v0_30 u (va_A (wd_X12_refused cI a0 v0_2 v0_3 v0_5 v0_12 v0_13 v0_16 v0_17 v0_21 v0_23 v0_24 v0_25 v0_26 v0_29 v0_30) sz)) 0 0 (va_A (wd_X12_refused cI a0 v0_2 v0_3 v0_5 v0_12 v0_13 v0_16 v0_17 v0_21 v0_23 v0_24 v0_25 v0_26 v0_29 v0_30) sz) := by
  refine Met.ofW (cc := cX12_refused) (maxL := 2) (ret := (some .boolean)) (by decide) rfl ?_
  intro p e s m args below meth c s₁ B hml hv
  obtain ⟨rfl, hsz, hP, hK, hD0⟩ := hv
  have hx := B.exec
  have hb := B.bytes
  have hr := B.returns
  have hts := atoms_spec (ws := wz_X12_refused) B.pre
  have hta := wz_tl hts
  have hown : s.vm.findClass RX12 = some m.cls := findClass_of_methodNamed B.named
  have hlocks := B.notSynchronized
  subst hsz
  have hD := hD0.self (sz := s.heap.size)
  generalize hAe : va_A (wd_X12_refused cI a0 v0_2 v0_3 v0_5 v0_12 v0_13 v0_16 v0_17 v0_21 v0_23 v0_24 v0_25 v0_26 v0_29 v0_30) s.heap.size = A at hD ⊢
  have hA : ∀ q : Nat, s.heap.size ≤ q → A q := fun q h => by rw [← hAe]; exact Or.inr h
  have hS : va_S A s.heap s.heap [] := va_S.rf
  have hP : va_P (dC, dI) vwCl (wd_X12_refused cI a0 v0_2 v0_3 v0_5 v0_12 v0_13 v0_16 v0_17 v0_21 v0_23 v0_24 v0_25 v0_26 v0_29 v0_30) s.heap := hP
  have hl := lv_entry ([.ref (a0 0), .int p1]) (n := 2) (Nat.le_of_ble_eq_true rfl)
  rw [lg_entry_eq]
  generalize (lg_sl ([.ref (a0 0), .int p1]) ++ List.replicate (2 - (lg_sl ([.ref (a0 0), .int p1])).length) Slot.unset).toArray = ls at hl ⊢
  have hl : lv_has ls 2 [(0, .ref (a0 0)), (1, .int p1)] := hl
  obtain ⟨H, hHe⟩ : ∃ H, H = s.heap := ⟨_, rfl⟩
  have hS : va_S A s.heap H [] := by rw [hHe]; exact hS
  have hP : va_P (dC, dI) vwCl (wd_X12_refused cI a0 v0_2 v0_3 v0_5 v0_12 v0_13 v0_16 v0_17 v0_21 v0_23 v0_24 v0_25 v0_26 v0_29 v0_30) H := by rw [hHe]; exact hP
  rw [← hHe]
  unfold F_X12_refused at hF
  refine lv_aload_n hx hb dX12_refused_0 rfl (lv_at hl 0 rfl) ?_
  refine lv_iload_n hx hb dX12_refused_1 rfl (lv_at hl 1 rfl) ?_
  refine va_put (D := (dC, dI)) (ci := 11) (v := .int p1) (ty := .int) (C := RX12) (T := TX12) (N := 31) hx hb hta uw_X12 tyX12 tyX12_ok nmX12 hown hK hP hD hS 0 rfl rfl 3 (by decide) (hta _ mA808) (fun _ h9 => h9) rfl (by decide +kernel) rfl rfl (Nat.le_of_ble_eq_true rfl) dX12_refused_2 (fun H locs hP hD hS => ?_)
  have hP : va_P (dC, dI) vwCl (wd_X12_refused cI a0 v0_2 p1 v0_5 v0_12 v0_13 v0_16 v0_17 v0_21 v0_23 v0_24 v0_25 v0_26 v0_29 v0_30) H := hP
  have hD : va_D A (wd_X12_refused cI a0 v0_2 p1 v0_5 v0_12 v0_13 v0_16 v0_17 v0_21 v0_23 v0_24 v0_25 v0_26 v0_29 v0_30) := hD
  refine lv_iload_n hx hb dX12_refused_5 rfl (lv_at hl 1 rfl) ?_
  refine lv_if_le (tgt := 13) hx hb dX12_refused_6 (by decide) (fun c_1 => ?_) (fun c_1 => ?_)
  · have hF := it_t hF c_1
    refine lv_iconst (v := 0) hx hb dX12_refused_13 (by decide) ?_
    subst hF
    exact W.zret (v := 0) (ty := .boolean) hx hb hr (z_nar (Or.inl rfl)) (fun t ht hW => ⟨⟨0, (), rfl, ⟨rfl, (Or.inl rfl)⟩, by rw [ht]; exact hP, va_K.moved hW.alike hK, hD⟩, hS.F ht⟩) hS.2.2 dX12_refused_14
  · have hF := it_f hF c_1
    refine lv_iconst (v := 1) hx hb dX12_refused_9 (by decide) ?_
    refine lv_goto (tgt := 14) hx hb dX12_refused_10 (by decide) ?_
    subst hF
    exact W.zret (v := 1) (ty := .boolean) hx hb hr (z_nar (Or.inr rfl)) (fun t ht hW => ⟨⟨1, (), rfl, ⟨rfl, (Or.inr rfl)⟩, by rw [ht]; exact hP, va_K.moved hW.alike hK, hD⟩, hS.F ht⟩) hS.2.2 dX12_refused_14

-- StrokeOutlinerModel.within(III)Z
def F_X12_within_j14  : (Int32) :=
  0
def F_X12_within (p0 : Int32) (p1 : Int32) (p2 : Int32) : (Int32) :=
  if p0 < p1 then F_X12_within_j14 else if p2 < p0 then F_X12_within_j14 else 1
abbrev wz_X12_within : List Cond := .code yX12_within cX12_within 3 (some .boolean) :: wALL
abbrev rm_X12_within : Room := { frames := 0, cells := 0, slots := 0, locals := 0 }
abbrev Q_X12_within (dC : Nat → ClassId) (dI : Nat → Nat → Nat) (cI : ClassId) (u : (Int32)) (A : Nat → Prop) : Array Value → State → Outcome → State → Prop := va_Qi (fun (r : Int32) (_ : Unit) => r = u ∧ (u = 0 ∨ u = 1)) (fun _ => q_at dC dI cI A ([] : va_W)) A
set_option maxHeartbeats 4000000 in
set_option maxRecDepth 100000 in
theorem c_X12_within (l : Launch) (dC : Nat → ClassId) (dI : Nat → Nat → Nat) (cI : ClassId) (sz : Nat) (p0 : Int32) (p1 : Int32) (p2 : Int32) (u : (Int32)) (hF : F_X12_within p0 p1 p2 = u) : Met l yX12_within wz_X12_within rm_X12_within (va_Pc [.int p0, .int p1, .int p2] (q_pre dC dI cI ([] : va_W) sz)) (Q_X12_within dC dI cI u (va_A ([] : va_W) sz)) 0 0 (va_A ([] : va_W) sz) := by
  refine Met.ofW (cc := cX12_within) (maxL := 3) (ret := (some .boolean)) (by decide) rfl ?_
  intro p e s m args below meth c s₁ B hml hv
  obtain ⟨rfl, hsz, hP, hK, hD0⟩ := hv
  have hx := B.exec
  have hb := B.bytes
  have hr := B.returns
  have hts := atoms_spec (ws := wz_X12_within) B.pre
  have hta := wz_tl hts
  have hown : s.vm.findClass RX12 = some m.cls := findClass_of_methodNamed B.named
  have hlocks := B.notSynchronized
  subst hsz
  have hD := hD0.self (sz := s.heap.size)
  generalize hAe : va_A ([] : va_W) s.heap.size = A at hD ⊢
  have hA : ∀ q : Nat, s.heap.size ≤ q → A q := fun q h => by rw [← hAe]; exact Or.inr h
  have hS : va_S A s.heap s.heap [] := va_S.rf
  have hP : va_P (dC, dI) vwCl ([] : va_W) s.heap := hP
  have hl := lv_entry ([.int p0, .int p1, .int p2]) (n := 3) (Nat.le_of_ble_eq_true rfl)
  rw [lg_entry_eq]
  generalize (lg_sl ([.int p0, .int p1, .int p2]) ++ List.replicate (3 - (lg_sl ([.int p0, .int p1, .int p2])).length) Slot.unset).toArray = ls at hl ⊢
  have hl : lv_has ls 3 [(0, .int p0), (1, .int p1), (2, .int p2)] := hl
  obtain ⟨H, hHe⟩ : ∃ H, H = s.heap := ⟨_, rfl⟩
  have hS : va_S A s.heap H [] := by rw [hHe]; exact hS
  have hP : va_P (dC, dI) vwCl ([] : va_W) H := by rw [hHe]; exact hP
  rw [← hHe]
  unfold F_X12_within at hF
  have j14 : ∀ (_ : Unit), F_X12_within_j14 = u → ∀ (H : Heap) (locs : List Loc) (ls : Array Slot), va_P (dC, dI) vwCl ([] : va_W) H → va_D A ([] : va_W) → va_S A s.heap H locs → lv_has ls 3 [] → W p l e (headSpec wz_X12_within rm_X12_within).room s m [.int p0, .int p1, .int p2].toArray below meth c H locs 0 0 (MQ below (Q_X12_within dC dI cI u A) [.int p0, .int p1, .int p2].toArray s 0 0 A) (F0 m 14 ls []) := by
    intro _ hF H locs ls hP hD hS hl
    unfold F_X12_within_j14 at hF
    refine lv_iconst (v := 0) hx hb dX12_within_14 (by decide) ?_
    subst hF
    exact W.zret (v := 0) (ty := .boolean) hx hb hr (z_nar (Or.inl rfl)) (fun t ht hW => ⟨⟨0, (), rfl, ⟨rfl, (Or.inl rfl)⟩, by rw [ht]; exact hP, va_K.moved hW.alike hK, hD⟩, hS.F ht⟩) hS.2.2 dX12_within_15
  refine lv_iload_n hx hb dX12_within_0 rfl (lv_at hl 0 rfl) ?_
  refine lv_iload_n hx hb dX12_within_1 rfl (lv_at hl 1 rfl) ?_
  refine lv_icmp_lt (tgt := 14) hx hb dX12_within_2 (by decide) (fun c_1 => ?_) (fun c_1 => ?_)
  · have hF := it_t hF c_1
    exact j14 () hF _ _ _ hP hD hS (lv_sub hl [] rfl)
  · have hF := it_f hF c_1
    refine lv_iload_n hx hb dX12_within_5 rfl (lv_at hl 0 rfl) ?_
    refine lv_iload_n hx hb dX12_within_6 rfl (lv_at hl 2 rfl) ?_
    refine lv_icmp_gt (tgt := 14) hx hb dX12_within_7 (by decide) (fun c_2 => ?_) (fun c_2 => ?_)
    · have hF := it_t hF c_2
      exact j14 () hF _ _ _ hP hD hS (lv_sub hl [] rfl)
    · have hF := it_f hF c_2
      refine lv_iconst (v := 1) hx hb dX12_within_10 (by decide) ?_
      refine lv_goto (tgt := 15) hx hb dX12_within_11 (by decide) ?_
      subst hF
      exact W.zret (v := 1) (ty := .boolean) hx hb hr (z_nar (Or.inr rfl)) (fun t ht hW => ⟨⟨1, (), rfl, ⟨rfl, (Or.inr rfl)⟩, by rw [ht]; exact hP, va_K.moved hW.alike hK, hD⟩, hS.F ht⟩) hS.2.2 dX12_within_15

-- StrokeOutlinerModel.isPlace(II)Z
def F_X12_isPlace_j26  : (Int32) :=
  0
def F_X12_isPlace (p0 : Int32) (p1 : Int32) : (Int32) :=
  lt (F_X12_within p0 (-100) 100) (fun u_1 => if u_1 = 0 then F_X12_isPlace_j26 else lt (F_X12_within p1 (-100) 100) (fun u_3 => if u_3 = 0 then F_X12_isPlace_j26 else 1))
abbrev wz_X12_isPlace : List Cond := .code yX12_isPlace cX12_isPlace 2 (some .boolean) :: wALL
abbrev rm_X12_isPlace : Room := { frames := 1, cells := 0, slots := 0, locals := 22 }
abbrev Q_X12_isPlace (dC : Nat → ClassId) (dI : Nat → Nat → Nat) (cI : ClassId) (u : (Int32)) (A : Nat → Prop) : Array Value → State → Outcome → State → Prop := va_Qi (fun (r : Int32) (_ : Unit) => r = u ∧ (u = 0 ∨ u = 1)) (fun _ => q_at dC dI cI A ([] : va_W)) A
set_option maxHeartbeats 4000000 in
set_option maxRecDepth 100000 in
theorem c_X12_isPlace (l : Launch) (dC : Nat → ClassId) (dI : Nat → Nat → Nat) (cI : ClassId) (sz : Nat) (p0 : Int32) (p1 : Int32) (u : (Int32)) (hF : F_X12_isPlace p0 p1 = u) : Met l yX12_isPlace wz_X12_isPlace rm_X12_isPlace (va_Pc [.int p0, .int p1] (q_pre dC dI cI ([] : va_W) sz)) (Q_X12_isPlace dC dI cI u (va_A ([] : va_W) sz)) 0 0 (va_A ([] : va_W) sz) := by
  refine Met.ofW (cc := cX12_isPlace) (maxL := 2) (ret := (some .boolean)) (by decide) rfl ?_
  intro p e s m args below meth c s₁ B hml hv
  obtain ⟨rfl, hsz, hP, hK, hD0⟩ := hv
  have hx := B.exec
  have hb := B.bytes
  have hr := B.returns
  have hts := atoms_spec (ws := wz_X12_isPlace) B.pre
  have hta := wz_tl hts
  have hown : s.vm.findClass RX12 = some m.cls := findClass_of_methodNamed B.named
  have hlocks := B.notSynchronized
  subst hsz
  have hD := hD0.self (sz := s.heap.size)
  generalize hAe : va_A ([] : va_W) s.heap.size = A at hD ⊢
  have hA : ∀ q : Nat, s.heap.size ≤ q → A q := fun q h => by rw [← hAe]; exact Or.inr h
  have hS : va_S A s.heap s.heap [] := va_S.rf
  have hP : va_P (dC, dI) vwCl ([] : va_W) s.heap := hP
  have hl := lv_entry ([.int p0, .int p1]) (n := 2) (Nat.le_of_ble_eq_true rfl)
  rw [lg_entry_eq]
  generalize (lg_sl ([.int p0, .int p1]) ++ List.replicate (2 - (lg_sl ([.int p0, .int p1])).length) Slot.unset).toArray = ls at hl ⊢
  have hl : lv_has ls 2 [(0, .int p0), (1, .int p1)] := hl
  obtain ⟨H, hHe⟩ : ∃ H, H = s.heap := ⟨_, rfl⟩
  have hS : va_S A s.heap H [] := by rw [hHe]; exact hS
  have hP : va_P (dC, dI) vwCl ([] : va_W) H := by rw [hHe]; exact hP
  rw [← hHe]
  unfold F_X12_isPlace at hF
  have j26 : ∀ (_ : Unit), F_X12_isPlace_j26 = u → ∀ (H : Heap) (locs : List Loc) (ls : Array Slot), va_P (dC, dI) vwCl ([] : va_W) H → va_D A ([] : va_W) → va_S A s.heap H locs → lv_has ls 2 [] → W p l e (headSpec wz_X12_isPlace rm_X12_isPlace).room s m [.int p0, .int p1].toArray below meth c H locs 0 0 (MQ below (Q_X12_isPlace dC dI cI u A) [.int p0, .int p1].toArray s 0 0 A) (F0 m 26 ls []) := by
    intro _ hF H locs ls hP hD hS hl
    unfold F_X12_isPlace_j26 at hF
    refine lv_iconst (v := 0) hx hb dX12_isPlace_26 (by decide) ?_
    subst hF
    exact W.zret (v := 0) (ty := .boolean) hx hb hr (z_nar (Or.inl rfl)) (fun t ht hW => ⟨⟨0, (), rfl, ⟨rfl, (Or.inl rfl)⟩, by rw [ht]; exact hP, va_K.moved hW.alike hK, hD⟩, hS.F ht⟩) hS.2.2 dX12_isPlace_27
  refine lv_iload_n hx hb dX12_isPlace_0 rfl (lv_at hl 0 rfl) ?_
  refine lv_bipush (v := (-100)) hx hb dX12_isPlace_1 (by decide) ?_
  refine lv_bipush (v := 100) hx hb dX12_isPlace_3 (by decide) ?_
  obtain ⟨u_1, hu_1, hF⟩ := lt_some hF
  have hPc := hP.sub (ws' := ([] : va_W)) [] rfl
  have hDc := hD.sub (ws' := ([] : va_W)) [] rfl rfl
  refine q_callz (wc := ([] : va_W)) (w1 := ([] : va_W)) (ws' := ([] : va_W)) hP hD hS hA [] [] [] rfl rfl rfl (by decide) rfl rfl (va_runS (As := [.int p0, .int (-100), .int 100]) (rest := []) ⟨hx, hb, hml, hown, hta⟩ (c_X12_within l dC dI cI H.size p0 (-100) 100 u_1 hu_1.symm) (va_cwS 3 hta (ga_S mA812 mA813 mA814 mA810) rfl rfl rfl (by decide +kernel) ⟨Nat.le_of_ble_eq_true rfl, Nat.le_of_ble_eq_true rfl⟩) ⟨q_fb, q_ps hPc hK hDc⟩ rfl rfl hl.1 rfl (lv_room (Nat.le_of_ble_eq_true rfl)) dX12_isPlace_5 ⟨Nat.zero_le _, Nat.zero_le _⟩) (fun hzu_1 H locs hP hD hS => ?_)
  refine lv_if_eq (tgt := 26) hx hb dX12_isPlace_8 (by decide) (fun c_2 => ?_) (fun c_2 => ?_)
  · have hF := it_t hF c_2
    exact j26 () hF _ _ _ hP hD hS (lv_sub hl [] rfl)
  · have hF := it_f hF c_2
    refine lv_iload_n hx hb dX12_isPlace_11 rfl (lv_at hl 1 rfl) ?_
    refine lv_bipush (v := (-100)) hx hb dX12_isPlace_12 (by decide) ?_
    refine lv_bipush (v := 100) hx hb dX12_isPlace_14 (by decide) ?_
    obtain ⟨u_3, hu_3, hF⟩ := lt_some hF
    have hPc := hP.sub (ws' := ([] : va_W)) [] rfl
    have hDc := hD.sub (ws' := ([] : va_W)) [] rfl rfl
    refine q_callz (wc := ([] : va_W)) (w1 := ([] : va_W)) (ws' := ([] : va_W)) hP hD hS hA [] [] [] rfl rfl rfl (by decide) rfl rfl (va_runS (As := [.int p1, .int (-100), .int 100]) (rest := []) ⟨hx, hb, hml, hown, hta⟩ (c_X12_within l dC dI cI H.size p1 (-100) 100 u_3 hu_3.symm) (va_cwS 3 hta (ga_S mA812 mA813 mA814 mA810) rfl rfl rfl (by decide +kernel) ⟨Nat.le_of_ble_eq_true rfl, Nat.le_of_ble_eq_true rfl⟩) ⟨q_fb, q_ps hPc hK hDc⟩ rfl rfl hl.1 rfl (lv_room (Nat.le_of_ble_eq_true rfl)) dX12_isPlace_16 ⟨Nat.zero_le _, Nat.zero_le _⟩) (fun hzu_3 H locs hP hD hS => ?_)
    refine lv_if_eq (tgt := 26) hx hb dX12_isPlace_19 (by decide) (fun c_4 => ?_) (fun c_4 => ?_)
    · have hF := it_t hF c_4
      exact j26 () hF _ _ _ hP hD hS (lv_sub hl [] rfl)
    · have hF := it_f hF c_4
      refine lv_iconst (v := 1) hx hb dX12_isPlace_22 (by decide) ?_
      refine lv_goto (tgt := 27) hx hb dX12_isPlace_23 (by decide) ?_
      subst hF
      exact W.zret (v := 1) (ty := .boolean) hx hb hr (z_nar (Or.inr rfl)) (fun t ht hW => ⟨⟨1, (), rfl, ⟨rfl, (Or.inr rfl)⟩, by rw [ht]; exact hP, va_K.moved hW.alike hK, hD⟩, hS.F ht⟩) hS.2.2 dX12_isPlace_27

-- StrokeOutlinerModel.round(JJ)I
def F_X12_round_j41 (t0 : Int64) : Option (Int32) :=
  some t0.toInt32
def F_X12_round (p0 : Int64) (p2 : Int64) : Option (Int32) :=
  lt ((2 * p0) + p2) (fun y_1 => lt (2 * p2) (fun y_2 => gd (decide (¬ (y_2 : Int64) = 0)) (lt (y_1 / y_2) (fun y_4 => lt (2 * p2) (fun y_5 => gd (decide (¬ (y_5 : Int64) = 0)) (if 0 ≤ (lg_cmp (y_1 - y_1 / y_5 * y_5) 0) then F_X12_round_j41 y_4 else F_X12_round_j41 (y_4 - 1)))))))
abbrev wz_X12_round : List Cond := .code yX12_round cX12_round 8 (some .int) :: wALL
abbrev rm_X12_round : Room := { frames := 0, cells := 0, slots := 0, locals := 0 }
abbrev Q_X12_round (dC : Nat → ClassId) (dI : Nat → Nat → Nat) (cI : ClassId) (u : (Int32)) (A : Nat → Prop) : Array Value → State → Outcome → State → Prop := va_Qi (fun (r : Int32) (_ : Unit) => r = u) (fun _ => q_at dC dI cI A ([] : va_W)) A
set_option maxHeartbeats 4000000 in
set_option maxRecDepth 100000 in
theorem c_X12_round (l : Launch) (dC : Nat → ClassId) (dI : Nat → Nat → Nat) (cI : ClassId) (sz : Nat) (p0 : Int64) (p2 : Int64) (u : (Int32)) (hF : F_X12_round p0 p2 = some u) : Met l yX12_round wz_X12_round rm_X12_round (va_Pc [.long p0, .long p2] (q_pre dC dI cI ([] : va_W) sz)) (Q_X12_round dC dI cI u (va_A ([] : va_W) sz)) 0 0 (va_A ([] : va_W) sz) := by
  refine Met.ofW (cc := cX12_round) (maxL := 8) (ret := (some .int)) (by decide) rfl ?_
  intro p e s m args below meth c s₁ B hml hv
  obtain ⟨rfl, hsz, hP, hK, hD0⟩ := hv
  have hx := B.exec
  have hb := B.bytes
  have hr := B.returns
  have hts := atoms_spec (ws := wz_X12_round) B.pre
  have hta := wz_tl hts
  have hown : s.vm.findClass RX12 = some m.cls := findClass_of_methodNamed B.named
  have hlocks := B.notSynchronized
  subst hsz
  have hD := hD0.self (sz := s.heap.size)
  generalize hAe : va_A ([] : va_W) s.heap.size = A at hD ⊢
  have hA : ∀ q : Nat, s.heap.size ≤ q → A q := fun q h => by rw [← hAe]; exact Or.inr h
  have hS : va_S A s.heap s.heap [] := va_S.rf
  have hP : va_P (dC, dI) vwCl ([] : va_W) s.heap := hP
  have hl := lv_entry ([.long p0, .long p2]) (n := 8) (Nat.le_of_ble_eq_true rfl)
  rw [lg_entry_eq]
  generalize (lg_sl ([.long p0, .long p2]) ++ List.replicate (8 - (lg_sl ([.long p0, .long p2])).length) Slot.unset).toArray = ls at hl ⊢
  have hl : lv_has ls 8 [(0, .long p0), (2, .long p2)] := hl
  obtain ⟨H, hHe⟩ : ∃ H, H = s.heap := ⟨_, rfl⟩
  have hS : va_S A s.heap H [] := by rw [hHe]; exact hS
  have hP : va_P (dC, dI) vwCl ([] : va_W) H := by rw [hHe]; exact hP
  rw [← hHe]
  unfold F_X12_round at hF
  have j41 : ∀ (t0 : Int64), F_X12_round_j41 t0 = some u → ∀ (H : Heap) (locs : List Loc) (ls : Array Slot), va_P (dC, dI) vwCl ([] : va_W) H → va_D A ([] : va_W) → va_S A s.heap H locs → lv_has ls 8 [] → W p l e (headSpec wz_X12_round rm_X12_round).room s m [.long p0, .long p2].toArray below meth c H locs 0 0 (MQ below (Q_X12_round dC dI cI u A) [.long p0, .long p2].toArray s 0 0 A) (F0 m 41 ls [.long t0]) := by
    intro t0 hF H locs ls hP hD hS hl
    unfold F_X12_round_j41 at hF
    refine lv_l2i hx hb dX12_round_41 rfl ?_
    obtain rfl := Option.some.inj hF
    exact W.iret (v := t0.toInt32) hx hb hr (fun t ht hW => ⟨⟨t0.toInt32, (), rfl, rfl, by rw [ht]; exact hP, va_K.moved hW.alike hK, hD⟩, hS.F ht⟩) hS.2.2 dX12_round_42
  refine lv_ldc2 (v := 2) hx hb hown (hta _ mA816) dX12_round_0 ?_
  refine lv_lload_n hx hb dX12_round_3 rfl (lv_at hl 0 rfl) ?_
  refine lv_lmul hx hb dX12_round_4 ?_
  refine lv_lload_n hx hb dX12_round_5 rfl (lv_at hl 1 rfl) ?_
  refine lv_ladd hx hb dX12_round_6 ?_
  obtain ⟨y_1, ey_1, hF⟩ := lt_some hF
  refine lv_eql ey_1 ?_
  refine lv_lstore (lv' := [(4, .long y_1), (0, .long p0), (2, .long p2)]) hx hb dX12_round_7 hl (by decide) rfl (fun ls hl => ?_)
  refine lv_lload hx hb dX12_round_9 (lv_at hl 0 rfl) ?_
  refine lv_ldc2 (v := 2) hx hb hown (hta _ mA816) dX12_round_11 ?_
  refine lv_lload_n hx hb dX12_round_14 rfl (lv_at hl 2 rfl) ?_
  refine lv_lmul hx hb dX12_round_15 ?_
  obtain ⟨y_2, ey_2, hF⟩ := lt_some hF
  refine lv_eql ey_2 ?_
  obtain ⟨g_3, hF⟩ := gd_some hF
  refine lv_ldiv hx hb dX12_round_16 g_3 ?_
  obtain ⟨y_4, ey_4, hF⟩ := lt_some hF
  refine lv_eql ey_4 ?_
  refine lv_lstore (lv' := [(6, .long y_4), (4, .long y_1), (0, .long p0), (2, .long p2)]) hx hb dX12_round_17 hl (by decide) rfl (fun ls hl => ?_)
  refine lv_lload hx hb dX12_round_19 (lv_at hl 1 rfl) ?_
  refine lv_ldc2 (v := 2) hx hb hown (hta _ mA816) dX12_round_21 ?_
  refine lv_lload_n hx hb dX12_round_24 rfl (lv_at hl 3 rfl) ?_
  refine lv_lmul hx hb dX12_round_25 ?_
  obtain ⟨y_5, ey_5, hF⟩ := lt_some hF
  refine lv_eql ey_5 ?_
  obtain ⟨g_6, hF⟩ := gd_some hF
  refine lv_lrem hx hb dX12_round_26 g_6 ?_
  refine lv_lconst (v := 0) hx hb dX12_round_27 (by decide) ?_
  refine W.lcmp hx hb dX12_round_28 ?_
  refine lv_if_ge (tgt := 39) hx hb dX12_round_29 (by decide) (fun c_7 => ?_) (fun c_7 => ?_)
  · have hF := it_t hF c_7
    refine lv_lload hx hb dX12_round_39 (lv_at hl 0 rfl) ?_
    exact j41 y_4 hF _ _ _ hP hD hS (lv_sub hl [] rfl)
  · have hF := it_f hF c_7
    refine lv_lload hx hb dX12_round_32 (lv_at hl 0 rfl) ?_
    refine lv_lconst (v := 1) hx hb dX12_round_34 (by decide) ?_
    refine lv_lsub hx hb dX12_round_35 ?_
    refine lv_goto (tgt := 41) hx hb dX12_round_36 (by decide) ?_
    exact j41 (y_4 - 1) hF _ _ _ hP hD hS (lv_sub hl [] rfl)

-- StrokeOutlinerModel.root(J)I
def F_X12_root_j49 (x2 : Int64) : Option (Int32) :=
  some x2.toInt32
def F_X12_root_j46 (x2 : Int64) (x4 : Int64) : Option (Sum (Int64 × Int64) (Int64)) :=
  some (.inl (x2, x4))
def F_X12_root_b7 (x0 : Int64) (s7 : Int64 × Int64) : Option (Sum (Int64 × Int64) (Int64)) :=
  if (lg_cmp (s7.2 - s7.1) 1) ≤ 0 then some (.inr s7.1) else lt ((s7.1 + s7.2) / 2) (fun y_2 => if 0 < (lg_cmp (y_2 * y_2) x0) then F_X12_root_j46 s7.1 y_2 else F_X12_root_j46 y_2 s7.2)
def F_X12_root_j7 (n : Nat) (x0 : Int64) (x2 : Int64) (x4 : Int64) : Option (Int32) :=
  obd (lpq (F_X12_root_b7 x0) n (x2, x4)) (fun x_7 => F_X12_root_j49 x_7)
def F_X12_root (n : Nat) (p0 : Int64) : Option (Int32) :=
  F_X12_root_j7 n p0 0 100000
abbrev wz_X12_root : List Cond := .code yX12_root cX12_root 8 (some .int) :: wALL
abbrev rm_X12_root : Room := { frames := 0, cells := 0, slots := 0, locals := 0 }
abbrev Q_X12_root (dC : Nat → ClassId) (dI : Nat → Nat → Nat) (cI : ClassId) (u : (Int32)) (A : Nat → Prop) : Array Value → State → Outcome → State → Prop := va_Qi (fun (r : Int32) (_ : Unit) => r = u) (fun _ => q_at dC dI cI A ([] : va_W)) A
set_option maxHeartbeats 4000000 in
set_option maxRecDepth 100000 in
theorem c_X12_root (l : Launch) (dC : Nat → ClassId) (dI : Nat → Nat → Nat) (cI : ClassId) (sz : Nat) (p0 : Int64) (n : Nat) (u : (Int32)) (hF : F_X12_root n p0 = some u) : Met l yX12_root wz_X12_root rm_X12_root (va_Pc [.long p0] (q_pre dC dI cI ([] : va_W) sz)) (Q_X12_root dC dI cI u (va_A ([] : va_W) sz)) 0 0 (va_A ([] : va_W) sz) := by
  refine Met.ofW (cc := cX12_root) (maxL := 8) (ret := (some .int)) (by decide) rfl ?_
  intro p e s m args below meth c s₁ B hml hv
  obtain ⟨rfl, hsz, hP, hK, hD0⟩ := hv
  have hx := B.exec
  have hb := B.bytes
  have hr := B.returns
  have hts := atoms_spec (ws := wz_X12_root) B.pre
  have hta := wz_tl hts
  have hown : s.vm.findClass RX12 = some m.cls := findClass_of_methodNamed B.named
  have hlocks := B.notSynchronized
  subst hsz
  have hD := hD0.self (sz := s.heap.size)
  generalize hAe : va_A ([] : va_W) s.heap.size = A at hD ⊢
  have hA : ∀ q : Nat, s.heap.size ≤ q → A q := fun q h => by rw [← hAe]; exact Or.inr h
  have hS : va_S A s.heap s.heap [] := va_S.rf
  have hP : va_P (dC, dI) vwCl ([] : va_W) s.heap := hP
  have hl := lv_entry ([.long p0]) (n := 8) (Nat.le_of_ble_eq_true rfl)
  rw [lg_entry_eq]
  generalize (lg_sl ([.long p0]) ++ List.replicate (8 - (lg_sl ([.long p0])).length) Slot.unset).toArray = ls at hl ⊢
  have hl : lv_has ls 8 [(0, .long p0)] := hl
  obtain ⟨H, hHe⟩ : ∃ H, H = s.heap := ⟨_, rfl⟩
  have hS : va_S A s.heap H [] := by rw [hHe]; exact hS
  have hP : va_P (dC, dI) vwCl ([] : va_W) H := by rw [hHe]; exact hP
  rw [← hHe]
  unfold F_X12_root at hF
  have j49 : ∀ (x2 : Int64), F_X12_root_j49 x2 = some u → ∀ (H : Heap) (locs : List Loc) (ls : Array Slot), va_P (dC, dI) vwCl ([] : va_W) H → va_D A ([] : va_W) → va_S A s.heap H locs → lv_has ls 8 [(2, .long x2)] → W p l e (headSpec wz_X12_root rm_X12_root).room s m [.long p0].toArray below meth c H locs 0 0 (MQ below (Q_X12_root dC dI cI u A) [.long p0].toArray s 0 0 A) (F0 m 49 ls []) := by
    intro x2 hF H locs ls hP hD hS hl
    unfold F_X12_root_j49 at hF
    refine lv_lload_n hx hb dX12_root_49 rfl (lv_at hl 0 rfl) ?_
    refine lv_l2i hx hb dX12_root_50 rfl ?_
    obtain rfl := Option.some.inj hF
    exact W.iret (v := x2.toInt32) hx hb hr (fun t ht hW => ⟨⟨x2.toInt32, (), rfl, rfl, by rw [ht]; exact hP, va_K.moved hW.alike hK, hD⟩, hS.F ht⟩) hS.2.2 dX12_root_51
  have j7 : ∀ (x0 : Int64) (x2 : Int64) (x4 : Int64), F_X12_root_j7 n x0 x2 x4 = some u → ∀ (H : Heap) (locs : List Loc) (ls : Array Slot), va_P (dC, dI) vwCl ([] : va_W) H → va_D A ([] : va_W) → va_S A s.heap H locs → lv_has ls 8 [(0, .long x0), (2, .long x2), (4, .long x4)] → W p l e (headSpec wz_X12_root rm_X12_root).room s m [.long p0].toArray below meth c H locs 0 0 (MQ below (Q_X12_root dC dI cI u A) [.long p0].toArray s 0 0 A) (F0 m 7 ls []) := by
    intro x0 x2 x4 hF H locs ls hP hD hS hl
    unfold F_X12_root_j7 at hF
    obtain ⟨x_7, hL_7, hE_7⟩ := obd_some hF
    have kl_7 : ∀ (k : Nat) (s7 : Int64 × Int64), lpq (F_X12_root_b7 x0) k s7 = some x_7 → ∀ (H : Heap) (locs : List Loc) (ls : Array Slot), va_P (dC, dI) vwCl ([] : va_W) H → va_D A ([] : va_W) → va_S A s.heap H locs → lv_has ls 8 [(0, .long x0), (2, .long s7.1), (4, .long s7.2)] → W p l e (headSpec wz_X12_root rm_X12_root).room s m [.long p0].toArray below meth c H locs 0 0 (MQ below (Q_X12_root dC dI cI u A) [.long p0].toArray s 0 0 A) (F0 m 7 ls []) := by
      intro k
      induction k with
      | zero => intro s7 h; exact absurd h lpq_zero
      | succ k ih_7 =>
        intro s7 h H locs ls hP hD hS hl
        obtain ⟨o_7, hF, hO_7⟩ := lpq_succ h
        unfold F_X12_root_b7 at hF
        have j46 : ∀ (x2 : Int64) (x4 : Int64), F_X12_root_j46 x2 x4 = some o_7 → ∀ (H : Heap) (locs : List Loc) (ls : Array Slot), va_P (dC, dI) vwCl ([] : va_W) H → va_D A ([] : va_W) → va_S A s.heap H locs → lv_has ls 8 [(0, .long x0), (2, .long x2), (4, .long x4)] → W p l e (headSpec wz_X12_root rm_X12_root).room s m [.long p0].toArray below meth c H locs 0 0 (MQ below (Q_X12_root dC dI cI u A) [.long p0].toArray s 0 0 A) (F0 m 46 ls []) := by
          intro x2 x4 hF H locs ls hP hD hS hl
          unfold F_X12_root_j46 at hF
          refine lv_goto (tgt := 7) hx hb dX12_root_46 (by decide) ?_
          obtain rfl := Option.some.inj hF
          exact ih_7 _ hO_7 _ _ _ hP hD hS (lv_sub hl [0, 1, 2] rfl)
        refine lv_lload hx hb dX12_root_7 (lv_at hl 2 rfl) ?_
        refine lv_lload_n hx hb dX12_root_9 rfl (lv_at hl 1 rfl) ?_
        refine lv_lsub hx hb dX12_root_10 ?_
        refine lv_lconst (v := 1) hx hb dX12_root_11 (by decide) ?_
        refine W.lcmp hx hb dX12_root_12 ?_
        refine lv_if_le (tgt := 49) hx hb dX12_root_13 (by decide) (fun c_1 => ?_) (fun c_1 => ?_)
        · have hF := it_t hF c_1
          obtain rfl := Option.some.inj hF
          obtain rfl := lpq_x hO_7
          have hF := hE_7
          exact j49 s7.1 hF _ _ _ hP hD hS (lv_sub hl [1] rfl)
        · have hF := it_f hF c_1
          refine lv_lload_n hx hb dX12_root_16 rfl (lv_at hl 1 rfl) ?_
          refine lv_lload hx hb dX12_root_17 (lv_at hl 2 rfl) ?_
          refine lv_ladd hx hb dX12_root_19 ?_
          refine lv_ldc2 (v := 2) hx hb hown (hta _ mA816) dX12_root_20 ?_
          refine lv_ldiv hx hb dX12_root_23 (by decide) ?_
          obtain ⟨y_2, ey_2, hF⟩ := lt_some hF
          refine lv_eql ey_2 ?_
          refine lv_lstore (lv' := [(6, .long y_2), (0, .long x0), (2, .long s7.1), (4, .long s7.2)]) hx hb dX12_root_24 hl (by decide) rfl (fun ls hl => ?_)
          refine lv_lload hx hb dX12_root_26 (lv_at hl 0 rfl) ?_
          refine lv_lload hx hb dX12_root_28 (lv_at hl 0 rfl) ?_
          refine lv_lmul hx hb dX12_root_30 ?_
          refine lv_lload_n hx hb dX12_root_31 rfl (lv_at hl 1 rfl) ?_
          refine W.lcmp hx hb dX12_root_32 ?_
          refine lv_if_gt (tgt := 42) hx hb dX12_root_33 (by decide) (fun c_3 => ?_) (fun c_3 => ?_)
          · have hF := it_t hF c_3
            refine lv_lload hx hb dX12_root_42 (lv_at hl 0 rfl) ?_
            refine lv_lstore (lv' := [(4, .long y_2), (6, .long y_2), (0, .long x0), (2, .long s7.1)]) hx hb dX12_root_44 hl (by decide) rfl (fun ls hl => ?_)
            exact j46 s7.1 y_2 hF _ _ _ hP hD hS (lv_sub hl [2, 3, 0] rfl)
          · have hF := it_f hF c_3
            refine lv_lload hx hb dX12_root_36 (lv_at hl 0 rfl) ?_
            refine lv_lstore_n (lv' := [(2, .long y_2), (6, .long y_2), (0, .long x0), (4, .long s7.2)]) hx hb dX12_root_38 rfl hl (by decide) rfl (fun ls hl => ?_)
            refine lv_goto (tgt := 46) hx hb dX12_root_39 (by decide) ?_
            exact j46 y_2 s7.2 hF _ _ _ hP hD hS (lv_sub hl [2, 0, 3] rfl)
    exact kl_7 n _ hL_7 _ _ _ hP hD hS hl
  refine lv_lconst (v := 0) hx hb dX12_root_0 (by decide) ?_
  refine lv_lstore_n (lv' := [(2, .long 0), (0, .long p0)]) hx hb dX12_root_1 rfl hl (by decide) rfl (fun ls hl => ?_)
  refine lv_ldc2 (v := 100000) hx hb hown (hta _ mA818) dX12_root_2 ?_
  refine lv_lstore (lv' := [(4, .long 100000), (2, .long 0), (0, .long p0)]) hx hb dX12_root_5 hl (by decide) rfl (fun ls hl => ?_)
  exact j7 p0 0 100000 hF _ _ _ hP hD hS (lv_sub hl [2, 1, 0] rfl)

-- StrokeOutlinerModel.saves()V
def F_X12_saves_j82 (v0_2 : Int32) (v0_1 : Nat → Int32) : Option (Int32 × (Nat → Int32)) :=
  lt (v0_2 + 1) (fun y_1 => some (y_1, v0_1))
def F_X12_saves_b50 (v0_2 : Int32) (v0_0 : Nat → Int32) (s50 : Int32 × (Nat → Int32)) : Option (Sum (Int32 × (Nat → Int32)) ((Nat → Int32))) :=
  if 86 ≤ s50.1 then some (.inr s50.2) else gd (decide (vpi s50.1 86)) (lt (v0_0 s50.1.toNatClampNeg) (fun y_4 => lt ((86 * v0_2) + s50.1) (fun y_5 => gd (decide (vpi y_5 344)) (lt (upd s50.2 y_5.toNatClampNeg y_4) (fun y_7 => lt (s50.1 + 1) (fun y_8 => some (.inl (y_8, y_7))))))))
def F_X12_saves_j50 (n : Nat) (v0_2 : Int32) (v0_0 : Nat → Int32) (v0_1 : Nat → Int32) (x1 : Int32) : Option (Int32 × (Nat → Int32)) :=
  obd (lpq (F_X12_saves_b50 v0_2 v0_0) n (x1, v0_1)) (fun x_50 => F_X12_saves_j82 v0_2 x_50)
def F_X12_saves_j48 (n : Nat) (v0_2 : Int32) (v0_0 : Nat → Int32) (v0_1 : Nat → Int32) : Option (Int32 × (Nat → Int32)) :=
  F_X12_saves_j50 n v0_2 v0_0 v0_1 0
def F_X12_saves_j38 (n : Nat) (v0_2 : Int32) (v0_0 : Nat → Int32) (v0_1 : Nat → Int32) : Option (Int32 × (Nat → Int32)) :=
  lt (v0_2 - 1) (fun y_9 => F_X12_saves_j48 n y_9 v0_0 v0_1)
def F_X12_saves_b10 (s10 : Int32 × (Nat → Int32)) : Option (Sum (Int32 × (Nat → Int32)) ((Nat → Int32))) :=
  if 258 ≤ s10.1 then some (.inr s10.2) else lt (s10.1 + 86) (fun y_11 => gd (decide (vpi y_11 344)) (lt (s10.2 y_11.toNatClampNeg) (fun y_13 => gd (decide (vpi s10.1 344)) (lt (upd s10.2 s10.1.toNatClampNeg y_13) (fun y_15 => lt (s10.1 + 1) (fun y_16 => some (.inl (y_16, y_15))))))))
def F_X12_saves_j10 (n : Nat) (v0_2 : Int32) (v0_0 : Nat → Int32) (v0_1 : Nat → Int32) (x1 : Int32) : Option (Int32 × (Nat → Int32)) :=
  obd (lpq F_X12_saves_b10 n (x1, v0_1)) (fun x_10 => F_X12_saves_j38 n v0_2 v0_0 x_10)
def F_X12_saves (n : Nat) (v0_2 : Int32) (v0_0 : Nat → Int32) (v0_1 : Nat → Int32) : Option (Int32 × (Nat → Int32)) :=
  if v0_2 = 4 then F_X12_saves_j10 n v0_2 v0_0 v0_1 0 else F_X12_saves_j48 n v0_2 v0_0 v0_1
abbrev wd_X12_saves (cI : ClassId) (a0 : Nat → Nat) (v0_2 : Int32) (v0_3 : Int32) (v0_5 : Int32) (v0_12 : Int32) (v0_13 : Int32) (v0_16 : Int32) (v0_17 : Int32) (v0_21 : Int32) (v0_23 : Int32) (v0_24 : Int32) (v0_25 : Int32) (v0_26 : Int32) (v0_29 : Int32) (v0_30 : Int64) (v0_0 : Nat → Int32) (v0_1 : Nat → Int32) : va_W := [(a0 0, .inr (11, [.ref (a0 1), .ref (a0 2), .int v0_2, .int v0_3, .ref (a0 5), .int v0_5, .ref (a0 7), .ref (a0 8), .ref (a0 9), .ref (a0 10), .ref (a0 11), .ref (a0 12), .int v0_12, .int v0_13, .ref (a0 15), .ref (a0 16), .int v0_16, .int v0_17, .ref (a0 19), .ref (a0 20), .ref (a0 21), .int v0_21, .ref (a0 23), .int v0_23, .int v0_24, .int v0_25, .int v0_26, .ref (a0 28), .ref (a0 29), .int v0_29, .long v0_30])), (a0 1, .inl (cI, 86, .inl v0_0)), (a0 2, .inl (cI, 344, .inl v0_1))]
abbrev wz_X12_saves : List Cond := .code yX12_saves cX12_saves 2 none :: wALL
abbrev rm_X12_saves : Room := { frames := 0, cells := 0, slots := 0, locals := 0 }
abbrev Q_X12_saves (dC : Nat → ClassId) (dI : Nat → Nat → Nat) (cI : ClassId) (a0 : Nat → Nat) (v0_3 : Int32) (v0_5 : Int32) (v0_12 : Int32) (v0_13 : Int32) (v0_16 : Int32) (v0_17 : Int32) (v0_21 : Int32) (v0_23 : Int32) (v0_24 : Int32) (v0_25 : Int32) (v0_26 : Int32) (v0_29 : Int32) (v0_30 : Int64) (v0_0 : Nat → Int32) (u : (Int32 × (Nat → Int32))) (A : Nat → Prop) : Array Value → State → Outcome → State → Prop := va_Qv (fun (_ : Unit) => True) (fun _ => q_at dC dI cI A (wd_X12_saves cI a0 u.1 v0_3 v0_5 v0_12 v0_13 v0_16 v0_17 v0_21 v0_23 v0_24 v0_25 v0_26 v0_29 v0_30 v0_0 u.2)) A
set_option maxHeartbeats 4000000 in
set_option maxRecDepth 100000 in
theorem c_X12_saves (l : Launch) (dC : Nat → ClassId) (dI : Nat → Nat → Nat) (cI : ClassId) (sz : Nat) (a0 : Nat → Nat) (v0_2 : Int32) (v0_3 : Int32) (v0_5 : Int32) (v0_12 : Int32) (v0_13 : Int32) (v0_16 : Int32) (v0_17 : Int32) (v0_21 : Int32) (v0_23 : Int32) (v0_24 : Int32) (v0_25 : Int32) (v0_26 : Int32) (v0_29 : Int32) (v0_30 : Int64) (v0_0 : Nat → Int32) (v0_1 : Nat → Int32) (n : Nat) (u : (Int32 × (Nat → Int32))) (hF : F_X12_saves n v0_2 v0_0 v0_1 = some u) : Met l yX12_saves wz_X12_saves rm_X12_saves (va_Pc [.ref (a0 0)] (q_pre dC dI cI (wd_X12_saves cI a0 v0_2 v0_3 v0_5 v0_12 v0_13 v0_16 v0_17 v0_21 v0_23 v0_24 v0_25 v0_26 v0_29 v0_30 v0_0 v0_1) sz)) (Q_X12_saves dC dI cI a0 v0_3 v0_5 v0_12 v0_13 v0_16 v0_17 v0_21 v0_23 v0_24 v0_25 v0_26 v0_29 v0_30 v0_0 u (va_A (wd_X12_saves cI a0 v0_2 v0_3 v0_5 v0_12 v0_13 v0_16 v0_17 v0_21 v0_23 v0_24 v0_25 v0_26 v0_29 v0_30 v0_0 v0_1) sz)) 0 0 (va_A (wd_X12_saves cI a0 v0_2 v0_3 v0_5 v0_12 v0_13 v0_16 v0_17 v0_21 v0_23 v0_24 v0_25 v0_26 v0_29 v0_30 v0_0 v0_1) sz) := by
  refine Met.ofW (cc := cX12_saves) (maxL := 2) (ret := none) (by decide) rfl ?_
  intro p e s m args below meth c s₁ B hml hv
  obtain ⟨rfl, hsz, hP, hK, hD0⟩ := hv
  have hx := B.exec
  have hb := B.bytes
  have hr := B.returns
  have hts := atoms_spec (ws := wz_X12_saves) B.pre
  have hta := wz_tl hts
  have hown : s.vm.findClass RX12 = some m.cls := findClass_of_methodNamed B.named
  have hlocks := B.notSynchronized
  subst hsz
  have hD := hD0.self (sz := s.heap.size)
  generalize hAe : va_A (wd_X12_saves cI a0 v0_2 v0_3 v0_5 v0_12 v0_13 v0_16 v0_17 v0_21 v0_23 v0_24 v0_25 v0_26 v0_29 v0_30 v0_0 v0_1) s.heap.size = A at hD ⊢
  have hA : ∀ q : Nat, s.heap.size ≤ q → A q := fun q h => by rw [← hAe]; exact Or.inr h
  have hS : va_S A s.heap s.heap [] := va_S.rf
  have hP : va_P (dC, dI) vwCl (wd_X12_saves cI a0 v0_2 v0_3 v0_5 v0_12 v0_13 v0_16 v0_17 v0_21 v0_23 v0_24 v0_25 v0_26 v0_29 v0_30 v0_0 v0_1) s.heap := hP
  have hl := lv_entry ([.ref (a0 0)]) (n := 2) (Nat.le_of_ble_eq_true rfl)
  rw [lg_entry_eq]
  generalize (lg_sl ([.ref (a0 0)]) ++ List.replicate (2 - (lg_sl ([.ref (a0 0)])).length) Slot.unset).toArray = ls at hl ⊢
  have hl : lv_has ls 2 [(0, .ref (a0 0))] := hl
  obtain ⟨H, hHe⟩ : ∃ H, H = s.heap := ⟨_, rfl⟩
  have hS : va_S A s.heap H [] := by rw [hHe]; exact hS
  have hP : va_P (dC, dI) vwCl (wd_X12_saves cI a0 v0_2 v0_3 v0_5 v0_12 v0_13 v0_16 v0_17 v0_21 v0_23 v0_24 v0_25 v0_26 v0_29 v0_30 v0_0 v0_1) H := by rw [hHe]; exact hP
  rw [← hHe]
  unfold F_X12_saves at hF
  have j82 : ∀ (v0_2 : Int32) (v0_1 : Nat → Int32), F_X12_saves_j82 v0_2 v0_1 = some u → ∀ (H : Heap) (locs : List Loc) (ls : Array Slot), va_P (dC, dI) vwCl (wd_X12_saves cI a0 v0_2 v0_3 v0_5 v0_12 v0_13 v0_16 v0_17 v0_21 v0_23 v0_24 v0_25 v0_26 v0_29 v0_30 v0_0 v0_1) H → va_D A (wd_X12_saves cI a0 v0_2 v0_3 v0_5 v0_12 v0_13 v0_16 v0_17 v0_21 v0_23 v0_24 v0_25 v0_26 v0_29 v0_30 v0_0 v0_1) → va_S A s.heap H locs → lv_has ls 2 [(0, .ref (a0 0))] → W p l e (headSpec wz_X12_saves rm_X12_saves).room s m [.ref (a0 0)].toArray below meth c H locs 0 0 (MQ below (Q_X12_saves dC dI cI a0 v0_3 v0_5 v0_12 v0_13 v0_16 v0_17 v0_21 v0_23 v0_24 v0_25 v0_26 v0_29 v0_30 v0_0 u A) [.ref (a0 0)].toArray s 0 0 A) (F0 m 82 ls []) := by
    intro v0_2 v0_1 hF H locs ls hP hD hS hl
    unfold F_X12_saves_j82 at hF
    refine lv_aload_n hx hb dX12_saves_82 rfl (lv_at hl 0 rfl) ?_
    refine lv_dup hx hb dX12_saves_83 rfl ?_
    refine va_get (D := (dC, dI)) (ci := 11) (v := .int v0_2) (C := RX12) (T := TX12) (N := 31) hx hb hta uw_X12 hown hK hP 0 rfl rfl 2 (by decide) (hta _ mA820) (fun _ h9 => h9) rfl dX12_saves_84 ?_
    refine lv_iconst (v := 1) hx hb dX12_saves_87 (by decide) ?_
    refine lv_iadd hx hb dX12_saves_88 ?_
    obtain ⟨y_1, ey_1, hF⟩ := lt_some hF
    refine lv_eqi ey_1 ?_
    refine va_put (D := (dC, dI)) (ci := 11) (v := .int y_1) (ty := .int) (C := RX12) (T := TX12) (N := 31) hx hb hta uw_X12 tyX12 tyX12_ok nmX12 hown hK hP hD hS 0 rfl rfl 2 (by decide) (hta _ mA820) (fun _ h9 => h9) rfl (by decide +kernel) rfl rfl (Nat.le_of_ble_eq_true rfl) dX12_saves_89 (fun H locs hP hD hS => ?_)
    have hP : va_P (dC, dI) vwCl (wd_X12_saves cI a0 y_1 v0_3 v0_5 v0_12 v0_13 v0_16 v0_17 v0_21 v0_23 v0_24 v0_25 v0_26 v0_29 v0_30 v0_0 v0_1) H := hP
    have hD : va_D A (wd_X12_saves cI a0 y_1 v0_3 v0_5 v0_12 v0_13 v0_16 v0_17 v0_21 v0_23 v0_24 v0_25 v0_26 v0_29 v0_30 v0_0 v0_1) := hD
    obtain rfl := Option.some.inj hF
    exact W.vret hx hb hr (fun t ht hW => ⟨⟨(), rfl, trivial, by rw [ht]; exact hP, va_K.moved hW.alike hK, hD⟩, hS.F ht⟩) hS.2.2 dX12_saves_92
  have j50 : ∀ (v0_2 : Int32) (v0_1 : Nat → Int32) (x1 : Int32), F_X12_saves_j50 n v0_2 v0_0 v0_1 x1 = some u → ∀ (H : Heap) (locs : List Loc) (ls : Array Slot), va_P (dC, dI) vwCl (wd_X12_saves cI a0 v0_2 v0_3 v0_5 v0_12 v0_13 v0_16 v0_17 v0_21 v0_23 v0_24 v0_25 v0_26 v0_29 v0_30 v0_0 v0_1) H → va_D A (wd_X12_saves cI a0 v0_2 v0_3 v0_5 v0_12 v0_13 v0_16 v0_17 v0_21 v0_23 v0_24 v0_25 v0_26 v0_29 v0_30 v0_0 v0_1) → va_S A s.heap H locs → lv_has ls 2 [(0, .ref (a0 0)), (1, .int x1)] → W p l e (headSpec wz_X12_saves rm_X12_saves).room s m [.ref (a0 0)].toArray below meth c H locs 0 0 (MQ below (Q_X12_saves dC dI cI a0 v0_3 v0_5 v0_12 v0_13 v0_16 v0_17 v0_21 v0_23 v0_24 v0_25 v0_26 v0_29 v0_30 v0_0 u A) [.ref (a0 0)].toArray s 0 0 A) (F0 m 50 ls []) := by
    intro v0_2 v0_1 x1 hF H locs ls hP hD hS hl
    unfold F_X12_saves_j50 at hF
    obtain ⟨x_50, hL_50, hE_50⟩ := obd_some hF
    have kl_50 : ∀ (k : Nat) (s50 : Int32 × (Nat → Int32)), lpq (F_X12_saves_b50 v0_2 v0_0) k s50 = some x_50 → ∀ (H : Heap) (locs : List Loc) (ls : Array Slot), va_P (dC, dI) vwCl (wd_X12_saves cI a0 v0_2 v0_3 v0_5 v0_12 v0_13 v0_16 v0_17 v0_21 v0_23 v0_24 v0_25 v0_26 v0_29 v0_30 v0_0 s50.2) H → va_D A (wd_X12_saves cI a0 v0_2 v0_3 v0_5 v0_12 v0_13 v0_16 v0_17 v0_21 v0_23 v0_24 v0_25 v0_26 v0_29 v0_30 v0_0 s50.2) → va_S A s.heap H locs → lv_has ls 2 [(0, .ref (a0 0)), (1, .int s50.1)] → W p l e (headSpec wz_X12_saves rm_X12_saves).room s m [.ref (a0 0)].toArray below meth c H locs 0 0 (MQ below (Q_X12_saves dC dI cI a0 v0_3 v0_5 v0_12 v0_13 v0_16 v0_17 v0_21 v0_23 v0_24 v0_25 v0_26 v0_29 v0_30 v0_0 u A) [.ref (a0 0)].toArray s 0 0 A) (F0 m 50 ls []) := by
      intro k
      induction k with
      | zero => intro s50 h; exact absurd h lpq_zero
      | succ k ih_50 =>
        intro s50 h H locs ls hP hD hS hl
        obtain ⟨o_50, hF, hO_50⟩ := lpq_succ h
        unfold F_X12_saves_b50 at hF
        refine lv_iload_n hx hb dX12_saves_50 rfl (lv_at hl 1 rfl) ?_
        refine lv_bipush (v := 86) hx hb dX12_saves_51 (by decide) ?_
        refine lv_icmp_ge (tgt := 82) hx hb dX12_saves_53 (by decide) (fun c_2 => ?_) (fun c_2 => ?_)
        · have hF := it_t hF c_2
          obtain rfl := Option.some.inj hF
          obtain rfl := lpq_x hO_50
          have hF := hE_50
          exact j82 v0_2 s50.2 hF _ _ _ hP hD hS (lv_sub hl [0] rfl)
        · have hF := it_f hF c_2
          refine lv_aload_n hx hb dX12_saves_56 rfl (lv_at hl 0 rfl) ?_
          refine va_get (D := (dC, dI)) (ci := 11) (v := .ref (a0 2)) (C := RX12) (T := TX12) (N := 31) hx hb hta uw_X12 hown hK hP 0 rfl rfl 1 (by decide) (hta _ mA791) (fun _ h9 => h9) rfl dX12_saves_57 ?_
          refine lv_bipush (v := 86) hx hb dX12_saves_60 (by decide) ?_
          refine lv_aload_n hx hb dX12_saves_62 rfl (lv_at hl 0 rfl) ?_
          refine va_get (D := (dC, dI)) (ci := 11) (v := .int v0_2) (C := RX12) (T := TX12) (N := 31) hx hb hta uw_X12 hown hK hP 0 rfl rfl 2 (by decide) (hta _ mA820) (fun _ h9 => h9) rfl dX12_saves_63 ?_
          refine lv_imul hx hb dX12_saves_66 ?_
          refine lv_iload_n hx hb dX12_saves_67 rfl (lv_at hl 1 rfl) ?_
          refine lv_iadd hx hb dX12_saves_68 ?_
          refine lv_aload_n hx hb dX12_saves_69 rfl (lv_at hl 0 rfl) ?_
          refine va_get (D := (dC, dI)) (ci := 11) (v := .ref (a0 1)) (C := RX12) (T := TX12) (N := 31) hx hb hta uw_X12 hown hK hP 0 rfl rfl 0 (by decide) (hta _ mA790) (fun _ h9 => h9) rfl dX12_saves_70 ?_
          refine lv_iload_n hx hb dX12_saves_73 rfl (lv_at hl 1 rfl) ?_
          obtain ⟨g_3, hF⟩ := gd_some hF
          refine va_iald hx hb hK hP 1 0 rfl rfl (vpi_in g_3) dX12_saves_74 ?_
          obtain ⟨y_4, ey_4, hF⟩ := lt_some hF
          refine lv_eqi ey_4 ?_
          obtain ⟨y_5, ey_5, hF⟩ := lt_some hF
          refine lv_eq2i ey_5 ?_
          obtain ⟨g_6, hF⟩ := gd_some hF
          refine va_iast hx hb hK hP hD hS 2 0 rfl rfl (vpi_in g_6) dX12_saves_75 (fun H locs hP hD hS => ?_)
          obtain ⟨y_7, ey_7, hF⟩ := lt_some hF
          have hP : va_P (dC, dI) vwCl (wd_X12_saves cI a0 v0_2 v0_3 v0_5 v0_12 v0_13 v0_16 v0_17 v0_21 v0_23 v0_24 v0_25 v0_26 v0_29 v0_30 v0_0 y_7) H := by rw [ey_7]; exact hP
          have hD : va_D A (wd_X12_saves cI a0 v0_2 v0_3 v0_5 v0_12 v0_13 v0_16 v0_17 v0_21 v0_23 v0_24 v0_25 v0_26 v0_29 v0_30 v0_0 y_7) := by rw [ey_7]; exact hD
          obtain ⟨y_8, ey_8, hF⟩ := lt_some hF
          refine lv_iinc (v := y_8) (lv' := [(1, .int y_8), (0, .ref (a0 0))]) hx hb dX12_saves_76 hl (k := 1) rfl (by rw [ey_8]; rfl) (by decide) rfl (fun ls hl => ?_)
          refine lv_goto (tgt := 50) hx hb dX12_saves_79 (by decide) ?_
          obtain rfl := Option.some.inj hF
          exact ih_50 _ hO_50 _ _ _ hP hD hS (lv_sub hl [1, 0] rfl)
    exact kl_50 n _ hL_50 _ _ _ hP hD hS hl
  have j48 : ∀ (v0_2 : Int32) (v0_1 : Nat → Int32), F_X12_saves_j48 n v0_2 v0_0 v0_1 = some u → ∀ (H : Heap) (locs : List Loc) (ls : Array Slot), va_P (dC, dI) vwCl (wd_X12_saves cI a0 v0_2 v0_3 v0_5 v0_12 v0_13 v0_16 v0_17 v0_21 v0_23 v0_24 v0_25 v0_26 v0_29 v0_30 v0_0 v0_1) H → va_D A (wd_X12_saves cI a0 v0_2 v0_3 v0_5 v0_12 v0_13 v0_16 v0_17 v0_21 v0_23 v0_24 v0_25 v0_26 v0_29 v0_30 v0_0 v0_1) → va_S A s.heap H locs → lv_has ls 2 [(0, .ref (a0 0))] → W p l e (headSpec wz_X12_saves rm_X12_saves).room s m [.ref (a0 0)].toArray below meth c H locs 0 0 (MQ below (Q_X12_saves dC dI cI a0 v0_3 v0_5 v0_12 v0_13 v0_16 v0_17 v0_21 v0_23 v0_24 v0_25 v0_26 v0_29 v0_30 v0_0 u A) [.ref (a0 0)].toArray s 0 0 A) (F0 m 48 ls []) := by
    intro v0_2 v0_1 hF H locs ls hP hD hS hl
    unfold F_X12_saves_j48 at hF
    refine lv_iconst (v := 0) hx hb dX12_saves_48 (by decide) ?_
    refine lv_istore_n (lv' := [(1, .int 0), (0, .ref (a0 0))]) hx hb dX12_saves_49 rfl hl (by decide) rfl (fun ls hl => ?_)
    exact j50 v0_2 v0_1 0 hF _ _ _ hP hD hS (lv_sub hl [1, 0] rfl)
  have j38 : ∀ (v0_2 : Int32) (v0_1 : Nat → Int32), F_X12_saves_j38 n v0_2 v0_0 v0_1 = some u → ∀ (H : Heap) (locs : List Loc) (ls : Array Slot), va_P (dC, dI) vwCl (wd_X12_saves cI a0 v0_2 v0_3 v0_5 v0_12 v0_13 v0_16 v0_17 v0_21 v0_23 v0_24 v0_25 v0_26 v0_29 v0_30 v0_0 v0_1) H → va_D A (wd_X12_saves cI a0 v0_2 v0_3 v0_5 v0_12 v0_13 v0_16 v0_17 v0_21 v0_23 v0_24 v0_25 v0_26 v0_29 v0_30 v0_0 v0_1) → va_S A s.heap H locs → lv_has ls 2 [(0, .ref (a0 0))] → W p l e (headSpec wz_X12_saves rm_X12_saves).room s m [.ref (a0 0)].toArray below meth c H locs 0 0 (MQ below (Q_X12_saves dC dI cI a0 v0_3 v0_5 v0_12 v0_13 v0_16 v0_17 v0_21 v0_23 v0_24 v0_25 v0_26 v0_29 v0_30 v0_0 u A) [.ref (a0 0)].toArray s 0 0 A) (F0 m 38 ls []) := by
    intro v0_2 v0_1 hF H locs ls hP hD hS hl
    unfold F_X12_saves_j38 at hF
    refine lv_aload_n hx hb dX12_saves_38 rfl (lv_at hl 0 rfl) ?_
    refine lv_dup hx hb dX12_saves_39 rfl ?_
    refine va_get (D := (dC, dI)) (ci := 11) (v := .int v0_2) (C := RX12) (T := TX12) (N := 31) hx hb hta uw_X12 hown hK hP 0 rfl rfl 2 (by decide) (hta _ mA820) (fun _ h9 => h9) rfl dX12_saves_40 ?_
    refine lv_iconst (v := 1) hx hb dX12_saves_43 (by decide) ?_
    refine lv_isub hx hb dX12_saves_44 ?_
    obtain ⟨y_9, ey_9, hF⟩ := lt_some hF
    refine lv_eqi ey_9 ?_
    refine va_put (D := (dC, dI)) (ci := 11) (v := .int y_9) (ty := .int) (C := RX12) (T := TX12) (N := 31) hx hb hta uw_X12 tyX12 tyX12_ok nmX12 hown hK hP hD hS 0 rfl rfl 2 (by decide) (hta _ mA820) (fun _ h9 => h9) rfl (by decide +kernel) rfl rfl (Nat.le_of_ble_eq_true rfl) dX12_saves_45 (fun H locs hP hD hS => ?_)
    have hP : va_P (dC, dI) vwCl (wd_X12_saves cI a0 y_9 v0_3 v0_5 v0_12 v0_13 v0_16 v0_17 v0_21 v0_23 v0_24 v0_25 v0_26 v0_29 v0_30 v0_0 v0_1) H := hP
    have hD : va_D A (wd_X12_saves cI a0 y_9 v0_3 v0_5 v0_12 v0_13 v0_16 v0_17 v0_21 v0_23 v0_24 v0_25 v0_26 v0_29 v0_30 v0_0 v0_1) := hD
    exact j48 y_9 v0_1 hF _ _ _ hP hD hS (lv_sub hl [0] rfl)
  have j10 : ∀ (v0_2 : Int32) (v0_1 : Nat → Int32) (x1 : Int32), F_X12_saves_j10 n v0_2 v0_0 v0_1 x1 = some u → ∀ (H : Heap) (locs : List Loc) (ls : Array Slot), va_P (dC, dI) vwCl (wd_X12_saves cI a0 v0_2 v0_3 v0_5 v0_12 v0_13 v0_16 v0_17 v0_21 v0_23 v0_24 v0_25 v0_26 v0_29 v0_30 v0_0 v0_1) H → va_D A (wd_X12_saves cI a0 v0_2 v0_3 v0_5 v0_12 v0_13 v0_16 v0_17 v0_21 v0_23 v0_24 v0_25 v0_26 v0_29 v0_30 v0_0 v0_1) → va_S A s.heap H locs → lv_has ls 2 [(0, .ref (a0 0)), (1, .int x1)] → W p l e (headSpec wz_X12_saves rm_X12_saves).room s m [.ref (a0 0)].toArray below meth c H locs 0 0 (MQ below (Q_X12_saves dC dI cI a0 v0_3 v0_5 v0_12 v0_13 v0_16 v0_17 v0_21 v0_23 v0_24 v0_25 v0_26 v0_29 v0_30 v0_0 u A) [.ref (a0 0)].toArray s 0 0 A) (F0 m 10 ls []) := by
    intro v0_2 v0_1 x1 hF H locs ls hP hD hS hl
    unfold F_X12_saves_j10 at hF
    obtain ⟨x_10, hL_10, hE_10⟩ := obd_some hF
    have kl_10 : ∀ (k : Nat) (s10 : Int32 × (Nat → Int32)), lpq F_X12_saves_b10 k s10 = some x_10 → ∀ (H : Heap) (locs : List Loc) (ls : Array Slot), va_P (dC, dI) vwCl (wd_X12_saves cI a0 v0_2 v0_3 v0_5 v0_12 v0_13 v0_16 v0_17 v0_21 v0_23 v0_24 v0_25 v0_26 v0_29 v0_30 v0_0 s10.2) H → va_D A (wd_X12_saves cI a0 v0_2 v0_3 v0_5 v0_12 v0_13 v0_16 v0_17 v0_21 v0_23 v0_24 v0_25 v0_26 v0_29 v0_30 v0_0 s10.2) → va_S A s.heap H locs → lv_has ls 2 [(0, .ref (a0 0)), (1, .int s10.1)] → W p l e (headSpec wz_X12_saves rm_X12_saves).room s m [.ref (a0 0)].toArray below meth c H locs 0 0 (MQ below (Q_X12_saves dC dI cI a0 v0_3 v0_5 v0_12 v0_13 v0_16 v0_17 v0_21 v0_23 v0_24 v0_25 v0_26 v0_29 v0_30 v0_0 u A) [.ref (a0 0)].toArray s 0 0 A) (F0 m 10 ls []) := by
      intro k
      induction k with
      | zero => intro s10 h; exact absurd h lpq_zero
      | succ k ih_10 =>
        intro s10 h H locs ls hP hD hS hl
        obtain ⟨o_10, hF, hO_10⟩ := lpq_succ h
        unfold F_X12_saves_b10 at hF
        refine lv_iload_n hx hb dX12_saves_10 rfl (lv_at hl 1 rfl) ?_
        refine lv_sipush (v := 258) hx hb dX12_saves_11 (by decide) ?_
        refine lv_icmp_ge (tgt := 38) hx hb dX12_saves_14 (by decide) (fun c_10 => ?_) (fun c_10 => ?_)
        · have hF := it_t hF c_10
          obtain rfl := Option.some.inj hF
          obtain rfl := lpq_x hO_10
          have hF := hE_10
          exact j38 v0_2 s10.2 hF _ _ _ hP hD hS (lv_sub hl [0] rfl)
        · have hF := it_f hF c_10
          refine lv_aload_n hx hb dX12_saves_17 rfl (lv_at hl 0 rfl) ?_
          refine va_get (D := (dC, dI)) (ci := 11) (v := .ref (a0 2)) (C := RX12) (T := TX12) (N := 31) hx hb hta uw_X12 hown hK hP 0 rfl rfl 1 (by decide) (hta _ mA791) (fun _ h9 => h9) rfl dX12_saves_18 ?_
          refine lv_iload_n hx hb dX12_saves_21 rfl (lv_at hl 1 rfl) ?_
          refine lv_aload_n hx hb dX12_saves_22 rfl (lv_at hl 0 rfl) ?_
          refine va_get (D := (dC, dI)) (ci := 11) (v := .ref (a0 2)) (C := RX12) (T := TX12) (N := 31) hx hb hta uw_X12 hown hK hP 0 rfl rfl 1 (by decide) (hta _ mA791) (fun _ h9 => h9) rfl dX12_saves_23 ?_
          refine lv_iload_n hx hb dX12_saves_26 rfl (lv_at hl 1 rfl) ?_
          refine lv_bipush (v := 86) hx hb dX12_saves_27 (by decide) ?_
          refine lv_iadd hx hb dX12_saves_29 ?_
          obtain ⟨y_11, ey_11, hF⟩ := lt_some hF
          refine lv_eqi ey_11 ?_
          obtain ⟨g_12, hF⟩ := gd_some hF
          refine va_iald hx hb hK hP 2 0 rfl rfl (vpi_in g_12) dX12_saves_30 ?_
          obtain ⟨y_13, ey_13, hF⟩ := lt_some hF
          refine lv_eqi ey_13 ?_
          obtain ⟨g_14, hF⟩ := gd_some hF
          refine va_iast hx hb hK hP hD hS 2 0 rfl rfl (vpi_in g_14) dX12_saves_31 (fun H locs hP hD hS => ?_)
          obtain ⟨y_15, ey_15, hF⟩ := lt_some hF
          have hP : va_P (dC, dI) vwCl (wd_X12_saves cI a0 v0_2 v0_3 v0_5 v0_12 v0_13 v0_16 v0_17 v0_21 v0_23 v0_24 v0_25 v0_26 v0_29 v0_30 v0_0 y_15) H := by rw [ey_15]; exact hP
          have hD : va_D A (wd_X12_saves cI a0 v0_2 v0_3 v0_5 v0_12 v0_13 v0_16 v0_17 v0_21 v0_23 v0_24 v0_25 v0_26 v0_29 v0_30 v0_0 y_15) := by rw [ey_15]; exact hD
          obtain ⟨y_16, ey_16, hF⟩ := lt_some hF
          refine lv_iinc (v := y_16) (lv' := [(1, .int y_16), (0, .ref (a0 0))]) hx hb dX12_saves_32 hl (k := 1) rfl (by rw [ey_16]; rfl) (by decide) rfl (fun ls hl => ?_)
          refine lv_goto (tgt := 10) hx hb dX12_saves_35 (by decide) ?_
          obtain rfl := Option.some.inj hF
          exact ih_10 _ hO_10 _ _ _ hP hD hS (lv_sub hl [1, 0] rfl)
    exact kl_10 n _ hL_10 _ _ _ hP hD hS hl
  refine lv_aload_n hx hb dX12_saves_0 rfl (lv_at hl 0 rfl) ?_
  refine va_get (D := (dC, dI)) (ci := 11) (v := .int v0_2) (C := RX12) (T := TX12) (N := 31) hx hb hta uw_X12 hown hK hP 0 rfl rfl 2 (by decide) (hta _ mA820) (fun _ h9 => h9) rfl dX12_saves_1 ?_
  refine lv_iconst (v := 4) hx hb dX12_saves_4 (by decide) ?_
  refine lv_icmp_ne (tgt := 48) hx hb dX12_saves_5 (by decide) (fun c_17 => ?_) (fun c_17 => ?_)
  · have hF := it_f hF c_17
    exact j48 v0_2 v0_1 hF _ _ _ hP hD hS (lv_sub hl [0] rfl)
  · have hF := it_t hF c_17
    refine lv_iconst (v := 0) hx hb dX12_saves_8 (by decide) ?_
    refine lv_istore_n (lv' := [(1, .int 0), (0, .ref (a0 0))]) hx hb dX12_saves_9 rfl hl (by decide) rfl (fun ls hl => ?_)
    exact j10 v0_2 v0_1 0 hF _ _ _ hP hD hS (lv_sub hl [1, 0] rfl)

-- StrokeOutlinerModel.undo()I
def F_X12_undo_j65 (v0_2 : Int32) (v0_3 : Int32) (v0_0 : Nat → Int32) : Option (Int32 × Int32 × Int32 × (Nat → Int32)) :=
  some (v0_2, v0_2, v0_3, v0_0)
def F_X12_undo_b33 (v0_2 : Int32) (v0_1 : Nat → Int32) (s33 : Int32 × (Nat → Int32)) : Option (Sum (Int32 × (Nat → Int32)) ((Nat → Int32))) :=
  if 86 ≤ s33.1 then some (.inr s33.2) else lt ((86 * v0_2) + s33.1) (fun y_2 => gd (decide (vpi y_2 344)) (lt (v0_1 y_2.toNatClampNeg) (fun y_4 => gd (decide (vpi s33.1 86)) (lt (upd s33.2 s33.1.toNatClampNeg y_4) (fun y_6 => lt (s33.1 + 1) (fun y_7 => some (.inl (y_7, y_6))))))))
def F_X12_undo_j33 (n : Nat) (v0_2 : Int32) (v0_3 : Int32) (v0_0 : Nat → Int32) (v0_1 : Nat → Int32) (x1 : Int32) : Option (Int32 × Int32 × Int32 × (Nat → Int32)) :=
  obd (lpq (F_X12_undo_b33 v0_2 v0_1) n (x1, v0_0)) (fun x_33 => F_X12_undo_j65 v0_2 v0_3 x_33)
def F_X12_undo_j13 (n : Nat) (v0_2 : Int32) (v0_0 : Nat → Int32) (v0_1 : Nat → Int32) (t1 : Int32) : Option (Int32 × Int32 × Int32 × (Nat → Int32)) :=
  lt (F_X12_refused t1) (fun u_8 => if u_8.1 = 0 then lt (v0_2 - 1) (fun y_10 => F_X12_undo_j33 n y_10 u_8.2 v0_0 v0_1 0) else some (0, v0_2, u_8.2, v0_0))
def F_X12_undo (n : Nat) (v0_2 : Int32) (v0_0 : Nat → Int32) (v0_1 : Nat → Int32) : Option (Int32 × Int32 × Int32 × (Nat → Int32)) :=
  if v0_2 = 0 then F_X12_undo_j13 n v0_2 v0_0 v0_1 1 else F_X12_undo_j13 n v0_2 v0_0 v0_1 0
abbrev wd_X12_undo (cI : ClassId) (a0 : Nat → Nat) (v0_2 : Int32) (v0_3 : Int32) (v0_5 : Int32) (v0_12 : Int32) (v0_13 : Int32) (v0_16 : Int32) (v0_17 : Int32) (v0_21 : Int32) (v0_23 : Int32) (v0_24 : Int32) (v0_25 : Int32) (v0_26 : Int32) (v0_29 : Int32) (v0_30 : Int64) (v0_0 : Nat → Int32) (v0_1 : Nat → Int32) : va_W := [(a0 0, .inr (11, [.ref (a0 1), .ref (a0 2), .int v0_2, .int v0_3, .ref (a0 5), .int v0_5, .ref (a0 7), .ref (a0 8), .ref (a0 9), .ref (a0 10), .ref (a0 11), .ref (a0 12), .int v0_12, .int v0_13, .ref (a0 15), .ref (a0 16), .int v0_16, .int v0_17, .ref (a0 19), .ref (a0 20), .ref (a0 21), .int v0_21, .ref (a0 23), .int v0_23, .int v0_24, .int v0_25, .int v0_26, .ref (a0 28), .ref (a0 29), .int v0_29, .long v0_30])), (a0 1, .inl (cI, 86, .inl v0_0)), (a0 2, .inl (cI, 344, .inl v0_1))]
abbrev wz_X12_undo : List Cond := .code yX12_undo cX12_undo 2 (some .int) :: wALL
abbrev rm_X12_undo : Room := { frames := 1, cells := 0, slots := 0, locals := 21 }
abbrev Q_X12_undo (dC : Nat → ClassId) (dI : Nat → Nat → Nat) (cI : ClassId) (a0 : Nat → Nat) (v0_5 : Int32) (v0_12 : Int32) (v0_13 : Int32) (v0_16 : Int32) (v0_17 : Int32) (v0_21 : Int32) (v0_23 : Int32) (v0_24 : Int32) (v0_25 : Int32) (v0_26 : Int32) (v0_29 : Int32) (v0_30 : Int64) (v0_1 : Nat → Int32) (u : (Int32 × Int32 × Int32 × (Nat → Int32))) (A : Nat → Prop) : Array Value → State → Outcome → State → Prop := va_Qi (fun (r : Int32) (_ : Unit) => r = u.1) (fun _ => q_at dC dI cI A (wd_X12_undo cI a0 u.2.1 u.2.2.1 v0_5 v0_12 v0_13 v0_16 v0_17 v0_21 v0_23 v0_24 v0_25 v0_26 v0_29 v0_30 u.2.2.2 v0_1)) A
set_option maxHeartbeats 4000000 in
set_option maxRecDepth 100000 in
theorem c_X12_undo (l : Launch) (dC : Nat → ClassId) (dI : Nat → Nat → Nat) (cI : ClassId) (sz : Nat) (a0 : Nat → Nat) (v0_2 : Int32) (v0_3 : Int32) (v0_5 : Int32) (v0_12 : Int32) (v0_13 : Int32) (v0_16 : Int32) (v0_17 : Int32) (v0_21 : Int32) (v0_23 : Int32) (v0_24 : Int32) (v0_25 : Int32) (v0_26 : Int32) (v0_29 : Int32) (v0_30 : Int64) (v0_0 : Nat → Int32) (v0_1 : Nat → Int32) (n : Nat) (u : (Int32 × Int32 × Int32 × (Nat → Int32))) (hF : F_X12_undo n v0_2 v0_0 v0_1 = some u) : Met l yX12_undo wz_X12_undo rm_X12_undo (va_Pc [.ref (a0 0)] (q_pre dC dI cI (wd_X12_undo cI a0 v0_2 v0_3 v0_5 v0_12 v0_13 v0_16 v0_17 v0_21 v0_23 v0_24 v0_25 v0_26 v0_29 v0_30 v0_0 v0_1) sz)) (Q_X12_undo dC dI cI a0 v0_5 v0_12 v0_13 v0_16 v0_17 v0_21 v0_23 v0_24 v0_25 v0_26 v0_29 v0_30 v0_1 u (va_A (wd_X12_undo cI a0 v0_2 v0_3 v0_5 v0_12 v0_13 v0_16 v0_17 v0_21 v0_23 v0_24 v0_25 v0_26 v0_29 v0_30 v0_0 v0_1) sz)) 0 0 (va_A (wd_X12_undo cI a0 v0_2 v0_3 v0_5 v0_12 v0_13 v0_16 v0_17 v0_21 v0_23 v0_24 v0_25 v0_26 v0_29 v0_30 v0_0 v0_1) sz) := by
  refine Met.ofW (cc := cX12_undo) (maxL := 2) (ret := (some .int)) (by decide) rfl ?_
  intro p e s m args below meth c s₁ B hml hv
  obtain ⟨rfl, hsz, hP, hK, hD0⟩ := hv
  have hx := B.exec
  have hb := B.bytes
  have hr := B.returns
  have hts := atoms_spec (ws := wz_X12_undo) B.pre
  have hta := wz_tl hts
  have hown : s.vm.findClass RX12 = some m.cls := findClass_of_methodNamed B.named
  have hlocks := B.notSynchronized
  subst hsz
  have hD := hD0.self (sz := s.heap.size)
  generalize hAe : va_A (wd_X12_undo cI a0 v0_2 v0_3 v0_5 v0_12 v0_13 v0_16 v0_17 v0_21 v0_23 v0_24 v0_25 v0_26 v0_29 v0_30 v0_0 v0_1) s.heap.size = A at hD ⊢
  have hA : ∀ q : Nat, s.heap.size ≤ q → A q := fun q h => by rw [← hAe]; exact Or.inr h
  have hS : va_S A s.heap s.heap [] := va_S.rf
  have hP : va_P (dC, dI) vwCl (wd_X12_undo cI a0 v0_2 v0_3 v0_5 v0_12 v0_13 v0_16 v0_17 v0_21 v0_23 v0_24 v0_25 v0_26 v0_29 v0_30 v0_0 v0_1) s.heap := hP
  have hl := lv_entry ([.ref (a0 0)]) (n := 2) (Nat.le_of_ble_eq_true rfl)
  rw [lg_entry_eq]
  generalize (lg_sl ([.ref (a0 0)]) ++ List.replicate (2 - (lg_sl ([.ref (a0 0)])).length) Slot.unset).toArray = ls at hl ⊢
  have hl : lv_has ls 2 [(0, .ref (a0 0))] := hl
  obtain ⟨H, hHe⟩ : ∃ H, H = s.heap := ⟨_, rfl⟩
  have hS : va_S A s.heap H [] := by rw [hHe]; exact hS
  have hP : va_P (dC, dI) vwCl (wd_X12_undo cI a0 v0_2 v0_3 v0_5 v0_12 v0_13 v0_16 v0_17 v0_21 v0_23 v0_24 v0_25 v0_26 v0_29 v0_30 v0_0 v0_1) H := by rw [hHe]; exact hP
  rw [← hHe]
  unfold F_X12_undo at hF
  have j65 : ∀ (v0_2 : Int32) (v0_3 : Int32) (v0_0 : Nat → Int32), F_X12_undo_j65 v0_2 v0_3 v0_0 = some u → ∀ (H : Heap) (locs : List Loc) (ls : Array Slot), va_P (dC, dI) vwCl (wd_X12_undo cI a0 v0_2 v0_3 v0_5 v0_12 v0_13 v0_16 v0_17 v0_21 v0_23 v0_24 v0_25 v0_26 v0_29 v0_30 v0_0 v0_1) H → va_D A (wd_X12_undo cI a0 v0_2 v0_3 v0_5 v0_12 v0_13 v0_16 v0_17 v0_21 v0_23 v0_24 v0_25 v0_26 v0_29 v0_30 v0_0 v0_1) → va_S A s.heap H locs → lv_has ls 2 [(0, .ref (a0 0))] → W p l e (headSpec wz_X12_undo rm_X12_undo).room s m [.ref (a0 0)].toArray below meth c H locs 0 0 (MQ below (Q_X12_undo dC dI cI a0 v0_5 v0_12 v0_13 v0_16 v0_17 v0_21 v0_23 v0_24 v0_25 v0_26 v0_29 v0_30 v0_1 u A) [.ref (a0 0)].toArray s 0 0 A) (F0 m 65 ls []) := by
    intro v0_2 v0_3 v0_0 hF H locs ls hP hD hS hl
    unfold F_X12_undo_j65 at hF
    refine lv_aload_n hx hb dX12_undo_65 rfl (lv_at hl 0 rfl) ?_
    refine va_get (D := (dC, dI)) (ci := 11) (v := .int v0_2) (C := RX12) (T := TX12) (N := 31) hx hb hta uw_X12 hown hK hP 0 rfl rfl 2 (by decide) (hta _ mA820) (fun _ h9 => h9) rfl dX12_undo_66 ?_
    obtain rfl := Option.some.inj hF
    exact W.iret (v := v0_2) hx hb hr (fun t ht hW => ⟨⟨v0_2, (), rfl, rfl, by rw [ht]; exact hP, va_K.moved hW.alike hK, hD⟩, hS.F ht⟩) hS.2.2 dX12_undo_69
  have j33 : ∀ (v0_2 : Int32) (v0_3 : Int32) (v0_0 : Nat → Int32) (x1 : Int32), F_X12_undo_j33 n v0_2 v0_3 v0_0 v0_1 x1 = some u → ∀ (H : Heap) (locs : List Loc) (ls : Array Slot), va_P (dC, dI) vwCl (wd_X12_undo cI a0 v0_2 v0_3 v0_5 v0_12 v0_13 v0_16 v0_17 v0_21 v0_23 v0_24 v0_25 v0_26 v0_29 v0_30 v0_0 v0_1) H → va_D A (wd_X12_undo cI a0 v0_2 v0_3 v0_5 v0_12 v0_13 v0_16 v0_17 v0_21 v0_23 v0_24 v0_25 v0_26 v0_29 v0_30 v0_0 v0_1) → va_S A s.heap H locs → lv_has ls 2 [(0, .ref (a0 0)), (1, .int x1)] → W p l e (headSpec wz_X12_undo rm_X12_undo).room s m [.ref (a0 0)].toArray below meth c H locs 0 0 (MQ below (Q_X12_undo dC dI cI a0 v0_5 v0_12 v0_13 v0_16 v0_17 v0_21 v0_23 v0_24 v0_25 v0_26 v0_29 v0_30 v0_1 u A) [.ref (a0 0)].toArray s 0 0 A) (F0 m 33 ls []) := by
    intro v0_2 v0_3 v0_0 x1 hF H locs ls hP hD hS hl
    unfold F_X12_undo_j33 at hF
    obtain ⟨x_33, hL_33, hE_33⟩ := obd_some hF
    have kl_33 : ∀ (k : Nat) (s33 : Int32 × (Nat → Int32)), lpq (F_X12_undo_b33 v0_2 v0_1) k s33 = some x_33 → ∀ (H : Heap) (locs : List Loc) (ls : Array Slot), va_P (dC, dI) vwCl (wd_X12_undo cI a0 v0_2 v0_3 v0_5 v0_12 v0_13 v0_16 v0_17 v0_21 v0_23 v0_24 v0_25 v0_26 v0_29 v0_30 s33.2 v0_1) H → va_D A (wd_X12_undo cI a0 v0_2 v0_3 v0_5 v0_12 v0_13 v0_16 v0_17 v0_21 v0_23 v0_24 v0_25 v0_26 v0_29 v0_30 s33.2 v0_1) → va_S A s.heap H locs → lv_has ls 2 [(0, .ref (a0 0)), (1, .int s33.1)] → W p l e (headSpec wz_X12_undo rm_X12_undo).room s m [.ref (a0 0)].toArray below meth c H locs 0 0 (MQ below (Q_X12_undo dC dI cI a0 v0_5 v0_12 v0_13 v0_16 v0_17 v0_21 v0_23 v0_24 v0_25 v0_26 v0_29 v0_30 v0_1 u A) [.ref (a0 0)].toArray s 0 0 A) (F0 m 33 ls []) := by
      intro k
      induction k with
      | zero => intro s33 h; exact absurd h lpq_zero
      | succ k ih_33 =>
        intro s33 h H locs ls hP hD hS hl
        obtain ⟨o_33, hF, hO_33⟩ := lpq_succ h
        unfold F_X12_undo_b33 at hF
        refine lv_iload_n hx hb dX12_undo_33 rfl (lv_at hl 1 rfl) ?_
        refine lv_bipush (v := 86) hx hb dX12_undo_34 (by decide) ?_
        refine lv_icmp_ge (tgt := 65) hx hb dX12_undo_36 (by decide) (fun c_1 => ?_) (fun c_1 => ?_)
        · have hF := it_t hF c_1
          obtain rfl := Option.some.inj hF
          obtain rfl := lpq_x hO_33
          have hF := hE_33
          exact j65 v0_2 v0_3 s33.2 hF _ _ _ hP hD hS (lv_sub hl [0] rfl)
        · have hF := it_f hF c_1
          refine lv_aload_n hx hb dX12_undo_39 rfl (lv_at hl 0 rfl) ?_
          refine va_get (D := (dC, dI)) (ci := 11) (v := .ref (a0 1)) (C := RX12) (T := TX12) (N := 31) hx hb hta uw_X12 hown hK hP 0 rfl rfl 0 (by decide) (hta _ mA790) (fun _ h9 => h9) rfl dX12_undo_40 ?_
          refine lv_iload_n hx hb dX12_undo_43 rfl (lv_at hl 1 rfl) ?_
          refine lv_aload_n hx hb dX12_undo_44 rfl (lv_at hl 0 rfl) ?_
          refine va_get (D := (dC, dI)) (ci := 11) (v := .ref (a0 2)) (C := RX12) (T := TX12) (N := 31) hx hb hta uw_X12 hown hK hP 0 rfl rfl 1 (by decide) (hta _ mA791) (fun _ h9 => h9) rfl dX12_undo_45 ?_
          refine lv_bipush (v := 86) hx hb dX12_undo_48 (by decide) ?_
          refine lv_aload_n hx hb dX12_undo_50 rfl (lv_at hl 0 rfl) ?_
          refine va_get (D := (dC, dI)) (ci := 11) (v := .int v0_2) (C := RX12) (T := TX12) (N := 31) hx hb hta uw_X12 hown hK hP 0 rfl rfl 2 (by decide) (hta _ mA820) (fun _ h9 => h9) rfl dX12_undo_51 ?_
          refine lv_imul hx hb dX12_undo_54 ?_
          refine lv_iload_n hx hb dX12_undo_55 rfl (lv_at hl 1 rfl) ?_
          refine lv_iadd hx hb dX12_undo_56 ?_
          obtain ⟨y_2, ey_2, hF⟩ := lt_some hF
          refine lv_eqi ey_2 ?_
          obtain ⟨g_3, hF⟩ := gd_some hF
          refine va_iald hx hb hK hP 2 0 rfl rfl (vpi_in g_3) dX12_undo_57 ?_
          obtain ⟨y_4, ey_4, hF⟩ := lt_some hF
          refine lv_eqi ey_4 ?_
          obtain ⟨g_5, hF⟩ := gd_some hF
          refine va_iast hx hb hK hP hD hS 1 0 rfl rfl (vpi_in g_5) dX12_undo_58 (fun H locs hP hD hS => ?_)
          obtain ⟨y_6, ey_6, hF⟩ := lt_some hF
          have hP : va_P (dC, dI) vwCl (wd_X12_undo cI a0 v0_2 v0_3 v0_5 v0_12 v0_13 v0_16 v0_17 v0_21 v0_23 v0_24 v0_25 v0_26 v0_29 v0_30 y_6 v0_1) H := by rw [ey_6]; exact hP
          have hD : va_D A (wd_X12_undo cI a0 v0_2 v0_3 v0_5 v0_12 v0_13 v0_16 v0_17 v0_21 v0_23 v0_24 v0_25 v0_26 v0_29 v0_30 y_6 v0_1) := by rw [ey_6]; exact hD
          obtain ⟨y_7, ey_7, hF⟩ := lt_some hF
          refine lv_iinc (v := y_7) (lv' := [(1, .int y_7), (0, .ref (a0 0))]) hx hb dX12_undo_59 hl (k := 1) rfl (by rw [ey_7]; rfl) (by decide) rfl (fun ls hl => ?_)
          refine lv_goto (tgt := 33) hx hb dX12_undo_62 (by decide) ?_
          obtain rfl := Option.some.inj hF
          exact ih_33 _ hO_33 _ _ _ hP hD hS (lv_sub hl [1, 0] rfl)
    exact kl_33 n _ hL_33 _ _ _ hP hD hS hl
  have j13 : ∀ (v0_2 : Int32) (v0_3 : Int32) (v0_0 : Nat → Int32) (t1 : Int32), F_X12_undo_j13 n v0_2 v0_0 v0_1 t1 = some u → ∀ (H : Heap) (locs : List Loc) (ls : Array Slot), va_P (dC, dI) vwCl (wd_X12_undo cI a0 v0_2 v0_3 v0_5 v0_12 v0_13 v0_16 v0_17 v0_21 v0_23 v0_24 v0_25 v0_26 v0_29 v0_30 v0_0 v0_1) H → va_D A (wd_X12_undo cI a0 v0_2 v0_3 v0_5 v0_12 v0_13 v0_16 v0_17 v0_21 v0_23 v0_24 v0_25 v0_26 v0_29 v0_30 v0_0 v0_1) → va_S A s.heap H locs → lv_has ls 2 [(0, .ref (a0 0))] → W p l e (headSpec wz_X12_undo rm_X12_undo).room s m [.ref (a0 0)].toArray below meth c H locs 0 0 (MQ below (Q_X12_undo dC dI cI a0 v0_5 v0_12 v0_13 v0_16 v0_17 v0_21 v0_23 v0_24 v0_25 v0_26 v0_29 v0_30 v0_1 u A) [.ref (a0 0)].toArray s 0 0 A) (F0 m 13 ls [.int t1, .ref (a0 0)]) := by
    intro v0_2 v0_3 v0_0 t1 hF H locs ls hP hD hS hl
    unfold F_X12_undo_j13 at hF
    obtain ⟨u_8, hu_8, hF⟩ := lt_some hF
    have hPc := hP.sub (ws' := (wd_X12_refused cI a0 v0_2 v0_3 v0_5 v0_12 v0_13 v0_16 v0_17 v0_21 v0_23 v0_24 v0_25 v0_26 v0_29 v0_30)) [0] rfl
    have hDc := hD.sub (ws' := (wd_X12_refused cI a0 v0_2 v0_3 v0_5 v0_12 v0_13 v0_16 v0_17 v0_21 v0_23 v0_24 v0_25 v0_26 v0_29 v0_30)) [0] rfl rfl
    refine q_callz (wc := (wd_X12_refused cI a0 v0_2 v0_3 v0_5 v0_12 v0_13 v0_16 v0_17 v0_21 v0_23 v0_24 v0_25 v0_26 v0_29 v0_30)) (w1 := (wd_X12_refused cI a0 v0_2 u_8.2 v0_5 v0_12 v0_13 v0_16 v0_17 v0_21 v0_23 v0_24 v0_25 v0_26 v0_29 v0_30)) (ws' := (wd_X12_undo cI a0 v0_2 u_8.2 v0_5 v0_12 v0_13 v0_16 v0_17 v0_21 v0_23 v0_24 v0_25 v0_26 v0_29 v0_30 v0_0 v0_1)) hP hD hS hA [0] [1, 2] [2, 0, 1] rfl rfl rfl (by decide) rfl rfl (va_runV (As := [.int t1]) (rest := []) ⟨hx, hb, hml, hown, hta⟩ (c_X12_refused l dC dI cI H.size a0 v0_2 v0_3 v0_5 v0_12 v0_13 v0_16 v0_17 v0_21 v0_23 v0_24 v0_25 v0_26 v0_29 v0_30 t1 u_8 hu_8.symm) (cwV 1 hta (ga_V mA822 mA823 mA824 mA814 mA809) rfl rfl rfl (by decide +kernel) ⟨Nat.le_of_ble_eq_true rfl, Nat.le_of_ble_eq_true rfl⟩) ⟨q_fb, va_recv hK hP (ci := 11) (q0 := 0) rfl rfl, q_ps hPc hK hDc⟩ rfl rfl hl.1 rfl (lv_room (Nat.le_of_ble_eq_true rfl)) dX12_undo_13 ⟨Nat.zero_le _, Nat.zero_le _⟩) (fun hzu_8 H locs hP hD hS => ?_)
    refine lv_if_eq (tgt := 21) hx hb dX12_undo_16 (by decide) (fun c_9 => ?_) (fun c_9 => ?_)
    · have hF := it_t hF c_9
      refine lv_aload_n hx hb dX12_undo_21 rfl (lv_at hl 0 rfl) ?_
      refine lv_dup hx hb dX12_undo_22 rfl ?_
      refine va_get (D := (dC, dI)) (ci := 11) (v := .int v0_2) (C := RX12) (T := TX12) (N := 31) hx hb hta uw_X12 hown hK hP 0 rfl rfl 2 (by decide) (hta _ mA820) (fun _ h9 => h9) rfl dX12_undo_23 ?_
      refine lv_iconst (v := 1) hx hb dX12_undo_26 (by decide) ?_
      refine lv_isub hx hb dX12_undo_27 ?_
      obtain ⟨y_10, ey_10, hF⟩ := lt_some hF
      refine lv_eqi ey_10 ?_
      refine va_put (D := (dC, dI)) (ci := 11) (v := .int y_10) (ty := .int) (C := RX12) (T := TX12) (N := 31) hx hb hta uw_X12 tyX12 tyX12_ok nmX12 hown hK hP hD hS 0 rfl rfl 2 (by decide) (hta _ mA820) (fun _ h9 => h9) rfl (by decide +kernel) rfl rfl (Nat.le_of_ble_eq_true rfl) dX12_undo_28 (fun H locs hP hD hS => ?_)
      have hP : va_P (dC, dI) vwCl (wd_X12_undo cI a0 y_10 u_8.2 v0_5 v0_12 v0_13 v0_16 v0_17 v0_21 v0_23 v0_24 v0_25 v0_26 v0_29 v0_30 v0_0 v0_1) H := hP
      have hD : va_D A (wd_X12_undo cI a0 y_10 u_8.2 v0_5 v0_12 v0_13 v0_16 v0_17 v0_21 v0_23 v0_24 v0_25 v0_26 v0_29 v0_30 v0_0 v0_1) := hD
      refine lv_iconst (v := 0) hx hb dX12_undo_31 (by decide) ?_
      refine lv_istore_n (lv' := [(1, .int 0), (0, .ref (a0 0))]) hx hb dX12_undo_32 rfl hl (by decide) rfl (fun ls hl => ?_)
      exact j33 y_10 u_8.2 v0_0 0 hF _ _ _ hP hD hS (lv_sub hl [1, 0] rfl)
    · have hF := it_f hF c_9
      refine lv_iconst (v := 0) hx hb dX12_undo_19 (by decide) ?_
      obtain rfl := Option.some.inj hF
      exact W.iret (v := 0) hx hb hr (fun t ht hW => ⟨⟨0, (), rfl, rfl, by rw [ht]; exact hP, va_K.moved hW.alike hK, hD⟩, hS.F ht⟩) hS.2.2 dX12_undo_20
  refine lv_aload_n hx hb dX12_undo_0 rfl (lv_at hl 0 rfl) ?_
  refine lv_aload_n hx hb dX12_undo_1 rfl (lv_at hl 0 rfl) ?_
  refine va_get (D := (dC, dI)) (ci := 11) (v := .int v0_2) (C := RX12) (T := TX12) (N := 31) hx hb hta uw_X12 hown hK hP 0 rfl rfl 2 (by decide) (hta _ mA820) (fun _ h9 => h9) rfl dX12_undo_2 ?_
  refine lv_if_ne (tgt := 12) hx hb dX12_undo_5 (by decide) (fun c_11 => ?_) (fun c_11 => ?_)
  · have hF := it_f hF c_11
    refine lv_iconst (v := 0) hx hb dX12_undo_12 (by decide) ?_
    exact j13 v0_2 v0_3 v0_0 0 hF _ _ _ hP hD hS (lv_sub hl [0] rfl)
  · have hF := it_t hF c_11
    refine lv_iconst (v := 1) hx hb dX12_undo_8 (by decide) ?_
    refine lv_goto (tgt := 13) hx hb dX12_undo_9 (by decide) ?_
    exact j13 v0_2 v0_3 v0_0 1 hF _ _ _ hP hD hS (lv_sub hl [0] rfl)

-- StrokeOutlinerModel.at(I)I
def F_X12_at (p0 : Int32) : (Int32) :=
  (14 + (18 * p0))
abbrev wz_X12_at : List Cond := .code yX12_at cX12_at 1 (some .int) :: wALL
abbrev rm_X12_at : Room := { frames := 0, cells := 0, slots := 0, locals := 0 }
abbrev Q_X12_at (dC : Nat → ClassId) (dI : Nat → Nat → Nat) (cI : ClassId) (u : (Int32)) (A : Nat → Prop) : Array Value → State → Outcome → State → Prop := va_Qi (fun (r : Int32) (_ : Unit) => r = u) (fun _ => q_at dC dI cI A ([] : va_W)) A
set_option maxHeartbeats 4000000 in
set_option maxRecDepth 100000 in
theorem c_X12_at (l : Launch) (dC : Nat → ClassId) (dI : Nat → Nat → Nat) (cI : ClassId) (sz : Nat) (p0 : Int32) (u : (Int32)) (hF : F_X12_at p0 = u) : Met l yX12_at wz_X12_at rm_X12_at (va_Pc [.int p0] (q_pre dC dI cI ([] : va_W) sz)) (Q_X12_at dC dI cI u (va_A ([] : va_W) sz)) 0 0 (va_A ([] : va_W) sz) := by
  refine Met.ofW (cc := cX12_at) (maxL := 1) (ret := (some .int)) (by decide) rfl ?_
  intro p e s m args below meth c s₁ B hml hv
  obtain ⟨rfl, hsz, hP, hK, hD0⟩ := hv
  have hx := B.exec
  have hb := B.bytes
  have hr := B.returns
  have hts := atoms_spec (ws := wz_X12_at) B.pre
  have hta := wz_tl hts
  have hown : s.vm.findClass RX12 = some m.cls := findClass_of_methodNamed B.named
  have hlocks := B.notSynchronized
  subst hsz
  have hD := hD0.self (sz := s.heap.size)
  generalize hAe : va_A ([] : va_W) s.heap.size = A at hD ⊢
  have hA : ∀ q : Nat, s.heap.size ≤ q → A q := fun q h => by rw [← hAe]; exact Or.inr h
  have hS : va_S A s.heap s.heap [] := va_S.rf
  have hP : va_P (dC, dI) vwCl ([] : va_W) s.heap := hP
  have hl := lv_entry ([.int p0]) (n := 1) (Nat.le_of_ble_eq_true rfl)
  rw [lg_entry_eq]
  generalize (lg_sl ([.int p0]) ++ List.replicate (1 - (lg_sl ([.int p0])).length) Slot.unset).toArray = ls at hl ⊢
  have hl : lv_has ls 1 [(0, .int p0)] := hl
  obtain ⟨H, hHe⟩ : ∃ H, H = s.heap := ⟨_, rfl⟩
  have hS : va_S A s.heap H [] := by rw [hHe]; exact hS
  have hP : va_P (dC, dI) vwCl ([] : va_W) H := by rw [hHe]; exact hP
  rw [← hHe]
  unfold F_X12_at at hF
  refine lv_bipush (v := 14) hx hb dX12_at_0 (by decide) ?_
  refine lv_bipush (v := 18) hx hb dX12_at_2 (by decide) ?_
  refine lv_iload_n hx hb dX12_at_4 rfl (lv_at hl 0 rfl) ?_
  refine lv_imul hx hb dX12_at_5 ?_
  refine lv_iadd hx hb dX12_at_6 ?_
  subst hF
  exact W.iret (v := (14 + (18 * p0))) hx hb hr (fun t ht hW => ⟨⟨(14 + (18 * p0)), (), rfl, rfl, by rw [ht]; exact hP, va_K.moved hW.alike hK, hD⟩, hS.F ht⟩) hS.2.2 dX12_at_7

-- StrokeOutlinerModel.isSubpath(I)Z
def F_X12_isSubpath (v0_0 : Nat → Int32) (p1 : Int32) : Option (Int32) :=
  gd (decide (vpi 13 86)) (lt (F_X12_within p1 0 ((v0_0 (13 : Int32).toNatClampNeg) - 1)) (fun u_2 => some u_2))
abbrev wd_X12_isSubpath (cI : ClassId) (a0 : Nat → Nat) (v0_2 : Int32) (v0_3 : Int32) (v0_5 : Int32) (v0_12 : Int32) (v0_13 : Int32) (v0_16 : Int32) (v0_17 : Int32) (v0_21 : Int32) (v0_23 : Int32) (v0_24 : Int32) (v0_25 : Int32) (v0_26 : Int32) (v0_29 : Int32) (v0_30 : Int64) (v0_0 : Nat → Int32) : va_W := [(a0 0, .inr (11, [.ref (a0 1), .ref (a0 2), .int v0_2, .int v0_3, .ref (a0 5), .int v0_5, .ref (a0 7), .ref (a0 8), .ref (a0 9), .ref (a0 10), .ref (a0 11), .ref (a0 12), .int v0_12, .int v0_13, .ref (a0 15), .ref (a0 16), .int v0_16, .int v0_17, .ref (a0 19), .ref (a0 20), .ref (a0 21), .int v0_21, .ref (a0 23), .int v0_23, .int v0_24, .int v0_25, .int v0_26, .ref (a0 28), .ref (a0 29), .int v0_29, .long v0_30])), (a0 1, .inl (cI, 86, .inl v0_0))]
abbrev wz_X12_isSubpath : List Cond := .code yX12_isSubpath cX12_isSubpath 2 (some .boolean) :: wALL
abbrev rm_X12_isSubpath : Room := { frames := 1, cells := 0, slots := 0, locals := 22 }
abbrev Q_X12_isSubpath (dC : Nat → ClassId) (dI : Nat → Nat → Nat) (cI : ClassId) (a0 : Nat → Nat) (v0_2 : Int32) (v0_3 : Int32) (v0_5 : Int32) (v0_12 : Int32) (v0_13 : Int32) (v0_16 : Int32) (v0_17 : Int32) (v0_21 : Int32) (v0_23 : Int32) (v0_24 : Int32) (v0_25 : Int32) (v0_26 : Int32) (v0_29 : Int32) (v0_30 : Int64) (v0_0 : Nat → Int32) (u : (Int32)) (A : Nat → Prop) : Array Value → State → Outcome → State → Prop := va_Qi (fun (r : Int32) (_ : Unit) => r = u ∧ (u = 0 ∨ u = 1)) (fun _ => q_at dC dI cI A (wd_X12_isSubpath cI a0 v0_2 v0_3 v0_5 v0_12 v0_13 v0_16 v0_17 v0_21 v0_23 v0_24 v0_25 v0_26 v0_29 v0_30 v0_0)) A
set_option maxHeartbeats 4000000 in
set_option maxRecDepth 100000 in
theorem c_X12_isSubpath (l : Launch) (dC : Nat → ClassId) (dI : Nat → Nat → Nat) (cI : ClassId) (sz : Nat) (a0 : Nat → Nat) (v0_2 : Int32) (v0_3 : Int32) (v0_5 : Int32) (v0_12 : Int32) (v0_13 : Int32) (v0_16 : Int32) (v0_17 : Int32) (v0_21 : Int32) (v0_23 : Int32) (v0_24 : Int32) (v0_25 : Int32) (v0_26 : Int32) (v0_29 : Int32) (v0_30 : Int64) (v0_0 : Nat → Int32) (p1 : Int32) (u : (Int32)) (hF : F_X12_isSubpath v0_0 p1 = some u) : Met l yX12_isSubpath wz_X12_isSubpath rm_X12_isSubpath (va_Pc [.ref (a0 0), .int p1] (q_pre dC dI cI (wd_X12_isSubpath cI a0 v0_2 v0_3 v0_5 v0_12 v0_13 v0_16 v0_17 v0_21 v0_23 v0_24 v0_25 v0_26 v0_29 v0_30 v0_0) sz)) (Q_X12_isSubpath dC dI cI a0 v0_2 v0_3 v0_5 v0_12 v0_13 v0_16 v0_17 v0_21 v0_23 v0_24 v0_25 v0_26 v0_29 v0_30 v0_0 u (va_A (wd_X12_isSubpath cI a0 v0_2 v0_3 v0_5 v0_12 v0_13 v0_16 v0_17 v0_21 v0_23 v0_24 v0_25 v0_26 v0_29 v0_30 v0_0) sz)) 0 0 (va_A (wd_X12_isSubpath cI a0 v0_2 v0_3 v0_5 v0_12 v0_13 v0_16 v0_17 v0_21 v0_23 v0_24 v0_25 v0_26 v0_29 v0_30 v0_0) sz) := by
  refine Met.ofW (cc := cX12_isSubpath) (maxL := 2) (ret := (some .boolean)) (by decide) rfl ?_
  intro p e s m args below meth c s₁ B hml hv
  obtain ⟨rfl, hsz, hP, hK, hD0⟩ := hv
  have hx := B.exec
  have hb := B.bytes
  have hr := B.returns
  have hts := atoms_spec (ws := wz_X12_isSubpath) B.pre
  have hta := wz_tl hts
  have hown : s.vm.findClass RX12 = some m.cls := findClass_of_methodNamed B.named
  have hlocks := B.notSynchronized
  subst hsz
  have hD := hD0.self (sz := s.heap.size)
  generalize hAe : va_A (wd_X12_isSubpath cI a0 v0_2 v0_3 v0_5 v0_12 v0_13 v0_16 v0_17 v0_21 v0_23 v0_24 v0_25 v0_26 v0_29 v0_30 v0_0) s.heap.size = A at hD ⊢
  have hA : ∀ q : Nat, s.heap.size ≤ q → A q := fun q h => by rw [← hAe]; exact Or.inr h
  have hS : va_S A s.heap s.heap [] := va_S.rf
  have hP : va_P (dC, dI) vwCl (wd_X12_isSubpath cI a0 v0_2 v0_3 v0_5 v0_12 v0_13 v0_16 v0_17 v0_21 v0_23 v0_24 v0_25 v0_26 v0_29 v0_30 v0_0) s.heap := hP
  have hl := lv_entry ([.ref (a0 0), .int p1]) (n := 2) (Nat.le_of_ble_eq_true rfl)
  rw [lg_entry_eq]
  generalize (lg_sl ([.ref (a0 0), .int p1]) ++ List.replicate (2 - (lg_sl ([.ref (a0 0), .int p1])).length) Slot.unset).toArray = ls at hl ⊢
  have hl : lv_has ls 2 [(0, .ref (a0 0)), (1, .int p1)] := hl
  obtain ⟨H, hHe⟩ : ∃ H, H = s.heap := ⟨_, rfl⟩
  have hS : va_S A s.heap H [] := by rw [hHe]; exact hS
  have hP : va_P (dC, dI) vwCl (wd_X12_isSubpath cI a0 v0_2 v0_3 v0_5 v0_12 v0_13 v0_16 v0_17 v0_21 v0_23 v0_24 v0_25 v0_26 v0_29 v0_30 v0_0) H := by rw [hHe]; exact hP
  rw [← hHe]
  unfold F_X12_isSubpath at hF
  refine lv_iload_n hx hb dX12_isSubpath_0 rfl (lv_at hl 1 rfl) ?_
  refine lv_iconst (v := 0) hx hb dX12_isSubpath_1 (by decide) ?_
  refine lv_aload_n hx hb dX12_isSubpath_2 rfl (lv_at hl 0 rfl) ?_
  refine va_get (D := (dC, dI)) (ci := 11) (v := .ref (a0 1)) (C := RX12) (T := TX12) (N := 31) hx hb hta uw_X12 hown hK hP 0 rfl rfl 0 (by decide) (hta _ mA790) (fun _ h9 => h9) rfl dX12_isSubpath_3 ?_
  refine lv_bipush (v := 13) hx hb dX12_isSubpath_6 (by decide) ?_
  obtain ⟨g_1, hF⟩ := gd_some hF
  refine va_iald hx hb hK hP 1 0 rfl rfl (vpi_in g_1) dX12_isSubpath_8 ?_
  refine lv_iconst (v := 1) hx hb dX12_isSubpath_9 (by decide) ?_
  refine lv_isub hx hb dX12_isSubpath_10 ?_
  obtain ⟨u_2, hu_2, hF⟩ := lt_some hF
  have hPc := hP.sub (ws' := ([] : va_W)) [] rfl
  have hDc := hD.sub (ws' := ([] : va_W)) [] rfl rfl
  refine q_callz (wc := ([] : va_W)) (w1 := ([] : va_W)) (ws' := (wd_X12_isSubpath cI a0 v0_2 v0_3 v0_5 v0_12 v0_13 v0_16 v0_17 v0_21 v0_23 v0_24 v0_25 v0_26 v0_29 v0_30 v0_0)) hP hD hS hA [] [0, 1] [0, 1] rfl rfl rfl (by decide) rfl rfl (va_runS (As := [.int p1, .int 0, .int ((v0_0 (13 : Int32).toNatClampNeg) - 1)]) (rest := []) ⟨hx, hb, hml, hown, hta⟩ (c_X12_within l dC dI cI H.size p1 0 ((v0_0 (13 : Int32).toNatClampNeg) - 1) u_2 hu_2.symm) (va_cwS 3 hta (ga_S mA812 mA813 mA814 mA810) rfl rfl rfl (by decide +kernel) ⟨Nat.le_of_ble_eq_true rfl, Nat.le_of_ble_eq_true rfl⟩) ⟨q_fb, q_ps hPc hK hDc⟩ rfl rfl hl.1 rfl (lv_room (Nat.le_of_ble_eq_true rfl)) dX12_isSubpath_11 ⟨Nat.zero_le _, Nat.zero_le _⟩) (fun hzu_2 H locs hP hD hS => ?_)
  obtain rfl := Option.some.inj hF
  exact W.zret (v := u_2) (ty := .boolean) hx hb hr (z_nar hzu_2) (fun t ht hW => ⟨⟨u_2, (), rfl, ⟨rfl, hzu_2⟩, by rw [ht]; exact hP, va_K.moved hW.alike hK, hD⟩, hS.F ht⟩) hS.2.2 dX12_isSubpath_14

-- StrokeOutlinerModel.points(I)I
def F_X12_points (v0_0 : Nat → Int32) (p1 : Int32) : Option (Int32) :=
  lt (F_X12_at p1) (fun u_1 => gd (decide (vpi u_1 86)) (some (v0_0 u_1.toNatClampNeg)))
abbrev wd_X12_points (cI : ClassId) (a0 : Nat → Nat) (v0_2 : Int32) (v0_3 : Int32) (v0_5 : Int32) (v0_12 : Int32) (v0_13 : Int32) (v0_16 : Int32) (v0_17 : Int32) (v0_21 : Int32) (v0_23 : Int32) (v0_24 : Int32) (v0_25 : Int32) (v0_26 : Int32) (v0_29 : Int32) (v0_30 : Int64) (v0_0 : Nat → Int32) : va_W := [(a0 0, .inr (11, [.ref (a0 1), .ref (a0 2), .int v0_2, .int v0_3, .ref (a0 5), .int v0_5, .ref (a0 7), .ref (a0 8), .ref (a0 9), .ref (a0 10), .ref (a0 11), .ref (a0 12), .int v0_12, .int v0_13, .ref (a0 15), .ref (a0 16), .int v0_16, .int v0_17, .ref (a0 19), .ref (a0 20), .ref (a0 21), .int v0_21, .ref (a0 23), .int v0_23, .int v0_24, .int v0_25, .int v0_26, .ref (a0 28), .ref (a0 29), .int v0_29, .long v0_30])), (a0 1, .inl (cI, 86, .inl v0_0))]
abbrev wz_X12_points : List Cond := .code yX12_points cX12_points 2 (some .int) :: wALL
abbrev rm_X12_points : Room := { frames := 1, cells := 0, slots := 0, locals := 20 }
abbrev Q_X12_points (dC : Nat → ClassId) (dI : Nat → Nat → Nat) (cI : ClassId) (a0 : Nat → Nat) (v0_2 : Int32) (v0_3 : Int32) (v0_5 : Int32) (v0_12 : Int32) (v0_13 : Int32) (v0_16 : Int32) (v0_17 : Int32) (v0_21 : Int32) (v0_23 : Int32) (v0_24 : Int32) (v0_25 : Int32) (v0_26 : Int32) (v0_29 : Int32) (v0_30 : Int64) (v0_0 : Nat → Int32) (u : (Int32)) (A : Nat → Prop) : Array Value → State → Outcome → State → Prop := va_Qi (fun (r : Int32) (_ : Unit) => r = u) (fun _ => q_at dC dI cI A (wd_X12_points cI a0 v0_2 v0_3 v0_5 v0_12 v0_13 v0_16 v0_17 v0_21 v0_23 v0_24 v0_25 v0_26 v0_29 v0_30 v0_0)) A
set_option maxHeartbeats 4000000 in
set_option maxRecDepth 100000 in
theorem c_X12_points (l : Launch) (dC : Nat → ClassId) (dI : Nat → Nat → Nat) (cI : ClassId) (sz : Nat) (a0 : Nat → Nat) (v0_2 : Int32) (v0_3 : Int32) (v0_5 : Int32) (v0_12 : Int32) (v0_13 : Int32) (v0_16 : Int32) (v0_17 : Int32) (v0_21 : Int32) (v0_23 : Int32) (v0_24 : Int32) (v0_25 : Int32) (v0_26 : Int32) (v0_29 : Int32) (v0_30 : Int64) (v0_0 : Nat → Int32) (p1 : Int32) (u : (Int32)) (hF : F_X12_points v0_0 p1 = some u) : Met l yX12_points wz_X12_points rm_X12_points (va_Pc [.ref (a0 0), .int p1] (q_pre dC dI cI (wd_X12_points cI a0 v0_2 v0_3 v0_5 v0_12 v0_13 v0_16 v0_17 v0_21 v0_23 v0_24 v0_25 v0_26 v0_29 v0_30 v0_0) sz)) (Q_X12_points dC dI cI a0 v0_2 v0_3 v0_5 v0_12 v0_13 v0_16 v0_17 v0_21 v0_23 v0_24 v0_25 v0_26 v0_29 v0_30 v0_0 u (va_A (wd_X12_points cI a0 v0_2 v0_3 v0_5 v0_12 v0_13 v0_16 v0_17 v0_21 v0_23 v0_24 v0_25 v0_26 v0_29 v0_30 v0_0) sz)) 0 0 (va_A (wd_X12_points cI a0 v0_2 v0_3 v0_5 v0_12 v0_13 v0_16 v0_17 v0_21 v0_23 v0_24 v0_25 v0_26 v0_29 v0_30 v0_0) sz) := by
  refine Met.ofW (cc := cX12_points) (maxL := 2) (ret := (some .int)) (by decide) rfl ?_
  intro p e s m args below meth c s₁ B hml hv
  obtain ⟨rfl, hsz, hP, hK, hD0⟩ := hv
  have hx := B.exec
  have hb := B.bytes
  have hr := B.returns
  have hts := atoms_spec (ws := wz_X12_points) B.pre
  have hta := wz_tl hts
  have hown : s.vm.findClass RX12 = some m.cls := findClass_of_methodNamed B.named
  have hlocks := B.notSynchronized
  subst hsz
  have hD := hD0.self (sz := s.heap.size)
  generalize hAe : va_A (wd_X12_points cI a0 v0_2 v0_3 v0_5 v0_12 v0_13 v0_16 v0_17 v0_21 v0_23 v0_24 v0_25 v0_26 v0_29 v0_30 v0_0) s.heap.size = A at hD ⊢
  have hA : ∀ q : Nat, s.heap.size ≤ q → A q := fun q h => by rw [← hAe]; exact Or.inr h
  have hS : va_S A s.heap s.heap [] := va_S.rf
  have hP : va_P (dC, dI) vwCl (wd_X12_points cI a0 v0_2 v0_3 v0_5 v0_12 v0_13 v0_16 v0_17 v0_21 v0_23 v0_24 v0_25 v0_26 v0_29 v0_30 v0_0) s.heap := hP
  have hl := lv_entry ([.ref (a0 0), .int p1]) (n := 2) (Nat.le_of_ble_eq_true rfl)
  rw [lg_entry_eq]
  generalize (lg_sl ([.ref (a0 0), .int p1]) ++ List.replicate (2 - (lg_sl ([.ref (a0 0), .int p1])).length) Slot.unset).toArray = ls at hl ⊢
  have hl : lv_has ls 2 [(0, .ref (a0 0)), (1, .int p1)] := hl
  obtain ⟨H, hHe⟩ : ∃ H, H = s.heap := ⟨_, rfl⟩
  have hS : va_S A s.heap H [] := by rw [hHe]; exact hS
  have hP : va_P (dC, dI) vwCl (wd_X12_points cI a0 v0_2 v0_3 v0_5 v0_12 v0_13 v0_16 v0_17 v0_21 v0_23 v0_24 v0_25 v0_26 v0_29 v0_30 v0_0) H := by rw [hHe]; exact hP
  rw [← hHe]
  unfold F_X12_points at hF
  refine lv_aload_n hx hb dX12_points_0 rfl (lv_at hl 0 rfl) ?_
  refine va_get (D := (dC, dI)) (ci := 11) (v := .ref (a0 1)) (C := RX12) (T := TX12) (N := 31) hx hb hta uw_X12 hown hK hP 0 rfl rfl 0 (by decide) (hta _ mA790) (fun _ h9 => h9) rfl dX12_points_1 ?_
  refine lv_iload_n hx hb dX12_points_4 rfl (lv_at hl 1 rfl) ?_
  obtain ⟨u_1, hu_1, hF⟩ := lt_some hF
  have hPc := hP.sub (ws' := ([] : va_W)) [] rfl
  have hDc := hD.sub (ws' := ([] : va_W)) [] rfl rfl
  refine q_calli (wc := ([] : va_W)) (w1 := ([] : va_W)) (ws' := (wd_X12_points cI a0 v0_2 v0_3 v0_5 v0_12 v0_13 v0_16 v0_17 v0_21 v0_23 v0_24 v0_25 v0_26 v0_29 v0_30 v0_0)) hP hD hS hA [] [0, 1] [0, 1] rfl rfl rfl (by decide) rfl rfl (va_runS (As := [.int p1]) (rest := [.ref (a0 1)]) ⟨hx, hb, hml, hown, hta⟩ (c_X12_at l dC dI cI H.size p1 u_1 hu_1.symm) (va_cwS 1 hta (ga_S mA828 mA829 mA814 mA825) rfl rfl rfl (by decide +kernel) ⟨Nat.le_of_ble_eq_true rfl, Nat.le_of_ble_eq_true rfl⟩) ⟨q_fb, q_ps hPc hK hDc⟩ rfl rfl hl.1 rfl (lv_room (Nat.le_of_ble_eq_true rfl)) dX12_points_5 ⟨Nat.zero_le _, Nat.zero_le _⟩) (fun H locs hP hD hS => ?_)
  obtain ⟨g_2, hF⟩ := gd_some hF
  refine va_iald hx hb hK hP 1 0 rfl rfl (vpi_in g_2) dX12_points_8 ?_
  obtain rfl := Option.some.inj hF
  exact W.iret (v := (v0_0 u_1.toNatClampNeg)) hx hb hr (fun t ht hW => ⟨⟨(v0_0 u_1.toNatClampNeg), (), rfl, rfl, by rw [ht]; exact hP, va_K.moved hW.alike hK, hD⟩, hS.F ht⟩) hS.2.2 dX12_points_9

-- StrokeOutlinerModel.isClosed(I)Z
def F_X12_isClosed (v0_0 : Nat → Int32) (p1 : Int32) : Option (Int32) :=
  lt (F_X12_at p1) (fun u_1 => lt (u_1 + 1) (fun y_2 => gd (decide (vpi y_2 86)) (if (v0_0 y_2.toNatClampNeg) = 1 then some 1 else some 0)))
abbrev wd_X12_isClosed (cI : ClassId) (a0 : Nat → Nat) (v0_2 : Int32) (v0_3 : Int32) (v0_5 : Int32) (v0_12 : Int32) (v0_13 : Int32) (v0_16 : Int32) (v0_17 : Int32) (v0_21 : Int32) (v0_23 : Int32) (v0_24 : Int32) (v0_25 : Int32) (v0_26 : Int32) (v0_29 : Int32) (v0_30 : Int64) (v0_0 : Nat → Int32) : va_W := [(a0 0, .inr (11, [.ref (a0 1), .ref (a0 2), .int v0_2, .int v0_3, .ref (a0 5), .int v0_5, .ref (a0 7), .ref (a0 8), .ref (a0 9), .ref (a0 10), .ref (a0 11), .ref (a0 12), .int v0_12, .int v0_13, .ref (a0 15), .ref (a0 16), .int v0_16, .int v0_17, .ref (a0 19), .ref (a0 20), .ref (a0 21), .int v0_21, .ref (a0 23), .int v0_23, .int v0_24, .int v0_25, .int v0_26, .ref (a0 28), .ref (a0 29), .int v0_29, .long v0_30])), (a0 1, .inl (cI, 86, .inl v0_0))]
abbrev wz_X12_isClosed : List Cond := .code yX12_isClosed cX12_isClosed 2 (some .boolean) :: wALL
abbrev rm_X12_isClosed : Room := { frames := 1, cells := 0, slots := 0, locals := 20 }
abbrev Q_X12_isClosed (dC : Nat → ClassId) (dI : Nat → Nat → Nat) (cI : ClassId) (a0 : Nat → Nat) (v0_2 : Int32) (v0_3 : Int32) (v0_5 : Int32) (v0_12 : Int32) (v0_13 : Int32) (v0_16 : Int32) (v0_17 : Int32) (v0_21 : Int32) (v0_23 : Int32) (v0_24 : Int32) (v0_25 : Int32) (v0_26 : Int32) (v0_29 : Int32) (v0_30 : Int64) (v0_0 : Nat → Int32) (u : (Int32)) (A : Nat → Prop) : Array Value → State → Outcome → State → Prop := va_Qi (fun (r : Int32) (_ : Unit) => r = u ∧ (u = 0 ∨ u = 1)) (fun _ => q_at dC dI cI A (wd_X12_isClosed cI a0 v0_2 v0_3 v0_5 v0_12 v0_13 v0_16 v0_17 v0_21 v0_23 v0_24 v0_25 v0_26 v0_29 v0_30 v0_0)) A
set_option maxHeartbeats 4000000 in
set_option maxRecDepth 100000 in
theorem c_X12_isClosed (l : Launch) (dC : Nat → ClassId) (dI : Nat → Nat → Nat) (cI : ClassId) (sz : Nat) (a0 : Nat → Nat) (v0_2 : Int32) (v0_3 : Int32) (v0_5 : Int32) (v0_12 : Int32) (v0_13 : Int32) (v0_16 : Int32) (v0_17 : Int32) (v0_21 : Int32) (v0_23 : Int32) (v0_24 : Int32) (v0_25 : Int32) (v0_26 : Int32) (v0_29 : Int32) (v0_30 : Int64) (v0_0 : Nat → Int32) (p1 : Int32) (u : (Int32)) (hF : F_X12_isClosed v0_0 p1 = some u) : Met l yX12_isClosed wz_X12_isClosed rm_X12_isClosed (va_Pc [.ref (a0 0), .int p1] (q_pre dC dI cI (wd_X12_isClosed cI a0 v0_2 v0_3 v0_5 v0_12 v0_13 v0_16 v0_17 v0_21 v0_23 v0_24 v0_25 v0_26 v0_29 v0_30 v0_0) sz)) (Q_X12_isClosed dC dI cI a0 v0_2 v0_3 v0_5 v0_12 v0_13 v0_16 v0_17 v0_21 v0_23 v0_24 v0_25 v0_26 v0_29 v0_30 v0_0 u (va_A (wd_X12_isClosed cI a0 v0_2 v0_3 v0_5 v0_12 v0_13 v0_16 v0_17 v0_21 v0_23 v0_24 v0_25 v0_26 v0_29 v0_30 v0_0) sz)) 0 0 (va_A (wd_X12_isClosed cI a0 v0_2 v0_3 v0_5 v0_12 v0_13 v0_16 v0_17 v0_21 v0_23 v0_24 v0_25 v0_26 v0_29 v0_30 v0_0) sz) := by
  refine Met.ofW (cc := cX12_isClosed) (maxL := 2) (ret := (some .boolean)) (by decide) rfl ?_
  intro p e s m args below meth c s₁ B hml hv
  obtain ⟨rfl, hsz, hP, hK, hD0⟩ := hv
  have hx := B.exec
  have hb := B.bytes
  have hr := B.returns
  have hts := atoms_spec (ws := wz_X12_isClosed) B.pre
  have hta := wz_tl hts
  have hown : s.vm.findClass RX12 = some m.cls := findClass_of_methodNamed B.named
  have hlocks := B.notSynchronized
  subst hsz
  have hD := hD0.self (sz := s.heap.size)
  generalize hAe : va_A (wd_X12_isClosed cI a0 v0_2 v0_3 v0_5 v0_12 v0_13 v0_16 v0_17 v0_21 v0_23 v0_24 v0_25 v0_26 v0_29 v0_30 v0_0) s.heap.size = A at hD ⊢
  have hA : ∀ q : Nat, s.heap.size ≤ q → A q := fun q h => by rw [← hAe]; exact Or.inr h
  have hS : va_S A s.heap s.heap [] := va_S.rf
  have hP : va_P (dC, dI) vwCl (wd_X12_isClosed cI a0 v0_2 v0_3 v0_5 v0_12 v0_13 v0_16 v0_17 v0_21 v0_23 v0_24 v0_25 v0_26 v0_29 v0_30 v0_0) s.heap := hP
  have hl := lv_entry ([.ref (a0 0), .int p1]) (n := 2) (Nat.le_of_ble_eq_true rfl)
  rw [lg_entry_eq]
  generalize (lg_sl ([.ref (a0 0), .int p1]) ++ List.replicate (2 - (lg_sl ([.ref (a0 0), .int p1])).length) Slot.unset).toArray = ls at hl ⊢
  have hl : lv_has ls 2 [(0, .ref (a0 0)), (1, .int p1)] := hl
  obtain ⟨H, hHe⟩ : ∃ H, H = s.heap := ⟨_, rfl⟩
  have hS : va_S A s.heap H [] := by rw [hHe]; exact hS
  have hP : va_P (dC, dI) vwCl (wd_X12_isClosed cI a0 v0_2 v0_3 v0_5 v0_12 v0_13 v0_16 v0_17 v0_21 v0_23 v0_24 v0_25 v0_26 v0_29 v0_30 v0_0) H := by rw [hHe]; exact hP
  rw [← hHe]
  unfold F_X12_isClosed at hF
  refine lv_aload_n hx hb dX12_isClosed_0 rfl (lv_at hl 0 rfl) ?_
  refine va_get (D := (dC, dI)) (ci := 11) (v := .ref (a0 1)) (C := RX12) (T := TX12) (N := 31) hx hb hta uw_X12 hown hK hP 0 rfl rfl 0 (by decide) (hta _ mA790) (fun _ h9 => h9) rfl dX12_isClosed_1 ?_
  refine lv_iload_n hx hb dX12_isClosed_4 rfl (lv_at hl 1 rfl) ?_
  obtain ⟨u_1, hu_1, hF⟩ := lt_some hF
  have hPc := hP.sub (ws' := ([] : va_W)) [] rfl
  have hDc := hD.sub (ws' := ([] : va_W)) [] rfl rfl
  refine q_calli (wc := ([] : va_W)) (w1 := ([] : va_W)) (ws' := (wd_X12_isClosed cI a0 v0_2 v0_3 v0_5 v0_12 v0_13 v0_16 v0_17 v0_21 v0_23 v0_24 v0_25 v0_26 v0_29 v0_30 v0_0)) hP hD hS hA [] [0, 1] [0, 1] rfl rfl rfl (by decide) rfl rfl (va_runS (As := [.int p1]) (rest := [.ref (a0 1)]) ⟨hx, hb, hml, hown, hta⟩ (c_X12_at l dC dI cI H.size p1 u_1 hu_1.symm) (va_cwS 1 hta (ga_S mA828 mA829 mA814 mA825) rfl rfl rfl (by decide +kernel) ⟨Nat.le_of_ble_eq_true rfl, Nat.le_of_ble_eq_true rfl⟩) ⟨q_fb, q_ps hPc hK hDc⟩ rfl rfl hl.1 rfl (lv_room (Nat.le_of_ble_eq_true rfl)) dX12_isClosed_5 ⟨Nat.zero_le _, Nat.zero_le _⟩) (fun H locs hP hD hS => ?_)
  refine lv_iconst (v := 1) hx hb dX12_isClosed_8 (by decide) ?_
  refine lv_iadd hx hb dX12_isClosed_9 ?_
  obtain ⟨y_2, ey_2, hF⟩ := lt_some hF
  refine lv_eqi ey_2 ?_
  obtain ⟨g_3, hF⟩ := gd_some hF
  refine va_iald hx hb hK hP 1 0 rfl rfl (vpi_in g_3) dX12_isClosed_10 ?_
  refine lv_iconst (v := 1) hx hb dX12_isClosed_11 (by decide) ?_
  refine lv_icmp_ne (tgt := 19) hx hb dX12_isClosed_12 (by decide) (fun c_4 => ?_) (fun c_4 => ?_)
  · have hF := it_f hF c_4
    refine lv_iconst (v := 0) hx hb dX12_isClosed_19 (by decide) ?_
    obtain rfl := Option.some.inj hF
    exact W.zret (v := 0) (ty := .boolean) hx hb hr (z_nar (Or.inl rfl)) (fun t ht hW => ⟨⟨0, (), rfl, ⟨rfl, (Or.inl rfl)⟩, by rw [ht]; exact hP, va_K.moved hW.alike hK, hD⟩, hS.F ht⟩) hS.2.2 dX12_isClosed_20
  · have hF := it_t hF c_4
    refine lv_iconst (v := 1) hx hb dX12_isClosed_15 (by decide) ?_
    refine lv_goto (tgt := 20) hx hb dX12_isClosed_16 (by decide) ?_
    obtain rfl := Option.some.inj hF
    exact W.zret (v := 1) (ty := .boolean) hx hb hr (z_nar (Or.inr rfl)) (fun t ht hW => ⟨⟨1, (), rfl, ⟨rfl, (Or.inr rfl)⟩, by rw [ht]; exact hP, va_K.moved hW.alike hK, hD⟩, hS.F ht⟩) hS.2.2 dX12_isClosed_20

-- StrokeOutlinerModel.x(II)I
def F_X12_x (v0_0 : Nat → Int32) (p1 : Int32) (p2 : Int32) : Option (Int32) :=
  lt (F_X12_at p1) (fun u_1 => lt ((u_1 + 2) + (2 * p2)) (fun y_2 => gd (decide (vpi y_2 86)) (some (v0_0 y_2.toNatClampNeg))))
abbrev wd_X12_x (cI : ClassId) (a0 : Nat → Nat) (v0_2 : Int32) (v0_3 : Int32) (v0_5 : Int32) (v0_12 : Int32) (v0_13 : Int32) (v0_16 : Int32) (v0_17 : Int32) (v0_21 : Int32) (v0_23 : Int32) (v0_24 : Int32) (v0_25 : Int32) (v0_26 : Int32) (v0_29 : Int32) (v0_30 : Int64) (v0_0 : Nat → Int32) : va_W := [(a0 0, .inr (11, [.ref (a0 1), .ref (a0 2), .int v0_2, .int v0_3, .ref (a0 5), .int v0_5, .ref (a0 7), .ref (a0 8), .ref (a0 9), .ref (a0 10), .ref (a0 11), .ref (a0 12), .int v0_12, .int v0_13, .ref (a0 15), .ref (a0 16), .int v0_16, .int v0_17, .ref (a0 19), .ref (a0 20), .ref (a0 21), .int v0_21, .ref (a0 23), .int v0_23, .int v0_24, .int v0_25, .int v0_26, .ref (a0 28), .ref (a0 29), .int v0_29, .long v0_30])), (a0 1, .inl (cI, 86, .inl v0_0))]
abbrev wz_X12_x : List Cond := .code yX12_x cX12_x 3 (some .int) :: wALL
abbrev rm_X12_x : Room := { frames := 1, cells := 0, slots := 0, locals := 20 }
abbrev Q_X12_x (dC : Nat → ClassId) (dI : Nat → Nat → Nat) (cI : ClassId) (a0 : Nat → Nat) (v0_2 : Int32) (v0_3 : Int32) (v0_5 : Int32) (v0_12 : Int32) (v0_13 : Int32) (v0_16 : Int32) (v0_17 : Int32) (v0_21 : Int32) (v0_23 : Int32) (v0_24 : Int32) (v0_25 : Int32) (v0_26 : Int32) (v0_29 : Int32) (v0_30 : Int64) (v0_0 : Nat → Int32) (u : (Int32)) (A : Nat → Prop) : Array Value → State → Outcome → State → Prop := va_Qi (fun (r : Int32) (_ : Unit) => r = u) (fun _ => q_at dC dI cI A (wd_X12_x cI a0 v0_2 v0_3 v0_5 v0_12 v0_13 v0_16 v0_17 v0_21 v0_23 v0_24 v0_25 v0_26 v0_29 v0_30 v0_0)) A
set_option maxHeartbeats 4000000 in
set_option maxRecDepth 100000 in
theorem c_X12_x (l : Launch) (dC : Nat → ClassId) (dI : Nat → Nat → Nat) (cI : ClassId) (sz : Nat) (a0 : Nat → Nat) (v0_2 : Int32) (v0_3 : Int32) (v0_5 : Int32) (v0_12 : Int32) (v0_13 : Int32) (v0_16 : Int32) (v0_17 : Int32) (v0_21 : Int32) (v0_23 : Int32) (v0_24 : Int32) (v0_25 : Int32) (v0_26 : Int32) (v0_29 : Int32) (v0_30 : Int64) (v0_0 : Nat → Int32) (p1 : Int32) (p2 : Int32) (u : (Int32)) (hF : F_X12_x v0_0 p1 p2 = some u) : Met l yX12_x wz_X12_x rm_X12_x (va_Pc [.ref (a0 0), .int p1, .int p2] (q_pre dC dI cI (wd_X12_x cI a0 v0_2 v0_3 v0_5 v0_12 v0_13 v0_16 v0_17 v0_21 v0_23 v0_24 v0_25 v0_26 v0_29 v0_30 v0_0) sz)) (Q_X12_x dC dI cI a0 v0_2 v0_3 v0_5 v0_12 v0_13 v0_16 v0_17 v0_21 v0_23 v0_24 v0_25 v0_26 v0_29 v0_30 v0_0 u (va_A (wd_X12_x cI a0 v0_2 v0_3 v0_5 v0_12 v0_13 v0_16 v0_17 v0_21 v0_23 v0_24 v0_25 v0_26 v0_29 v0_30 v0_0) sz)) 0 0 (va_A (wd_X12_x cI a0 v0_2 v0_3 v0_5 v0_12 v0_13 v0_16 v0_17 v0_21 v0_23 v0_24 v0_25 v0_26 v0_29 v0_30 v0_0) sz) := by
  refine Met.ofW (cc := cX12_x) (maxL := 3) (ret := (some .int)) (by decide) rfl ?_
  intro p e s m args below meth c s₁ B hml hv
  obtain ⟨rfl, hsz, hP, hK, hD0⟩ := hv
  have hx := B.exec
  have hb := B.bytes
  have hr := B.returns
  have hts := atoms_spec (ws := wz_X12_x) B.pre
  have hta := wz_tl hts
  have hown : s.vm.findClass RX12 = some m.cls := findClass_of_methodNamed B.named
  have hlocks := B.notSynchronized
  subst hsz
  have hD := hD0.self (sz := s.heap.size)
  generalize hAe : va_A (wd_X12_x cI a0 v0_2 v0_3 v0_5 v0_12 v0_13 v0_16 v0_17 v0_21 v0_23 v0_24 v0_25 v0_26 v0_29 v0_30 v0_0) s.heap.size = A at hD ⊢
  have hA : ∀ q : Nat, s.heap.size ≤ q → A q := fun q h => by rw [← hAe]; exact Or.inr h
  have hS : va_S A s.heap s.heap [] := va_S.rf
  have hP : va_P (dC, dI) vwCl (wd_X12_x cI a0 v0_2 v0_3 v0_5 v0_12 v0_13 v0_16 v0_17 v0_21 v0_23 v0_24 v0_25 v0_26 v0_29 v0_30 v0_0) s.heap := hP
  have hl := lv_entry ([.ref (a0 0), .int p1, .int p2]) (n := 3) (Nat.le_of_ble_eq_true rfl)
  rw [lg_entry_eq]
  generalize (lg_sl ([.ref (a0 0), .int p1, .int p2]) ++ List.replicate (3 - (lg_sl ([.ref (a0 0), .int p1, .int p2])).length) Slot.unset).toArray = ls at hl ⊢
  have hl : lv_has ls 3 [(0, .ref (a0 0)), (1, .int p1), (2, .int p2)] := hl
  obtain ⟨H, hHe⟩ : ∃ H, H = s.heap := ⟨_, rfl⟩
  have hS : va_S A s.heap H [] := by rw [hHe]; exact hS
  have hP : va_P (dC, dI) vwCl (wd_X12_x cI a0 v0_2 v0_3 v0_5 v0_12 v0_13 v0_16 v0_17 v0_21 v0_23 v0_24 v0_25 v0_26 v0_29 v0_30 v0_0) H := by rw [hHe]; exact hP
  rw [← hHe]
  unfold F_X12_x at hF
  refine lv_aload_n hx hb dX12_x_0 rfl (lv_at hl 0 rfl) ?_
  refine va_get (D := (dC, dI)) (ci := 11) (v := .ref (a0 1)) (C := RX12) (T := TX12) (N := 31) hx hb hta uw_X12 hown hK hP 0 rfl rfl 0 (by decide) (hta _ mA790) (fun _ h9 => h9) rfl dX12_x_1 ?_
  refine lv_iload_n hx hb dX12_x_4 rfl (lv_at hl 1 rfl) ?_
  obtain ⟨u_1, hu_1, hF⟩ := lt_some hF
  have hPc := hP.sub (ws' := ([] : va_W)) [] rfl
  have hDc := hD.sub (ws' := ([] : va_W)) [] rfl rfl
  refine q_calli (wc := ([] : va_W)) (w1 := ([] : va_W)) (ws' := (wd_X12_x cI a0 v0_2 v0_3 v0_5 v0_12 v0_13 v0_16 v0_17 v0_21 v0_23 v0_24 v0_25 v0_26 v0_29 v0_30 v0_0)) hP hD hS hA [] [0, 1] [0, 1] rfl rfl rfl (by decide) rfl rfl (va_runS (As := [.int p1]) (rest := [.ref (a0 1)]) ⟨hx, hb, hml, hown, hta⟩ (c_X12_at l dC dI cI H.size p1 u_1 hu_1.symm) (va_cwS 1 hta (ga_S mA828 mA829 mA814 mA825) rfl rfl rfl (by decide +kernel) ⟨Nat.le_of_ble_eq_true rfl, Nat.le_of_ble_eq_true rfl⟩) ⟨q_fb, q_ps hPc hK hDc⟩ rfl rfl hl.1 rfl (lv_room (Nat.le_of_ble_eq_true rfl)) dX12_x_5 ⟨Nat.zero_le _, Nat.zero_le _⟩) (fun H locs hP hD hS => ?_)
  refine lv_iconst (v := 2) hx hb dX12_x_8 (by decide) ?_
  refine lv_iadd hx hb dX12_x_9 ?_
  refine lv_iconst (v := 2) hx hb dX12_x_10 (by decide) ?_
  refine lv_iload_n hx hb dX12_x_11 rfl (lv_at hl 2 rfl) ?_
  refine lv_imul hx hb dX12_x_12 ?_
  refine lv_iadd hx hb dX12_x_13 ?_
  obtain ⟨y_2, ey_2, hF⟩ := lt_some hF
  refine lv_eqi ey_2 ?_
  obtain ⟨g_3, hF⟩ := gd_some hF
  refine va_iald hx hb hK hP 1 0 rfl rfl (vpi_in g_3) dX12_x_14 ?_
  obtain rfl := Option.some.inj hF
  exact W.iret (v := (v0_0 y_2.toNatClampNeg)) hx hb hr (fun t ht hW => ⟨⟨(v0_0 y_2.toNatClampNeg), (), rfl, rfl, by rw [ht]; exact hP, va_K.moved hW.alike hK, hD⟩, hS.F ht⟩) hS.2.2 dX12_x_15

-- StrokeOutlinerModel.y(II)I
def F_X12_y (v0_0 : Nat → Int32) (p1 : Int32) (p2 : Int32) : Option (Int32) :=
  lt (F_X12_at p1) (fun u_1 => lt ((u_1 + 3) + (2 * p2)) (fun y_2 => gd (decide (vpi y_2 86)) (some (v0_0 y_2.toNatClampNeg))))
abbrev wd_X12_y (cI : ClassId) (a0 : Nat → Nat) (v0_2 : Int32) (v0_3 : Int32) (v0_5 : Int32) (v0_12 : Int32) (v0_13 : Int32) (v0_16 : Int32) (v0_17 : Int32) (v0_21 : Int32) (v0_23 : Int32) (v0_24 : Int32) (v0_25 : Int32) (v0_26 : Int32) (v0_29 : Int32) (v0_30 : Int64) (v0_0 : Nat → Int32) : va_W := [(a0 0, .inr (11, [.ref (a0 1), .ref (a0 2), .int v0_2, .int v0_3, .ref (a0 5), .int v0_5, .ref (a0 7), .ref (a0 8), .ref (a0 9), .ref (a0 10), .ref (a0 11), .ref (a0 12), .int v0_12, .int v0_13, .ref (a0 15), .ref (a0 16), .int v0_16, .int v0_17, .ref (a0 19), .ref (a0 20), .ref (a0 21), .int v0_21, .ref (a0 23), .int v0_23, .int v0_24, .int v0_25, .int v0_26, .ref (a0 28), .ref (a0 29), .int v0_29, .long v0_30])), (a0 1, .inl (cI, 86, .inl v0_0))]
abbrev wz_X12_y : List Cond := .code yX12_y cX12_y 3 (some .int) :: wALL
abbrev rm_X12_y : Room := { frames := 1, cells := 0, slots := 0, locals := 20 }
abbrev Q_X12_y (dC : Nat → ClassId) (dI : Nat → Nat → Nat) (cI : ClassId) (a0 : Nat → Nat) (v0_2 : Int32) (v0_3 : Int32) (v0_5 : Int32) (v0_12 : Int32) (v0_13 : Int32) (v0_16 : Int32) (v0_17 : Int32) (v0_21 : Int32) (v0_23 : Int32) (v0_24 : Int32) (v0_25 : Int32) (v0_26 : Int32) (v0_29 : Int32) (v0_30 : Int64) (v0_0 : Nat → Int32) (u : (Int32)) (A : Nat → Prop) : Array Value → State → Outcome → State → Prop := va_Qi (fun (r : Int32) (_ : Unit) => r = u) (fun _ => q_at dC dI cI A (wd_X12_y cI a0 v0_2 v0_3 v0_5 v0_12 v0_13 v0_16 v0_17 v0_21 v0_23 v0_24 v0_25 v0_26 v0_29 v0_30 v0_0)) A
set_option maxHeartbeats 4000000 in
set_option maxRecDepth 100000 in
theorem c_X12_y (l : Launch) (dC : Nat → ClassId) (dI : Nat → Nat → Nat) (cI : ClassId) (sz : Nat) (a0 : Nat → Nat) (v0_2 : Int32) (v0_3 : Int32) (v0_5 : Int32) (v0_12 : Int32) (v0_13 : Int32) (v0_16 : Int32) (v0_17 : Int32) (v0_21 : Int32) (v0_23 : Int32) (v0_24 : Int32) (v0_25 : Int32) (v0_26 : Int32) (v0_29 : Int32) (v0_30 : Int64) (v0_0 : Nat → Int32) (p1 : Int32) (p2 : Int32) (u : (Int32)) (hF : F_X12_y v0_0 p1 p2 = some u) : Met l yX12_y wz_X12_y rm_X12_y (va_Pc [.ref (a0 0), .int p1, .int p2] (q_pre dC dI cI (wd_X12_y cI a0 v0_2 v0_3 v0_5 v0_12 v0_13 v0_16 v0_17 v0_21 v0_23 v0_24 v0_25 v0_26 v0_29 v0_30 v0_0) sz)) (Q_X12_y dC dI cI a0 v0_2 v0_3 v0_5 v0_12 v0_13 v0_16 v0_17 v0_21 v0_23 v0_24 v0_25 v0_26 v0_29 v0_30 v0_0 u (va_A (wd_X12_y cI a0 v0_2 v0_3 v0_5 v0_12 v0_13 v0_16 v0_17 v0_21 v0_23 v0_24 v0_25 v0_26 v0_29 v0_30 v0_0) sz)) 0 0 (va_A (wd_X12_y cI a0 v0_2 v0_3 v0_5 v0_12 v0_13 v0_16 v0_17 v0_21 v0_23 v0_24 v0_25 v0_26 v0_29 v0_30 v0_0) sz) := by
  refine Met.ofW (cc := cX12_y) (maxL := 3) (ret := (some .int)) (by decide) rfl ?_
  intro p e s m args below meth c s₁ B hml hv
  obtain ⟨rfl, hsz, hP, hK, hD0⟩ := hv
  have hx := B.exec
  have hb := B.bytes
  have hr := B.returns
  have hts := atoms_spec (ws := wz_X12_y) B.pre
  have hta := wz_tl hts
  have hown : s.vm.findClass RX12 = some m.cls := findClass_of_methodNamed B.named
  have hlocks := B.notSynchronized
  subst hsz
  have hD := hD0.self (sz := s.heap.size)
  generalize hAe : va_A (wd_X12_y cI a0 v0_2 v0_3 v0_5 v0_12 v0_13 v0_16 v0_17 v0_21 v0_23 v0_24 v0_25 v0_26 v0_29 v0_30 v0_0) s.heap.size = A at hD ⊢
  have hA : ∀ q : Nat, s.heap.size ≤ q → A q := fun q h => by rw [← hAe]; exact Or.inr h
  have hS : va_S A s.heap s.heap [] := va_S.rf
  have hP : va_P (dC, dI) vwCl (wd_X12_y cI a0 v0_2 v0_3 v0_5 v0_12 v0_13 v0_16 v0_17 v0_21 v0_23 v0_24 v0_25 v0_26 v0_29 v0_30 v0_0) s.heap := hP
  have hl := lv_entry ([.ref (a0 0), .int p1, .int p2]) (n := 3) (Nat.le_of_ble_eq_true rfl)
  rw [lg_entry_eq]
  generalize (lg_sl ([.ref (a0 0), .int p1, .int p2]) ++ List.replicate (3 - (lg_sl ([.ref (a0 0), .int p1, .int p2])).length) Slot.unset).toArray = ls at hl ⊢
  have hl : lv_has ls 3 [(0, .ref (a0 0)), (1, .int p1), (2, .int p2)] := hl
  obtain ⟨H, hHe⟩ : ∃ H, H = s.heap := ⟨_, rfl⟩
  have hS : va_S A s.heap H [] := by rw [hHe]; exact hS
  have hP : va_P (dC, dI) vwCl (wd_X12_y cI a0 v0_2 v0_3 v0_5 v0_12 v0_13 v0_16 v0_17 v0_21 v0_23 v0_24 v0_25 v0_26 v0_29 v0_30 v0_0) H := by rw [hHe]; exact hP
  rw [← hHe]
  unfold F_X12_y at hF
  refine lv_aload_n hx hb dX12_y_0 rfl (lv_at hl 0 rfl) ?_
  refine va_get (D := (dC, dI)) (ci := 11) (v := .ref (a0 1)) (C := RX12) (T := TX12) (N := 31) hx hb hta uw_X12 hown hK hP 0 rfl rfl 0 (by decide) (hta _ mA790) (fun _ h9 => h9) rfl dX12_y_1 ?_
  refine lv_iload_n hx hb dX12_y_4 rfl (lv_at hl 1 rfl) ?_
  obtain ⟨u_1, hu_1, hF⟩ := lt_some hF
  have hPc := hP.sub (ws' := ([] : va_W)) [] rfl
  have hDc := hD.sub (ws' := ([] : va_W)) [] rfl rfl
  refine q_calli (wc := ([] : va_W)) (w1 := ([] : va_W)) (ws' := (wd_X12_y cI a0 v0_2 v0_3 v0_5 v0_12 v0_13 v0_16 v0_17 v0_21 v0_23 v0_24 v0_25 v0_26 v0_29 v0_30 v0_0)) hP hD hS hA [] [0, 1] [0, 1] rfl rfl rfl (by decide) rfl rfl (va_runS (As := [.int p1]) (rest := [.ref (a0 1)]) ⟨hx, hb, hml, hown, hta⟩ (c_X12_at l dC dI cI H.size p1 u_1 hu_1.symm) (va_cwS 1 hta (ga_S mA828 mA829 mA814 mA825) rfl rfl rfl (by decide +kernel) ⟨Nat.le_of_ble_eq_true rfl, Nat.le_of_ble_eq_true rfl⟩) ⟨q_fb, q_ps hPc hK hDc⟩ rfl rfl hl.1 rfl (lv_room (Nat.le_of_ble_eq_true rfl)) dX12_y_5 ⟨Nat.zero_le _, Nat.zero_le _⟩) (fun H locs hP hD hS => ?_)
  refine lv_iconst (v := 3) hx hb dX12_y_8 (by decide) ?_
  refine lv_iadd hx hb dX12_y_9 ?_
  refine lv_iconst (v := 2) hx hb dX12_y_10 (by decide) ?_
  refine lv_iload_n hx hb dX12_y_11 rfl (lv_at hl 2 rfl) ?_
  refine lv_imul hx hb dX12_y_12 ?_
  refine lv_iadd hx hb dX12_y_13 ?_
  obtain ⟨y_2, ey_2, hF⟩ := lt_some hF
  refine lv_eqi ey_2 ?_
  obtain ⟨g_3, hF⟩ := gd_some hF
  refine va_iald hx hb hK hP 1 0 rfl rfl (vpi_in g_3) dX12_y_14 ?_
  obtain rfl := Option.some.inj hF
  exact W.iret (v := (v0_0 y_2.toNatClampNeg)) hx hb hr (fun t ht hW => ⟨⟨(v0_0 y_2.toNatClampNeg), (), rfl, rfl, by rw [ht]; exact hP, va_K.moved hW.alike hK, hD⟩, hS.F ht⟩) hS.2.2 dX12_y_15

-- StrokeOutlinerModel.puts(IIII)V
def F_X12_puts (v0_0 : Nat → Int32) (p1 : Int32) (p2 : Int32) (p3 : Int32) (p4 : Int32) : Option ((Nat → Int32)) :=
  lt (F_X12_at p1) (fun u_1 => lt ((u_1 + 2) + (2 * p2)) (fun y_2 => gd (decide (vpi y_2 86)) (lt (upd v0_0 y_2.toNatClampNeg p3) (fun y_4 => lt (F_X12_at p1) (fun u_5 => lt ((u_5 + 3) + (2 * p2)) (fun y_6 => gd (decide (vpi y_6 86)) (lt (upd y_4 y_6.toNatClampNeg p4) (fun y_8 => some y_8))))))))
abbrev wd_X12_puts (cI : ClassId) (a0 : Nat → Nat) (v0_2 : Int32) (v0_3 : Int32) (v0_5 : Int32) (v0_12 : Int32) (v0_13 : Int32) (v0_16 : Int32) (v0_17 : Int32) (v0_21 : Int32) (v0_23 : Int32) (v0_24 : Int32) (v0_25 : Int32) (v0_26 : Int32) (v0_29 : Int32) (v0_30 : Int64) (v0_0 : Nat → Int32) : va_W := [(a0 0, .inr (11, [.ref (a0 1), .ref (a0 2), .int v0_2, .int v0_3, .ref (a0 5), .int v0_5, .ref (a0 7), .ref (a0 8), .ref (a0 9), .ref (a0 10), .ref (a0 11), .ref (a0 12), .int v0_12, .int v0_13, .ref (a0 15), .ref (a0 16), .int v0_16, .int v0_17, .ref (a0 19), .ref (a0 20), .ref (a0 21), .int v0_21, .ref (a0 23), .int v0_23, .int v0_24, .int v0_25, .int v0_26, .ref (a0 28), .ref (a0 29), .int v0_29, .long v0_30])), (a0 1, .inl (cI, 86, .inl v0_0))]
abbrev wz_X12_puts : List Cond := .code yX12_puts cX12_puts 5 none :: wALL
abbrev rm_X12_puts : Room := { frames := 1, cells := 0, slots := 0, locals := 20 }
abbrev Q_X12_puts (dC : Nat → ClassId) (dI : Nat → Nat → Nat) (cI : ClassId) (a0 : Nat → Nat) (v0_2 : Int32) (v0_3 : Int32) (v0_5 : Int32) (v0_12 : Int32) (v0_13 : Int32) (v0_16 : Int32) (v0_17 : Int32) (v0_21 : Int32) (v0_23 : Int32) (v0_24 : Int32) (v0_25 : Int32) (v0_26 : Int32) (v0_29 : Int32) (v0_30 : Int64) (u : ((Nat → Int32))) (A : Nat → Prop) : Array Value → State → Outcome → State → Prop := va_Qv (fun (_ : Unit) => True) (fun _ => q_at dC dI cI A (wd_X12_puts cI a0 v0_2 v0_3 v0_5 v0_12 v0_13 v0_16 v0_17 v0_21 v0_23 v0_24 v0_25 v0_26 v0_29 v0_30 u)) A
set_option maxHeartbeats 4000000 in
set_option maxRecDepth 100000 in
theorem c_X12_puts (l : Launch) (dC : Nat → ClassId) (dI : Nat → Nat → Nat) (cI : ClassId) (sz : Nat) (a0 : Nat → Nat) (v0_2 : Int32) (v0_3 : Int32) (v0_5 : Int32) (v0_12 : Int32) (v0_13 : Int32) (v0_16 : Int32) (v0_17 : Int32) (v0_21 : Int32) (v0_23 : Int32) (v0_24 : Int32) (v0_25 : Int32) (v0_26 : Int32) (v0_29 : Int32) (v0_30 : Int64) (v0_0 : Nat → Int32) (p1 : Int32) (p2 : Int32) (p3 : Int32) (p4 : Int32) (u : ((Nat → Int32))) (hF : F_X12_puts v0_0 p1 p2 p3 p4 = some u) : Met l yX12_puts wz_X12_puts rm_X12_puts (va_Pc [.ref (a0 0), .int p1, .int p2, .int p3, .int p4] (q_pre dC dI cI (wd_X12_puts cI a0 v0_2 v0_3 v0_5 v0_12 v0_13 v0_16 v0_17 v0_21 v0_23 v0_24 v0_25 v0_26 v0_29 v0_30 v0_0) sz)) (Q_X12_puts dC dI cI a0 v0_2 v0_3 v0_5 v0_12 v0_13 v0_16 v0_17 v0_21 v0_23 v0_24 v0_25 v0_26 v0_29 v0_30 u (va_A (wd_X12_puts cI a0 v0_2 v0_3 v0_5 v0_12 v0_13 v0_16 v0_17 v0_21 v0_23 v0_24 v0_25 v0_26 v0_29 v0_30 v0_0) sz)) 0 0 (va_A (wd_X12_puts cI a0 v0_2 v0_3 v0_5 v0_12 v0_13 v0_16 v0_17 v0_21 v0_23 v0_24 v0_25 v0_26 v0_29 v0_30 v0_0) sz) := by
  refine Met.ofW (cc := cX12_puts) (maxL := 5) (ret := none) (by decide) rfl ?_
  intro p e s m args below meth c s₁ B hml hv
  obtain ⟨rfl, hsz, hP, hK, hD0⟩ := hv
  have hx := B.exec
  have hb := B.bytes
  have hr := B.returns
  have hts := atoms_spec (ws := wz_X12_puts) B.pre
  have hta := wz_tl hts
  have hown : s.vm.findClass RX12 = some m.cls := findClass_of_methodNamed B.named
  have hlocks := B.notSynchronized
  subst hsz
  have hD := hD0.self (sz := s.heap.size)
  generalize hAe : va_A (wd_X12_puts cI a0 v0_2 v0_3 v0_5 v0_12 v0_13 v0_16 v0_17 v0_21 v0_23 v0_24 v0_25 v0_26 v0_29 v0_30 v0_0) s.heap.size = A at hD ⊢
  have hA : ∀ q : Nat, s.heap.size ≤ q → A q := fun q h => by rw [← hAe]; exact Or.inr h
  have hS : va_S A s.heap s.heap [] := va_S.rf
  have hP : va_P (dC, dI) vwCl (wd_X12_puts cI a0 v0_2 v0_3 v0_5 v0_12 v0_13 v0_16 v0_17 v0_21 v0_23 v0_24 v0_25 v0_26 v0_29 v0_30 v0_0) s.heap := hP
  have hl := lv_entry ([.ref (a0 0), .int p1, .int p2, .int p3, .int p4]) (n := 5) (Nat.le_of_ble_eq_true rfl)
  rw [lg_entry_eq]
  generalize (lg_sl ([.ref (a0 0), .int p1, .int p2, .int p3, .int p4]) ++ List.replicate (5 - (lg_sl ([.ref (a0 0), .int p1, .int p2, .int p3, .int p4])).length) Slot.unset).toArray = ls at hl ⊢
  have hl : lv_has ls 5 [(0, .ref (a0 0)), (1, .int p1), (2, .int p2), (3, .int p3), (4, .int p4)] := hl
  obtain ⟨H, hHe⟩ : ∃ H, H = s.heap := ⟨_, rfl⟩
  have hS : va_S A s.heap H [] := by rw [hHe]; exact hS
  have hP : va_P (dC, dI) vwCl (wd_X12_puts cI a0 v0_2 v0_3 v0_5 v0_12 v0_13 v0_16 v0_17 v0_21 v0_23 v0_24 v0_25 v0_26 v0_29 v0_30 v0_0) H := by rw [hHe]; exact hP
  rw [← hHe]
  unfold F_X12_puts at hF
  refine lv_aload_n hx hb dX12_puts_0 rfl (lv_at hl 0 rfl) ?_
  refine va_get (D := (dC, dI)) (ci := 11) (v := .ref (a0 1)) (C := RX12) (T := TX12) (N := 31) hx hb hta uw_X12 hown hK hP 0 rfl rfl 0 (by decide) (hta _ mA790) (fun _ h9 => h9) rfl dX12_puts_1 ?_
  refine lv_iload_n hx hb dX12_puts_4 rfl (lv_at hl 1 rfl) ?_
  obtain ⟨u_1, hu_1, hF⟩ := lt_some hF
  have hPc := hP.sub (ws' := ([] : va_W)) [] rfl
  have hDc := hD.sub (ws' := ([] : va_W)) [] rfl rfl
  refine q_calli (wc := ([] : va_W)) (w1 := ([] : va_W)) (ws' := (wd_X12_puts cI a0 v0_2 v0_3 v0_5 v0_12 v0_13 v0_16 v0_17 v0_21 v0_23 v0_24 v0_25 v0_26 v0_29 v0_30 v0_0)) hP hD hS hA [] [0, 1] [0, 1] rfl rfl rfl (by decide) rfl rfl (va_runS (As := [.int p1]) (rest := [.ref (a0 1)]) ⟨hx, hb, hml, hown, hta⟩ (c_X12_at l dC dI cI H.size p1 u_1 hu_1.symm) (va_cwS 1 hta (ga_S mA828 mA829 mA814 mA825) rfl rfl rfl (by decide +kernel) ⟨Nat.le_of_ble_eq_true rfl, Nat.le_of_ble_eq_true rfl⟩) ⟨q_fb, q_ps hPc hK hDc⟩ rfl rfl hl.1 rfl (lv_room (Nat.le_of_ble_eq_true rfl)) dX12_puts_5 ⟨Nat.zero_le _, Nat.zero_le _⟩) (fun H locs hP hD hS => ?_)
  refine lv_iconst (v := 2) hx hb dX12_puts_8 (by decide) ?_
  refine lv_iadd hx hb dX12_puts_9 ?_
  refine lv_iconst (v := 2) hx hb dX12_puts_10 (by decide) ?_
  refine lv_iload_n hx hb dX12_puts_11 rfl (lv_at hl 2 rfl) ?_
  refine lv_imul hx hb dX12_puts_12 ?_
  refine lv_iadd hx hb dX12_puts_13 ?_
  refine lv_iload_n hx hb dX12_puts_14 rfl (lv_at hl 3 rfl) ?_
  obtain ⟨y_2, ey_2, hF⟩ := lt_some hF
  refine lv_eq2i ey_2 ?_
  obtain ⟨g_3, hF⟩ := gd_some hF
  refine va_iast hx hb hK hP hD hS 1 0 rfl rfl (vpi_in g_3) dX12_puts_15 (fun H locs hP hD hS => ?_)
  obtain ⟨y_4, ey_4, hF⟩ := lt_some hF
  have hP : va_P (dC, dI) vwCl (wd_X12_puts cI a0 v0_2 v0_3 v0_5 v0_12 v0_13 v0_16 v0_17 v0_21 v0_23 v0_24 v0_25 v0_26 v0_29 v0_30 y_4) H := by rw [ey_4]; exact hP
  have hD : va_D A (wd_X12_puts cI a0 v0_2 v0_3 v0_5 v0_12 v0_13 v0_16 v0_17 v0_21 v0_23 v0_24 v0_25 v0_26 v0_29 v0_30 y_4) := by rw [ey_4]; exact hD
  refine lv_aload_n hx hb dX12_puts_16 rfl (lv_at hl 0 rfl) ?_
  refine va_get (D := (dC, dI)) (ci := 11) (v := .ref (a0 1)) (C := RX12) (T := TX12) (N := 31) hx hb hta uw_X12 hown hK hP 0 rfl rfl 0 (by decide) (hta _ mA790) (fun _ h9 => h9) rfl dX12_puts_17 ?_
  refine lv_iload_n hx hb dX12_puts_20 rfl (lv_at hl 1 rfl) ?_
  obtain ⟨u_5, hu_5, hF⟩ := lt_some hF
  have hPc := hP.sub (ws' := ([] : va_W)) [] rfl
  have hDc := hD.sub (ws' := ([] : va_W)) [] rfl rfl
  refine q_calli (wc := ([] : va_W)) (w1 := ([] : va_W)) (ws' := (wd_X12_puts cI a0 v0_2 v0_3 v0_5 v0_12 v0_13 v0_16 v0_17 v0_21 v0_23 v0_24 v0_25 v0_26 v0_29 v0_30 y_4)) hP hD hS hA [] [0, 1] [0, 1] rfl rfl rfl (by decide) rfl rfl (va_runS (As := [.int p1]) (rest := [.ref (a0 1)]) ⟨hx, hb, hml, hown, hta⟩ (c_X12_at l dC dI cI H.size p1 u_5 hu_5.symm) (va_cwS 1 hta (ga_S mA828 mA829 mA814 mA825) rfl rfl rfl (by decide +kernel) ⟨Nat.le_of_ble_eq_true rfl, Nat.le_of_ble_eq_true rfl⟩) ⟨q_fb, q_ps hPc hK hDc⟩ rfl rfl hl.1 rfl (lv_room (Nat.le_of_ble_eq_true rfl)) dX12_puts_21 ⟨Nat.zero_le _, Nat.zero_le _⟩) (fun H locs hP hD hS => ?_)
  refine lv_iconst (v := 3) hx hb dX12_puts_24 (by decide) ?_
  refine lv_iadd hx hb dX12_puts_25 ?_
  refine lv_iconst (v := 2) hx hb dX12_puts_26 (by decide) ?_
  refine lv_iload_n hx hb dX12_puts_27 rfl (lv_at hl 2 rfl) ?_
  refine lv_imul hx hb dX12_puts_28 ?_
  refine lv_iadd hx hb dX12_puts_29 ?_
  refine lv_iload hx hb dX12_puts_30 (lv_at hl 4 rfl) ?_
  obtain ⟨y_6, ey_6, hF⟩ := lt_some hF
  refine lv_eq2i ey_6 ?_
  obtain ⟨g_7, hF⟩ := gd_some hF
  refine va_iast hx hb hK hP hD hS 1 0 rfl rfl (vpi_in g_7) dX12_puts_32 (fun H locs hP hD hS => ?_)
  obtain ⟨y_8, ey_8, hF⟩ := lt_some hF
  have hP : va_P (dC, dI) vwCl (wd_X12_puts cI a0 v0_2 v0_3 v0_5 v0_12 v0_13 v0_16 v0_17 v0_21 v0_23 v0_24 v0_25 v0_26 v0_29 v0_30 y_8) H := by rw [ey_8]; exact hP
  have hD : va_D A (wd_X12_puts cI a0 v0_2 v0_3 v0_5 v0_12 v0_13 v0_16 v0_17 v0_21 v0_23 v0_24 v0_25 v0_26 v0_29 v0_30 y_8) := by rw [ey_8]; exact hD
  obtain rfl := Option.some.inj hF
  exact W.vret hx hb hr (fun t ht hW => ⟨⟨(), rfl, trivial, by rw [ht]; exact hP, va_K.moved hW.alike hK, hD⟩, hS.F ht⟩) hS.2.2 dX12_puts_33

-- StrokeOutlinerModel.begins(II)V
def F_X12_begins (v0_0 : Nat → Int32) (p1 : Int32) (p2 : Int32) : Option ((Nat → Int32)) :=
  gd (decide (vpi 13 86)) (lt (v0_0 (13 : Int32).toNatClampNeg) (fun y_2 => gd (decide (vpi 13 86)) (lt ((v0_0 (13 : Int32).toNatClampNeg) + 1) (fun y_4 => gd (decide (vpi 13 86)) (lt (upd v0_0 (13 : Int32).toNatClampNeg y_4) (fun y_6 => lt (F_X12_at y_2) (fun u_7 => gd (decide (vpi u_7 86)) (lt (upd y_6 u_7.toNatClampNeg 1) (fun y_9 => lt (F_X12_at y_2) (fun u_10 => lt (u_10 + 1) (fun y_11 => gd (decide (vpi y_11 86)) (lt (upd y_9 y_11.toNatClampNeg 0) (fun y_13 => obd (F_X12_puts y_13 y_2 0 p1 p2) (fun u_14 => some u_14))))))))))))))
abbrev wd_X12_begins (cI : ClassId) (a0 : Nat → Nat) (v0_2 : Int32) (v0_3 : Int32) (v0_5 : Int32) (v0_12 : Int32) (v0_13 : Int32) (v0_16 : Int32) (v0_17 : Int32) (v0_21 : Int32) (v0_23 : Int32) (v0_24 : Int32) (v0_25 : Int32) (v0_26 : Int32) (v0_29 : Int32) (v0_30 : Int64) (v0_0 : Nat → Int32) : va_W := [(a0 0, .inr (11, [.ref (a0 1), .ref (a0 2), .int v0_2, .int v0_3, .ref (a0 5), .int v0_5, .ref (a0 7), .ref (a0 8), .ref (a0 9), .ref (a0 10), .ref (a0 11), .ref (a0 12), .int v0_12, .int v0_13, .ref (a0 15), .ref (a0 16), .int v0_16, .int v0_17, .ref (a0 19), .ref (a0 20), .ref (a0 21), .int v0_21, .ref (a0 23), .int v0_23, .int v0_24, .int v0_25, .int v0_26, .ref (a0 28), .ref (a0 29), .int v0_29, .long v0_30])), (a0 1, .inl (cI, 86, .inl v0_0))]
abbrev wz_X12_begins : List Cond := .code yX12_begins cX12_begins 4 none :: wALL
abbrev rm_X12_begins : Room := { frames := 2, cells := 0, slots := 0, locals := 44 }
abbrev Q_X12_begins (dC : Nat → ClassId) (dI : Nat → Nat → Nat) (cI : ClassId) (a0 : Nat → Nat) (v0_2 : Int32) (v0_3 : Int32) (v0_5 : Int32) (v0_12 : Int32) (v0_13 : Int32) (v0_16 : Int32) (v0_17 : Int32) (v0_21 : Int32) (v0_23 : Int32) (v0_24 : Int32) (v0_25 : Int32) (v0_26 : Int32) (v0_29 : Int32) (v0_30 : Int64) (u : ((Nat → Int32))) (A : Nat → Prop) : Array Value → State → Outcome → State → Prop := va_Qv (fun (_ : Unit) => True) (fun _ => q_at dC dI cI A (wd_X12_begins cI a0 v0_2 v0_3 v0_5 v0_12 v0_13 v0_16 v0_17 v0_21 v0_23 v0_24 v0_25 v0_26 v0_29 v0_30 u)) A
set_option maxHeartbeats 4000000 in
set_option maxRecDepth 100000 in
theorem c_X12_begins (l : Launch) (dC : Nat → ClassId) (dI : Nat → Nat → Nat) (cI : ClassId) (sz : Nat) (a0 : Nat → Nat) (v0_2 : Int32) (v0_3 : Int32) (v0_5 : Int32) (v0_12 : Int32) (v0_13 : Int32) (v0_16 : Int32) (v0_17 : Int32) (v0_21 : Int32) (v0_23 : Int32) (v0_24 : Int32) (v0_25 : Int32) (v0_26 : Int32) (v0_29 : Int32) (v0_30 : Int64) (v0_0 : Nat → Int32) (p1 : Int32) (p2 : Int32) (u : ((Nat → Int32))) (hF : F_X12_begins v0_0 p1 p2 = some u) : Met l yX12_begins wz_X12_begins rm_X12_begins (va_Pc [.ref (a0 0), .int p1, .int p2] (q_pre dC dI cI (wd_X12_begins cI a0 v0_2 v0_3 v0_5 v0_12 v0_13 v0_16 v0_17 v0_21 v0_23 v0_24 v0_25 v0_26 v0_29 v0_30 v0_0) sz)) (Q_X12_begins dC dI cI a0 v0_2 v0_3 v0_5 v0_12 v0_13 v0_16 v0_17 v0_21 v0_23 v0_24 v0_25 v0_26 v0_29 v0_30 u (va_A (wd_X12_begins cI a0 v0_2 v0_3 v0_5 v0_12 v0_13 v0_16 v0_17 v0_21 v0_23 v0_24 v0_25 v0_26 v0_29 v0_30 v0_0) sz)) 0 0 (va_A (wd_X12_begins cI a0 v0_2 v0_3 v0_5 v0_12 v0_13 v0_16 v0_17 v0_21 v0_23 v0_24 v0_25 v0_26 v0_29 v0_30 v0_0) sz) := by
  refine Met.ofW (cc := cX12_begins) (maxL := 4) (ret := none) (by decide) rfl ?_
  intro p e s m args below meth c s₁ B hml hv
  obtain ⟨rfl, hsz, hP, hK, hD0⟩ := hv
  have hx := B.exec
  have hb := B.bytes
  have hr := B.returns
  have hts := atoms_spec (ws := wz_X12_begins) B.pre
  have hta := wz_tl hts
  have hown : s.vm.findClass RX12 = some m.cls := findClass_of_methodNamed B.named
  have hlocks := B.notSynchronized
  subst hsz
  have hD := hD0.self (sz := s.heap.size)
  generalize hAe : va_A (wd_X12_begins cI a0 v0_2 v0_3 v0_5 v0_12 v0_13 v0_16 v0_17 v0_21 v0_23 v0_24 v0_25 v0_26 v0_29 v0_30 v0_0) s.heap.size = A at hD ⊢
  have hA : ∀ q : Nat, s.heap.size ≤ q → A q := fun q h => by rw [← hAe]; exact Or.inr h
  have hS : va_S A s.heap s.heap [] := va_S.rf
  have hP : va_P (dC, dI) vwCl (wd_X12_begins cI a0 v0_2 v0_3 v0_5 v0_12 v0_13 v0_16 v0_17 v0_21 v0_23 v0_24 v0_25 v0_26 v0_29 v0_30 v0_0) s.heap := hP
  have hl := lv_entry ([.ref (a0 0), .int p1, .int p2]) (n := 4) (Nat.le_of_ble_eq_true rfl)
  rw [lg_entry_eq]
  generalize (lg_sl ([.ref (a0 0), .int p1, .int p2]) ++ List.replicate (4 - (lg_sl ([.ref (a0 0), .int p1, .int p2])).length) Slot.unset).toArray = ls at hl ⊢
  have hl : lv_has ls 4 [(0, .ref (a0 0)), (1, .int p1), (2, .int p2)] := hl
  obtain ⟨H, hHe⟩ : ∃ H, H = s.heap := ⟨_, rfl⟩
  have hS : va_S A s.heap H [] := by rw [hHe]; exact hS
  have hP : va_P (dC, dI) vwCl (wd_X12_begins cI a0 v0_2 v0_3 v0_5 v0_12 v0_13 v0_16 v0_17 v0_21 v0_23 v0_24 v0_25 v0_26 v0_29 v0_30 v0_0) H := by rw [hHe]; exact hP
  rw [← hHe]
  unfold F_X12_begins at hF
  refine lv_aload_n hx hb dX12_begins_0 rfl (lv_at hl 0 rfl) ?_
  refine va_get (D := (dC, dI)) (ci := 11) (v := .ref (a0 1)) (C := RX12) (T := TX12) (N := 31) hx hb hta uw_X12 hown hK hP 0 rfl rfl 0 (by decide) (hta _ mA790) (fun _ h9 => h9) rfl dX12_begins_1 ?_
  refine lv_bipush (v := 13) hx hb dX12_begins_4 (by decide) ?_
  obtain ⟨g_1, hF⟩ := gd_some hF
  refine va_iald hx hb hK hP 1 0 rfl rfl (vpi_in g_1) dX12_begins_6 ?_
  obtain ⟨y_2, ey_2, hF⟩ := lt_some hF
  refine lv_eqi ey_2 ?_
  refine lv_istore_n (lv' := [(3, .int y_2), (0, .ref (a0 0)), (1, .int p1), (2, .int p2)]) hx hb dX12_begins_7 rfl hl (by decide) rfl (fun ls hl => ?_)
  refine lv_aload_n hx hb dX12_begins_8 rfl (lv_at hl 1 rfl) ?_
  refine va_get (D := (dC, dI)) (ci := 11) (v := .ref (a0 1)) (C := RX12) (T := TX12) (N := 31) hx hb hta uw_X12 hown hK hP 0 rfl rfl 0 (by decide) (hta _ mA790) (fun _ h9 => h9) rfl dX12_begins_9 ?_
  refine lv_bipush (v := 13) hx hb dX12_begins_12 (by decide) ?_
  refine lv_dup2_11 hx hb dX12_begins_14 rfl rfl ?_
  obtain ⟨g_3, hF⟩ := gd_some hF
  refine va_iald hx hb hK hP 1 0 rfl rfl (vpi_in g_3) dX12_begins_15 ?_
  refine lv_iconst (v := 1) hx hb dX12_begins_16 (by decide) ?_
  refine lv_iadd hx hb dX12_begins_17 ?_
  obtain ⟨y_4, ey_4, hF⟩ := lt_some hF
  refine lv_eqi ey_4 ?_
  obtain ⟨g_5, hF⟩ := gd_some hF
  refine va_iast hx hb hK hP hD hS 1 0 rfl rfl (vpi_in g_5) dX12_begins_18 (fun H locs hP hD hS => ?_)
  obtain ⟨y_6, ey_6, hF⟩ := lt_some hF
  have hP : va_P (dC, dI) vwCl (wd_X12_begins cI a0 v0_2 v0_3 v0_5 v0_12 v0_13 v0_16 v0_17 v0_21 v0_23 v0_24 v0_25 v0_26 v0_29 v0_30 y_6) H := by rw [ey_6]; exact hP
  have hD : va_D A (wd_X12_begins cI a0 v0_2 v0_3 v0_5 v0_12 v0_13 v0_16 v0_17 v0_21 v0_23 v0_24 v0_25 v0_26 v0_29 v0_30 y_6) := by rw [ey_6]; exact hD
  refine lv_aload_n hx hb dX12_begins_19 rfl (lv_at hl 1 rfl) ?_
  refine va_get (D := (dC, dI)) (ci := 11) (v := .ref (a0 1)) (C := RX12) (T := TX12) (N := 31) hx hb hta uw_X12 hown hK hP 0 rfl rfl 0 (by decide) (hta _ mA790) (fun _ h9 => h9) rfl dX12_begins_20 ?_
  refine lv_iload_n hx hb dX12_begins_23 rfl (lv_at hl 0 rfl) ?_
  obtain ⟨u_7, hu_7, hF⟩ := lt_some hF
  have hPc := hP.sub (ws' := ([] : va_W)) [] rfl
  have hDc := hD.sub (ws' := ([] : va_W)) [] rfl rfl
  refine q_calli (wc := ([] : va_W)) (w1 := ([] : va_W)) (ws' := (wd_X12_begins cI a0 v0_2 v0_3 v0_5 v0_12 v0_13 v0_16 v0_17 v0_21 v0_23 v0_24 v0_25 v0_26 v0_29 v0_30 y_6)) hP hD hS hA [] [0, 1] [0, 1] rfl rfl rfl (by decide) rfl rfl (va_runS (As := [.int y_2]) (rest := [.ref (a0 1)]) ⟨hx, hb, hml, hown, hta⟩ (c_X12_at l dC dI cI H.size y_2 u_7 hu_7.symm) (va_cwS 1 hta (ga_S mA828 mA829 mA814 mA825) rfl rfl rfl (by decide +kernel) ⟨Nat.le_of_ble_eq_true rfl, Nat.le_of_ble_eq_true rfl⟩) ⟨q_fb, q_ps hPc hK hDc⟩ rfl rfl hl.1 rfl (lv_room (Nat.le_of_ble_eq_true rfl)) dX12_begins_24 ⟨Nat.zero_le _, Nat.zero_le _⟩) (fun H locs hP hD hS => ?_)
  refine lv_iconst (v := 1) hx hb dX12_begins_27 (by decide) ?_
  obtain ⟨g_8, hF⟩ := gd_some hF
  refine va_iast hx hb hK hP hD hS 1 0 rfl rfl (vpi_in g_8) dX12_begins_28 (fun H locs hP hD hS => ?_)
  obtain ⟨y_9, ey_9, hF⟩ := lt_some hF
  have hP : va_P (dC, dI) vwCl (wd_X12_begins cI a0 v0_2 v0_3 v0_5 v0_12 v0_13 v0_16 v0_17 v0_21 v0_23 v0_24 v0_25 v0_26 v0_29 v0_30 y_9) H := by rw [ey_9]; exact hP
  have hD : va_D A (wd_X12_begins cI a0 v0_2 v0_3 v0_5 v0_12 v0_13 v0_16 v0_17 v0_21 v0_23 v0_24 v0_25 v0_26 v0_29 v0_30 y_9) := by rw [ey_9]; exact hD
  refine lv_aload_n hx hb dX12_begins_29 rfl (lv_at hl 1 rfl) ?_
  refine va_get (D := (dC, dI)) (ci := 11) (v := .ref (a0 1)) (C := RX12) (T := TX12) (N := 31) hx hb hta uw_X12 hown hK hP 0 rfl rfl 0 (by decide) (hta _ mA790) (fun _ h9 => h9) rfl dX12_begins_30 ?_
  refine lv_iload_n hx hb dX12_begins_33 rfl (lv_at hl 0 rfl) ?_
  obtain ⟨u_10, hu_10, hF⟩ := lt_some hF
  have hPc := hP.sub (ws' := ([] : va_W)) [] rfl
  have hDc := hD.sub (ws' := ([] : va_W)) [] rfl rfl
  refine q_calli (wc := ([] : va_W)) (w1 := ([] : va_W)) (ws' := (wd_X12_begins cI a0 v0_2 v0_3 v0_5 v0_12 v0_13 v0_16 v0_17 v0_21 v0_23 v0_24 v0_25 v0_26 v0_29 v0_30 y_9)) hP hD hS hA [] [0, 1] [0, 1] rfl rfl rfl (by decide) rfl rfl (va_runS (As := [.int y_2]) (rest := [.ref (a0 1)]) ⟨hx, hb, hml, hown, hta⟩ (c_X12_at l dC dI cI H.size y_2 u_10 hu_10.symm) (va_cwS 1 hta (ga_S mA828 mA829 mA814 mA825) rfl rfl rfl (by decide +kernel) ⟨Nat.le_of_ble_eq_true rfl, Nat.le_of_ble_eq_true rfl⟩) ⟨q_fb, q_ps hPc hK hDc⟩ rfl rfl hl.1 rfl (lv_room (Nat.le_of_ble_eq_true rfl)) dX12_begins_34 ⟨Nat.zero_le _, Nat.zero_le _⟩) (fun H locs hP hD hS => ?_)
  refine lv_iconst (v := 1) hx hb dX12_begins_37 (by decide) ?_
  refine lv_iadd hx hb dX12_begins_38 ?_
  refine lv_iconst (v := 0) hx hb dX12_begins_39 (by decide) ?_
  obtain ⟨y_11, ey_11, hF⟩ := lt_some hF
  refine lv_eq2i ey_11 ?_
  obtain ⟨g_12, hF⟩ := gd_some hF
  refine va_iast hx hb hK hP hD hS 1 0 rfl rfl (vpi_in g_12) dX12_begins_40 (fun H locs hP hD hS => ?_)
  obtain ⟨y_13, ey_13, hF⟩ := lt_some hF
  have hP : va_P (dC, dI) vwCl (wd_X12_begins cI a0 v0_2 v0_3 v0_5 v0_12 v0_13 v0_16 v0_17 v0_21 v0_23 v0_24 v0_25 v0_26 v0_29 v0_30 y_13) H := by rw [ey_13]; exact hP
  have hD : va_D A (wd_X12_begins cI a0 v0_2 v0_3 v0_5 v0_12 v0_13 v0_16 v0_17 v0_21 v0_23 v0_24 v0_25 v0_26 v0_29 v0_30 y_13) := by rw [ey_13]; exact hD
  refine lv_aload_n hx hb dX12_begins_41 rfl (lv_at hl 1 rfl) ?_
  refine lv_iload_n hx hb dX12_begins_42 rfl (lv_at hl 0 rfl) ?_
  refine lv_iconst (v := 0) hx hb dX12_begins_43 (by decide) ?_
  refine lv_iload_n hx hb dX12_begins_44 rfl (lv_at hl 2 rfl) ?_
  refine lv_iload_n hx hb dX12_begins_45 rfl (lv_at hl 3 rfl) ?_
  obtain ⟨u_14, hu_14, hF⟩ := obd_some hF
  have hPc := hP.sub (ws' := (wd_X12_puts cI a0 v0_2 v0_3 v0_5 v0_12 v0_13 v0_16 v0_17 v0_21 v0_23 v0_24 v0_25 v0_26 v0_29 v0_30 y_13)) [0, 1] rfl
  have hDc := hD.sub (ws' := (wd_X12_puts cI a0 v0_2 v0_3 v0_5 v0_12 v0_13 v0_16 v0_17 v0_21 v0_23 v0_24 v0_25 v0_26 v0_29 v0_30 y_13)) [0, 1] rfl rfl
  refine q_callv (wc := (wd_X12_puts cI a0 v0_2 v0_3 v0_5 v0_12 v0_13 v0_16 v0_17 v0_21 v0_23 v0_24 v0_25 v0_26 v0_29 v0_30 y_13)) (w1 := (wd_X12_puts cI a0 v0_2 v0_3 v0_5 v0_12 v0_13 v0_16 v0_17 v0_21 v0_23 v0_24 v0_25 v0_26 v0_29 v0_30 u_14)) (ws' := (wd_X12_begins cI a0 v0_2 v0_3 v0_5 v0_12 v0_13 v0_16 v0_17 v0_21 v0_23 v0_24 v0_25 v0_26 v0_29 v0_30 u_14)) hP hD hS hA [0, 1] [] [0, 1] rfl rfl rfl (by decide) rfl rfl (va_runV (As := [.int y_2, .int 0, .int p1, .int p2]) (rest := []) ⟨hx, hb, hml, hown, hta⟩ (c_X12_puts l dC dI cI H.size a0 v0_2 v0_3 v0_5 v0_12 v0_13 v0_16 v0_17 v0_21 v0_23 v0_24 v0_25 v0_26 v0_29 v0_30 y_13 y_2 0 p1 p2 u_14 hu_14) (cwV 4 hta (ga_V mA835 mA836 mA837 mA814 mA833) rfl rfl rfl (by decide +kernel) ⟨Nat.le_of_ble_eq_true rfl, Nat.le_of_ble_eq_true rfl⟩) ⟨q_fb, va_recv hK hP (ci := 11) (q0 := 0) rfl rfl, q_ps hPc hK hDc⟩ rfl rfl hl.1 rfl (lv_room (Nat.le_of_ble_eq_true rfl)) dX12_begins_46 ⟨Nat.zero_le _, Nat.zero_le _⟩) (fun H locs hP hD hS => ?_)
  obtain rfl := Option.some.inj hF
  exact W.vret hx hb hr (fun t ht hW => ⟨⟨(), rfl, trivial, by rw [ht]; exact hP, va_K.moved hW.alike hK, hD⟩, hS.F ht⟩) hS.2.2 dX12_begins_49

-- StrokeOutlinerModel.follows(II)V
def F_X12_follows (v0_0 : Nat → Int32) (p1 : Int32) (p2 : Int32) : Option ((Nat → Int32)) :=
  gd (decide (vpi 13 86)) (lt ((v0_0 (13 : Int32).toNatClampNeg) - 1) (fun y_2 => obd (F_X12_points v0_0 y_2) (fun u_3 => obd (F_X12_puts v0_0 y_2 u_3 p1 p2) (fun u_4 => lt (F_X12_at y_2) (fun u_5 => gd (decide (vpi u_5 86)) (lt ((u_4 u_5.toNatClampNeg) + 1) (fun y_7 => gd (decide (vpi u_5 86)) (lt (upd u_4 u_5.toNatClampNeg y_7) (fun y_9 => some y_9)))))))))
abbrev wd_X12_follows (cI : ClassId) (a0 : Nat → Nat) (v0_2 : Int32) (v0_3 : Int32) (v0_5 : Int32) (v0_12 : Int32) (v0_13 : Int32) (v0_16 : Int32) (v0_17 : Int32) (v0_21 : Int32) (v0_23 : Int32) (v0_24 : Int32) (v0_25 : Int32) (v0_26 : Int32) (v0_29 : Int32) (v0_30 : Int64) (v0_0 : Nat → Int32) : va_W := [(a0 0, .inr (11, [.ref (a0 1), .ref (a0 2), .int v0_2, .int v0_3, .ref (a0 5), .int v0_5, .ref (a0 7), .ref (a0 8), .ref (a0 9), .ref (a0 10), .ref (a0 11), .ref (a0 12), .int v0_12, .int v0_13, .ref (a0 15), .ref (a0 16), .int v0_16, .int v0_17, .ref (a0 19), .ref (a0 20), .ref (a0 21), .int v0_21, .ref (a0 23), .int v0_23, .int v0_24, .int v0_25, .int v0_26, .ref (a0 28), .ref (a0 29), .int v0_29, .long v0_30])), (a0 1, .inl (cI, 86, .inl v0_0))]
abbrev wz_X12_follows : List Cond := .code yX12_follows cX12_follows 4 none :: wALL
abbrev rm_X12_follows : Room := { frames := 2, cells := 0, slots := 0, locals := 44 }
abbrev Q_X12_follows (dC : Nat → ClassId) (dI : Nat → Nat → Nat) (cI : ClassId) (a0 : Nat → Nat) (v0_2 : Int32) (v0_3 : Int32) (v0_5 : Int32) (v0_12 : Int32) (v0_13 : Int32) (v0_16 : Int32) (v0_17 : Int32) (v0_21 : Int32) (v0_23 : Int32) (v0_24 : Int32) (v0_25 : Int32) (v0_26 : Int32) (v0_29 : Int32) (v0_30 : Int64) (u : ((Nat → Int32))) (A : Nat → Prop) : Array Value → State → Outcome → State → Prop := va_Qv (fun (_ : Unit) => True) (fun _ => q_at dC dI cI A (wd_X12_follows cI a0 v0_2 v0_3 v0_5 v0_12 v0_13 v0_16 v0_17 v0_21 v0_23 v0_24 v0_25 v0_26 v0_29 v0_30 u)) A
set_option maxHeartbeats 4000000 in
set_option maxRecDepth 100000 in
theorem c_X12_follows (l : Launch) (dC : Nat → ClassId) (dI : Nat → Nat → Nat) (cI : ClassId) (sz : Nat) (a0 : Nat → Nat) (v0_2 : Int32) (v0_3 : Int32) (v0_5 : Int32) (v0_12 : Int32) (v0_13 : Int32) (v0_16 : Int32) (v0_17 : Int32) (v0_21 : Int32) (v0_23 : Int32) (v0_24 : Int32) (v0_25 : Int32) (v0_26 : Int32) (v0_29 : Int32) (v0_30 : Int64) (v0_0 : Nat → Int32) (p1 : Int32) (p2 : Int32) (u : ((Nat → Int32))) (hF : F_X12_follows v0_0 p1 p2 = some u) : Met l yX12_follows wz_X12_follows rm_X12_follows (va_Pc [.ref (a0 0), .int p1, .int p2] (q_pre dC dI cI (wd_X12_follows cI a0 v0_2 v0_3 v0_5 v0_12 v0_13 v0_16 v0_17 v0_21 v0_23 v0_24 v0_25 v0_26 v0_29 v0_30 v0_0) sz)) (Q_X12_follows dC dI cI a0 v0_2 v0_3 v0_5 v0_12 v0_13 v0_16 v0_17 v0_21 v0_23 v0_24 v0_25 v0_26 v0_29 v0_30 u (va_A (wd_X12_follows cI a0 v0_2 v0_3 v0_5 v0_12 v0_13 v0_16 v0_17 v0_21 v0_23 v0_24 v0_25 v0_26 v0_29 v0_30 v0_0) sz)) 0 0 (va_A (wd_X12_follows cI a0 v0_2 v0_3 v0_5 v0_12 v0_13 v0_16 v0_17 v0_21 v0_23 v0_24 v0_25 v0_26 v0_29 v0_30 v0_0) sz) := by
  refine Met.ofW (cc := cX12_follows) (maxL := 4) (ret := none) (by decide) rfl ?_
  intro p e s m args below meth c s₁ B hml hv
  obtain ⟨rfl, hsz, hP, hK, hD0⟩ := hv
  have hx := B.exec
  have hb := B.bytes
  have hr := B.returns
  have hts := atoms_spec (ws := wz_X12_follows) B.pre
  have hta := wz_tl hts
  have hown : s.vm.findClass RX12 = some m.cls := findClass_of_methodNamed B.named
  have hlocks := B.notSynchronized
  subst hsz
  have hD := hD0.self (sz := s.heap.size)
  generalize hAe : va_A (wd_X12_follows cI a0 v0_2 v0_3 v0_5 v0_12 v0_13 v0_16 v0_17 v0_21 v0_23 v0_24 v0_25 v0_26 v0_29 v0_30 v0_0) s.heap.size = A at hD ⊢
  have hA : ∀ q : Nat, s.heap.size ≤ q → A q := fun q h => by rw [← hAe]; exact Or.inr h
  have hS : va_S A s.heap s.heap [] := va_S.rf
  have hP : va_P (dC, dI) vwCl (wd_X12_follows cI a0 v0_2 v0_3 v0_5 v0_12 v0_13 v0_16 v0_17 v0_21 v0_23 v0_24 v0_25 v0_26 v0_29 v0_30 v0_0) s.heap := hP
  have hl := lv_entry ([.ref (a0 0), .int p1, .int p2]) (n := 4) (Nat.le_of_ble_eq_true rfl)
  rw [lg_entry_eq]
  generalize (lg_sl ([.ref (a0 0), .int p1, .int p2]) ++ List.replicate (4 - (lg_sl ([.ref (a0 0), .int p1, .int p2])).length) Slot.unset).toArray = ls at hl ⊢
  have hl : lv_has ls 4 [(0, .ref (a0 0)), (1, .int p1), (2, .int p2)] := hl
  obtain ⟨H, hHe⟩ : ∃ H, H = s.heap := ⟨_, rfl⟩
  have hS : va_S A s.heap H [] := by rw [hHe]; exact hS
  have hP : va_P (dC, dI) vwCl (wd_X12_follows cI a0 v0_2 v0_3 v0_5 v0_12 v0_13 v0_16 v0_17 v0_21 v0_23 v0_24 v0_25 v0_26 v0_29 v0_30 v0_0) H := by rw [hHe]; exact hP
  rw [← hHe]
  unfold F_X12_follows at hF
  refine lv_aload_n hx hb dX12_follows_0 rfl (lv_at hl 0 rfl) ?_
  refine va_get (D := (dC, dI)) (ci := 11) (v := .ref (a0 1)) (C := RX12) (T := TX12) (N := 31) hx hb hta uw_X12 hown hK hP 0 rfl rfl 0 (by decide) (hta _ mA790) (fun _ h9 => h9) rfl dX12_follows_1 ?_
  refine lv_bipush (v := 13) hx hb dX12_follows_4 (by decide) ?_
  obtain ⟨g_1, hF⟩ := gd_some hF
  refine va_iald hx hb hK hP 1 0 rfl rfl (vpi_in g_1) dX12_follows_6 ?_
  refine lv_iconst (v := 1) hx hb dX12_follows_7 (by decide) ?_
  refine lv_isub hx hb dX12_follows_8 ?_
  obtain ⟨y_2, ey_2, hF⟩ := lt_some hF
  refine lv_eqi ey_2 ?_
  refine lv_istore_n (lv' := [(3, .int y_2), (0, .ref (a0 0)), (1, .int p1), (2, .int p2)]) hx hb dX12_follows_9 rfl hl (by decide) rfl (fun ls hl => ?_)
  refine lv_aload_n hx hb dX12_follows_10 rfl (lv_at hl 1 rfl) ?_
  refine lv_iload_n hx hb dX12_follows_11 rfl (lv_at hl 0 rfl) ?_
  refine lv_aload_n hx hb dX12_follows_12 rfl (lv_at hl 1 rfl) ?_
  refine lv_iload_n hx hb dX12_follows_13 rfl (lv_at hl 0 rfl) ?_
  obtain ⟨u_3, hu_3, hF⟩ := obd_some hF
  have hPc := hP.sub (ws' := (wd_X12_points cI a0 v0_2 v0_3 v0_5 v0_12 v0_13 v0_16 v0_17 v0_21 v0_23 v0_24 v0_25 v0_26 v0_29 v0_30 v0_0)) [0, 1] rfl
  have hDc := hD.sub (ws' := (wd_X12_points cI a0 v0_2 v0_3 v0_5 v0_12 v0_13 v0_16 v0_17 v0_21 v0_23 v0_24 v0_25 v0_26 v0_29 v0_30 v0_0)) [0, 1] rfl rfl
  refine q_calli (wc := (wd_X12_points cI a0 v0_2 v0_3 v0_5 v0_12 v0_13 v0_16 v0_17 v0_21 v0_23 v0_24 v0_25 v0_26 v0_29 v0_30 v0_0)) (w1 := (wd_X12_points cI a0 v0_2 v0_3 v0_5 v0_12 v0_13 v0_16 v0_17 v0_21 v0_23 v0_24 v0_25 v0_26 v0_29 v0_30 v0_0)) (ws' := (wd_X12_follows cI a0 v0_2 v0_3 v0_5 v0_12 v0_13 v0_16 v0_17 v0_21 v0_23 v0_24 v0_25 v0_26 v0_29 v0_30 v0_0)) hP hD hS hA [0, 1] [] [0, 1] rfl rfl rfl (by decide) rfl rfl (va_runV (As := [.int y_2]) (rest := [.int y_2, .ref (a0 0)]) ⟨hx, hb, hml, hown, hta⟩ (c_X12_points l dC dI cI H.size a0 v0_2 v0_3 v0_5 v0_12 v0_13 v0_16 v0_17 v0_21 v0_23 v0_24 v0_25 v0_26 v0_29 v0_30 v0_0 y_2 u_3 hu_3) (cwV 1 hta (ga_V mA839 mA840 mA841 mA814 mA827) rfl rfl rfl (by decide +kernel) ⟨Nat.le_of_ble_eq_true rfl, Nat.le_of_ble_eq_true rfl⟩) ⟨q_fb, va_recv hK hP (ci := 11) (q0 := 0) rfl rfl, q_ps hPc hK hDc⟩ rfl rfl hl.1 rfl (lv_room (Nat.le_of_ble_eq_true rfl)) dX12_follows_14 ⟨Nat.zero_le _, Nat.zero_le _⟩) (fun H locs hP hD hS => ?_)
  refine lv_iload_n hx hb dX12_follows_17 rfl (lv_at hl 2 rfl) ?_
  refine lv_iload_n hx hb dX12_follows_18 rfl (lv_at hl 3 rfl) ?_
  obtain ⟨u_4, hu_4, hF⟩ := obd_some hF
  have hPc := hP.sub (ws' := (wd_X12_puts cI a0 v0_2 v0_3 v0_5 v0_12 v0_13 v0_16 v0_17 v0_21 v0_23 v0_24 v0_25 v0_26 v0_29 v0_30 v0_0)) [0, 1] rfl
  have hDc := hD.sub (ws' := (wd_X12_puts cI a0 v0_2 v0_3 v0_5 v0_12 v0_13 v0_16 v0_17 v0_21 v0_23 v0_24 v0_25 v0_26 v0_29 v0_30 v0_0)) [0, 1] rfl rfl
  refine q_callv (wc := (wd_X12_puts cI a0 v0_2 v0_3 v0_5 v0_12 v0_13 v0_16 v0_17 v0_21 v0_23 v0_24 v0_25 v0_26 v0_29 v0_30 v0_0)) (w1 := (wd_X12_puts cI a0 v0_2 v0_3 v0_5 v0_12 v0_13 v0_16 v0_17 v0_21 v0_23 v0_24 v0_25 v0_26 v0_29 v0_30 u_4)) (ws' := (wd_X12_follows cI a0 v0_2 v0_3 v0_5 v0_12 v0_13 v0_16 v0_17 v0_21 v0_23 v0_24 v0_25 v0_26 v0_29 v0_30 u_4)) hP hD hS hA [0, 1] [] [0, 1] rfl rfl rfl (by decide) rfl rfl (va_runV (As := [.int y_2, .int u_3, .int p1, .int p2]) (rest := []) ⟨hx, hb, hml, hown, hta⟩ (c_X12_puts l dC dI cI H.size a0 v0_2 v0_3 v0_5 v0_12 v0_13 v0_16 v0_17 v0_21 v0_23 v0_24 v0_25 v0_26 v0_29 v0_30 v0_0 y_2 u_3 p1 p2 u_4 hu_4) (cwV 4 hta (ga_V mA835 mA836 mA837 mA814 mA833) rfl rfl rfl (by decide +kernel) ⟨Nat.le_of_ble_eq_true rfl, Nat.le_of_ble_eq_true rfl⟩) ⟨q_fb, va_recv hK hP (ci := 11) (q0 := 0) rfl rfl, q_ps hPc hK hDc⟩ rfl rfl hl.1 rfl (lv_room (Nat.le_of_ble_eq_true rfl)) dX12_follows_19 ⟨Nat.zero_le _, Nat.zero_le _⟩) (fun H locs hP hD hS => ?_)
  refine lv_aload_n hx hb dX12_follows_22 rfl (lv_at hl 1 rfl) ?_
  refine va_get (D := (dC, dI)) (ci := 11) (v := .ref (a0 1)) (C := RX12) (T := TX12) (N := 31) hx hb hta uw_X12 hown hK hP 0 rfl rfl 0 (by decide) (hta _ mA790) (fun _ h9 => h9) rfl dX12_follows_23 ?_
  refine lv_iload_n hx hb dX12_follows_26 rfl (lv_at hl 0 rfl) ?_
  obtain ⟨u_5, hu_5, hF⟩ := lt_some hF
  have hPc := hP.sub (ws' := ([] : va_W)) [] rfl
  have hDc := hD.sub (ws' := ([] : va_W)) [] rfl rfl
  refine q_calli (wc := ([] : va_W)) (w1 := ([] : va_W)) (ws' := (wd_X12_follows cI a0 v0_2 v0_3 v0_5 v0_12 v0_13 v0_16 v0_17 v0_21 v0_23 v0_24 v0_25 v0_26 v0_29 v0_30 u_4)) hP hD hS hA [] [0, 1] [0, 1] rfl rfl rfl (by decide) rfl rfl (va_runS (As := [.int y_2]) (rest := [.ref (a0 1)]) ⟨hx, hb, hml, hown, hta⟩ (c_X12_at l dC dI cI H.size y_2 u_5 hu_5.symm) (va_cwS 1 hta (ga_S mA828 mA829 mA814 mA825) rfl rfl rfl (by decide +kernel) ⟨Nat.le_of_ble_eq_true rfl, Nat.le_of_ble_eq_true rfl⟩) ⟨q_fb, q_ps hPc hK hDc⟩ rfl rfl hl.1 rfl (lv_room (Nat.le_of_ble_eq_true rfl)) dX12_follows_27 ⟨Nat.zero_le _, Nat.zero_le _⟩) (fun H locs hP hD hS => ?_)
  refine lv_dup2_11 hx hb dX12_follows_30 rfl rfl ?_
  obtain ⟨g_6, hF⟩ := gd_some hF
  refine va_iald hx hb hK hP 1 0 rfl rfl (vpi_in g_6) dX12_follows_31 ?_
  refine lv_iconst (v := 1) hx hb dX12_follows_32 (by decide) ?_
  refine lv_iadd hx hb dX12_follows_33 ?_
  obtain ⟨y_7, ey_7, hF⟩ := lt_some hF
  refine lv_eqi ey_7 ?_
  obtain ⟨g_8, hF⟩ := gd_some hF
  refine va_iast hx hb hK hP hD hS 1 0 rfl rfl (vpi_in g_8) dX12_follows_34 (fun H locs hP hD hS => ?_)
  obtain ⟨y_9, ey_9, hF⟩ := lt_some hF
  have hP : va_P (dC, dI) vwCl (wd_X12_follows cI a0 v0_2 v0_3 v0_5 v0_12 v0_13 v0_16 v0_17 v0_21 v0_23 v0_24 v0_25 v0_26 v0_29 v0_30 y_9) H := by rw [ey_9]; exact hP
  have hD : va_D A (wd_X12_follows cI a0 v0_2 v0_3 v0_5 v0_12 v0_13 v0_16 v0_17 v0_21 v0_23 v0_24 v0_25 v0_26 v0_29 v0_30 y_9) := by rw [ey_9]; exact hD
  obtain rfl := Option.some.inj hF
  exact W.vret hx hb hr (fun t ht hW => ⟨⟨(), rfl, trivial, by rw [ht]; exact hP, va_K.moved hW.alike hK, hD⟩, hS.F ht⟩) hS.2.2 dX12_follows_35

-- StrokeOutlinerModel.moveTo(II)I
def F_X12_moveTo_j29 (n : Nat) (v0_2 : Int32) (v0_0 : Nat → Int32) (v0_1 : Nat → Int32) (x1 : Int32) (x2 : Int32) (t1 : Int32) : Option (Int32 × Int32 × Int32 × (Nat → Int32) × (Nat → Int32)) :=
  lt (F_X12_refused t1) (fun u_1 => if u_1.1 = 0 then obd (F_X12_saves n v0_2 v0_0 v0_1) (fun u_3 => obd (F_X12_begins v0_0 x1 x2) (fun u_4 => gd (decide (vpi 13 86)) (some (((u_4 (13 : Int32).toNatClampNeg) - 1), u_3.1, u_1.2, u_4, u_3.2)))) else some (0, v0_2, u_1.2, v0_0, v0_1))
def F_X12_moveTo (n : Nat) (v0_2 : Int32) (v0_0 : Nat → Int32) (v0_1 : Nat → Int32) (p1 : Int32) (p2 : Int32) : Option (Int32 × Int32 × Int32 × (Nat → Int32) × (Nat → Int32)) :=
  lt (F_X12_isPlace p1 p2) (fun u_6 => if u_6 = 0 then F_X12_moveTo_j29 n v0_2 v0_0 v0_1 p1 p2 1 else gd (decide (vpi 13 86)) (if (v0_0 (13 : Int32).toNatClampNeg) = 4 then F_X12_moveTo_j29 n v0_2 v0_0 v0_1 p1 p2 2 else F_X12_moveTo_j29 n v0_2 v0_0 v0_1 p1 p2 0))
abbrev wd_X12_moveTo (cI : ClassId) (a0 : Nat → Nat) (v0_2 : Int32) (v0_3 : Int32) (v0_5 : Int32) (v0_12 : Int32) (v0_13 : Int32) (v0_16 : Int32) (v0_17 : Int32) (v0_21 : Int32) (v0_23 : Int32) (v0_24 : Int32) (v0_25 : Int32) (v0_26 : Int32) (v0_29 : Int32) (v0_30 : Int64) (v0_0 : Nat → Int32) (v0_1 : Nat → Int32) : va_W := [(a0 0, .inr (11, [.ref (a0 1), .ref (a0 2), .int v0_2, .int v0_3, .ref (a0 5), .int v0_5, .ref (a0 7), .ref (a0 8), .ref (a0 9), .ref (a0 10), .ref (a0 11), .ref (a0 12), .int v0_12, .int v0_13, .ref (a0 15), .ref (a0 16), .int v0_16, .int v0_17, .ref (a0 19), .ref (a0 20), .ref (a0 21), .int v0_21, .ref (a0 23), .int v0_23, .int v0_24, .int v0_25, .int v0_26, .ref (a0 28), .ref (a0 29), .int v0_29, .long v0_30])), (a0 1, .inl (cI, 86, .inl v0_0)), (a0 2, .inl (cI, 344, .inl v0_1))]
abbrev wz_X12_moveTo : List Cond := .code yX12_moveTo cX12_moveTo 3 (some .int) :: wALL
abbrev rm_X12_moveTo : Room := { frames := 3, cells := 0, slots := 0, locals := 67 }
abbrev Q_X12_moveTo (dC : Nat → ClassId) (dI : Nat → Nat → Nat) (cI : ClassId) (a0 : Nat → Nat) (v0_5 : Int32) (v0_12 : Int32) (v0_13 : Int32) (v0_16 : Int32) (v0_17 : Int32) (v0_21 : Int32) (v0_23 : Int32) (v0_24 : Int32) (v0_25 : Int32) (v0_26 : Int32) (v0_29 : Int32) (v0_30 : Int64) (u : (Int32 × Int32 × Int32 × (Nat → Int32) × (Nat → Int32))) (A : Nat → Prop) : Array Value → State → Outcome → State → Prop := va_Qi (fun (r : Int32) (_ : Unit) => r = u.1) (fun _ => q_at dC dI cI A (wd_X12_moveTo cI a0 u.2.1 u.2.2.1 v0_5 v0_12 v0_13 v0_16 v0_17 v0_21 v0_23 v0_24 v0_25 v0_26 v0_29 v0_30 u.2.2.2.1 u.2.2.2.2)) A
set_option maxHeartbeats 4000000 in
set_option maxRecDepth 100000 in
theorem c_X12_moveTo (l : Launch) (dC : Nat → ClassId) (dI : Nat → Nat → Nat) (cI : ClassId) (sz : Nat) (a0 : Nat → Nat) (v0_2 : Int32) (v0_3 : Int32) (v0_5 : Int32) (v0_12 : Int32) (v0_13 : Int32) (v0_16 : Int32) (v0_17 : Int32) (v0_21 : Int32) (v0_23 : Int32) (v0_24 : Int32) (v0_25 : Int32) (v0_26 : Int32) (v0_29 : Int32) (v0_30 : Int64) (v0_0 : Nat → Int32) (v0_1 : Nat → Int32) (p1 : Int32) (p2 : Int32) (n : Nat) (u : (Int32 × Int32 × Int32 × (Nat → Int32) × (Nat → Int32))) (hF : F_X12_moveTo n v0_2 v0_0 v0_1 p1 p2 = some u) : Met l yX12_moveTo wz_X12_moveTo rm_X12_moveTo (va_Pc [.ref (a0 0), .int p1, .int p2] (q_pre dC dI cI (wd_X12_moveTo cI a0 v0_2 v0_3 v0_5 v0_12 v0_13 v0_16 v0_17 v0_21 v0_23 v0_24 v0_25 v0_26 v0_29 v0_30 v0_0 v0_1) sz)) (Q_X12_moveTo dC dI cI a0 v0_5 v0_12 v0_13 v0_16 v0_17 v0_21 v0_23 v0_24 v0_25 v0_26 v0_29 v0_30 u (va_A (wd_X12_moveTo cI a0 v0_2 v0_3 v0_5 v0_12 v0_13 v0_16 v0_17 v0_21 v0_23 v0_24 v0_25 v0_26 v0_29 v0_30 v0_0 v0_1) sz)) 0 0 (va_A (wd_X12_moveTo cI a0 v0_2 v0_3 v0_5 v0_12 v0_13 v0_16 v0_17 v0_21 v0_23 v0_24 v0_25 v0_26 v0_29 v0_30 v0_0 v0_1) sz) := by
  refine Met.ofW (cc := cX12_moveTo) (maxL := 3) (ret := (some .int)) (by decide) rfl ?_
  intro p e s m args below meth c s₁ B hml hv
  obtain ⟨rfl, hsz, hP, hK, hD0⟩ := hv
  have hx := B.exec
  have hb := B.bytes
  have hr := B.returns
  have hts := atoms_spec (ws := wz_X12_moveTo) B.pre
  have hta := wz_tl hts
  have hown : s.vm.findClass RX12 = some m.cls := findClass_of_methodNamed B.named
  have hlocks := B.notSynchronized
  subst hsz
  have hD := hD0.self (sz := s.heap.size)
  generalize hAe : va_A (wd_X12_moveTo cI a0 v0_2 v0_3 v0_5 v0_12 v0_13 v0_16 v0_17 v0_21 v0_23 v0_24 v0_25 v0_26 v0_29 v0_30 v0_0 v0_1) s.heap.size = A at hD ⊢
  have hA : ∀ q : Nat, s.heap.size ≤ q → A q := fun q h => by rw [← hAe]; exact Or.inr h
  have hS : va_S A s.heap s.heap [] := va_S.rf
  have hP : va_P (dC, dI) vwCl (wd_X12_moveTo cI a0 v0_2 v0_3 v0_5 v0_12 v0_13 v0_16 v0_17 v0_21 v0_23 v0_24 v0_25 v0_26 v0_29 v0_30 v0_0 v0_1) s.heap := hP
  have hl := lv_entry ([.ref (a0 0), .int p1, .int p2]) (n := 3) (Nat.le_of_ble_eq_true rfl)
  rw [lg_entry_eq]
  generalize (lg_sl ([.ref (a0 0), .int p1, .int p2]) ++ List.replicate (3 - (lg_sl ([.ref (a0 0), .int p1, .int p2])).length) Slot.unset).toArray = ls at hl ⊢
  have hl : lv_has ls 3 [(0, .ref (a0 0)), (1, .int p1), (2, .int p2)] := hl
  obtain ⟨H, hHe⟩ : ∃ H, H = s.heap := ⟨_, rfl⟩
  have hS : va_S A s.heap H [] := by rw [hHe]; exact hS
  have hP : va_P (dC, dI) vwCl (wd_X12_moveTo cI a0 v0_2 v0_3 v0_5 v0_12 v0_13 v0_16 v0_17 v0_21 v0_23 v0_24 v0_25 v0_26 v0_29 v0_30 v0_0 v0_1) H := by rw [hHe]; exact hP
  rw [← hHe]
  unfold F_X12_moveTo at hF
  have j29 : ∀ (v0_2 : Int32) (v0_3 : Int32) (v0_0 : Nat → Int32) (v0_1 : Nat → Int32) (x1 : Int32) (x2 : Int32) (t1 : Int32), F_X12_moveTo_j29 n v0_2 v0_0 v0_1 x1 x2 t1 = some u → ∀ (H : Heap) (locs : List Loc) (ls : Array Slot), va_P (dC, dI) vwCl (wd_X12_moveTo cI a0 v0_2 v0_3 v0_5 v0_12 v0_13 v0_16 v0_17 v0_21 v0_23 v0_24 v0_25 v0_26 v0_29 v0_30 v0_0 v0_1) H → va_D A (wd_X12_moveTo cI a0 v0_2 v0_3 v0_5 v0_12 v0_13 v0_16 v0_17 v0_21 v0_23 v0_24 v0_25 v0_26 v0_29 v0_30 v0_0 v0_1) → va_S A s.heap H locs → lv_has ls 3 [(0, .ref (a0 0)), (1, .int x1), (2, .int x2)] → W p l e (headSpec wz_X12_moveTo rm_X12_moveTo).room s m [.ref (a0 0), .int p1, .int p2].toArray below meth c H locs 0 0 (MQ below (Q_X12_moveTo dC dI cI a0 v0_5 v0_12 v0_13 v0_16 v0_17 v0_21 v0_23 v0_24 v0_25 v0_26 v0_29 v0_30 u A) [.ref (a0 0), .int p1, .int p2].toArray s 0 0 A) (F0 m 29 ls [.int t1, .ref (a0 0)]) := by
    intro v0_2 v0_3 v0_0 v0_1 x1 x2 t1 hF H locs ls hP hD hS hl
    unfold F_X12_moveTo_j29 at hF
    obtain ⟨u_1, hu_1, hF⟩ := lt_some hF
    have hPc := hP.sub (ws' := (wd_X12_refused cI a0 v0_2 v0_3 v0_5 v0_12 v0_13 v0_16 v0_17 v0_21 v0_23 v0_24 v0_25 v0_26 v0_29 v0_30)) [0] rfl
    have hDc := hD.sub (ws' := (wd_X12_refused cI a0 v0_2 v0_3 v0_5 v0_12 v0_13 v0_16 v0_17 v0_21 v0_23 v0_24 v0_25 v0_26 v0_29 v0_30)) [0] rfl rfl
    refine q_callz (wc := (wd_X12_refused cI a0 v0_2 v0_3 v0_5 v0_12 v0_13 v0_16 v0_17 v0_21 v0_23 v0_24 v0_25 v0_26 v0_29 v0_30)) (w1 := (wd_X12_refused cI a0 v0_2 u_1.2 v0_5 v0_12 v0_13 v0_16 v0_17 v0_21 v0_23 v0_24 v0_25 v0_26 v0_29 v0_30)) (ws' := (wd_X12_moveTo cI a0 v0_2 u_1.2 v0_5 v0_12 v0_13 v0_16 v0_17 v0_21 v0_23 v0_24 v0_25 v0_26 v0_29 v0_30 v0_0 v0_1)) hP hD hS hA [0] [1, 2] [2, 0, 1] rfl rfl rfl (by decide) rfl rfl (va_runV (As := [.int t1]) (rest := []) ⟨hx, hb, hml, hown, hta⟩ (c_X12_refused l dC dI cI H.size a0 v0_2 v0_3 v0_5 v0_12 v0_13 v0_16 v0_17 v0_21 v0_23 v0_24 v0_25 v0_26 v0_29 v0_30 t1 u_1 hu_1.symm) (cwV 1 hta (ga_V mA822 mA823 mA824 mA814 mA809) rfl rfl rfl (by decide +kernel) ⟨Nat.le_of_ble_eq_true rfl, Nat.le_of_ble_eq_true rfl⟩) ⟨q_fb, va_recv hK hP (ci := 11) (q0 := 0) rfl rfl, q_ps hPc hK hDc⟩ rfl rfl hl.1 rfl (lv_room (Nat.le_of_ble_eq_true rfl)) dX12_moveTo_29 ⟨Nat.zero_le _, Nat.zero_le _⟩) (fun hzu_1 H locs hP hD hS => ?_)
    refine lv_if_eq (tgt := 37) hx hb dX12_moveTo_32 (by decide) (fun c_2 => ?_) (fun c_2 => ?_)
    · have hF := it_t hF c_2
      refine lv_aload_n hx hb dX12_moveTo_37 rfl (lv_at hl 0 rfl) ?_
      obtain ⟨u_3, hu_3, hF⟩ := obd_some hF
      have hPc := hP.sub (ws' := (wd_X12_saves cI a0 v0_2 u_1.2 v0_5 v0_12 v0_13 v0_16 v0_17 v0_21 v0_23 v0_24 v0_25 v0_26 v0_29 v0_30 v0_0 v0_1)) [0, 1, 2] rfl
      have hDc := hD.sub (ws' := (wd_X12_saves cI a0 v0_2 u_1.2 v0_5 v0_12 v0_13 v0_16 v0_17 v0_21 v0_23 v0_24 v0_25 v0_26 v0_29 v0_30 v0_0 v0_1)) [0, 1, 2] rfl rfl
      refine q_callv (wc := (wd_X12_saves cI a0 v0_2 u_1.2 v0_5 v0_12 v0_13 v0_16 v0_17 v0_21 v0_23 v0_24 v0_25 v0_26 v0_29 v0_30 v0_0 v0_1)) (w1 := (wd_X12_saves cI a0 u_3.1 u_1.2 v0_5 v0_12 v0_13 v0_16 v0_17 v0_21 v0_23 v0_24 v0_25 v0_26 v0_29 v0_30 v0_0 u_3.2)) (ws' := (wd_X12_moveTo cI a0 u_3.1 u_1.2 v0_5 v0_12 v0_13 v0_16 v0_17 v0_21 v0_23 v0_24 v0_25 v0_26 v0_29 v0_30 v0_0 u_3.2)) hP hD hS hA [0, 1, 2] [] [0, 1, 2] rfl rfl rfl (by decide) rfl rfl (va_runV (As := []) (rest := []) ⟨hx, hb, hml, hown, hta⟩ (c_X12_saves l dC dI cI H.size a0 v0_2 u_1.2 v0_5 v0_12 v0_13 v0_16 v0_17 v0_21 v0_23 v0_24 v0_25 v0_26 v0_29 v0_30 v0_0 v0_1 n u_3 hu_3) (cwV 0 hta (ga_V mA845 mA846 mA847 mA814 mA819) rfl rfl rfl (by decide +kernel) ⟨Nat.le_of_ble_eq_true rfl, Nat.le_of_ble_eq_true rfl⟩) ⟨q_fb, va_recv hK hP (ci := 11) (q0 := 0) rfl rfl, q_ps hPc hK hDc⟩ rfl rfl hl.1 rfl (lv_room (Nat.le_of_ble_eq_true rfl)) dX12_moveTo_38 ⟨Nat.zero_le _, Nat.zero_le _⟩) (fun H locs hP hD hS => ?_)
      refine lv_aload_n hx hb dX12_moveTo_41 rfl (lv_at hl 0 rfl) ?_
      refine lv_iload_n hx hb dX12_moveTo_42 rfl (lv_at hl 1 rfl) ?_
      refine lv_iload_n hx hb dX12_moveTo_43 rfl (lv_at hl 2 rfl) ?_
      obtain ⟨u_4, hu_4, hF⟩ := obd_some hF
      have hPc := hP.sub (ws' := (wd_X12_begins cI a0 u_3.1 u_1.2 v0_5 v0_12 v0_13 v0_16 v0_17 v0_21 v0_23 v0_24 v0_25 v0_26 v0_29 v0_30 v0_0)) [0, 1] rfl
      have hDc := hD.sub (ws' := (wd_X12_begins cI a0 u_3.1 u_1.2 v0_5 v0_12 v0_13 v0_16 v0_17 v0_21 v0_23 v0_24 v0_25 v0_26 v0_29 v0_30 v0_0)) [0, 1] rfl rfl
      refine q_callv (wc := (wd_X12_begins cI a0 u_3.1 u_1.2 v0_5 v0_12 v0_13 v0_16 v0_17 v0_21 v0_23 v0_24 v0_25 v0_26 v0_29 v0_30 v0_0)) (w1 := (wd_X12_begins cI a0 u_3.1 u_1.2 v0_5 v0_12 v0_13 v0_16 v0_17 v0_21 v0_23 v0_24 v0_25 v0_26 v0_29 v0_30 u_4)) (ws' := (wd_X12_moveTo cI a0 u_3.1 u_1.2 v0_5 v0_12 v0_13 v0_16 v0_17 v0_21 v0_23 v0_24 v0_25 v0_26 v0_29 v0_30 u_4 u_3.2)) hP hD hS hA [0, 1] [2] [1, 2, 0] rfl rfl rfl (by decide) rfl rfl (va_runV (As := [.int x1, .int x2]) (rest := []) ⟨hx, hb, hml, hown, hta⟩ (c_X12_begins l dC dI cI H.size a0 u_3.1 u_1.2 v0_5 v0_12 v0_13 v0_16 v0_17 v0_21 v0_23 v0_24 v0_25 v0_26 v0_29 v0_30 v0_0 x1 x2 u_4 hu_4) (cwV 2 hta (ga_V mA848 mA849 mA850 mA814 mA834) rfl rfl rfl (by decide +kernel) ⟨Nat.le_of_ble_eq_true rfl, Nat.le_of_ble_eq_true rfl⟩) ⟨q_fb, va_recv hK hP (ci := 11) (q0 := 0) rfl rfl, q_ps hPc hK hDc⟩ rfl rfl hl.1 rfl (lv_room (Nat.le_of_ble_eq_true rfl)) dX12_moveTo_44 ⟨Nat.zero_le _, Nat.zero_le _⟩) (fun H locs hP hD hS => ?_)
      refine lv_aload_n hx hb dX12_moveTo_47 rfl (lv_at hl 0 rfl) ?_
      refine va_get (D := (dC, dI)) (ci := 11) (v := .ref (a0 1)) (C := RX12) (T := TX12) (N := 31) hx hb hta uw_X12 hown hK hP 0 rfl rfl 0 (by decide) (hta _ mA790) (fun _ h9 => h9) rfl dX12_moveTo_48 ?_
      refine lv_bipush (v := 13) hx hb dX12_moveTo_51 (by decide) ?_
      obtain ⟨g_5, hF⟩ := gd_some hF
      refine va_iald hx hb hK hP 1 0 rfl rfl (vpi_in g_5) dX12_moveTo_53 ?_
      refine lv_iconst (v := 1) hx hb dX12_moveTo_54 (by decide) ?_
      refine lv_isub hx hb dX12_moveTo_55 ?_
      obtain rfl := Option.some.inj hF
      exact W.iret (v := ((u_4 (13 : Int32).toNatClampNeg) - 1)) hx hb hr (fun t ht hW => ⟨⟨((u_4 (13 : Int32).toNatClampNeg) - 1), (), rfl, rfl, by rw [ht]; exact hP, va_K.moved hW.alike hK, hD⟩, hS.F ht⟩) hS.2.2 dX12_moveTo_56
    · have hF := it_f hF c_2
      refine lv_iconst (v := 0) hx hb dX12_moveTo_35 (by decide) ?_
      obtain rfl := Option.some.inj hF
      exact W.iret (v := 0) hx hb hr (fun t ht hW => ⟨⟨0, (), rfl, rfl, by rw [ht]; exact hP, va_K.moved hW.alike hK, hD⟩, hS.F ht⟩) hS.2.2 dX12_moveTo_36
  refine lv_aload_n hx hb dX12_moveTo_0 rfl (lv_at hl 0 rfl) ?_
  refine lv_iload_n hx hb dX12_moveTo_1 rfl (lv_at hl 1 rfl) ?_
  refine lv_iload_n hx hb dX12_moveTo_2 rfl (lv_at hl 2 rfl) ?_
  obtain ⟨u_6, hu_6, hF⟩ := lt_some hF
  have hPc := hP.sub (ws' := ([] : va_W)) [] rfl
  have hDc := hD.sub (ws' := ([] : va_W)) [] rfl rfl
  refine q_callz (wc := ([] : va_W)) (w1 := ([] : va_W)) (ws' := (wd_X12_moveTo cI a0 v0_2 v0_3 v0_5 v0_12 v0_13 v0_16 v0_17 v0_21 v0_23 v0_24 v0_25 v0_26 v0_29 v0_30 v0_0 v0_1)) hP hD hS hA [] [0, 1, 2] [0, 1, 2] rfl rfl rfl (by decide) rfl rfl (va_runS (As := [.int p1, .int p2]) (rest := [.ref (a0 0)]) ⟨hx, hb, hml, hown, hta⟩ (c_X12_isPlace l dC dI cI H.size p1 p2 u_6 hu_6.symm) (va_cwS 2 hta (ga_S mA843 mA844 mA814 mA811) rfl rfl rfl (by decide +kernel) ⟨Nat.le_of_ble_eq_true rfl, Nat.le_of_ble_eq_true rfl⟩) ⟨q_fb, q_ps hPc hK hDc⟩ rfl rfl hl.1 rfl (lv_room (Nat.le_of_ble_eq_true rfl)) dX12_moveTo_3 ⟨Nat.zero_le _, Nat.zero_le _⟩) (fun hzu_6 H locs hP hD hS => ?_)
  refine lv_if_ne (tgt := 13) hx hb dX12_moveTo_6 (by decide) (fun c_7 => ?_) (fun c_7 => ?_)
  · have hF := it_f hF c_7
    refine lv_aload_n hx hb dX12_moveTo_13 rfl (lv_at hl 0 rfl) ?_
    refine va_get (D := (dC, dI)) (ci := 11) (v := .ref (a0 1)) (C := RX12) (T := TX12) (N := 31) hx hb hta uw_X12 hown hK hP 0 rfl rfl 0 (by decide) (hta _ mA790) (fun _ h9 => h9) rfl dX12_moveTo_14 ?_
    refine lv_bipush (v := 13) hx hb dX12_moveTo_17 (by decide) ?_
    obtain ⟨g_8, hF⟩ := gd_some hF
    refine va_iald hx hb hK hP 1 0 rfl rfl (vpi_in g_8) dX12_moveTo_19 ?_
    refine lv_iconst (v := 4) hx hb dX12_moveTo_20 (by decide) ?_
    refine lv_icmp_ne (tgt := 28) hx hb dX12_moveTo_21 (by decide) (fun c_9 => ?_) (fun c_9 => ?_)
    · have hF := it_f hF c_9
      refine lv_iconst (v := 0) hx hb dX12_moveTo_28 (by decide) ?_
      exact j29 v0_2 v0_3 v0_0 v0_1 p1 p2 0 hF _ _ _ hP hD hS (lv_sub hl [0, 1, 2] rfl)
    · have hF := it_t hF c_9
      refine lv_iconst (v := 2) hx hb dX12_moveTo_24 (by decide) ?_
      refine lv_goto (tgt := 29) hx hb dX12_moveTo_25 (by decide) ?_
      exact j29 v0_2 v0_3 v0_0 v0_1 p1 p2 2 hF _ _ _ hP hD hS (lv_sub hl [0, 1, 2] rfl)
  · have hF := it_t hF c_7
    refine lv_iconst (v := 1) hx hb dX12_moveTo_9 (by decide) ?_
    refine lv_goto (tgt := 29) hx hb dX12_moveTo_10 (by decide) ?_
    exact j29 v0_2 v0_3 v0_0 v0_1 p1 p2 1 hF _ _ _ hP hD hS (lv_sub hl [0, 1, 2] rfl)

-- StrokeOutlinerModel.isOpen()Z
def F_X12_isOpen_j30  : Option (Int32) :=
  some 0
def F_X12_isOpen (v0_0 : Nat → Int32) : Option (Int32) :=
  gd (decide (vpi 13 86)) (if (v0_0 (13 : Int32).toNatClampNeg) ≤ 0 then F_X12_isOpen_j30 else gd (decide (vpi 13 86)) (obd (F_X12_isClosed v0_0 ((v0_0 (13 : Int32).toNatClampNeg) - 1)) (fun u_4 => if u_4 = 0 then some 1 else F_X12_isOpen_j30)))
abbrev wd_X12_isOpen (cI : ClassId) (a0 : Nat → Nat) (v0_2 : Int32) (v0_3 : Int32) (v0_5 : Int32) (v0_12 : Int32) (v0_13 : Int32) (v0_16 : Int32) (v0_17 : Int32) (v0_21 : Int32) (v0_23 : Int32) (v0_24 : Int32) (v0_25 : Int32) (v0_26 : Int32) (v0_29 : Int32) (v0_30 : Int64) (v0_0 : Nat → Int32) : va_W := [(a0 0, .inr (11, [.ref (a0 1), .ref (a0 2), .int v0_2, .int v0_3, .ref (a0 5), .int v0_5, .ref (a0 7), .ref (a0 8), .ref (a0 9), .ref (a0 10), .ref (a0 11), .ref (a0 12), .int v0_12, .int v0_13, .ref (a0 15), .ref (a0 16), .int v0_16, .int v0_17, .ref (a0 19), .ref (a0 20), .ref (a0 21), .int v0_21, .ref (a0 23), .int v0_23, .int v0_24, .int v0_25, .int v0_26, .ref (a0 28), .ref (a0 29), .int v0_29, .long v0_30])), (a0 1, .inl (cI, 86, .inl v0_0))]
abbrev wz_X12_isOpen : List Cond := .code yX12_isOpen cX12_isOpen 1 (some .boolean) :: wALL
abbrev rm_X12_isOpen : Room := { frames := 2, cells := 0, slots := 0, locals := 41 }
abbrev Q_X12_isOpen (dC : Nat → ClassId) (dI : Nat → Nat → Nat) (cI : ClassId) (a0 : Nat → Nat) (v0_2 : Int32) (v0_3 : Int32) (v0_5 : Int32) (v0_12 : Int32) (v0_13 : Int32) (v0_16 : Int32) (v0_17 : Int32) (v0_21 : Int32) (v0_23 : Int32) (v0_24 : Int32) (v0_25 : Int32) (v0_26 : Int32) (v0_29 : Int32) (v0_30 : Int64) (v0_0 : Nat → Int32) (u : (Int32)) (A : Nat → Prop) : Array Value → State → Outcome → State → Prop := va_Qi (fun (r : Int32) (_ : Unit) => r = u ∧ (u = 0 ∨ u = 1)) (fun _ => q_at dC dI cI A (wd_X12_isOpen cI a0 v0_2 v0_3 v0_5 v0_12 v0_13 v0_16 v0_17 v0_21 v0_23 v0_24 v0_25 v0_26 v0_29 v0_30 v0_0)) A
set_option maxHeartbeats 4000000 in
set_option maxRecDepth 100000 in
theorem c_X12_isOpen (l : Launch) (dC : Nat → ClassId) (dI : Nat → Nat → Nat) (cI : ClassId) (sz : Nat) (a0 : Nat → Nat) (v0_2 : Int32) (v0_3 : Int32) (v0_5 : Int32) (v0_12 : Int32) (v0_13 : Int32) (v0_16 : Int32) (v0_17 : Int32) (v0_21 : Int32) (v0_23 : Int32) (v0_24 : Int32) (v0_25 : Int32) (v0_26 : Int32) (v0_29 : Int32) (v0_30 : Int64) (v0_0 : Nat → Int32) (u : (Int32)) (hF : F_X12_isOpen v0_0 = some u) : Met l yX12_isOpen wz_X12_isOpen rm_X12_isOpen (va_Pc [.ref (a0 0)] (q_pre dC dI cI (wd_X12_isOpen cI a0 v0_2 v0_3 v0_5 v0_12 v0_13 v0_16 v0_17 v0_21 v0_23 v0_24 v0_25 v0_26 v0_29 v0_30 v0_0) sz)) (Q_X12_isOpen dC dI cI a0 v0_2 v0_3 v0_5 v0_12 v0_13 v0_16 v0_17 v0_21 v0_23 v0_24 v0_25 v0_26 v0_29 v0_30 v0_0 u (va_A (wd_X12_isOpen cI a0 v0_2 v0_3 v0_5 v0_12 v0_13 v0_16 v0_17 v0_21 v0_23 v0_24 v0_25 v0_26 v0_29 v0_30 v0_0) sz)) 0 0 (va_A (wd_X12_isOpen cI a0 v0_2 v0_3 v0_5 v0_12 v0_13 v0_16 v0_17 v0_21 v0_23 v0_24 v0_25 v0_26 v0_29 v0_30 v0_0) sz) := by
  refine Met.ofW (cc := cX12_isOpen) (maxL := 1) (ret := (some .boolean)) (by decide) rfl ?_
  intro p e s m args below meth c s₁ B hml hv
  obtain ⟨rfl, hsz, hP, hK, hD0⟩ := hv
  have hx := B.exec
  have hb := B.bytes
  have hr := B.returns
  have hts := atoms_spec (ws := wz_X12_isOpen) B.pre
  have hta := wz_tl hts
  have hown : s.vm.findClass RX12 = some m.cls := findClass_of_methodNamed B.named
  have hlocks := B.notSynchronized
  subst hsz
  have hD := hD0.self (sz := s.heap.size)
  generalize hAe : va_A (wd_X12_isOpen cI a0 v0_2 v0_3 v0_5 v0_12 v0_13 v0_16 v0_17 v0_21 v0_23 v0_24 v0_25 v0_26 v0_29 v0_30 v0_0) s.heap.size = A at hD ⊢
  have hA : ∀ q : Nat, s.heap.size ≤ q → A q := fun q h => by rw [← hAe]; exact Or.inr h
  have hS : va_S A s.heap s.heap [] := va_S.rf
  have hP : va_P (dC, dI) vwCl (wd_X12_isOpen cI a0 v0_2 v0_3 v0_5 v0_12 v0_13 v0_16 v0_17 v0_21 v0_23 v0_24 v0_25 v0_26 v0_29 v0_30 v0_0) s.heap := hP
  have hl := lv_entry ([.ref (a0 0)]) (n := 1) (Nat.le_of_ble_eq_true rfl)
  rw [lg_entry_eq]
  generalize (lg_sl ([.ref (a0 0)]) ++ List.replicate (1 - (lg_sl ([.ref (a0 0)])).length) Slot.unset).toArray = ls at hl ⊢
  have hl : lv_has ls 1 [(0, .ref (a0 0))] := hl
  obtain ⟨H, hHe⟩ : ∃ H, H = s.heap := ⟨_, rfl⟩
  have hS : va_S A s.heap H [] := by rw [hHe]; exact hS
  have hP : va_P (dC, dI) vwCl (wd_X12_isOpen cI a0 v0_2 v0_3 v0_5 v0_12 v0_13 v0_16 v0_17 v0_21 v0_23 v0_24 v0_25 v0_26 v0_29 v0_30 v0_0) H := by rw [hHe]; exact hP
  rw [← hHe]
  unfold F_X12_isOpen at hF
  have j30 : ∀ (_ : Unit), F_X12_isOpen_j30 = some u → ∀ (H : Heap) (locs : List Loc) (ls : Array Slot), va_P (dC, dI) vwCl (wd_X12_isOpen cI a0 v0_2 v0_3 v0_5 v0_12 v0_13 v0_16 v0_17 v0_21 v0_23 v0_24 v0_25 v0_26 v0_29 v0_30 v0_0) H → va_D A (wd_X12_isOpen cI a0 v0_2 v0_3 v0_5 v0_12 v0_13 v0_16 v0_17 v0_21 v0_23 v0_24 v0_25 v0_26 v0_29 v0_30 v0_0) → va_S A s.heap H locs → lv_has ls 1 [] → W p l e (headSpec wz_X12_isOpen rm_X12_isOpen).room s m [.ref (a0 0)].toArray below meth c H locs 0 0 (MQ below (Q_X12_isOpen dC dI cI a0 v0_2 v0_3 v0_5 v0_12 v0_13 v0_16 v0_17 v0_21 v0_23 v0_24 v0_25 v0_26 v0_29 v0_30 v0_0 u A) [.ref (a0 0)].toArray s 0 0 A) (F0 m 30 ls []) := by
    intro _ hF H locs ls hP hD hS hl
    unfold F_X12_isOpen_j30 at hF
    refine lv_iconst (v := 0) hx hb dX12_isOpen_30 (by decide) ?_
    obtain rfl := Option.some.inj hF
    exact W.zret (v := 0) (ty := .boolean) hx hb hr (z_nar (Or.inl rfl)) (fun t ht hW => ⟨⟨0, (), rfl, ⟨rfl, (Or.inl rfl)⟩, by rw [ht]; exact hP, va_K.moved hW.alike hK, hD⟩, hS.F ht⟩) hS.2.2 dX12_isOpen_31
  refine lv_aload_n hx hb dX12_isOpen_0 rfl (lv_at hl 0 rfl) ?_
  refine va_get (D := (dC, dI)) (ci := 11) (v := .ref (a0 1)) (C := RX12) (T := TX12) (N := 31) hx hb hta uw_X12 hown hK hP 0 rfl rfl 0 (by decide) (hta _ mA790) (fun _ h9 => h9) rfl dX12_isOpen_1 ?_
  refine lv_bipush (v := 13) hx hb dX12_isOpen_4 (by decide) ?_
  obtain ⟨g_1, hF⟩ := gd_some hF
  refine va_iald hx hb hK hP 1 0 rfl rfl (vpi_in g_1) dX12_isOpen_6 ?_
  refine lv_if_le (tgt := 30) hx hb dX12_isOpen_7 (by decide) (fun c_2 => ?_) (fun c_2 => ?_)
  · have hF := it_t hF c_2
    exact j30 () hF _ _ _ hP hD hS (lv_sub hl [] rfl)
  · have hF := it_f hF c_2
    refine lv_aload_n hx hb dX12_isOpen_10 rfl (lv_at hl 0 rfl) ?_
    refine lv_aload_n hx hb dX12_isOpen_11 rfl (lv_at hl 0 rfl) ?_
    refine va_get (D := (dC, dI)) (ci := 11) (v := .ref (a0 1)) (C := RX12) (T := TX12) (N := 31) hx hb hta uw_X12 hown hK hP 0 rfl rfl 0 (by decide) (hta _ mA790) (fun _ h9 => h9) rfl dX12_isOpen_12 ?_
    refine lv_bipush (v := 13) hx hb dX12_isOpen_15 (by decide) ?_
    obtain ⟨g_3, hF⟩ := gd_some hF
    refine va_iald hx hb hK hP 1 0 rfl rfl (vpi_in g_3) dX12_isOpen_17 ?_
    refine lv_iconst (v := 1) hx hb dX12_isOpen_18 (by decide) ?_
    refine lv_isub hx hb dX12_isOpen_19 ?_
    obtain ⟨u_4, hu_4, hF⟩ := obd_some hF
    have hPc := hP.sub (ws' := (wd_X12_isClosed cI a0 v0_2 v0_3 v0_5 v0_12 v0_13 v0_16 v0_17 v0_21 v0_23 v0_24 v0_25 v0_26 v0_29 v0_30 v0_0)) [0, 1] rfl
    have hDc := hD.sub (ws' := (wd_X12_isClosed cI a0 v0_2 v0_3 v0_5 v0_12 v0_13 v0_16 v0_17 v0_21 v0_23 v0_24 v0_25 v0_26 v0_29 v0_30 v0_0)) [0, 1] rfl rfl
    refine q_callz (wc := (wd_X12_isClosed cI a0 v0_2 v0_3 v0_5 v0_12 v0_13 v0_16 v0_17 v0_21 v0_23 v0_24 v0_25 v0_26 v0_29 v0_30 v0_0)) (w1 := (wd_X12_isClosed cI a0 v0_2 v0_3 v0_5 v0_12 v0_13 v0_16 v0_17 v0_21 v0_23 v0_24 v0_25 v0_26 v0_29 v0_30 v0_0)) (ws' := (wd_X12_isOpen cI a0 v0_2 v0_3 v0_5 v0_12 v0_13 v0_16 v0_17 v0_21 v0_23 v0_24 v0_25 v0_26 v0_29 v0_30 v0_0)) hP hD hS hA [0, 1] [] [0, 1] rfl rfl rfl (by decide) rfl rfl (va_runV (As := [.int ((v0_0 (13 : Int32).toNatClampNeg) - 1)]) (rest := []) ⟨hx, hb, hml, hown, hta⟩ (c_X12_isClosed l dC dI cI H.size a0 v0_2 v0_3 v0_5 v0_12 v0_13 v0_16 v0_17 v0_21 v0_23 v0_24 v0_25 v0_26 v0_29 v0_30 v0_0 ((v0_0 (13 : Int32).toNatClampNeg) - 1) u_4 hu_4) (cwV 1 hta (ga_V mA852 mA853 mA854 mA814 mA830) rfl rfl rfl (by decide +kernel) ⟨Nat.le_of_ble_eq_true rfl, Nat.le_of_ble_eq_true rfl⟩) ⟨q_fb, va_recv hK hP (ci := 11) (q0 := 0) rfl rfl, q_ps hPc hK hDc⟩ rfl rfl hl.1 rfl (lv_room (Nat.le_of_ble_eq_true rfl)) dX12_isOpen_20 ⟨Nat.zero_le _, Nat.zero_le _⟩) (fun hzu_4 H locs hP hD hS => ?_)
    refine lv_if_ne (tgt := 30) hx hb dX12_isOpen_23 (by decide) (fun c_5 => ?_) (fun c_5 => ?_)
    · have hF := it_f hF c_5
      exact j30 () hF _ _ _ hP hD hS (lv_sub hl [] rfl)
    · have hF := it_t hF c_5
      refine lv_iconst (v := 1) hx hb dX12_isOpen_26 (by decide) ?_
      refine lv_goto (tgt := 31) hx hb dX12_isOpen_27 (by decide) ?_
      obtain rfl := Option.some.inj hF
      exact W.zret (v := 1) (ty := .boolean) hx hb hr (z_nar (Or.inr rfl)) (fun t ht hW => ⟨⟨1, (), rfl, ⟨rfl, (Or.inr rfl)⟩, by rw [ht]; exact hP, va_K.moved hW.alike hK, hD⟩, hS.F ht⟩) hS.2.2 dX12_isOpen_31

-- StrokeOutlinerModel.lineTo(II)I
def F_X12_lineTo_j43 (n : Nat) (v0_2 : Int32) (v0_0 : Nat → Int32) (v0_1 : Nat → Int32) (x1 : Int32) (x2 : Int32) (t1 : Int32) : Option (Int32 × Int32 × Int32 × (Nat → Int32) × (Nat → Int32)) :=
  lt (F_X12_refused t1) (fun u_1 => if u_1.1 = 0 then obd (F_X12_saves n v0_2 v0_0 v0_1) (fun u_3 => obd (F_X12_follows v0_0 x1 x2) (fun u_4 => gd (decide (vpi 13 86)) (obd (F_X12_points u_4 ((u_4 (13 : Int32).toNatClampNeg) - 1)) (fun u_6 => some (u_6, u_3.1, u_1.2, u_4, u_3.2))))) else some (0, v0_2, u_1.2, v0_0, v0_1))
def F_X12_lineTo_j38 (n : Nat) (v0_2 : Int32) (v0_0 : Nat → Int32) (v0_1 : Nat → Int32) (x1 : Int32) (x2 : Int32) : Option (Int32 × Int32 × Int32 × (Nat → Int32) × (Nat → Int32)) :=
  F_X12_lineTo_j43 n v0_2 v0_0 v0_1 x1 x2 2
def F_X12_lineTo (n : Nat) (v0_2 : Int32) (v0_0 : Nat → Int32) (v0_1 : Nat → Int32) (p1 : Int32) (p2 : Int32) : Option (Int32 × Int32 × Int32 × (Nat → Int32) × (Nat → Int32)) :=
  lt (F_X12_isPlace p1 p2) (fun u_7 => if u_7 = 0 then F_X12_lineTo_j43 n v0_2 v0_0 v0_1 p1 p2 1 else obd (F_X12_isOpen v0_0) (fun u_9 => if u_9 = 0 then F_X12_lineTo_j38 n v0_2 v0_0 v0_1 p1 p2 else gd (decide (vpi 13 86)) (obd (F_X12_points v0_0 ((v0_0 (13 : Int32).toNatClampNeg) - 1)) (fun u_12 => if u_12 = 8 then F_X12_lineTo_j38 n v0_2 v0_0 v0_1 p1 p2 else F_X12_lineTo_j43 n v0_2 v0_0 v0_1 p1 p2 0))))
abbrev wd_X12_lineTo (cI : ClassId) (a0 : Nat → Nat) (v0_2 : Int32) (v0_3 : Int32) (v0_5 : Int32) (v0_12 : Int32) (v0_13 : Int32) (v0_16 : Int32) (v0_17 : Int32) (v0_21 : Int32) (v0_23 : Int32) (v0_24 : Int32) (v0_25 : Int32) (v0_26 : Int32) (v0_29 : Int32) (v0_30 : Int64) (v0_0 : Nat → Int32) (v0_1 : Nat → Int32) : va_W := [(a0 0, .inr (11, [.ref (a0 1), .ref (a0 2), .int v0_2, .int v0_3, .ref (a0 5), .int v0_5, .ref (a0 7), .ref (a0 8), .ref (a0 9), .ref (a0 10), .ref (a0 11), .ref (a0 12), .int v0_12, .int v0_13, .ref (a0 15), .ref (a0 16), .int v0_16, .int v0_17, .ref (a0 19), .ref (a0 20), .ref (a0 21), .int v0_21, .ref (a0 23), .int v0_23, .int v0_24, .int v0_25, .int v0_26, .ref (a0 28), .ref (a0 29), .int v0_29, .long v0_30])), (a0 1, .inl (cI, 86, .inl v0_0)), (a0 2, .inl (cI, 344, .inl v0_1))]
abbrev wz_X12_lineTo : List Cond := .code yX12_lineTo cX12_lineTo 3 (some .int) :: wALL
abbrev rm_X12_lineTo : Room := { frames := 3, cells := 0, slots := 0, locals := 67 }
abbrev Q_X12_lineTo (dC : Nat → ClassId) (dI : Nat → Nat → Nat) (cI : ClassId) (a0 : Nat → Nat) (v0_5 : Int32) (v0_12 : Int32) (v0_13 : Int32) (v0_16 : Int32) (v0_17 : Int32) (v0_21 : Int32) (v0_23 : Int32) (v0_24 : Int32) (v0_25 : Int32) (v0_26 : Int32) (v0_29 : Int32) (v0_30 : Int64) (u : (Int32 × Int32 × Int32 × (Nat → Int32) × (Nat → Int32))) (A : Nat → Prop) : Array Value → State → Outcome → State → Prop := va_Qi (fun (r : Int32) (_ : Unit) => r = u.1) (fun _ => q_at dC dI cI A (wd_X12_lineTo cI a0 u.2.1 u.2.2.1 v0_5 v0_12 v0_13 v0_16 v0_17 v0_21 v0_23 v0_24 v0_25 v0_26 v0_29 v0_30 u.2.2.2.1 u.2.2.2.2)) A
set_option maxHeartbeats 4000000 in
set_option maxRecDepth 100000 in
theorem c_X12_lineTo (l : Launch) (dC : Nat → ClassId) (dI : Nat → Nat → Nat) (cI : ClassId) (sz : Nat) (a0 : Nat → Nat) (v0_2 : Int32) (v0_3 : Int32) (v0_5 : Int32) (v0_12 : Int32) (v0_13 : Int32) (v0_16 : Int32) (v0_17 : Int32) (v0_21 : Int32) (v0_23 : Int32) (v0_24 : Int32) (v0_25 : Int32) (v0_26 : Int32) (v0_29 : Int32) (v0_30 : Int64) (v0_0 : Nat → Int32) (v0_1 : Nat → Int32) (p1 : Int32) (p2 : Int32) (n : Nat) (u : (Int32 × Int32 × Int32 × (Nat → Int32) × (Nat → Int32))) (hF : F_X12_lineTo n v0_2 v0_0 v0_1 p1 p2 = some u) : Met l yX12_lineTo wz_X12_lineTo rm_X12_lineTo (va_Pc [.ref (a0 0), .int p1, .int p2] (q_pre dC dI cI (wd_X12_lineTo cI a0 v0_2 v0_3 v0_5 v0_12 v0_13 v0_16 v0_17 v0_21 v0_23 v0_24 v0_25 v0_26 v0_29 v0_30 v0_0 v0_1) sz)) (Q_X12_lineTo dC dI cI a0 v0_5 v0_12 v0_13 v0_16 v0_17 v0_21 v0_23 v0_24 v0_25 v0_26 v0_29 v0_30 u (va_A (wd_X12_lineTo cI a0 v0_2 v0_3 v0_5 v0_12 v0_13 v0_16 v0_17 v0_21 v0_23 v0_24 v0_25 v0_26 v0_29 v0_30 v0_0 v0_1) sz)) 0 0 (va_A (wd_X12_lineTo cI a0 v0_2 v0_3 v0_5 v0_12 v0_13 v0_16 v0_17 v0_21 v0_23 v0_24 v0_25 v0_26 v0_29 v0_30 v0_0 v0_1) sz) := by
  refine Met.ofW (cc := cX12_lineTo) (maxL := 3) (ret := (some .int)) (by decide) rfl ?_
  intro p e s m args below meth c s₁ B hml hv
  obtain ⟨rfl, hsz, hP, hK, hD0⟩ := hv
  have hx := B.exec
  have hb := B.bytes
  have hr := B.returns
  have hts := atoms_spec (ws := wz_X12_lineTo) B.pre
  have hta := wz_tl hts
  have hown : s.vm.findClass RX12 = some m.cls := findClass_of_methodNamed B.named
  have hlocks := B.notSynchronized
  subst hsz
  have hD := hD0.self (sz := s.heap.size)
  generalize hAe : va_A (wd_X12_lineTo cI a0 v0_2 v0_3 v0_5 v0_12 v0_13 v0_16 v0_17 v0_21 v0_23 v0_24 v0_25 v0_26 v0_29 v0_30 v0_0 v0_1) s.heap.size = A at hD ⊢
  have hA : ∀ q : Nat, s.heap.size ≤ q → A q := fun q h => by rw [← hAe]; exact Or.inr h
  have hS : va_S A s.heap s.heap [] := va_S.rf
  have hP : va_P (dC, dI) vwCl (wd_X12_lineTo cI a0 v0_2 v0_3 v0_5 v0_12 v0_13 v0_16 v0_17 v0_21 v0_23 v0_24 v0_25 v0_26 v0_29 v0_30 v0_0 v0_1) s.heap := hP
  have hl := lv_entry ([.ref (a0 0), .int p1, .int p2]) (n := 3) (Nat.le_of_ble_eq_true rfl)
  rw [lg_entry_eq]
  generalize (lg_sl ([.ref (a0 0), .int p1, .int p2]) ++ List.replicate (3 - (lg_sl ([.ref (a0 0), .int p1, .int p2])).length) Slot.unset).toArray = ls at hl ⊢
  have hl : lv_has ls 3 [(0, .ref (a0 0)), (1, .int p1), (2, .int p2)] := hl
  obtain ⟨H, hHe⟩ : ∃ H, H = s.heap := ⟨_, rfl⟩
  have hS : va_S A s.heap H [] := by rw [hHe]; exact hS
  have hP : va_P (dC, dI) vwCl (wd_X12_lineTo cI a0 v0_2 v0_3 v0_5 v0_12 v0_13 v0_16 v0_17 v0_21 v0_23 v0_24 v0_25 v0_26 v0_29 v0_30 v0_0 v0_1) H := by rw [hHe]; exact hP
  rw [← hHe]
  unfold F_X12_lineTo at hF
  have j43 : ∀ (v0_2 : Int32) (v0_3 : Int32) (v0_0 : Nat → Int32) (v0_1 : Nat → Int32) (x1 : Int32) (x2 : Int32) (t1 : Int32), F_X12_lineTo_j43 n v0_2 v0_0 v0_1 x1 x2 t1 = some u → ∀ (H : Heap) (locs : List Loc) (ls : Array Slot), va_P (dC, dI) vwCl (wd_X12_lineTo cI a0 v0_2 v0_3 v0_5 v0_12 v0_13 v0_16 v0_17 v0_21 v0_23 v0_24 v0_25 v0_26 v0_29 v0_30 v0_0 v0_1) H → va_D A (wd_X12_lineTo cI a0 v0_2 v0_3 v0_5 v0_12 v0_13 v0_16 v0_17 v0_21 v0_23 v0_24 v0_25 v0_26 v0_29 v0_30 v0_0 v0_1) → va_S A s.heap H locs → lv_has ls 3 [(0, .ref (a0 0)), (1, .int x1), (2, .int x2)] → W p l e (headSpec wz_X12_lineTo rm_X12_lineTo).room s m [.ref (a0 0), .int p1, .int p2].toArray below meth c H locs 0 0 (MQ below (Q_X12_lineTo dC dI cI a0 v0_5 v0_12 v0_13 v0_16 v0_17 v0_21 v0_23 v0_24 v0_25 v0_26 v0_29 v0_30 u A) [.ref (a0 0), .int p1, .int p2].toArray s 0 0 A) (F0 m 43 ls [.int t1, .ref (a0 0)]) := by
    intro v0_2 v0_3 v0_0 v0_1 x1 x2 t1 hF H locs ls hP hD hS hl
    unfold F_X12_lineTo_j43 at hF
    obtain ⟨u_1, hu_1, hF⟩ := lt_some hF
    have hPc := hP.sub (ws' := (wd_X12_refused cI a0 v0_2 v0_3 v0_5 v0_12 v0_13 v0_16 v0_17 v0_21 v0_23 v0_24 v0_25 v0_26 v0_29 v0_30)) [0] rfl
    have hDc := hD.sub (ws' := (wd_X12_refused cI a0 v0_2 v0_3 v0_5 v0_12 v0_13 v0_16 v0_17 v0_21 v0_23 v0_24 v0_25 v0_26 v0_29 v0_30)) [0] rfl rfl
    refine q_callz (wc := (wd_X12_refused cI a0 v0_2 v0_3 v0_5 v0_12 v0_13 v0_16 v0_17 v0_21 v0_23 v0_24 v0_25 v0_26 v0_29 v0_30)) (w1 := (wd_X12_refused cI a0 v0_2 u_1.2 v0_5 v0_12 v0_13 v0_16 v0_17 v0_21 v0_23 v0_24 v0_25 v0_26 v0_29 v0_30)) (ws' := (wd_X12_lineTo cI a0 v0_2 u_1.2 v0_5 v0_12 v0_13 v0_16 v0_17 v0_21 v0_23 v0_24 v0_25 v0_26 v0_29 v0_30 v0_0 v0_1)) hP hD hS hA [0] [1, 2] [2, 0, 1] rfl rfl rfl (by decide) rfl rfl (va_runV (As := [.int t1]) (rest := []) ⟨hx, hb, hml, hown, hta⟩ (c_X12_refused l dC dI cI H.size a0 v0_2 v0_3 v0_5 v0_12 v0_13 v0_16 v0_17 v0_21 v0_23 v0_24 v0_25 v0_26 v0_29 v0_30 t1 u_1 hu_1.symm) (cwV 1 hta (ga_V mA822 mA823 mA824 mA814 mA809) rfl rfl rfl (by decide +kernel) ⟨Nat.le_of_ble_eq_true rfl, Nat.le_of_ble_eq_true rfl⟩) ⟨q_fb, va_recv hK hP (ci := 11) (q0 := 0) rfl rfl, q_ps hPc hK hDc⟩ rfl rfl hl.1 rfl (lv_room (Nat.le_of_ble_eq_true rfl)) dX12_lineTo_43 ⟨Nat.zero_le _, Nat.zero_le _⟩) (fun hzu_1 H locs hP hD hS => ?_)
    refine lv_if_eq (tgt := 51) hx hb dX12_lineTo_46 (by decide) (fun c_2 => ?_) (fun c_2 => ?_)
    · have hF := it_t hF c_2
      refine lv_aload_n hx hb dX12_lineTo_51 rfl (lv_at hl 0 rfl) ?_
      obtain ⟨u_3, hu_3, hF⟩ := obd_some hF
      have hPc := hP.sub (ws' := (wd_X12_saves cI a0 v0_2 u_1.2 v0_5 v0_12 v0_13 v0_16 v0_17 v0_21 v0_23 v0_24 v0_25 v0_26 v0_29 v0_30 v0_0 v0_1)) [0, 1, 2] rfl
      have hDc := hD.sub (ws' := (wd_X12_saves cI a0 v0_2 u_1.2 v0_5 v0_12 v0_13 v0_16 v0_17 v0_21 v0_23 v0_24 v0_25 v0_26 v0_29 v0_30 v0_0 v0_1)) [0, 1, 2] rfl rfl
      refine q_callv (wc := (wd_X12_saves cI a0 v0_2 u_1.2 v0_5 v0_12 v0_13 v0_16 v0_17 v0_21 v0_23 v0_24 v0_25 v0_26 v0_29 v0_30 v0_0 v0_1)) (w1 := (wd_X12_saves cI a0 u_3.1 u_1.2 v0_5 v0_12 v0_13 v0_16 v0_17 v0_21 v0_23 v0_24 v0_25 v0_26 v0_29 v0_30 v0_0 u_3.2)) (ws' := (wd_X12_lineTo cI a0 u_3.1 u_1.2 v0_5 v0_12 v0_13 v0_16 v0_17 v0_21 v0_23 v0_24 v0_25 v0_26 v0_29 v0_30 v0_0 u_3.2)) hP hD hS hA [0, 1, 2] [] [0, 1, 2] rfl rfl rfl (by decide) rfl rfl (va_runV (As := []) (rest := []) ⟨hx, hb, hml, hown, hta⟩ (c_X12_saves l dC dI cI H.size a0 v0_2 u_1.2 v0_5 v0_12 v0_13 v0_16 v0_17 v0_21 v0_23 v0_24 v0_25 v0_26 v0_29 v0_30 v0_0 v0_1 n u_3 hu_3) (cwV 0 hta (ga_V mA845 mA846 mA847 mA814 mA819) rfl rfl rfl (by decide +kernel) ⟨Nat.le_of_ble_eq_true rfl, Nat.le_of_ble_eq_true rfl⟩) ⟨q_fb, va_recv hK hP (ci := 11) (q0 := 0) rfl rfl, q_ps hPc hK hDc⟩ rfl rfl hl.1 rfl (lv_room (Nat.le_of_ble_eq_true rfl)) dX12_lineTo_52 ⟨Nat.zero_le _, Nat.zero_le _⟩) (fun H locs hP hD hS => ?_)
      refine lv_aload_n hx hb dX12_lineTo_55 rfl (lv_at hl 0 rfl) ?_
      refine lv_iload_n hx hb dX12_lineTo_56 rfl (lv_at hl 1 rfl) ?_
      refine lv_iload_n hx hb dX12_lineTo_57 rfl (lv_at hl 2 rfl) ?_
      obtain ⟨u_4, hu_4, hF⟩ := obd_some hF
      have hPc := hP.sub (ws' := (wd_X12_follows cI a0 u_3.1 u_1.2 v0_5 v0_12 v0_13 v0_16 v0_17 v0_21 v0_23 v0_24 v0_25 v0_26 v0_29 v0_30 v0_0)) [0, 1] rfl
      have hDc := hD.sub (ws' := (wd_X12_follows cI a0 u_3.1 u_1.2 v0_5 v0_12 v0_13 v0_16 v0_17 v0_21 v0_23 v0_24 v0_25 v0_26 v0_29 v0_30 v0_0)) [0, 1] rfl rfl
      refine q_callv (wc := (wd_X12_follows cI a0 u_3.1 u_1.2 v0_5 v0_12 v0_13 v0_16 v0_17 v0_21 v0_23 v0_24 v0_25 v0_26 v0_29 v0_30 v0_0)) (w1 := (wd_X12_follows cI a0 u_3.1 u_1.2 v0_5 v0_12 v0_13 v0_16 v0_17 v0_21 v0_23 v0_24 v0_25 v0_26 v0_29 v0_30 u_4)) (ws' := (wd_X12_lineTo cI a0 u_3.1 u_1.2 v0_5 v0_12 v0_13 v0_16 v0_17 v0_21 v0_23 v0_24 v0_25 v0_26 v0_29 v0_30 u_4 u_3.2)) hP hD hS hA [0, 1] [2] [1, 2, 0] rfl rfl rfl (by decide) rfl rfl (va_runV (As := [.int x1, .int x2]) (rest := []) ⟨hx, hb, hml, hown, hta⟩ (c_X12_follows l dC dI cI H.size a0 u_3.1 u_1.2 v0_5 v0_12 v0_13 v0_16 v0_17 v0_21 v0_23 v0_24 v0_25 v0_26 v0_29 v0_30 v0_0 x1 x2 u_4 hu_4) (cwV 2 hta (ga_V mA859 mA860 mA861 mA814 mA838) rfl rfl rfl (by decide +kernel) ⟨Nat.le_of_ble_eq_true rfl, Nat.le_of_ble_eq_true rfl⟩) ⟨q_fb, va_recv hK hP (ci := 11) (q0 := 0) rfl rfl, q_ps hPc hK hDc⟩ rfl rfl hl.1 rfl (lv_room (Nat.le_of_ble_eq_true rfl)) dX12_lineTo_58 ⟨Nat.zero_le _, Nat.zero_le _⟩) (fun H locs hP hD hS => ?_)
      refine lv_aload_n hx hb dX12_lineTo_61 rfl (lv_at hl 0 rfl) ?_
      refine lv_aload_n hx hb dX12_lineTo_62 rfl (lv_at hl 0 rfl) ?_
      refine va_get (D := (dC, dI)) (ci := 11) (v := .ref (a0 1)) (C := RX12) (T := TX12) (N := 31) hx hb hta uw_X12 hown hK hP 0 rfl rfl 0 (by decide) (hta _ mA790) (fun _ h9 => h9) rfl dX12_lineTo_63 ?_
      refine lv_bipush (v := 13) hx hb dX12_lineTo_66 (by decide) ?_
      obtain ⟨g_5, hF⟩ := gd_some hF
      refine va_iald hx hb hK hP 1 0 rfl rfl (vpi_in g_5) dX12_lineTo_68 ?_
      refine lv_iconst (v := 1) hx hb dX12_lineTo_69 (by decide) ?_
      refine lv_isub hx hb dX12_lineTo_70 ?_
      obtain ⟨u_6, hu_6, hF⟩ := obd_some hF
      have hPc := hP.sub (ws' := (wd_X12_points cI a0 u_3.1 u_1.2 v0_5 v0_12 v0_13 v0_16 v0_17 v0_21 v0_23 v0_24 v0_25 v0_26 v0_29 v0_30 u_4)) [0, 1] rfl
      have hDc := hD.sub (ws' := (wd_X12_points cI a0 u_3.1 u_1.2 v0_5 v0_12 v0_13 v0_16 v0_17 v0_21 v0_23 v0_24 v0_25 v0_26 v0_29 v0_30 u_4)) [0, 1] rfl rfl
      refine q_calli (wc := (wd_X12_points cI a0 u_3.1 u_1.2 v0_5 v0_12 v0_13 v0_16 v0_17 v0_21 v0_23 v0_24 v0_25 v0_26 v0_29 v0_30 u_4)) (w1 := (wd_X12_points cI a0 u_3.1 u_1.2 v0_5 v0_12 v0_13 v0_16 v0_17 v0_21 v0_23 v0_24 v0_25 v0_26 v0_29 v0_30 u_4)) (ws' := (wd_X12_lineTo cI a0 u_3.1 u_1.2 v0_5 v0_12 v0_13 v0_16 v0_17 v0_21 v0_23 v0_24 v0_25 v0_26 v0_29 v0_30 u_4 u_3.2)) hP hD hS hA [0, 1] [2] [1, 2, 0] rfl rfl rfl (by decide) rfl rfl (va_runV (As := [.int ((u_4 (13 : Int32).toNatClampNeg) - 1)]) (rest := []) ⟨hx, hb, hml, hown, hta⟩ (c_X12_points l dC dI cI H.size a0 u_3.1 u_1.2 v0_5 v0_12 v0_13 v0_16 v0_17 v0_21 v0_23 v0_24 v0_25 v0_26 v0_29 v0_30 u_4 ((u_4 (13 : Int32).toNatClampNeg) - 1) u_6 hu_6) (cwV 1 hta (ga_V mA839 mA840 mA841 mA814 mA827) rfl rfl rfl (by decide +kernel) ⟨Nat.le_of_ble_eq_true rfl, Nat.le_of_ble_eq_true rfl⟩) ⟨q_fb, va_recv hK hP (ci := 11) (q0 := 0) rfl rfl, q_ps hPc hK hDc⟩ rfl rfl hl.1 rfl (lv_room (Nat.le_of_ble_eq_true rfl)) dX12_lineTo_71 ⟨Nat.zero_le _, Nat.zero_le _⟩) (fun H locs hP hD hS => ?_)
      obtain rfl := Option.some.inj hF
      exact W.iret (v := u_6) hx hb hr (fun t ht hW => ⟨⟨u_6, (), rfl, rfl, by rw [ht]; exact hP, va_K.moved hW.alike hK, hD⟩, hS.F ht⟩) hS.2.2 dX12_lineTo_74
    · have hF := it_f hF c_2
      refine lv_iconst (v := 0) hx hb dX12_lineTo_49 (by decide) ?_
      obtain rfl := Option.some.inj hF
      exact W.iret (v := 0) hx hb hr (fun t ht hW => ⟨⟨0, (), rfl, rfl, by rw [ht]; exact hP, va_K.moved hW.alike hK, hD⟩, hS.F ht⟩) hS.2.2 dX12_lineTo_50
  have j38 : ∀ (v0_2 : Int32) (v0_3 : Int32) (v0_0 : Nat → Int32) (v0_1 : Nat → Int32) (x1 : Int32) (x2 : Int32), F_X12_lineTo_j38 n v0_2 v0_0 v0_1 x1 x2 = some u → ∀ (H : Heap) (locs : List Loc) (ls : Array Slot), va_P (dC, dI) vwCl (wd_X12_lineTo cI a0 v0_2 v0_3 v0_5 v0_12 v0_13 v0_16 v0_17 v0_21 v0_23 v0_24 v0_25 v0_26 v0_29 v0_30 v0_0 v0_1) H → va_D A (wd_X12_lineTo cI a0 v0_2 v0_3 v0_5 v0_12 v0_13 v0_16 v0_17 v0_21 v0_23 v0_24 v0_25 v0_26 v0_29 v0_30 v0_0 v0_1) → va_S A s.heap H locs → lv_has ls 3 [(0, .ref (a0 0)), (1, .int x1), (2, .int x2)] → W p l e (headSpec wz_X12_lineTo rm_X12_lineTo).room s m [.ref (a0 0), .int p1, .int p2].toArray below meth c H locs 0 0 (MQ below (Q_X12_lineTo dC dI cI a0 v0_5 v0_12 v0_13 v0_16 v0_17 v0_21 v0_23 v0_24 v0_25 v0_26 v0_29 v0_30 u A) [.ref (a0 0), .int p1, .int p2].toArray s 0 0 A) (F0 m 38 ls [.ref (a0 0)]) := by
    intro v0_2 v0_3 v0_0 v0_1 x1 x2 hF H locs ls hP hD hS hl
    unfold F_X12_lineTo_j38 at hF
    refine lv_iconst (v := 2) hx hb dX12_lineTo_38 (by decide) ?_
    refine lv_goto (tgt := 43) hx hb dX12_lineTo_39 (by decide) ?_
    exact j43 v0_2 v0_3 v0_0 v0_1 x1 x2 2 hF _ _ _ hP hD hS (lv_sub hl [0, 1, 2] rfl)
  refine lv_aload_n hx hb dX12_lineTo_0 rfl (lv_at hl 0 rfl) ?_
  refine lv_iload_n hx hb dX12_lineTo_1 rfl (lv_at hl 1 rfl) ?_
  refine lv_iload_n hx hb dX12_lineTo_2 rfl (lv_at hl 2 rfl) ?_
  obtain ⟨u_7, hu_7, hF⟩ := lt_some hF
  have hPc := hP.sub (ws' := ([] : va_W)) [] rfl
  have hDc := hD.sub (ws' := ([] : va_W)) [] rfl rfl
  refine q_callz (wc := ([] : va_W)) (w1 := ([] : va_W)) (ws' := (wd_X12_lineTo cI a0 v0_2 v0_3 v0_5 v0_12 v0_13 v0_16 v0_17 v0_21 v0_23 v0_24 v0_25 v0_26 v0_29 v0_30 v0_0 v0_1)) hP hD hS hA [] [0, 1, 2] [0, 1, 2] rfl rfl rfl (by decide) rfl rfl (va_runS (As := [.int p1, .int p2]) (rest := [.ref (a0 0)]) ⟨hx, hb, hml, hown, hta⟩ (c_X12_isPlace l dC dI cI H.size p1 p2 u_7 hu_7.symm) (va_cwS 2 hta (ga_S mA843 mA844 mA814 mA811) rfl rfl rfl (by decide +kernel) ⟨Nat.le_of_ble_eq_true rfl, Nat.le_of_ble_eq_true rfl⟩) ⟨q_fb, q_ps hPc hK hDc⟩ rfl rfl hl.1 rfl (lv_room (Nat.le_of_ble_eq_true rfl)) dX12_lineTo_3 ⟨Nat.zero_le _, Nat.zero_le _⟩) (fun hzu_7 H locs hP hD hS => ?_)
  refine lv_if_ne (tgt := 13) hx hb dX12_lineTo_6 (by decide) (fun c_8 => ?_) (fun c_8 => ?_)
  · have hF := it_f hF c_8
    refine lv_aload_n hx hb dX12_lineTo_13 rfl (lv_at hl 0 rfl) ?_
    obtain ⟨u_9, hu_9, hF⟩ := obd_some hF
    have hPc := hP.sub (ws' := (wd_X12_isOpen cI a0 v0_2 v0_3 v0_5 v0_12 v0_13 v0_16 v0_17 v0_21 v0_23 v0_24 v0_25 v0_26 v0_29 v0_30 v0_0)) [0, 1] rfl
    have hDc := hD.sub (ws' := (wd_X12_isOpen cI a0 v0_2 v0_3 v0_5 v0_12 v0_13 v0_16 v0_17 v0_21 v0_23 v0_24 v0_25 v0_26 v0_29 v0_30 v0_0)) [0, 1] rfl rfl
    refine q_callz (wc := (wd_X12_isOpen cI a0 v0_2 v0_3 v0_5 v0_12 v0_13 v0_16 v0_17 v0_21 v0_23 v0_24 v0_25 v0_26 v0_29 v0_30 v0_0)) (w1 := (wd_X12_isOpen cI a0 v0_2 v0_3 v0_5 v0_12 v0_13 v0_16 v0_17 v0_21 v0_23 v0_24 v0_25 v0_26 v0_29 v0_30 v0_0)) (ws' := (wd_X12_lineTo cI a0 v0_2 v0_3 v0_5 v0_12 v0_13 v0_16 v0_17 v0_21 v0_23 v0_24 v0_25 v0_26 v0_29 v0_30 v0_0 v0_1)) hP hD hS hA [0, 1] [2] [1, 2, 0] rfl rfl rfl (by decide) rfl rfl (va_runV (As := []) (rest := [.ref (a0 0)]) ⟨hx, hb, hml, hown, hta⟩ (c_X12_isOpen l dC dI cI H.size a0 v0_2 v0_3 v0_5 v0_12 v0_13 v0_16 v0_17 v0_21 v0_23 v0_24 v0_25 v0_26 v0_29 v0_30 v0_0 u_9 hu_9) (cwV 0 hta (ga_V mA856 mA857 mA858 mA814 mA851) rfl rfl rfl (by decide +kernel) ⟨Nat.le_of_ble_eq_true rfl, Nat.le_of_ble_eq_true rfl⟩) ⟨q_fb, va_recv hK hP (ci := 11) (q0 := 0) rfl rfl, q_ps hPc hK hDc⟩ rfl rfl hl.1 rfl (lv_room (Nat.le_of_ble_eq_true rfl)) dX12_lineTo_14 ⟨Nat.zero_le _, Nat.zero_le _⟩) (fun hzu_9 H locs hP hD hS => ?_)
    refine lv_if_eq (tgt := 38) hx hb dX12_lineTo_17 (by decide) (fun c_10 => ?_) (fun c_10 => ?_)
    · have hF := it_t hF c_10
      exact j38 v0_2 v0_3 v0_0 v0_1 p1 p2 hF _ _ _ hP hD hS (lv_sub hl [0, 1, 2] rfl)
    · have hF := it_f hF c_10
      refine lv_aload_n hx hb dX12_lineTo_20 rfl (lv_at hl 0 rfl) ?_
      refine lv_aload_n hx hb dX12_lineTo_21 rfl (lv_at hl 0 rfl) ?_
      refine va_get (D := (dC, dI)) (ci := 11) (v := .ref (a0 1)) (C := RX12) (T := TX12) (N := 31) hx hb hta uw_X12 hown hK hP 0 rfl rfl 0 (by decide) (hta _ mA790) (fun _ h9 => h9) rfl dX12_lineTo_22 ?_
      refine lv_bipush (v := 13) hx hb dX12_lineTo_25 (by decide) ?_
      obtain ⟨g_11, hF⟩ := gd_some hF
      refine va_iald hx hb hK hP 1 0 rfl rfl (vpi_in g_11) dX12_lineTo_27 ?_
      refine lv_iconst (v := 1) hx hb dX12_lineTo_28 (by decide) ?_
      refine lv_isub hx hb dX12_lineTo_29 ?_
      obtain ⟨u_12, hu_12, hF⟩ := obd_some hF
      have hPc := hP.sub (ws' := (wd_X12_points cI a0 v0_2 v0_3 v0_5 v0_12 v0_13 v0_16 v0_17 v0_21 v0_23 v0_24 v0_25 v0_26 v0_29 v0_30 v0_0)) [0, 1] rfl
      have hDc := hD.sub (ws' := (wd_X12_points cI a0 v0_2 v0_3 v0_5 v0_12 v0_13 v0_16 v0_17 v0_21 v0_23 v0_24 v0_25 v0_26 v0_29 v0_30 v0_0)) [0, 1] rfl rfl
      refine q_calli (wc := (wd_X12_points cI a0 v0_2 v0_3 v0_5 v0_12 v0_13 v0_16 v0_17 v0_21 v0_23 v0_24 v0_25 v0_26 v0_29 v0_30 v0_0)) (w1 := (wd_X12_points cI a0 v0_2 v0_3 v0_5 v0_12 v0_13 v0_16 v0_17 v0_21 v0_23 v0_24 v0_25 v0_26 v0_29 v0_30 v0_0)) (ws' := (wd_X12_lineTo cI a0 v0_2 v0_3 v0_5 v0_12 v0_13 v0_16 v0_17 v0_21 v0_23 v0_24 v0_25 v0_26 v0_29 v0_30 v0_0 v0_1)) hP hD hS hA [0, 1] [2] [1, 2, 0] rfl rfl rfl (by decide) rfl rfl (va_runV (As := [.int ((v0_0 (13 : Int32).toNatClampNeg) - 1)]) (rest := [.ref (a0 0)]) ⟨hx, hb, hml, hown, hta⟩ (c_X12_points l dC dI cI H.size a0 v0_2 v0_3 v0_5 v0_12 v0_13 v0_16 v0_17 v0_21 v0_23 v0_24 v0_25 v0_26 v0_29 v0_30 v0_0 ((v0_0 (13 : Int32).toNatClampNeg) - 1) u_12 hu_12) (cwV 1 hta (ga_V mA839 mA840 mA841 mA814 mA827) rfl rfl rfl (by decide +kernel) ⟨Nat.le_of_ble_eq_true rfl, Nat.le_of_ble_eq_true rfl⟩) ⟨q_fb, va_recv hK hP (ci := 11) (q0 := 0) rfl rfl, q_ps hPc hK hDc⟩ rfl rfl hl.1 rfl (lv_room (Nat.le_of_ble_eq_true rfl)) dX12_lineTo_30 ⟨Nat.zero_le _, Nat.zero_le _⟩) (fun H locs hP hD hS => ?_)
      refine lv_bipush (v := 8) hx hb dX12_lineTo_33 (by decide) ?_
      refine lv_icmp_ne (tgt := 42) hx hb dX12_lineTo_35 (by decide) (fun c_13 => ?_) (fun c_13 => ?_)
      · have hF := it_f hF c_13
        refine lv_iconst (v := 0) hx hb dX12_lineTo_42 (by decide) ?_
        exact j43 v0_2 v0_3 v0_0 v0_1 p1 p2 0 hF _ _ _ hP hD hS (lv_sub hl [0, 1, 2] rfl)
      · have hF := it_t hF c_13
        exact j38 v0_2 v0_3 v0_0 v0_1 p1 p2 hF _ _ _ hP hD hS (lv_sub hl [0, 1, 2] rfl)
  · have hF := it_t hF c_8
    refine lv_iconst (v := 1) hx hb dX12_lineTo_9 (by decide) ?_
    refine lv_goto (tgt := 43) hx hb dX12_lineTo_10 (by decide) ?_
    exact j43 v0_2 v0_3 v0_0 v0_1 p1 p2 1 hF _ _ _ hP hD hS (lv_sub hl [0, 1, 2] rfl)

-- StrokeOutlinerModel.laysSegments(I)V
def F_X12_laysSegments_j207 (v0_12 : Int32) (v0_13 : Int32) (v0_6 : Nat → Int32) (v0_7 : Nat → Int32) (v0_8 : Nat → Int32) (v0_9 : Nat → Int32) (v0_10 : Nat → Int32) (v0_11 : Nat → Int32) (x3 : Int32) : Option (Sum (Int32 × Int32 × Int32 × (Nat → Int32) × (Nat → Int32) × (Nat → Int32) × (Nat → Int32) × (Nat → Int32) × (Nat → Int32)) (Int32 × Int32 × (Nat → Int32) × (Nat → Int32) × (Nat → Int32) × (Nat → Int32) × (Nat → Int32) × (Nat → Int32))) :=
  lt (x3 + 1) (fun y_1 => some (.inl (y_1, v0_12, v0_13, v0_6, v0_7, v0_8, v0_9, v0_10, v0_11)))
def F_X12_laysSegments_j86 (n : Nat) (v0_12 : Int32) (v0_13 : Int32) (v0_0 : Nat → Int32) (v0_6 : Nat → Int32) (v0_7 : Nat → Int32) (v0_8 : Nat → Int32) (v0_9 : Nat → Int32) (v0_10 : Nat → Int32) (v0_11 : Nat → Int32) (x1 : Int32) (x3 : Int32) (x5 : Int32) (x6 : Int32) : Option (Sum (Int32 × Int32 × Int32 × (Nat → Int32) × (Nat → Int32) × (Nat → Int32) × (Nat → Int32) × (Nat → Int32) × (Nat → Int32)) (Int32 × Int32 × (Nat → Int32) × (Nat → Int32) × (Nat → Int32) × (Nat → Int32) × (Nat → Int32) × (Nat → Int32))) :=
  gd (decide (vpi v0_12 8)) (lt (upd v0_6 v0_12.toNatClampNeg x5) (fun y_3 => gd (decide (vpi v0_12 8)) (lt (upd v0_7 v0_12.toNatClampNeg x6) (fun y_5 => obd (F_X12_x v0_0 x1 x3) (fun u_6 => gd (decide (vpi v0_12 8)) (lt (upd v0_8 v0_12.toNatClampNeg u_6) (fun y_8 => obd (F_X12_y v0_0 x1 x3) (fun u_9 => gd (decide (vpi v0_12 8)) (lt (upd v0_9 v0_12.toNatClampNeg u_9) (fun y_11 => obd (F_X12_root n (4096 * ((x5 * x5) + (x6 * x6)).toInt64)) (fun u_12 => gd (decide (vpi v0_12 8)) (lt (upd v0_10 v0_12.toNatClampNeg u_12) (fun y_14 => gd (decide (vpi v0_12 8)) (lt (upd v0_11 v0_12.toNatClampNeg v0_13) (fun y_16 => gd (decide (vpi v0_12 8)) (lt (v0_13 + (y_14 v0_12.toNatClampNeg)) (fun y_18 => lt (v0_12 + 1) (fun y_19 => F_X12_laysSegments_j207 y_19 y_18 y_3 y_5 y_8 y_11 y_14 y_16 x3))))))))))))))))))
def F_X12_laysSegments_j34 (n : Nat) (v0_12 : Int32) (v0_13 : Int32) (v0_0 : Nat → Int32) (v0_6 : Nat → Int32) (v0_7 : Nat → Int32) (v0_8 : Nat → Int32) (v0_9 : Nat → Int32) (v0_10 : Nat → Int32) (v0_11 : Nat → Int32) (x1 : Int32) (x2 : Int32) (x3 : Int32) (t0 : Int32) (t1 : Int32) : Option (Sum (Int32 × Int32 × Int32 × (Nat → Int32) × (Nat → Int32) × (Nat → Int32) × (Nat → Int32) × (Nat → Int32) × (Nat → Int32)) (Int32 × Int32 × (Nat → Int32) × (Nat → Int32) × (Nat → Int32) × (Nat → Int32) × (Nat → Int32) × (Nat → Int32))) :=
  if t1 ≤ t0 then some (.inr (v0_12, v0_13, v0_6, v0_7, v0_8, v0_9, v0_10, v0_11)) else gd (decide (¬ (x2 : Int32) = 0)) (lt (x3 + 1) (fun y_22 => lt (y_22 - y_22 / x2 * x2) (fun y_23 => obd (F_X12_x v0_0 x1 y_23) (fun u_24 => obd (F_X12_x v0_0 x1 x3) (fun u_25 => lt (u_24 - u_25) (fun y_26 => obd (F_X12_y v0_0 x1 y_23) (fun u_27 => obd (F_X12_y v0_0 x1 x3) (fun u_28 => lt (u_27 - u_28) (fun y_29 => if y_26 = 0 then if y_29 = 0 then F_X12_laysSegments_j207 v0_12 v0_13 v0_6 v0_7 v0_8 v0_9 v0_10 v0_11 x3 else F_X12_laysSegments_j86 n v0_12 v0_13 v0_0 v0_6 v0_7 v0_8 v0_9 v0_10 v0_11 x1 x3 y_26 y_29 else F_X12_laysSegments_j86 n v0_12 v0_13 v0_0 v0_6 v0_7 v0_8 v0_9 v0_10 v0_11 x1 x3 y_26 y_29)))))))))
def F_X12_laysSegments_b18 (n : Nat) (v0_0 : Nat → Int32) (x1 : Int32) (x2 : Int32) (s18 : Int32 × Int32 × Int32 × (Nat → Int32) × (Nat → Int32) × (Nat → Int32) × (Nat → Int32) × (Nat → Int32) × (Nat → Int32)) : Option (Sum (Int32 × Int32 × Int32 × (Nat → Int32) × (Nat → Int32) × (Nat → Int32) × (Nat → Int32) × (Nat → Int32) × (Nat → Int32)) (Int32 × Int32 × (Nat → Int32) × (Nat → Int32) × (Nat → Int32) × (Nat → Int32) × (Nat → Int32) × (Nat → Int32))) :=
  obd (F_X12_isClosed v0_0 x1) (fun u_32 => if u_32 = 0 then F_X12_laysSegments_j34 n s18.2.1 s18.2.2.1 v0_0 s18.2.2.2.1 s18.2.2.2.2.1 s18.2.2.2.2.2.1 s18.2.2.2.2.2.2.1 s18.2.2.2.2.2.2.2.1 s18.2.2.2.2.2.2.2.2 x1 x2 s18.1 s18.1 (x2 - 1) else F_X12_laysSegments_j34 n s18.2.1 s18.2.2.1 v0_0 s18.2.2.2.1 s18.2.2.2.2.1 s18.2.2.2.2.2.1 s18.2.2.2.2.2.2.1 s18.2.2.2.2.2.2.2.1 s18.2.2.2.2.2.2.2.2 x1 x2 s18.1 s18.1 x2)
def F_X12_laysSegments_j18 (n : Nat) (v0_12 : Int32) (v0_13 : Int32) (v0_0 : Nat → Int32) (v0_6 : Nat → Int32) (v0_7 : Nat → Int32) (v0_8 : Nat → Int32) (v0_9 : Nat → Int32) (v0_10 : Nat → Int32) (v0_11 : Nat → Int32) (x1 : Int32) (x2 : Int32) (x3 : Int32) : Option (Int32 × Int32 × (Nat → Int32) × (Nat → Int32) × (Nat → Int32) × (Nat → Int32) × (Nat → Int32) × (Nat → Int32)) :=
  obd (lpq (F_X12_laysSegments_b18 n v0_0 x1 x2) n (x3, v0_12, v0_13, v0_6, v0_7, v0_8, v0_9, v0_10, v0_11)) (fun x_18 => some (x_18.1, x_18.2.1, x_18.2.2.1, x_18.2.2.2.1, x_18.2.2.2.2.1, x_18.2.2.2.2.2.1, x_18.2.2.2.2.2.2.1, x_18.2.2.2.2.2.2.2))
def F_X12_laysSegments (n : Nat) (v0_0 : Nat → Int32) (v0_6 : Nat → Int32) (v0_7 : Nat → Int32) (v0_8 : Nat → Int32) (v0_9 : Nat → Int32) (v0_10 : Nat → Int32) (v0_11 : Nat → Int32) (p1 : Int32) : Option (Int32 × Int32 × (Nat → Int32) × (Nat → Int32) × (Nat → Int32) × (Nat → Int32) × (Nat → Int32) × (Nat → Int32)) :=
  obd (F_X12_points v0_0 p1) (fun u_34 => F_X12_laysSegments_j18 n 0 0 v0_0 v0_6 v0_7 v0_8 v0_9 v0_10 v0_11 p1 u_34 0)
abbrev wd_X12_laysSegments (cI : ClassId) (a0 : Nat → Nat) (v0_2 : Int32) (v0_3 : Int32) (v0_5 : Int32) (v0_12 : Int32) (v0_13 : Int32) (v0_16 : Int32) (v0_17 : Int32) (v0_21 : Int32) (v0_23 : Int32) (v0_24 : Int32) (v0_25 : Int32) (v0_26 : Int32) (v0_29 : Int32) (v0_30 : Int64) (v0_0 : Nat → Int32) (v0_6 : Nat → Int32) (v0_7 : Nat → Int32) (v0_8 : Nat → Int32) (v0_9 : Nat → Int32) (v0_10 : Nat → Int32) (v0_11 : Nat → Int32) : va_W := [(a0 0, .inr (11, [.ref (a0 1), .ref (a0 2), .int v0_2, .int v0_3, .ref (a0 5), .int v0_5, .ref (a0 7), .ref (a0 8), .ref (a0 9), .ref (a0 10), .ref (a0 11), .ref (a0 12), .int v0_12, .int v0_13, .ref (a0 15), .ref (a0 16), .int v0_16, .int v0_17, .ref (a0 19), .ref (a0 20), .ref (a0 21), .int v0_21, .ref (a0 23), .int v0_23, .int v0_24, .int v0_25, .int v0_26, .ref (a0 28), .ref (a0 29), .int v0_29, .long v0_30])), (a0 1, .inl (cI, 86, .inl v0_0)), (a0 7, .inl (cI, 8, .inl v0_6)), (a0 8, .inl (cI, 8, .inl v0_7)), (a0 9, .inl (cI, 8, .inl v0_8)), (a0 10, .inl (cI, 8, .inl v0_9)), (a0 11, .inl (cI, 8, .inl v0_10)), (a0 12, .inl (cI, 8, .inl v0_11))]
abbrev wz_X12_laysSegments : List Cond := .code yX12_laysSegments cX12_laysSegments 7 none :: wALL
abbrev rm_X12_laysSegments : Room := { frames := 2, cells := 0, slots := 0, locals := 42 }
abbrev Q_X12_laysSegments (dC : Nat → ClassId) (dI : Nat → Nat → Nat) (cI : ClassId) (a0 : Nat → Nat) (v0_2 : Int32) (v0_3 : Int32) (v0_5 : Int32) (v0_16 : Int32) (v0_17 : Int32) (v0_21 : Int32) (v0_23 : Int32) (v0_24 : Int32) (v0_25 : Int32) (v0_26 : Int32) (v0_29 : Int32) (v0_30 : Int64) (v0_0 : Nat → Int32) (u : (Int32 × Int32 × (Nat → Int32) × (Nat → Int32) × (Nat → Int32) × (Nat → Int32) × (Nat → Int32) × (Nat → Int32))) (A : Nat → Prop) : Array Value → State → Outcome → State → Prop := va_Qv (fun (_ : Unit) => True) (fun _ => q_at dC dI cI A (wd_X12_laysSegments cI a0 v0_2 v0_3 v0_5 u.1 u.2.1 v0_16 v0_17 v0_21 v0_23 v0_24 v0_25 v0_26 v0_29 v0_30 v0_0 u.2.2.1 u.2.2.2.1 u.2.2.2.2.1 u.2.2.2.2.2.1 u.2.2.2.2.2.2.1 u.2.2.2.2.2.2.2)) A
set_option maxHeartbeats 4000000 in
set_option maxRecDepth 100000 in
theorem c_X12_laysSegments (l : Launch) (dC : Nat → ClassId) (dI : Nat → Nat → Nat) (cI : ClassId) (sz : Nat) (a0 : Nat → Nat) (v0_2 : Int32) (v0_3 : Int32) (v0_5 : Int32) (v0_12 : Int32) (v0_13 : Int32) (v0_16 : Int32) (v0_17 : Int32) (v0_21 : Int32) (v0_23 : Int32) (v0_24 : Int32) (v0_25 : Int32) (v0_26 : Int32) (v0_29 : Int32) (v0_30 : Int64) (v0_0 : Nat → Int32) (v0_6 : Nat → Int32) (v0_7 : Nat → Int32) (v0_8 : Nat → Int32) (v0_9 : Nat → Int32) (v0_10 : Nat → Int32) (v0_11 : Nat → Int32) (p1 : Int32) (n : Nat) (u : (Int32 × Int32 × (Nat → Int32) × (Nat → Int32) × (Nat → Int32) × (Nat → Int32) × (Nat → Int32) × (Nat → Int32))) (hF : F_X12_laysSegments n v0_0 v0_6 v0_7 v0_8 v0_9 v0_10 v0_11 p1 = some u) : Met l yX12_laysSegments wz_X12_laysSegments rm_X12_laysSegments (va_Pc [.ref (a0 0), .int p1] (q_pre dC dI cI (wd_X12_laysSegments cI a0 v0_2 v0_3 v0_5 v0_12 v0_13 v0_16 v0_17 v0_21 v0_23 v0_24 v0_25 v0_26 v0_29 v0_30 v0_0 v0_6 v0_7 v0_8 v0_9 v0_10 v0_11) sz)) (Q_X12_laysSegments dC dI cI a0 v0_2 v0_3 v0_5 v0_16 v0_17 v0_21 v0_23 v0_24 v0_25 v0_26 v0_29 v0_30 v0_0 u (va_A (wd_X12_laysSegments cI a0 v0_2 v0_3 v0_5 v0_12 v0_13 v0_16 v0_17 v0_21 v0_23 v0_24 v0_25 v0_26 v0_29 v0_30 v0_0 v0_6 v0_7 v0_8 v0_9 v0_10 v0_11) sz)) 0 0 (va_A (wd_X12_laysSegments cI a0 v0_2 v0_3 v0_5 v0_12 v0_13 v0_16 v0_17 v0_21 v0_23 v0_24 v0_25 v0_26 v0_29 v0_30 v0_0 v0_6 v0_7 v0_8 v0_9 v0_10 v0_11) sz) := by
  refine Met.ofW (cc := cX12_laysSegments) (maxL := 7) (ret := none) (by decide) rfl ?_
  intro p e s m args below meth c s₁ B hml hv
  obtain ⟨rfl, hsz, hP, hK, hD0⟩ := hv
  have hx := B.exec
  have hb := B.bytes
  have hr := B.returns
  have hts := atoms_spec (ws := wz_X12_laysSegments) B.pre
  have hta := wz_tl hts
  have hown : s.vm.findClass RX12 = some m.cls := findClass_of_methodNamed B.named
  have hlocks := B.notSynchronized
  subst hsz
  have hD := hD0.self (sz := s.heap.size)
  generalize hAe : va_A (wd_X12_laysSegments cI a0 v0_2 v0_3 v0_5 v0_12 v0_13 v0_16 v0_17 v0_21 v0_23 v0_24 v0_25 v0_26 v0_29 v0_30 v0_0 v0_6 v0_7 v0_8 v0_9 v0_10 v0_11) s.heap.size = A at hD ⊢
  have hA : ∀ q : Nat, s.heap.size ≤ q → A q := fun q h => by rw [← hAe]; exact Or.inr h
  have hS : va_S A s.heap s.heap [] := va_S.rf
  have hP : va_P (dC, dI) vwCl (wd_X12_laysSegments cI a0 v0_2 v0_3 v0_5 v0_12 v0_13 v0_16 v0_17 v0_21 v0_23 v0_24 v0_25 v0_26 v0_29 v0_30 v0_0 v0_6 v0_7 v0_8 v0_9 v0_10 v0_11) s.heap := hP
  have hl := lv_entry ([.ref (a0 0), .int p1]) (n := 7) (Nat.le_of_ble_eq_true rfl)
  rw [lg_entry_eq]
  generalize (lg_sl ([.ref (a0 0), .int p1]) ++ List.replicate (7 - (lg_sl ([.ref (a0 0), .int p1])).length) Slot.unset).toArray = ls at hl ⊢
  have hl : lv_has ls 7 [(0, .ref (a0 0)), (1, .int p1)] := hl
  obtain ⟨H, hHe⟩ : ∃ H, H = s.heap := ⟨_, rfl⟩
  have hS : va_S A s.heap H [] := by rw [hHe]; exact hS
  have hP : va_P (dC, dI) vwCl (wd_X12_laysSegments cI a0 v0_2 v0_3 v0_5 v0_12 v0_13 v0_16 v0_17 v0_21 v0_23 v0_24 v0_25 v0_26 v0_29 v0_30 v0_0 v0_6 v0_7 v0_8 v0_9 v0_10 v0_11) H := by rw [hHe]; exact hP
  rw [← hHe]
  unfold F_X12_laysSegments at hF
  have j18 : ∀ (v0_12 : Int32) (v0_13 : Int32) (v0_6 : Nat → Int32) (v0_7 : Nat → Int32) (v0_8 : Nat → Int32) (v0_9 : Nat → Int32) (v0_10 : Nat → Int32) (v0_11 : Nat → Int32) (x1 : Int32) (x2 : Int32) (x3 : Int32), F_X12_laysSegments_j18 n v0_12 v0_13 v0_0 v0_6 v0_7 v0_8 v0_9 v0_10 v0_11 x1 x2 x3 = some u → ∀ (H : Heap) (locs : List Loc) (ls : Array Slot), va_P (dC, dI) vwCl (wd_X12_laysSegments cI a0 v0_2 v0_3 v0_5 v0_12 v0_13 v0_16 v0_17 v0_21 v0_23 v0_24 v0_25 v0_26 v0_29 v0_30 v0_0 v0_6 v0_7 v0_8 v0_9 v0_10 v0_11) H → va_D A (wd_X12_laysSegments cI a0 v0_2 v0_3 v0_5 v0_12 v0_13 v0_16 v0_17 v0_21 v0_23 v0_24 v0_25 v0_26 v0_29 v0_30 v0_0 v0_6 v0_7 v0_8 v0_9 v0_10 v0_11) → va_S A s.heap H locs → lv_has ls 7 [(0, .ref (a0 0)), (1, .int x1), (2, .int x2), (3, .int x3)] → W p l e (headSpec wz_X12_laysSegments rm_X12_laysSegments).room s m [.ref (a0 0), .int p1].toArray below meth c H locs 0 0 (MQ below (Q_X12_laysSegments dC dI cI a0 v0_2 v0_3 v0_5 v0_16 v0_17 v0_21 v0_23 v0_24 v0_25 v0_26 v0_29 v0_30 v0_0 u A) [.ref (a0 0), .int p1].toArray s 0 0 A) (F0 m 18 ls []) := by
    intro v0_12 v0_13 v0_6 v0_7 v0_8 v0_9 v0_10 v0_11 x1 x2 x3 hF H locs ls hP hD hS hl
    unfold F_X12_laysSegments_j18 at hF
    obtain ⟨x_18, hL_18, hE_18⟩ := obd_some hF
    have kl_18 : ∀ (k : Nat) (s18 : Int32 × Int32 × Int32 × (Nat → Int32) × (Nat → Int32) × (Nat → Int32) × (Nat → Int32) × (Nat → Int32) × (Nat → Int32)), lpq (F_X12_laysSegments_b18 n v0_0 x1 x2) k s18 = some x_18 → ∀ (H : Heap) (locs : List Loc) (ls : Array Slot), va_P (dC, dI) vwCl (wd_X12_laysSegments cI a0 v0_2 v0_3 v0_5 s18.2.1 s18.2.2.1 v0_16 v0_17 v0_21 v0_23 v0_24 v0_25 v0_26 v0_29 v0_30 v0_0 s18.2.2.2.1 s18.2.2.2.2.1 s18.2.2.2.2.2.1 s18.2.2.2.2.2.2.1 s18.2.2.2.2.2.2.2.1 s18.2.2.2.2.2.2.2.2) H → va_D A (wd_X12_laysSegments cI a0 v0_2 v0_3 v0_5 s18.2.1 s18.2.2.1 v0_16 v0_17 v0_21 v0_23 v0_24 v0_25 v0_26 v0_29 v0_30 v0_0 s18.2.2.2.1 s18.2.2.2.2.1 s18.2.2.2.2.2.1 s18.2.2.2.2.2.2.1 s18.2.2.2.2.2.2.2.1 s18.2.2.2.2.2.2.2.2) → va_S A s.heap H locs → lv_has ls 7 [(0, .ref (a0 0)), (1, .int x1), (2, .int x2), (3, .int s18.1)] → W p l e (headSpec wz_X12_laysSegments rm_X12_laysSegments).room s m [.ref (a0 0), .int p1].toArray below meth c H locs 0 0 (MQ below (Q_X12_laysSegments dC dI cI a0 v0_2 v0_3 v0_5 v0_16 v0_17 v0_21 v0_23 v0_24 v0_25 v0_26 v0_29 v0_30 v0_0 u A) [.ref (a0 0), .int p1].toArray s 0 0 A) (F0 m 18 ls []) := by
      intro k
      induction k with
      | zero => intro s18 h; exact absurd h lpq_zero
      | succ k ih_18 =>
        intro s18 h H locs ls hP hD hS hl
        obtain ⟨o_18, hF, hO_18⟩ := lpq_succ h
        unfold F_X12_laysSegments_b18 at hF
        have j207 : ∀ (v0_12 : Int32) (v0_13 : Int32) (v0_6 : Nat → Int32) (v0_7 : Nat → Int32) (v0_8 : Nat → Int32) (v0_9 : Nat → Int32) (v0_10 : Nat → Int32) (v0_11 : Nat → Int32) (x3 : Int32), F_X12_laysSegments_j207 v0_12 v0_13 v0_6 v0_7 v0_8 v0_9 v0_10 v0_11 x3 = some o_18 → ∀ (H : Heap) (locs : List Loc) (ls : Array Slot), va_P (dC, dI) vwCl (wd_X12_laysSegments cI a0 v0_2 v0_3 v0_5 v0_12 v0_13 v0_16 v0_17 v0_21 v0_23 v0_24 v0_25 v0_26 v0_29 v0_30 v0_0 v0_6 v0_7 v0_8 v0_9 v0_10 v0_11) H → va_D A (wd_X12_laysSegments cI a0 v0_2 v0_3 v0_5 v0_12 v0_13 v0_16 v0_17 v0_21 v0_23 v0_24 v0_25 v0_26 v0_29 v0_30 v0_0 v0_6 v0_7 v0_8 v0_9 v0_10 v0_11) → va_S A s.heap H locs → lv_has ls 7 [(0, .ref (a0 0)), (1, .int x1), (2, .int x2), (3, .int x3)] → W p l e (headSpec wz_X12_laysSegments rm_X12_laysSegments).room s m [.ref (a0 0), .int p1].toArray below meth c H locs 0 0 (MQ below (Q_X12_laysSegments dC dI cI a0 v0_2 v0_3 v0_5 v0_16 v0_17 v0_21 v0_23 v0_24 v0_25 v0_26 v0_29 v0_30 v0_0 u A) [.ref (a0 0), .int p1].toArray s 0 0 A) (F0 m 207 ls []) := by
          intro v0_12 v0_13 v0_6 v0_7 v0_8 v0_9 v0_10 v0_11 x3 hF H locs ls hP hD hS hl
          unfold F_X12_laysSegments_j207 at hF
          obtain ⟨y_1, ey_1, hF⟩ := lt_some hF
          refine lv_iinc (v := y_1) (lv' := [(3, .int y_1), (0, .ref (a0 0)), (1, .int x1), (2, .int x2)]) hx hb dX12_laysSegments_207 hl (k := 3) rfl (by rw [ey_1]; rfl) (by decide) rfl (fun ls hl => ?_)
          refine lv_goto (tgt := 18) hx hb dX12_laysSegments_210 (by decide) ?_
          obtain rfl := Option.some.inj hF
          exact ih_18 _ hO_18 _ _ _ hP hD hS (lv_sub hl [1, 2, 3, 0] rfl)
        have j86 : ∀ (v0_12 : Int32) (v0_13 : Int32) (v0_6 : Nat → Int32) (v0_7 : Nat → Int32) (v0_8 : Nat → Int32) (v0_9 : Nat → Int32) (v0_10 : Nat → Int32) (v0_11 : Nat → Int32) (x3 : Int32) (x5 : Int32) (x6 : Int32), F_X12_laysSegments_j86 n v0_12 v0_13 v0_0 v0_6 v0_7 v0_8 v0_9 v0_10 v0_11 x1 x3 x5 x6 = some o_18 → ∀ (H : Heap) (locs : List Loc) (ls : Array Slot), va_P (dC, dI) vwCl (wd_X12_laysSegments cI a0 v0_2 v0_3 v0_5 v0_12 v0_13 v0_16 v0_17 v0_21 v0_23 v0_24 v0_25 v0_26 v0_29 v0_30 v0_0 v0_6 v0_7 v0_8 v0_9 v0_10 v0_11) H → va_D A (wd_X12_laysSegments cI a0 v0_2 v0_3 v0_5 v0_12 v0_13 v0_16 v0_17 v0_21 v0_23 v0_24 v0_25 v0_26 v0_29 v0_30 v0_0 v0_6 v0_7 v0_8 v0_9 v0_10 v0_11) → va_S A s.heap H locs → lv_has ls 7 [(0, .ref (a0 0)), (1, .int x1), (2, .int x2), (3, .int x3), (5, .int x5), (6, .int x6)] → W p l e (headSpec wz_X12_laysSegments rm_X12_laysSegments).room s m [.ref (a0 0), .int p1].toArray below meth c H locs 0 0 (MQ below (Q_X12_laysSegments dC dI cI a0 v0_2 v0_3 v0_5 v0_16 v0_17 v0_21 v0_23 v0_24 v0_25 v0_26 v0_29 v0_30 v0_0 u A) [.ref (a0 0), .int p1].toArray s 0 0 A) (F0 m 86 ls []) := by
          intro v0_12 v0_13 v0_6 v0_7 v0_8 v0_9 v0_10 v0_11 x3 x5 x6 hF H locs ls hP hD hS hl
          unfold F_X12_laysSegments_j86 at hF
          refine lv_aload_n hx hb dX12_laysSegments_86 rfl (lv_at hl 0 rfl) ?_
          refine va_get (D := (dC, dI)) (ci := 11) (v := .ref (a0 7)) (C := RX12) (T := TX12) (N := 31) hx hb hta uw_X12 hown hK hP 0 rfl rfl 6 (by decide) (hta _ mA793) (fun _ h9 => h9) rfl dX12_laysSegments_87 ?_
          refine lv_aload_n hx hb dX12_laysSegments_90 rfl (lv_at hl 0 rfl) ?_
          refine va_get (D := (dC, dI)) (ci := 11) (v := .int v0_12) (C := RX12) (T := TX12) (N := 31) hx hb hta uw_X12 hown hK hP 0 rfl rfl 12 (by decide) (hta _ mA863) (fun _ h9 => h9) rfl dX12_laysSegments_91 ?_
          refine lv_iload hx hb dX12_laysSegments_94 (lv_at hl 4 rfl) ?_
          obtain ⟨g_2, hF⟩ := gd_some hF
          refine va_iast hx hb hK hP hD hS 2 0 rfl rfl (vpi_in g_2) dX12_laysSegments_96 (fun H locs hP hD hS => ?_)
          obtain ⟨y_3, ey_3, hF⟩ := lt_some hF
          have hP : va_P (dC, dI) vwCl (wd_X12_laysSegments cI a0 v0_2 v0_3 v0_5 v0_12 v0_13 v0_16 v0_17 v0_21 v0_23 v0_24 v0_25 v0_26 v0_29 v0_30 v0_0 y_3 v0_7 v0_8 v0_9 v0_10 v0_11) H := by rw [ey_3]; exact hP
          have hD : va_D A (wd_X12_laysSegments cI a0 v0_2 v0_3 v0_5 v0_12 v0_13 v0_16 v0_17 v0_21 v0_23 v0_24 v0_25 v0_26 v0_29 v0_30 v0_0 y_3 v0_7 v0_8 v0_9 v0_10 v0_11) := by rw [ey_3]; exact hD
          refine lv_aload_n hx hb dX12_laysSegments_97 rfl (lv_at hl 0 rfl) ?_
          refine va_get (D := (dC, dI)) (ci := 11) (v := .ref (a0 8)) (C := RX12) (T := TX12) (N := 31) hx hb hta uw_X12 hown hK hP 0 rfl rfl 7 (by decide) (hta _ mA794) (fun _ h9 => h9) rfl dX12_laysSegments_98 ?_
          refine lv_aload_n hx hb dX12_laysSegments_101 rfl (lv_at hl 0 rfl) ?_
          refine va_get (D := (dC, dI)) (ci := 11) (v := .int v0_12) (C := RX12) (T := TX12) (N := 31) hx hb hta uw_X12 hown hK hP 0 rfl rfl 12 (by decide) (hta _ mA863) (fun _ h9 => h9) rfl dX12_laysSegments_102 ?_
          refine lv_iload hx hb dX12_laysSegments_105 (lv_at hl 5 rfl) ?_
          obtain ⟨g_4, hF⟩ := gd_some hF
          refine va_iast hx hb hK hP hD hS 3 0 rfl rfl (vpi_in g_4) dX12_laysSegments_107 (fun H locs hP hD hS => ?_)
          obtain ⟨y_5, ey_5, hF⟩ := lt_some hF
          have hP : va_P (dC, dI) vwCl (wd_X12_laysSegments cI a0 v0_2 v0_3 v0_5 v0_12 v0_13 v0_16 v0_17 v0_21 v0_23 v0_24 v0_25 v0_26 v0_29 v0_30 v0_0 y_3 y_5 v0_8 v0_9 v0_10 v0_11) H := by rw [ey_5]; exact hP
          have hD : va_D A (wd_X12_laysSegments cI a0 v0_2 v0_3 v0_5 v0_12 v0_13 v0_16 v0_17 v0_21 v0_23 v0_24 v0_25 v0_26 v0_29 v0_30 v0_0 y_3 y_5 v0_8 v0_9 v0_10 v0_11) := by rw [ey_5]; exact hD
          refine lv_aload_n hx hb dX12_laysSegments_108 rfl (lv_at hl 0 rfl) ?_
          refine va_get (D := (dC, dI)) (ci := 11) (v := .ref (a0 9)) (C := RX12) (T := TX12) (N := 31) hx hb hta uw_X12 hown hK hP 0 rfl rfl 8 (by decide) (hta _ mA795) (fun _ h9 => h9) rfl dX12_laysSegments_109 ?_
          refine lv_aload_n hx hb dX12_laysSegments_112 rfl (lv_at hl 0 rfl) ?_
          refine va_get (D := (dC, dI)) (ci := 11) (v := .int v0_12) (C := RX12) (T := TX12) (N := 31) hx hb hta uw_X12 hown hK hP 0 rfl rfl 12 (by decide) (hta _ mA863) (fun _ h9 => h9) rfl dX12_laysSegments_113 ?_
          refine lv_aload_n hx hb dX12_laysSegments_116 rfl (lv_at hl 0 rfl) ?_
          refine lv_iload_n hx hb dX12_laysSegments_117 rfl (lv_at hl 1 rfl) ?_
          refine lv_iload_n hx hb dX12_laysSegments_118 rfl (lv_at hl 3 rfl) ?_
          obtain ⟨u_6, hu_6, hF⟩ := obd_some hF
          have hPc := hP.sub (ws' := (wd_X12_x cI a0 v0_2 v0_3 v0_5 v0_12 v0_13 v0_16 v0_17 v0_21 v0_23 v0_24 v0_25 v0_26 v0_29 v0_30 v0_0)) [0, 1] rfl
          have hDc := hD.sub (ws' := (wd_X12_x cI a0 v0_2 v0_3 v0_5 v0_12 v0_13 v0_16 v0_17 v0_21 v0_23 v0_24 v0_25 v0_26 v0_29 v0_30 v0_0)) [0, 1] rfl rfl
          refine q_calli (wc := (wd_X12_x cI a0 v0_2 v0_3 v0_5 v0_12 v0_13 v0_16 v0_17 v0_21 v0_23 v0_24 v0_25 v0_26 v0_29 v0_30 v0_0)) (w1 := (wd_X12_x cI a0 v0_2 v0_3 v0_5 v0_12 v0_13 v0_16 v0_17 v0_21 v0_23 v0_24 v0_25 v0_26 v0_29 v0_30 v0_0)) (ws' := (wd_X12_laysSegments cI a0 v0_2 v0_3 v0_5 v0_12 v0_13 v0_16 v0_17 v0_21 v0_23 v0_24 v0_25 v0_26 v0_29 v0_30 v0_0 y_3 y_5 v0_8 v0_9 v0_10 v0_11)) hP hD hS hA [0, 1] [2, 3, 4, 5, 6, 7] [6, 7, 0, 1, 2, 3, 4, 5] rfl rfl rfl (by decide) rfl rfl (va_runV (As := [.int x1, .int x3]) (rest := [.int v0_12, .ref (a0 9)]) ⟨hx, hb, hml, hown, hta⟩ (c_X12_x l dC dI cI H.size a0 v0_2 v0_3 v0_5 v0_12 v0_13 v0_16 v0_17 v0_21 v0_23 v0_24 v0_25 v0_26 v0_29 v0_30 v0_0 x1 x3 u_6 hu_6) (cwV 2 hta (ga_V mA870 mA871 mA872 mA814 mA831) rfl rfl rfl (by decide +kernel) ⟨Nat.le_of_ble_eq_true rfl, Nat.le_of_ble_eq_true rfl⟩) ⟨q_fb, va_recv hK hP (ci := 11) (q0 := 0) rfl rfl, q_ps hPc hK hDc⟩ rfl rfl hl.1 rfl (lv_room (Nat.le_of_ble_eq_true rfl)) dX12_laysSegments_119 ⟨Nat.zero_le _, Nat.zero_le _⟩) (fun H locs hP hD hS => ?_)
          obtain ⟨g_7, hF⟩ := gd_some hF
          refine va_iast hx hb hK hP hD hS 4 0 rfl rfl (vpi_in g_7) dX12_laysSegments_122 (fun H locs hP hD hS => ?_)
          obtain ⟨y_8, ey_8, hF⟩ := lt_some hF
          have hP : va_P (dC, dI) vwCl (wd_X12_laysSegments cI a0 v0_2 v0_3 v0_5 v0_12 v0_13 v0_16 v0_17 v0_21 v0_23 v0_24 v0_25 v0_26 v0_29 v0_30 v0_0 y_3 y_5 y_8 v0_9 v0_10 v0_11) H := by rw [ey_8]; exact hP
          have hD : va_D A (wd_X12_laysSegments cI a0 v0_2 v0_3 v0_5 v0_12 v0_13 v0_16 v0_17 v0_21 v0_23 v0_24 v0_25 v0_26 v0_29 v0_30 v0_0 y_3 y_5 y_8 v0_9 v0_10 v0_11) := by rw [ey_8]; exact hD
          refine lv_aload_n hx hb dX12_laysSegments_123 rfl (lv_at hl 0 rfl) ?_
          refine va_get (D := (dC, dI)) (ci := 11) (v := .ref (a0 10)) (C := RX12) (T := TX12) (N := 31) hx hb hta uw_X12 hown hK hP 0 rfl rfl 9 (by decide) (hta _ mA796) (fun _ h9 => h9) rfl dX12_laysSegments_124 ?_
          refine lv_aload_n hx hb dX12_laysSegments_127 rfl (lv_at hl 0 rfl) ?_
          refine va_get (D := (dC, dI)) (ci := 11) (v := .int v0_12) (C := RX12) (T := TX12) (N := 31) hx hb hta uw_X12 hown hK hP 0 rfl rfl 12 (by decide) (hta _ mA863) (fun _ h9 => h9) rfl dX12_laysSegments_128 ?_
          refine lv_aload_n hx hb dX12_laysSegments_131 rfl (lv_at hl 0 rfl) ?_
          refine lv_iload_n hx hb dX12_laysSegments_132 rfl (lv_at hl 1 rfl) ?_
          refine lv_iload_n hx hb dX12_laysSegments_133 rfl (lv_at hl 3 rfl) ?_
          obtain ⟨u_9, hu_9, hF⟩ := obd_some hF
          have hPc := hP.sub (ws' := (wd_X12_y cI a0 v0_2 v0_3 v0_5 v0_12 v0_13 v0_16 v0_17 v0_21 v0_23 v0_24 v0_25 v0_26 v0_29 v0_30 v0_0)) [0, 1] rfl
          have hDc := hD.sub (ws' := (wd_X12_y cI a0 v0_2 v0_3 v0_5 v0_12 v0_13 v0_16 v0_17 v0_21 v0_23 v0_24 v0_25 v0_26 v0_29 v0_30 v0_0)) [0, 1] rfl rfl
          refine q_calli (wc := (wd_X12_y cI a0 v0_2 v0_3 v0_5 v0_12 v0_13 v0_16 v0_17 v0_21 v0_23 v0_24 v0_25 v0_26 v0_29 v0_30 v0_0)) (w1 := (wd_X12_y cI a0 v0_2 v0_3 v0_5 v0_12 v0_13 v0_16 v0_17 v0_21 v0_23 v0_24 v0_25 v0_26 v0_29 v0_30 v0_0)) (ws' := (wd_X12_laysSegments cI a0 v0_2 v0_3 v0_5 v0_12 v0_13 v0_16 v0_17 v0_21 v0_23 v0_24 v0_25 v0_26 v0_29 v0_30 v0_0 y_3 y_5 y_8 v0_9 v0_10 v0_11)) hP hD hS hA [0, 1] [2, 3, 4, 5, 6, 7] [6, 7, 0, 1, 2, 3, 4, 5] rfl rfl rfl (by decide) rfl rfl (va_runV (As := [.int x1, .int x3]) (rest := [.int v0_12, .ref (a0 10)]) ⟨hx, hb, hml, hown, hta⟩ (c_X12_y l dC dI cI H.size a0 v0_2 v0_3 v0_5 v0_12 v0_13 v0_16 v0_17 v0_21 v0_23 v0_24 v0_25 v0_26 v0_29 v0_30 v0_0 x1 x3 u_9 hu_9) (cwV 2 hta (ga_V mA873 mA874 mA875 mA814 mA832) rfl rfl rfl (by decide +kernel) ⟨Nat.le_of_ble_eq_true rfl, Nat.le_of_ble_eq_true rfl⟩) ⟨q_fb, va_recv hK hP (ci := 11) (q0 := 0) rfl rfl, q_ps hPc hK hDc⟩ rfl rfl hl.1 rfl (lv_room (Nat.le_of_ble_eq_true rfl)) dX12_laysSegments_134 ⟨Nat.zero_le _, Nat.zero_le _⟩) (fun H locs hP hD hS => ?_)
          obtain ⟨g_10, hF⟩ := gd_some hF
          refine va_iast hx hb hK hP hD hS 5 0 rfl rfl (vpi_in g_10) dX12_laysSegments_137 (fun H locs hP hD hS => ?_)
          obtain ⟨y_11, ey_11, hF⟩ := lt_some hF
          have hP : va_P (dC, dI) vwCl (wd_X12_laysSegments cI a0 v0_2 v0_3 v0_5 v0_12 v0_13 v0_16 v0_17 v0_21 v0_23 v0_24 v0_25 v0_26 v0_29 v0_30 v0_0 y_3 y_5 y_8 y_11 v0_10 v0_11) H := by rw [ey_11]; exact hP
          have hD : va_D A (wd_X12_laysSegments cI a0 v0_2 v0_3 v0_5 v0_12 v0_13 v0_16 v0_17 v0_21 v0_23 v0_24 v0_25 v0_26 v0_29 v0_30 v0_0 y_3 y_5 y_8 y_11 v0_10 v0_11) := by rw [ey_11]; exact hD
          refine lv_aload_n hx hb dX12_laysSegments_138 rfl (lv_at hl 0 rfl) ?_
          refine va_get (D := (dC, dI)) (ci := 11) (v := .ref (a0 11)) (C := RX12) (T := TX12) (N := 31) hx hb hta uw_X12 hown hK hP 0 rfl rfl 10 (by decide) (hta _ mA797) (fun _ h9 => h9) rfl dX12_laysSegments_139 ?_
          refine lv_aload_n hx hb dX12_laysSegments_142 rfl (lv_at hl 0 rfl) ?_
          refine va_get (D := (dC, dI)) (ci := 11) (v := .int v0_12) (C := RX12) (T := TX12) (N := 31) hx hb hta uw_X12 hown hK hP 0 rfl rfl 12 (by decide) (hta _ mA863) (fun _ h9 => h9) rfl dX12_laysSegments_143 ?_
          refine lv_ldc2 (v := 4096) hx hb hown (hta _ mA869) dX12_laysSegments_146 ?_
          refine lv_iload hx hb dX12_laysSegments_149 (lv_at hl 4 rfl) ?_
          refine lv_iload hx hb dX12_laysSegments_151 (lv_at hl 4 rfl) ?_
          refine lv_imul hx hb dX12_laysSegments_153 ?_
          refine lv_iload hx hb dX12_laysSegments_154 (lv_at hl 5 rfl) ?_
          refine lv_iload hx hb dX12_laysSegments_156 (lv_at hl 5 rfl) ?_
          refine lv_imul hx hb dX12_laysSegments_158 ?_
          refine lv_iadd hx hb dX12_laysSegments_159 ?_
          refine lv_i2l hx hb dX12_laysSegments_160 rfl ?_
          refine lv_lmul hx hb dX12_laysSegments_161 ?_
          obtain ⟨u_12, hu_12, hF⟩ := obd_some hF
          have hPc := hP.sub (ws' := ([] : va_W)) [] rfl
          have hDc := hD.sub (ws' := ([] : va_W)) [] rfl rfl
          refine q_calli (wc := ([] : va_W)) (w1 := ([] : va_W)) (ws' := (wd_X12_laysSegments cI a0 v0_2 v0_3 v0_5 v0_12 v0_13 v0_16 v0_17 v0_21 v0_23 v0_24 v0_25 v0_26 v0_29 v0_30 v0_0 y_3 y_5 y_8 y_11 v0_10 v0_11)) hP hD hS hA [] [0, 1, 2, 3, 4, 5, 6, 7] [0, 1, 2, 3, 4, 5, 6, 7] rfl rfl rfl (by decide) rfl rfl (va_runS (As := [.long (4096 * ((x5 * x5) + (x6 * x6)).toInt64)]) (rest := [.int v0_12, .ref (a0 11)]) ⟨hx, hb, hml, hown, hta⟩ (c_X12_root l dC dI cI H.size (4096 * ((x5 * x5) + (x6 * x6)).toInt64) n u_12 hu_12) (va_cwS 1 hta (ga_S mA876 mA877 mA814 mA817) rfl rfl rfl (by decide +kernel) ⟨Nat.le_of_ble_eq_true rfl, Nat.le_of_ble_eq_true rfl⟩) ⟨q_fb, q_ps hPc hK hDc⟩ rfl rfl hl.1 rfl (lv_room (Nat.le_of_ble_eq_true rfl)) dX12_laysSegments_162 ⟨Nat.zero_le _, Nat.zero_le _⟩) (fun H locs hP hD hS => ?_)
          obtain ⟨g_13, hF⟩ := gd_some hF
          refine va_iast hx hb hK hP hD hS 6 0 rfl rfl (vpi_in g_13) dX12_laysSegments_165 (fun H locs hP hD hS => ?_)
          obtain ⟨y_14, ey_14, hF⟩ := lt_some hF
          have hP : va_P (dC, dI) vwCl (wd_X12_laysSegments cI a0 v0_2 v0_3 v0_5 v0_12 v0_13 v0_16 v0_17 v0_21 v0_23 v0_24 v0_25 v0_26 v0_29 v0_30 v0_0 y_3 y_5 y_8 y_11 y_14 v0_11) H := by rw [ey_14]; exact hP
          have hD : va_D A (wd_X12_laysSegments cI a0 v0_2 v0_3 v0_5 v0_12 v0_13 v0_16 v0_17 v0_21 v0_23 v0_24 v0_25 v0_26 v0_29 v0_30 v0_0 y_3 y_5 y_8 y_11 y_14 v0_11) := by rw [ey_14]; exact hD
          refine lv_aload_n hx hb dX12_laysSegments_166 rfl (lv_at hl 0 rfl) ?_
          refine va_get (D := (dC, dI)) (ci := 11) (v := .ref (a0 12)) (C := RX12) (T := TX12) (N := 31) hx hb hta uw_X12 hown hK hP 0 rfl rfl 11 (by decide) (hta _ mA798) (fun _ h9 => h9) rfl dX12_laysSegments_167 ?_
          refine lv_aload_n hx hb dX12_laysSegments_170 rfl (lv_at hl 0 rfl) ?_
          refine va_get (D := (dC, dI)) (ci := 11) (v := .int v0_12) (C := RX12) (T := TX12) (N := 31) hx hb hta uw_X12 hown hK hP 0 rfl rfl 12 (by decide) (hta _ mA863) (fun _ h9 => h9) rfl dX12_laysSegments_171 ?_
          refine lv_aload_n hx hb dX12_laysSegments_174 rfl (lv_at hl 0 rfl) ?_
          refine va_get (D := (dC, dI)) (ci := 11) (v := .int v0_13) (C := RX12) (T := TX12) (N := 31) hx hb hta uw_X12 hown hK hP 0 rfl rfl 13 (by decide) (hta _ mA868) (fun _ h9 => h9) rfl dX12_laysSegments_175 ?_
          obtain ⟨g_15, hF⟩ := gd_some hF
          refine va_iast hx hb hK hP hD hS 7 0 rfl rfl (vpi_in g_15) dX12_laysSegments_178 (fun H locs hP hD hS => ?_)
          obtain ⟨y_16, ey_16, hF⟩ := lt_some hF
          have hP : va_P (dC, dI) vwCl (wd_X12_laysSegments cI a0 v0_2 v0_3 v0_5 v0_12 v0_13 v0_16 v0_17 v0_21 v0_23 v0_24 v0_25 v0_26 v0_29 v0_30 v0_0 y_3 y_5 y_8 y_11 y_14 y_16) H := by rw [ey_16]; exact hP
          have hD : va_D A (wd_X12_laysSegments cI a0 v0_2 v0_3 v0_5 v0_12 v0_13 v0_16 v0_17 v0_21 v0_23 v0_24 v0_25 v0_26 v0_29 v0_30 v0_0 y_3 y_5 y_8 y_11 y_14 y_16) := by rw [ey_16]; exact hD
          refine lv_aload_n hx hb dX12_laysSegments_179 rfl (lv_at hl 0 rfl) ?_
          refine lv_dup hx hb dX12_laysSegments_180 rfl ?_
          refine va_get (D := (dC, dI)) (ci := 11) (v := .int v0_13) (C := RX12) (T := TX12) (N := 31) hx hb hta uw_X12 hown hK hP 0 rfl rfl 13 (by decide) (hta _ mA868) (fun _ h9 => h9) rfl dX12_laysSegments_181 ?_
          refine lv_aload_n hx hb dX12_laysSegments_184 rfl (lv_at hl 0 rfl) ?_
          refine va_get (D := (dC, dI)) (ci := 11) (v := .ref (a0 11)) (C := RX12) (T := TX12) (N := 31) hx hb hta uw_X12 hown hK hP 0 rfl rfl 10 (by decide) (hta _ mA797) (fun _ h9 => h9) rfl dX12_laysSegments_185 ?_
          refine lv_aload_n hx hb dX12_laysSegments_188 rfl (lv_at hl 0 rfl) ?_
          refine va_get (D := (dC, dI)) (ci := 11) (v := .int v0_12) (C := RX12) (T := TX12) (N := 31) hx hb hta uw_X12 hown hK hP 0 rfl rfl 12 (by decide) (hta _ mA863) (fun _ h9 => h9) rfl dX12_laysSegments_189 ?_
          obtain ⟨g_17, hF⟩ := gd_some hF
          refine va_iald hx hb hK hP 6 0 rfl rfl (vpi_in g_17) dX12_laysSegments_192 ?_
          refine lv_iadd hx hb dX12_laysSegments_193 ?_
          obtain ⟨y_18, ey_18, hF⟩ := lt_some hF
          refine lv_eqi ey_18 ?_
          refine va_put (D := (dC, dI)) (ci := 11) (v := .int y_18) (ty := .int) (C := RX12) (T := TX12) (N := 31) hx hb hta uw_X12 tyX12 tyX12_ok nmX12 hown hK hP hD hS 0 rfl rfl 13 (by decide) (hta _ mA868) (fun _ h9 => h9) rfl (by decide +kernel) rfl rfl (Nat.le_of_ble_eq_true rfl) dX12_laysSegments_194 (fun H locs hP hD hS => ?_)
          have hP : va_P (dC, dI) vwCl (wd_X12_laysSegments cI a0 v0_2 v0_3 v0_5 v0_12 y_18 v0_16 v0_17 v0_21 v0_23 v0_24 v0_25 v0_26 v0_29 v0_30 v0_0 y_3 y_5 y_8 y_11 y_14 y_16) H := hP
          have hD : va_D A (wd_X12_laysSegments cI a0 v0_2 v0_3 v0_5 v0_12 y_18 v0_16 v0_17 v0_21 v0_23 v0_24 v0_25 v0_26 v0_29 v0_30 v0_0 y_3 y_5 y_8 y_11 y_14 y_16) := hD
          refine lv_aload_n hx hb dX12_laysSegments_197 rfl (lv_at hl 0 rfl) ?_
          refine lv_dup hx hb dX12_laysSegments_198 rfl ?_
          refine va_get (D := (dC, dI)) (ci := 11) (v := .int v0_12) (C := RX12) (T := TX12) (N := 31) hx hb hta uw_X12 hown hK hP 0 rfl rfl 12 (by decide) (hta _ mA863) (fun _ h9 => h9) rfl dX12_laysSegments_199 ?_
          refine lv_iconst (v := 1) hx hb dX12_laysSegments_202 (by decide) ?_
          refine lv_iadd hx hb dX12_laysSegments_203 ?_
          obtain ⟨y_19, ey_19, hF⟩ := lt_some hF
          refine lv_eqi ey_19 ?_
          refine va_put (D := (dC, dI)) (ci := 11) (v := .int y_19) (ty := .int) (C := RX12) (T := TX12) (N := 31) hx hb hta uw_X12 tyX12 tyX12_ok nmX12 hown hK hP hD hS 0 rfl rfl 12 (by decide) (hta _ mA863) (fun _ h9 => h9) rfl (by decide +kernel) rfl rfl (Nat.le_of_ble_eq_true rfl) dX12_laysSegments_204 (fun H locs hP hD hS => ?_)
          have hP : va_P (dC, dI) vwCl (wd_X12_laysSegments cI a0 v0_2 v0_3 v0_5 y_19 y_18 v0_16 v0_17 v0_21 v0_23 v0_24 v0_25 v0_26 v0_29 v0_30 v0_0 y_3 y_5 y_8 y_11 y_14 y_16) H := hP
          have hD : va_D A (wd_X12_laysSegments cI a0 v0_2 v0_3 v0_5 y_19 y_18 v0_16 v0_17 v0_21 v0_23 v0_24 v0_25 v0_26 v0_29 v0_30 v0_0 y_3 y_5 y_8 y_11 y_14 y_16) := hD
          exact j207 y_19 y_18 y_3 y_5 y_8 y_11 y_14 y_16 x3 hF _ _ _ hP hD hS (lv_sub hl [0, 1, 2, 3] rfl)
        have j34 : ∀ (v0_12 : Int32) (v0_13 : Int32) (v0_6 : Nat → Int32) (v0_7 : Nat → Int32) (v0_8 : Nat → Int32) (v0_9 : Nat → Int32) (v0_10 : Nat → Int32) (v0_11 : Nat → Int32) (x3 : Int32) (t0 : Int32) (t1 : Int32), F_X12_laysSegments_j34 n v0_12 v0_13 v0_0 v0_6 v0_7 v0_8 v0_9 v0_10 v0_11 x1 x2 x3 t0 t1 = some o_18 → ∀ (H : Heap) (locs : List Loc) (ls : Array Slot), va_P (dC, dI) vwCl (wd_X12_laysSegments cI a0 v0_2 v0_3 v0_5 v0_12 v0_13 v0_16 v0_17 v0_21 v0_23 v0_24 v0_25 v0_26 v0_29 v0_30 v0_0 v0_6 v0_7 v0_8 v0_9 v0_10 v0_11) H → va_D A (wd_X12_laysSegments cI a0 v0_2 v0_3 v0_5 v0_12 v0_13 v0_16 v0_17 v0_21 v0_23 v0_24 v0_25 v0_26 v0_29 v0_30 v0_0 v0_6 v0_7 v0_8 v0_9 v0_10 v0_11) → va_S A s.heap H locs → lv_has ls 7 [(0, .ref (a0 0)), (1, .int x1), (2, .int x2), (3, .int x3)] → W p l e (headSpec wz_X12_laysSegments rm_X12_laysSegments).room s m [.ref (a0 0), .int p1].toArray below meth c H locs 0 0 (MQ below (Q_X12_laysSegments dC dI cI a0 v0_2 v0_3 v0_5 v0_16 v0_17 v0_21 v0_23 v0_24 v0_25 v0_26 v0_29 v0_30 v0_0 u A) [.ref (a0 0), .int p1].toArray s 0 0 A) (F0 m 34 ls [.int t1, .int t0]) := by
          intro v0_12 v0_13 v0_6 v0_7 v0_8 v0_9 v0_10 v0_11 x3 t0 t1 hF H locs ls hP hD hS hl
          unfold F_X12_laysSegments_j34 at hF
          refine lv_icmp_ge (tgt := 213) hx hb dX12_laysSegments_34 (by decide) (fun c_20 => ?_) (fun c_20 => ?_)
          · have hF := it_t hF c_20
            obtain rfl := Option.some.inj hF
            obtain rfl := lpq_x hO_18
            have hF := hE_18
            obtain rfl := Option.some.inj hF
            exact W.vret hx hb hr (fun t ht hW => ⟨⟨(), rfl, trivial, by rw [ht]; exact hP, va_K.moved hW.alike hK, hD⟩, hS.F ht⟩) hS.2.2 dX12_laysSegments_213
          · have hF := it_f hF c_20
            refine lv_iload_n hx hb dX12_laysSegments_37 rfl (lv_at hl 3 rfl) ?_
            refine lv_iconst (v := 1) hx hb dX12_laysSegments_38 (by decide) ?_
            refine lv_iadd hx hb dX12_laysSegments_39 ?_
            refine lv_iload_n hx hb dX12_laysSegments_40 rfl (lv_at hl 2 rfl) ?_
            obtain ⟨g_21, hF⟩ := gd_some hF
            obtain ⟨y_22, ey_22, hF⟩ := lt_some hF
            refine lv_eq2i ey_22 ?_
            refine lv_irem hx hb dX12_laysSegments_41 g_21 ?_
            obtain ⟨y_23, ey_23, hF⟩ := lt_some hF
            refine lv_eqi ey_23 ?_
            refine lv_istore (lv' := [(4, .int y_23), (0, .ref (a0 0)), (1, .int x1), (2, .int x2), (3, .int x3)]) hx hb dX12_laysSegments_42 hl (by decide) rfl (fun ls hl => ?_)
            refine lv_aload_n hx hb dX12_laysSegments_44 rfl (lv_at hl 1 rfl) ?_
            refine lv_iload_n hx hb dX12_laysSegments_45 rfl (lv_at hl 2 rfl) ?_
            refine lv_iload hx hb dX12_laysSegments_46 (lv_at hl 0 rfl) ?_
            obtain ⟨u_24, hu_24, hF⟩ := obd_some hF
            have hPc := hP.sub (ws' := (wd_X12_x cI a0 v0_2 v0_3 v0_5 v0_12 v0_13 v0_16 v0_17 v0_21 v0_23 v0_24 v0_25 v0_26 v0_29 v0_30 v0_0)) [0, 1] rfl
            have hDc := hD.sub (ws' := (wd_X12_x cI a0 v0_2 v0_3 v0_5 v0_12 v0_13 v0_16 v0_17 v0_21 v0_23 v0_24 v0_25 v0_26 v0_29 v0_30 v0_0)) [0, 1] rfl rfl
            refine q_calli (wc := (wd_X12_x cI a0 v0_2 v0_3 v0_5 v0_12 v0_13 v0_16 v0_17 v0_21 v0_23 v0_24 v0_25 v0_26 v0_29 v0_30 v0_0)) (w1 := (wd_X12_x cI a0 v0_2 v0_3 v0_5 v0_12 v0_13 v0_16 v0_17 v0_21 v0_23 v0_24 v0_25 v0_26 v0_29 v0_30 v0_0)) (ws' := (wd_X12_laysSegments cI a0 v0_2 v0_3 v0_5 v0_12 v0_13 v0_16 v0_17 v0_21 v0_23 v0_24 v0_25 v0_26 v0_29 v0_30 v0_0 v0_6 v0_7 v0_8 v0_9 v0_10 v0_11)) hP hD hS hA [0, 1] [2, 3, 4, 5, 6, 7] [6, 7, 0, 1, 2, 3, 4, 5] rfl rfl rfl (by decide) rfl rfl (va_runV (As := [.int x1, .int y_23]) (rest := []) ⟨hx, hb, hml, hown, hta⟩ (c_X12_x l dC dI cI H.size a0 v0_2 v0_3 v0_5 v0_12 v0_13 v0_16 v0_17 v0_21 v0_23 v0_24 v0_25 v0_26 v0_29 v0_30 v0_0 x1 y_23 u_24 hu_24) (cwV 2 hta (ga_V mA870 mA871 mA872 mA814 mA831) rfl rfl rfl (by decide +kernel) ⟨Nat.le_of_ble_eq_true rfl, Nat.le_of_ble_eq_true rfl⟩) ⟨q_fb, va_recv hK hP (ci := 11) (q0 := 0) rfl rfl, q_ps hPc hK hDc⟩ rfl rfl hl.1 rfl (lv_room (Nat.le_of_ble_eq_true rfl)) dX12_laysSegments_48 ⟨Nat.zero_le _, Nat.zero_le _⟩) (fun H locs hP hD hS => ?_)
            refine lv_aload_n hx hb dX12_laysSegments_51 rfl (lv_at hl 1 rfl) ?_
            refine lv_iload_n hx hb dX12_laysSegments_52 rfl (lv_at hl 2 rfl) ?_
            refine lv_iload_n hx hb dX12_laysSegments_53 rfl (lv_at hl 4 rfl) ?_
            obtain ⟨u_25, hu_25, hF⟩ := obd_some hF
            have hPc := hP.sub (ws' := (wd_X12_x cI a0 v0_2 v0_3 v0_5 v0_12 v0_13 v0_16 v0_17 v0_21 v0_23 v0_24 v0_25 v0_26 v0_29 v0_30 v0_0)) [0, 1] rfl
            have hDc := hD.sub (ws' := (wd_X12_x cI a0 v0_2 v0_3 v0_5 v0_12 v0_13 v0_16 v0_17 v0_21 v0_23 v0_24 v0_25 v0_26 v0_29 v0_30 v0_0)) [0, 1] rfl rfl
            refine q_calli (wc := (wd_X12_x cI a0 v0_2 v0_3 v0_5 v0_12 v0_13 v0_16 v0_17 v0_21 v0_23 v0_24 v0_25 v0_26 v0_29 v0_30 v0_0)) (w1 := (wd_X12_x cI a0 v0_2 v0_3 v0_5 v0_12 v0_13 v0_16 v0_17 v0_21 v0_23 v0_24 v0_25 v0_26 v0_29 v0_30 v0_0)) (ws' := (wd_X12_laysSegments cI a0 v0_2 v0_3 v0_5 v0_12 v0_13 v0_16 v0_17 v0_21 v0_23 v0_24 v0_25 v0_26 v0_29 v0_30 v0_0 v0_6 v0_7 v0_8 v0_9 v0_10 v0_11)) hP hD hS hA [0, 1] [2, 3, 4, 5, 6, 7] [6, 7, 0, 1, 2, 3, 4, 5] rfl rfl rfl (by decide) rfl rfl (va_runV (As := [.int x1, .int x3]) (rest := [.int u_24]) ⟨hx, hb, hml, hown, hta⟩ (c_X12_x l dC dI cI H.size a0 v0_2 v0_3 v0_5 v0_12 v0_13 v0_16 v0_17 v0_21 v0_23 v0_24 v0_25 v0_26 v0_29 v0_30 v0_0 x1 x3 u_25 hu_25) (cwV 2 hta (ga_V mA870 mA871 mA872 mA814 mA831) rfl rfl rfl (by decide +kernel) ⟨Nat.le_of_ble_eq_true rfl, Nat.le_of_ble_eq_true rfl⟩) ⟨q_fb, va_recv hK hP (ci := 11) (q0 := 0) rfl rfl, q_ps hPc hK hDc⟩ rfl rfl hl.1 rfl (lv_room (Nat.le_of_ble_eq_true rfl)) dX12_laysSegments_54 ⟨Nat.zero_le _, Nat.zero_le _⟩) (fun H locs hP hD hS => ?_)
            refine lv_isub hx hb dX12_laysSegments_57 ?_
            obtain ⟨y_26, ey_26, hF⟩ := lt_some hF
            refine lv_eqi ey_26 ?_
            refine lv_istore (lv' := [(5, .int y_26), (4, .int y_23), (0, .ref (a0 0)), (1, .int x1), (2, .int x2), (3, .int x3)]) hx hb dX12_laysSegments_58 hl (by decide) rfl (fun ls hl => ?_)
            refine lv_aload_n hx hb dX12_laysSegments_60 rfl (lv_at hl 2 rfl) ?_
            refine lv_iload_n hx hb dX12_laysSegments_61 rfl (lv_at hl 3 rfl) ?_
            refine lv_iload hx hb dX12_laysSegments_62 (lv_at hl 1 rfl) ?_
            obtain ⟨u_27, hu_27, hF⟩ := obd_some hF
            have hPc := hP.sub (ws' := (wd_X12_y cI a0 v0_2 v0_3 v0_5 v0_12 v0_13 v0_16 v0_17 v0_21 v0_23 v0_24 v0_25 v0_26 v0_29 v0_30 v0_0)) [0, 1] rfl
            have hDc := hD.sub (ws' := (wd_X12_y cI a0 v0_2 v0_3 v0_5 v0_12 v0_13 v0_16 v0_17 v0_21 v0_23 v0_24 v0_25 v0_26 v0_29 v0_30 v0_0)) [0, 1] rfl rfl
            refine q_calli (wc := (wd_X12_y cI a0 v0_2 v0_3 v0_5 v0_12 v0_13 v0_16 v0_17 v0_21 v0_23 v0_24 v0_25 v0_26 v0_29 v0_30 v0_0)) (w1 := (wd_X12_y cI a0 v0_2 v0_3 v0_5 v0_12 v0_13 v0_16 v0_17 v0_21 v0_23 v0_24 v0_25 v0_26 v0_29 v0_30 v0_0)) (ws' := (wd_X12_laysSegments cI a0 v0_2 v0_3 v0_5 v0_12 v0_13 v0_16 v0_17 v0_21 v0_23 v0_24 v0_25 v0_26 v0_29 v0_30 v0_0 v0_6 v0_7 v0_8 v0_9 v0_10 v0_11)) hP hD hS hA [0, 1] [2, 3, 4, 5, 6, 7] [6, 7, 0, 1, 2, 3, 4, 5] rfl rfl rfl (by decide) rfl rfl (va_runV (As := [.int x1, .int y_23]) (rest := []) ⟨hx, hb, hml, hown, hta⟩ (c_X12_y l dC dI cI H.size a0 v0_2 v0_3 v0_5 v0_12 v0_13 v0_16 v0_17 v0_21 v0_23 v0_24 v0_25 v0_26 v0_29 v0_30 v0_0 x1 y_23 u_27 hu_27) (cwV 2 hta (ga_V mA873 mA874 mA875 mA814 mA832) rfl rfl rfl (by decide +kernel) ⟨Nat.le_of_ble_eq_true rfl, Nat.le_of_ble_eq_true rfl⟩) ⟨q_fb, va_recv hK hP (ci := 11) (q0 := 0) rfl rfl, q_ps hPc hK hDc⟩ rfl rfl hl.1 rfl (lv_room (Nat.le_of_ble_eq_true rfl)) dX12_laysSegments_64 ⟨Nat.zero_le _, Nat.zero_le _⟩) (fun H locs hP hD hS => ?_)
            refine lv_aload_n hx hb dX12_laysSegments_67 rfl (lv_at hl 2 rfl) ?_
            refine lv_iload_n hx hb dX12_laysSegments_68 rfl (lv_at hl 3 rfl) ?_
            refine lv_iload_n hx hb dX12_laysSegments_69 rfl (lv_at hl 5 rfl) ?_
            obtain ⟨u_28, hu_28, hF⟩ := obd_some hF
            have hPc := hP.sub (ws' := (wd_X12_y cI a0 v0_2 v0_3 v0_5 v0_12 v0_13 v0_16 v0_17 v0_21 v0_23 v0_24 v0_25 v0_26 v0_29 v0_30 v0_0)) [0, 1] rfl
            have hDc := hD.sub (ws' := (wd_X12_y cI a0 v0_2 v0_3 v0_5 v0_12 v0_13 v0_16 v0_17 v0_21 v0_23 v0_24 v0_25 v0_26 v0_29 v0_30 v0_0)) [0, 1] rfl rfl
            refine q_calli (wc := (wd_X12_y cI a0 v0_2 v0_3 v0_5 v0_12 v0_13 v0_16 v0_17 v0_21 v0_23 v0_24 v0_25 v0_26 v0_29 v0_30 v0_0)) (w1 := (wd_X12_y cI a0 v0_2 v0_3 v0_5 v0_12 v0_13 v0_16 v0_17 v0_21 v0_23 v0_24 v0_25 v0_26 v0_29 v0_30 v0_0)) (ws' := (wd_X12_laysSegments cI a0 v0_2 v0_3 v0_5 v0_12 v0_13 v0_16 v0_17 v0_21 v0_23 v0_24 v0_25 v0_26 v0_29 v0_30 v0_0 v0_6 v0_7 v0_8 v0_9 v0_10 v0_11)) hP hD hS hA [0, 1] [2, 3, 4, 5, 6, 7] [6, 7, 0, 1, 2, 3, 4, 5] rfl rfl rfl (by decide) rfl rfl (va_runV (As := [.int x1, .int x3]) (rest := [.int u_27]) ⟨hx, hb, hml, hown, hta⟩ (c_X12_y l dC dI cI H.size a0 v0_2 v0_3 v0_5 v0_12 v0_13 v0_16 v0_17 v0_21 v0_23 v0_24 v0_25 v0_26 v0_29 v0_30 v0_0 x1 x3 u_28 hu_28) (cwV 2 hta (ga_V mA873 mA874 mA875 mA814 mA832) rfl rfl rfl (by decide +kernel) ⟨Nat.le_of_ble_eq_true rfl, Nat.le_of_ble_eq_true rfl⟩) ⟨q_fb, va_recv hK hP (ci := 11) (q0 := 0) rfl rfl, q_ps hPc hK hDc⟩ rfl rfl hl.1 rfl (lv_room (Nat.le_of_ble_eq_true rfl)) dX12_laysSegments_70 ⟨Nat.zero_le _, Nat.zero_le _⟩) (fun H locs hP hD hS => ?_)
            refine lv_isub hx hb dX12_laysSegments_73 ?_
            obtain ⟨y_29, ey_29, hF⟩ := lt_some hF
            refine lv_eqi ey_29 ?_
            refine lv_istore (lv' := [(6, .int y_29), (5, .int y_26), (4, .int y_23), (0, .ref (a0 0)), (1, .int x1), (2, .int x2), (3, .int x3)]) hx hb dX12_laysSegments_74 hl (by decide) rfl (fun ls hl => ?_)
            refine lv_iload hx hb dX12_laysSegments_76 (lv_at hl 1 rfl) ?_
            refine lv_if_ne (tgt := 86) hx hb dX12_laysSegments_78 (by decide) (fun c_30 => ?_) (fun c_30 => ?_)
            · have hF := it_f hF c_30
              exact j86 v0_12 v0_13 v0_6 v0_7 v0_8 v0_9 v0_10 v0_11 x3 y_26 y_29 hF _ _ _ hP hD hS (lv_sub hl [3, 4, 5, 6, 1, 0] rfl)
            · have hF := it_t hF c_30
              refine lv_iload hx hb dX12_laysSegments_81 (lv_at hl 0 rfl) ?_
              refine lv_if_eq (tgt := 207) hx hb dX12_laysSegments_83 (by decide) (fun c_31 => ?_) (fun c_31 => ?_)
              · have hF := it_t hF c_31
                exact j207 v0_12 v0_13 v0_6 v0_7 v0_8 v0_9 v0_10 v0_11 x3 hF _ _ _ hP hD hS (lv_sub hl [3, 4, 5, 6] rfl)
              · have hF := it_f hF c_31
                exact j86 v0_12 v0_13 v0_6 v0_7 v0_8 v0_9 v0_10 v0_11 x3 y_26 y_29 hF _ _ _ hP hD hS (lv_sub hl [3, 4, 5, 6, 1, 0] rfl)
        refine lv_iload_n hx hb dX12_laysSegments_18 rfl (lv_at hl 3 rfl) ?_
        refine lv_aload_n hx hb dX12_laysSegments_19 rfl (lv_at hl 0 rfl) ?_
        refine lv_iload_n hx hb dX12_laysSegments_20 rfl (lv_at hl 1 rfl) ?_
        obtain ⟨u_32, hu_32, hF⟩ := obd_some hF
        have hPc := hP.sub (ws' := (wd_X12_isClosed cI a0 v0_2 v0_3 v0_5 s18.2.1 s18.2.2.1 v0_16 v0_17 v0_21 v0_23 v0_24 v0_25 v0_26 v0_29 v0_30 v0_0)) [0, 1] rfl
        have hDc := hD.sub (ws' := (wd_X12_isClosed cI a0 v0_2 v0_3 v0_5 s18.2.1 s18.2.2.1 v0_16 v0_17 v0_21 v0_23 v0_24 v0_25 v0_26 v0_29 v0_30 v0_0)) [0, 1] rfl rfl
        refine q_callz (wc := (wd_X12_isClosed cI a0 v0_2 v0_3 v0_5 s18.2.1 s18.2.2.1 v0_16 v0_17 v0_21 v0_23 v0_24 v0_25 v0_26 v0_29 v0_30 v0_0)) (w1 := (wd_X12_isClosed cI a0 v0_2 v0_3 v0_5 s18.2.1 s18.2.2.1 v0_16 v0_17 v0_21 v0_23 v0_24 v0_25 v0_26 v0_29 v0_30 v0_0)) (ws' := (wd_X12_laysSegments cI a0 v0_2 v0_3 v0_5 s18.2.1 s18.2.2.1 v0_16 v0_17 v0_21 v0_23 v0_24 v0_25 v0_26 v0_29 v0_30 v0_0 s18.2.2.2.1 s18.2.2.2.2.1 s18.2.2.2.2.2.1 s18.2.2.2.2.2.2.1 s18.2.2.2.2.2.2.2.1 s18.2.2.2.2.2.2.2.2)) hP hD hS hA [0, 1] [2, 3, 4, 5, 6, 7] [6, 7, 0, 1, 2, 3, 4, 5] rfl rfl rfl (by decide) rfl rfl (va_runV (As := [.int x1]) (rest := [.int s18.1]) ⟨hx, hb, hml, hown, hta⟩ (c_X12_isClosed l dC dI cI H.size a0 v0_2 v0_3 v0_5 s18.2.1 s18.2.2.1 v0_16 v0_17 v0_21 v0_23 v0_24 v0_25 v0_26 v0_29 v0_30 v0_0 x1 u_32 hu_32) (cwV 1 hta (ga_V mA852 mA853 mA854 mA814 mA830) rfl rfl rfl (by decide +kernel) ⟨Nat.le_of_ble_eq_true rfl, Nat.le_of_ble_eq_true rfl⟩) ⟨q_fb, va_recv hK hP (ci := 11) (q0 := 0) rfl rfl, q_ps hPc hK hDc⟩ rfl rfl hl.1 rfl (lv_room (Nat.le_of_ble_eq_true rfl)) dX12_laysSegments_21 ⟨Nat.zero_le _, Nat.zero_le _⟩) (fun hzu_32 H locs hP hD hS => ?_)
        refine lv_if_eq (tgt := 31) hx hb dX12_laysSegments_24 (by decide) (fun c_33 => ?_) (fun c_33 => ?_)
        · have hF := it_t hF c_33
          refine lv_iload_n hx hb dX12_laysSegments_31 rfl (lv_at hl 2 rfl) ?_
          refine lv_iconst (v := 1) hx hb dX12_laysSegments_32 (by decide) ?_
          refine lv_isub hx hb dX12_laysSegments_33 ?_
          exact j34 s18.2.1 s18.2.2.1 s18.2.2.2.1 s18.2.2.2.2.1 s18.2.2.2.2.2.1 s18.2.2.2.2.2.2.1 s18.2.2.2.2.2.2.2.1 s18.2.2.2.2.2.2.2.2 s18.1 s18.1 (x2 - 1) hF _ _ _ hP hD hS (lv_sub hl [0, 1, 2, 3] rfl)
        · have hF := it_f hF c_33
          refine lv_iload_n hx hb dX12_laysSegments_27 rfl (lv_at hl 2 rfl) ?_
          refine lv_goto (tgt := 34) hx hb dX12_laysSegments_28 (by decide) ?_
          exact j34 s18.2.1 s18.2.2.1 s18.2.2.2.1 s18.2.2.2.2.1 s18.2.2.2.2.2.1 s18.2.2.2.2.2.2.1 s18.2.2.2.2.2.2.2.1 s18.2.2.2.2.2.2.2.2 s18.1 s18.1 x2 hF _ _ _ hP hD hS (lv_sub hl [0, 1, 2, 3] rfl)
    exact kl_18 n _ hL_18 _ _ _ hP hD hS hl
  refine lv_aload_n hx hb dX12_laysSegments_0 rfl (lv_at hl 0 rfl) ?_
  refine lv_iconst (v := 0) hx hb dX12_laysSegments_1 (by decide) ?_
  refine va_put (D := (dC, dI)) (ci := 11) (v := .int 0) (ty := .int) (C := RX12) (T := TX12) (N := 31) hx hb hta uw_X12 tyX12 tyX12_ok nmX12 hown hK hP hD hS 0 rfl rfl 12 (by decide) (hta _ mA863) (fun _ h9 => h9) rfl (by decide +kernel) rfl rfl (Nat.le_of_ble_eq_true rfl) dX12_laysSegments_2 (fun H locs hP hD hS => ?_)
  have hP : va_P (dC, dI) vwCl (wd_X12_laysSegments cI a0 v0_2 v0_3 v0_5 0 v0_13 v0_16 v0_17 v0_21 v0_23 v0_24 v0_25 v0_26 v0_29 v0_30 v0_0 v0_6 v0_7 v0_8 v0_9 v0_10 v0_11) H := hP
  have hD : va_D A (wd_X12_laysSegments cI a0 v0_2 v0_3 v0_5 0 v0_13 v0_16 v0_17 v0_21 v0_23 v0_24 v0_25 v0_26 v0_29 v0_30 v0_0 v0_6 v0_7 v0_8 v0_9 v0_10 v0_11) := hD
  refine lv_aload_n hx hb dX12_laysSegments_5 rfl (lv_at hl 0 rfl) ?_
  refine lv_iconst (v := 0) hx hb dX12_laysSegments_6 (by decide) ?_
  refine va_put (D := (dC, dI)) (ci := 11) (v := .int 0) (ty := .int) (C := RX12) (T := TX12) (N := 31) hx hb hta uw_X12 tyX12 tyX12_ok nmX12 hown hK hP hD hS 0 rfl rfl 13 (by decide) (hta _ mA868) (fun _ h9 => h9) rfl (by decide +kernel) rfl rfl (Nat.le_of_ble_eq_true rfl) dX12_laysSegments_7 (fun H locs hP hD hS => ?_)
  have hP : va_P (dC, dI) vwCl (wd_X12_laysSegments cI a0 v0_2 v0_3 v0_5 0 0 v0_16 v0_17 v0_21 v0_23 v0_24 v0_25 v0_26 v0_29 v0_30 v0_0 v0_6 v0_7 v0_8 v0_9 v0_10 v0_11) H := hP
  have hD : va_D A (wd_X12_laysSegments cI a0 v0_2 v0_3 v0_5 0 0 v0_16 v0_17 v0_21 v0_23 v0_24 v0_25 v0_26 v0_29 v0_30 v0_0 v0_6 v0_7 v0_8 v0_9 v0_10 v0_11) := hD
  refine lv_aload_n hx hb dX12_laysSegments_10 rfl (lv_at hl 0 rfl) ?_
  refine lv_iload_n hx hb dX12_laysSegments_11 rfl (lv_at hl 1 rfl) ?_
  obtain ⟨u_34, hu_34, hF⟩ := obd_some hF
  have hPc := hP.sub (ws' := (wd_X12_points cI a0 v0_2 v0_3 v0_5 0 0 v0_16 v0_17 v0_21 v0_23 v0_24 v0_25 v0_26 v0_29 v0_30 v0_0)) [0, 1] rfl
  have hDc := hD.sub (ws' := (wd_X12_points cI a0 v0_2 v0_3 v0_5 0 0 v0_16 v0_17 v0_21 v0_23 v0_24 v0_25 v0_26 v0_29 v0_30 v0_0)) [0, 1] rfl rfl
  refine q_calli (wc := (wd_X12_points cI a0 v0_2 v0_3 v0_5 0 0 v0_16 v0_17 v0_21 v0_23 v0_24 v0_25 v0_26 v0_29 v0_30 v0_0)) (w1 := (wd_X12_points cI a0 v0_2 v0_3 v0_5 0 0 v0_16 v0_17 v0_21 v0_23 v0_24 v0_25 v0_26 v0_29 v0_30 v0_0)) (ws' := (wd_X12_laysSegments cI a0 v0_2 v0_3 v0_5 0 0 v0_16 v0_17 v0_21 v0_23 v0_24 v0_25 v0_26 v0_29 v0_30 v0_0 v0_6 v0_7 v0_8 v0_9 v0_10 v0_11)) hP hD hS hA [0, 1] [2, 3, 4, 5, 6, 7] [6, 7, 0, 1, 2, 3, 4, 5] rfl rfl rfl (by decide) rfl rfl (va_runV (As := [.int p1]) (rest := []) ⟨hx, hb, hml, hown, hta⟩ (c_X12_points l dC dI cI H.size a0 v0_2 v0_3 v0_5 0 0 v0_16 v0_17 v0_21 v0_23 v0_24 v0_25 v0_26 v0_29 v0_30 v0_0 p1 u_34 hu_34) (cwV 1 hta (ga_V mA839 mA840 mA841 mA814 mA827) rfl rfl rfl (by decide +kernel) ⟨Nat.le_of_ble_eq_true rfl, Nat.le_of_ble_eq_true rfl⟩) ⟨q_fb, va_recv hK hP (ci := 11) (q0 := 0) rfl rfl, q_ps hPc hK hDc⟩ rfl rfl hl.1 rfl (lv_room (Nat.le_of_ble_eq_true rfl)) dX12_laysSegments_12 ⟨Nat.zero_le _, Nat.zero_le _⟩) (fun H locs hP hD hS => ?_)
  refine lv_istore_n (lv' := [(2, .int u_34), (0, .ref (a0 0)), (1, .int p1)]) hx hb dX12_laysSegments_15 rfl hl (by decide) rfl (fun ls hl => ?_)
  refine lv_iconst (v := 0) hx hb dX12_laysSegments_16 (by decide) ?_
  refine lv_istore_n (lv' := [(3, .int 0), (2, .int u_34), (0, .ref (a0 0)), (1, .int p1)]) hx hb dX12_laysSegments_17 rfl hl (by decide) rfl (fun ls hl => ?_)
  exact j18 0 0 v0_6 v0_7 v0_8 v0_9 v0_10 v0_11 p1 u_34 0 hF _ _ _ hP hD hS (lv_sub hl [2, 3, 1, 0] rfl)

-- StrokeOutlinerModel.close()I
def F_X12_close_j13 (n : Nat) (v0_2 : Int32) (v0_12 : Int32) (v0_13 : Int32) (v0_0 : Nat → Int32) (v0_1 : Nat → Int32) (v0_6 : Nat → Int32) (v0_7 : Nat → Int32) (v0_8 : Nat → Int32) (v0_9 : Nat → Int32) (v0_10 : Nat → Int32) (v0_11 : Nat → Int32) (t1 : Int32) : Option (Int32 × Int32 × Int32 × Int32 × Int32 × (Nat → Int32) × (Nat → Int32) × (Nat → Int32) × (Nat → Int32) × (Nat → Int32) × (Nat → Int32) × (Nat → Int32) × (Nat → Int32)) :=
  lt (F_X12_refused t1) (fun u_1 => if u_1.1 = 0 then obd (F_X12_saves n v0_2 v0_0 v0_1) (fun u_3 => gd (decide (vpi 13 86)) (lt ((v0_0 (13 : Int32).toNatClampNeg) - 1) (fun y_5 => lt (F_X12_at y_5) (fun u_6 => lt (u_6 + 1) (fun y_7 => gd (decide (vpi y_7 86)) (lt (upd v0_0 y_7.toNatClampNeg 1) (fun y_9 => obd (F_X12_laysSegments n y_9 v0_6 v0_7 v0_8 v0_9 v0_10 v0_11 y_5) (fun u_10 => some (u_10.1, u_3.1, u_1.2, u_10.1, u_10.2.1, y_9, u_3.2, u_10.2.2.1, u_10.2.2.2.1, u_10.2.2.2.2.1, u_10.2.2.2.2.2.1, u_10.2.2.2.2.2.2.1, u_10.2.2.2.2.2.2.2))))))))) else some (0, v0_2, u_1.2, v0_12, v0_13, v0_0, v0_1, v0_6, v0_7, v0_8, v0_9, v0_10, v0_11))
def F_X12_close (n : Nat) (v0_2 : Int32) (v0_12 : Int32) (v0_13 : Int32) (v0_0 : Nat → Int32) (v0_1 : Nat → Int32) (v0_6 : Nat → Int32) (v0_7 : Nat → Int32) (v0_8 : Nat → Int32) (v0_9 : Nat → Int32) (v0_10 : Nat → Int32) (v0_11 : Nat → Int32) : Option (Int32 × Int32 × Int32 × Int32 × Int32 × (Nat → Int32) × (Nat → Int32) × (Nat → Int32) × (Nat → Int32) × (Nat → Int32) × (Nat → Int32) × (Nat → Int32) × (Nat → Int32)) :=
  obd (F_X12_isOpen v0_0) (fun u_11 => if u_11 = 0 then F_X12_close_j13 n v0_2 v0_12 v0_13 v0_0 v0_1 v0_6 v0_7 v0_8 v0_9 v0_10 v0_11 1 else F_X12_close_j13 n v0_2 v0_12 v0_13 v0_0 v0_1 v0_6 v0_7 v0_8 v0_9 v0_10 v0_11 0)
abbrev wd_X12_close (cI : ClassId) (a0 : Nat → Nat) (v0_2 : Int32) (v0_3 : Int32) (v0_5 : Int32) (v0_12 : Int32) (v0_13 : Int32) (v0_16 : Int32) (v0_17 : Int32) (v0_21 : Int32) (v0_23 : Int32) (v0_24 : Int32) (v0_25 : Int32) (v0_26 : Int32) (v0_29 : Int32) (v0_30 : Int64) (v0_0 : Nat → Int32) (v0_1 : Nat → Int32) (v0_6 : Nat → Int32) (v0_7 : Nat → Int32) (v0_8 : Nat → Int32) (v0_9 : Nat → Int32) (v0_10 : Nat → Int32) (v0_11 : Nat → Int32) : va_W := [(a0 0, .inr (11, [.ref (a0 1), .ref (a0 2), .int v0_2, .int v0_3, .ref (a0 5), .int v0_5, .ref (a0 7), .ref (a0 8), .ref (a0 9), .ref (a0 10), .ref (a0 11), .ref (a0 12), .int v0_12, .int v0_13, .ref (a0 15), .ref (a0 16), .int v0_16, .int v0_17, .ref (a0 19), .ref (a0 20), .ref (a0 21), .int v0_21, .ref (a0 23), .int v0_23, .int v0_24, .int v0_25, .int v0_26, .ref (a0 28), .ref (a0 29), .int v0_29, .long v0_30])), (a0 1, .inl (cI, 86, .inl v0_0)), (a0 2, .inl (cI, 344, .inl v0_1)), (a0 7, .inl (cI, 8, .inl v0_6)), (a0 8, .inl (cI, 8, .inl v0_7)), (a0 9, .inl (cI, 8, .inl v0_8)), (a0 10, .inl (cI, 8, .inl v0_9)), (a0 11, .inl (cI, 8, .inl v0_10)), (a0 12, .inl (cI, 8, .inl v0_11))]
abbrev wz_X12_close : List Cond := .code yX12_close cX12_close 2 (some .int) :: wALL
abbrev rm_X12_close : Room := { frames := 3, cells := 0, slots := 0, locals := 68 }
abbrev Q_X12_close (dC : Nat → ClassId) (dI : Nat → Nat → Nat) (cI : ClassId) (a0 : Nat → Nat) (v0_5 : Int32) (v0_16 : Int32) (v0_17 : Int32) (v0_21 : Int32) (v0_23 : Int32) (v0_24 : Int32) (v0_25 : Int32) (v0_26 : Int32) (v0_29 : Int32) (v0_30 : Int64) (u : (Int32 × Int32 × Int32 × Int32 × Int32 × (Nat → Int32) × (Nat → Int32) × (Nat → Int32) × (Nat → Int32) × (Nat → Int32) × (Nat → Int32) × (Nat → Int32) × (Nat → Int32))) (A : Nat → Prop) : Array Value → State → Outcome → State → Prop := va_Qi (fun (r : Int32) (_ : Unit) => r = u.1) (fun _ => q_at dC dI cI A (wd_X12_close cI a0 u.2.1 u.2.2.1 v0_5 u.2.2.2.1 u.2.2.2.2.1 v0_16 v0_17 v0_21 v0_23 v0_24 v0_25 v0_26 v0_29 v0_30 u.2.2.2.2.2.1 u.2.2.2.2.2.2.1 u.2.2.2.2.2.2.2.1 u.2.2.2.2.2.2.2.2.1 u.2.2.2.2.2.2.2.2.2.1 u.2.2.2.2.2.2.2.2.2.2.1 u.2.2.2.2.2.2.2.2.2.2.2.1 u.2.2.2.2.2.2.2.2.2.2.2.2)) A
set_option maxHeartbeats 4000000 in
set_option maxRecDepth 100000 in
theorem c_X12_close (l : Launch) (dC : Nat → ClassId) (dI : Nat → Nat → Nat) (cI : ClassId) (sz : Nat) (a0 : Nat → Nat) (v0_2 : Int32) (v0_3 : Int32) (v0_5 : Int32) (v0_12 : Int32) (v0_13 : Int32) (v0_16 : Int32) (v0_17 : Int32) (v0_21 : Int32) (v0_23 : Int32) (v0_24 : Int32) (v0_25 : Int32) (v0_26 : Int32) (v0_29 : Int32) (v0_30 : Int64) (v0_0 : Nat → Int32) (v0_1 : Nat → Int32) (v0_6 : Nat → Int32) (v0_7 : Nat → Int32) (v0_8 : Nat → Int32) (v0_9 : Nat → Int32) (v0_10 : Nat → Int32) (v0_11 : Nat → Int32) (n : Nat) (u : (Int32 × Int32 × Int32 × Int32 × Int32 × (Nat → Int32) × (Nat → Int32) × (Nat → Int32) × (Nat → Int32) × (Nat → Int32) × (Nat → Int32) × (Nat → Int32) × (Nat → Int32))) (hF : F_X12_close n v0_2 v0_12 v0_13 v0_0 v0_1 v0_6 v0_7 v0_8 v0_9 v0_10 v0_11 = some u) : Met l yX12_close wz_X12_close rm_X12_close (va_Pc [.ref (a0 0)] (q_pre dC dI cI (wd_X12_close cI a0 v0_2 v0_3 v0_5 v0_12 v0_13 v0_16 v0_17 v0_21 v0_23 v0_24 v0_25 v0_26 v0_29 v0_30 v0_0 v0_1 v0_6 v0_7 v0_8 v0_9 v0_10 v0_11) sz)) (Q_X12_close dC dI cI a0 v0_5 v0_16 v0_17 v0_21 v0_23 v0_24 v0_25 v0_26 v0_29 v0_30 u (va_A (wd_X12_close cI a0 v0_2 v0_3 v0_5 v0_12 v0_13 v0_16 v0_17 v0_21 v0_23 v0_24 v0_25 v0_26 v0_29 v0_30 v0_0 v0_1 v0_6 v0_7 v0_8 v0_9 v0_10 v0_11) sz)) 0 0 (va_A (wd_X12_close cI a0 v0_2 v0_3 v0_5 v0_12 v0_13 v0_16 v0_17 v0_21 v0_23 v0_24 v0_25 v0_26 v0_29 v0_30 v0_0 v0_1 v0_6 v0_7 v0_8 v0_9 v0_10 v0_11) sz) := by
  refine Met.ofW (cc := cX12_close) (maxL := 2) (ret := (some .int)) (by decide) rfl ?_
  intro p e s m args below meth c s₁ B hml hv
  obtain ⟨rfl, hsz, hP, hK, hD0⟩ := hv
  have hx := B.exec
  have hb := B.bytes
  have hr := B.returns
  have hts := atoms_spec (ws := wz_X12_close) B.pre
  have hta := wz_tl hts
  have hown : s.vm.findClass RX12 = some m.cls := findClass_of_methodNamed B.named
  have hlocks := B.notSynchronized
  subst hsz
  have hD := hD0.self (sz := s.heap.size)
  generalize hAe : va_A (wd_X12_close cI a0 v0_2 v0_3 v0_5 v0_12 v0_13 v0_16 v0_17 v0_21 v0_23 v0_24 v0_25 v0_26 v0_29 v0_30 v0_0 v0_1 v0_6 v0_7 v0_8 v0_9 v0_10 v0_11) s.heap.size = A at hD ⊢
  have hA : ∀ q : Nat, s.heap.size ≤ q → A q := fun q h => by rw [← hAe]; exact Or.inr h
  have hS : va_S A s.heap s.heap [] := va_S.rf
  have hP : va_P (dC, dI) vwCl (wd_X12_close cI a0 v0_2 v0_3 v0_5 v0_12 v0_13 v0_16 v0_17 v0_21 v0_23 v0_24 v0_25 v0_26 v0_29 v0_30 v0_0 v0_1 v0_6 v0_7 v0_8 v0_9 v0_10 v0_11) s.heap := hP
  have hl := lv_entry ([.ref (a0 0)]) (n := 2) (Nat.le_of_ble_eq_true rfl)
  rw [lg_entry_eq]
  generalize (lg_sl ([.ref (a0 0)]) ++ List.replicate (2 - (lg_sl ([.ref (a0 0)])).length) Slot.unset).toArray = ls at hl ⊢
  have hl : lv_has ls 2 [(0, .ref (a0 0))] := hl
  obtain ⟨H, hHe⟩ : ∃ H, H = s.heap := ⟨_, rfl⟩
  have hS : va_S A s.heap H [] := by rw [hHe]; exact hS
  have hP : va_P (dC, dI) vwCl (wd_X12_close cI a0 v0_2 v0_3 v0_5 v0_12 v0_13 v0_16 v0_17 v0_21 v0_23 v0_24 v0_25 v0_26 v0_29 v0_30 v0_0 v0_1 v0_6 v0_7 v0_8 v0_9 v0_10 v0_11) H := by rw [hHe]; exact hP
  rw [← hHe]
  unfold F_X12_close at hF
  have j13 : ∀ (v0_2 : Int32) (v0_3 : Int32) (v0_12 : Int32) (v0_13 : Int32) (v0_0 : Nat → Int32) (v0_1 : Nat → Int32) (v0_6 : Nat → Int32) (v0_7 : Nat → Int32) (v0_8 : Nat → Int32) (v0_9 : Nat → Int32) (v0_10 : Nat → Int32) (v0_11 : Nat → Int32) (t1 : Int32), F_X12_close_j13 n v0_2 v0_12 v0_13 v0_0 v0_1 v0_6 v0_7 v0_8 v0_9 v0_10 v0_11 t1 = some u → ∀ (H : Heap) (locs : List Loc) (ls : Array Slot), va_P (dC, dI) vwCl (wd_X12_close cI a0 v0_2 v0_3 v0_5 v0_12 v0_13 v0_16 v0_17 v0_21 v0_23 v0_24 v0_25 v0_26 v0_29 v0_30 v0_0 v0_1 v0_6 v0_7 v0_8 v0_9 v0_10 v0_11) H → va_D A (wd_X12_close cI a0 v0_2 v0_3 v0_5 v0_12 v0_13 v0_16 v0_17 v0_21 v0_23 v0_24 v0_25 v0_26 v0_29 v0_30 v0_0 v0_1 v0_6 v0_7 v0_8 v0_9 v0_10 v0_11) → va_S A s.heap H locs → lv_has ls 2 [(0, .ref (a0 0))] → W p l e (headSpec wz_X12_close rm_X12_close).room s m [.ref (a0 0)].toArray below meth c H locs 0 0 (MQ below (Q_X12_close dC dI cI a0 v0_5 v0_16 v0_17 v0_21 v0_23 v0_24 v0_25 v0_26 v0_29 v0_30 u A) [.ref (a0 0)].toArray s 0 0 A) (F0 m 13 ls [.int t1, .ref (a0 0)]) := by
    intro v0_2 v0_3 v0_12 v0_13 v0_0 v0_1 v0_6 v0_7 v0_8 v0_9 v0_10 v0_11 t1 hF H locs ls hP hD hS hl
    unfold F_X12_close_j13 at hF
    obtain ⟨u_1, hu_1, hF⟩ := lt_some hF
    have hPc := hP.sub (ws' := (wd_X12_refused cI a0 v0_2 v0_3 v0_5 v0_12 v0_13 v0_16 v0_17 v0_21 v0_23 v0_24 v0_25 v0_26 v0_29 v0_30)) [0] rfl
    have hDc := hD.sub (ws' := (wd_X12_refused cI a0 v0_2 v0_3 v0_5 v0_12 v0_13 v0_16 v0_17 v0_21 v0_23 v0_24 v0_25 v0_26 v0_29 v0_30)) [0] rfl rfl
    refine q_callz (wc := (wd_X12_refused cI a0 v0_2 v0_3 v0_5 v0_12 v0_13 v0_16 v0_17 v0_21 v0_23 v0_24 v0_25 v0_26 v0_29 v0_30)) (w1 := (wd_X12_refused cI a0 v0_2 u_1.2 v0_5 v0_12 v0_13 v0_16 v0_17 v0_21 v0_23 v0_24 v0_25 v0_26 v0_29 v0_30)) (ws' := (wd_X12_close cI a0 v0_2 u_1.2 v0_5 v0_12 v0_13 v0_16 v0_17 v0_21 v0_23 v0_24 v0_25 v0_26 v0_29 v0_30 v0_0 v0_1 v0_6 v0_7 v0_8 v0_9 v0_10 v0_11)) hP hD hS hA [0] [1, 2, 3, 4, 5, 6, 7, 8] [8, 0, 1, 2, 3, 4, 5, 6, 7] rfl rfl rfl (by decide) rfl rfl (va_runV (As := [.int t1]) (rest := []) ⟨hx, hb, hml, hown, hta⟩ (c_X12_refused l dC dI cI H.size a0 v0_2 v0_3 v0_5 v0_12 v0_13 v0_16 v0_17 v0_21 v0_23 v0_24 v0_25 v0_26 v0_29 v0_30 t1 u_1 hu_1.symm) (cwV 1 hta (ga_V mA822 mA823 mA824 mA814 mA809) rfl rfl rfl (by decide +kernel) ⟨Nat.le_of_ble_eq_true rfl, Nat.le_of_ble_eq_true rfl⟩) ⟨q_fb, va_recv hK hP (ci := 11) (q0 := 0) rfl rfl, q_ps hPc hK hDc⟩ rfl rfl hl.1 rfl (lv_room (Nat.le_of_ble_eq_true rfl)) dX12_close_13 ⟨Nat.zero_le _, Nat.zero_le _⟩) (fun hzu_1 H locs hP hD hS => ?_)
    refine lv_if_eq (tgt := 21) hx hb dX12_close_16 (by decide) (fun c_2 => ?_) (fun c_2 => ?_)
    · have hF := it_t hF c_2
      refine lv_aload_n hx hb dX12_close_21 rfl (lv_at hl 0 rfl) ?_
      obtain ⟨u_3, hu_3, hF⟩ := obd_some hF
      have hPc := hP.sub (ws' := (wd_X12_saves cI a0 v0_2 u_1.2 v0_5 v0_12 v0_13 v0_16 v0_17 v0_21 v0_23 v0_24 v0_25 v0_26 v0_29 v0_30 v0_0 v0_1)) [0, 1, 2] rfl
      have hDc := hD.sub (ws' := (wd_X12_saves cI a0 v0_2 u_1.2 v0_5 v0_12 v0_13 v0_16 v0_17 v0_21 v0_23 v0_24 v0_25 v0_26 v0_29 v0_30 v0_0 v0_1)) [0, 1, 2] rfl rfl
      refine q_callv (wc := (wd_X12_saves cI a0 v0_2 u_1.2 v0_5 v0_12 v0_13 v0_16 v0_17 v0_21 v0_23 v0_24 v0_25 v0_26 v0_29 v0_30 v0_0 v0_1)) (w1 := (wd_X12_saves cI a0 u_3.1 u_1.2 v0_5 v0_12 v0_13 v0_16 v0_17 v0_21 v0_23 v0_24 v0_25 v0_26 v0_29 v0_30 v0_0 u_3.2)) (ws' := (wd_X12_close cI a0 u_3.1 u_1.2 v0_5 v0_12 v0_13 v0_16 v0_17 v0_21 v0_23 v0_24 v0_25 v0_26 v0_29 v0_30 v0_0 u_3.2 v0_6 v0_7 v0_8 v0_9 v0_10 v0_11)) hP hD hS hA [0, 1, 2] [3, 4, 5, 6, 7, 8] [6, 7, 8, 0, 1, 2, 3, 4, 5] rfl rfl rfl (by decide) rfl rfl (va_runV (As := []) (rest := []) ⟨hx, hb, hml, hown, hta⟩ (c_X12_saves l dC dI cI H.size a0 v0_2 u_1.2 v0_5 v0_12 v0_13 v0_16 v0_17 v0_21 v0_23 v0_24 v0_25 v0_26 v0_29 v0_30 v0_0 v0_1 n u_3 hu_3) (cwV 0 hta (ga_V mA845 mA846 mA847 mA814 mA819) rfl rfl rfl (by decide +kernel) ⟨Nat.le_of_ble_eq_true rfl, Nat.le_of_ble_eq_true rfl⟩) ⟨q_fb, va_recv hK hP (ci := 11) (q0 := 0) rfl rfl, q_ps hPc hK hDc⟩ rfl rfl hl.1 rfl (lv_room (Nat.le_of_ble_eq_true rfl)) dX12_close_22 ⟨Nat.zero_le _, Nat.zero_le _⟩) (fun H locs hP hD hS => ?_)
      refine lv_aload_n hx hb dX12_close_25 rfl (lv_at hl 0 rfl) ?_
      refine va_get (D := (dC, dI)) (ci := 11) (v := .ref (a0 1)) (C := RX12) (T := TX12) (N := 31) hx hb hta uw_X12 hown hK hP 0 rfl rfl 0 (by decide) (hta _ mA790) (fun _ h9 => h9) rfl dX12_close_26 ?_
      refine lv_bipush (v := 13) hx hb dX12_close_29 (by decide) ?_
      obtain ⟨g_4, hF⟩ := gd_some hF
      refine va_iald hx hb hK hP 1 0 rfl rfl (vpi_in g_4) dX12_close_31 ?_
      refine lv_iconst (v := 1) hx hb dX12_close_32 (by decide) ?_
      refine lv_isub hx hb dX12_close_33 ?_
      obtain ⟨y_5, ey_5, hF⟩ := lt_some hF
      refine lv_eqi ey_5 ?_
      refine lv_istore_n (lv' := [(1, .int y_5), (0, .ref (a0 0))]) hx hb dX12_close_34 rfl hl (by decide) rfl (fun ls hl => ?_)
      refine lv_aload_n hx hb dX12_close_35 rfl (lv_at hl 1 rfl) ?_
      refine va_get (D := (dC, dI)) (ci := 11) (v := .ref (a0 1)) (C := RX12) (T := TX12) (N := 31) hx hb hta uw_X12 hown hK hP 0 rfl rfl 0 (by decide) (hta _ mA790) (fun _ h9 => h9) rfl dX12_close_36 ?_
      refine lv_iload_n hx hb dX12_close_39 rfl (lv_at hl 0 rfl) ?_
      obtain ⟨u_6, hu_6, hF⟩ := lt_some hF
      have hPc := hP.sub (ws' := ([] : va_W)) [] rfl
      have hDc := hD.sub (ws' := ([] : va_W)) [] rfl rfl
      refine q_calli (wc := ([] : va_W)) (w1 := ([] : va_W)) (ws' := (wd_X12_close cI a0 u_3.1 u_1.2 v0_5 v0_12 v0_13 v0_16 v0_17 v0_21 v0_23 v0_24 v0_25 v0_26 v0_29 v0_30 v0_0 u_3.2 v0_6 v0_7 v0_8 v0_9 v0_10 v0_11)) hP hD hS hA [] [0, 1, 2, 3, 4, 5, 6, 7, 8] [0, 1, 2, 3, 4, 5, 6, 7, 8] rfl rfl rfl (by decide) rfl rfl (va_runS (As := [.int y_5]) (rest := [.ref (a0 1)]) ⟨hx, hb, hml, hown, hta⟩ (c_X12_at l dC dI cI H.size y_5 u_6 hu_6.symm) (va_cwS 1 hta (ga_S mA828 mA829 mA814 mA825) rfl rfl rfl (by decide +kernel) ⟨Nat.le_of_ble_eq_true rfl, Nat.le_of_ble_eq_true rfl⟩) ⟨q_fb, q_ps hPc hK hDc⟩ rfl rfl hl.1 rfl (lv_room (Nat.le_of_ble_eq_true rfl)) dX12_close_40 ⟨Nat.zero_le _, Nat.zero_le _⟩) (fun H locs hP hD hS => ?_)
      refine lv_iconst (v := 1) hx hb dX12_close_43 (by decide) ?_
      refine lv_iadd hx hb dX12_close_44 ?_
      refine lv_iconst (v := 1) hx hb dX12_close_45 (by decide) ?_
      obtain ⟨y_7, ey_7, hF⟩ := lt_some hF
      refine lv_eq2i ey_7 ?_
      obtain ⟨g_8, hF⟩ := gd_some hF
      refine va_iast hx hb hK hP hD hS 1 0 rfl rfl (vpi_in g_8) dX12_close_46 (fun H locs hP hD hS => ?_)
      obtain ⟨y_9, ey_9, hF⟩ := lt_some hF
      have hP : va_P (dC, dI) vwCl (wd_X12_close cI a0 u_3.1 u_1.2 v0_5 v0_12 v0_13 v0_16 v0_17 v0_21 v0_23 v0_24 v0_25 v0_26 v0_29 v0_30 y_9 u_3.2 v0_6 v0_7 v0_8 v0_9 v0_10 v0_11) H := by rw [ey_9]; exact hP
      have hD : va_D A (wd_X12_close cI a0 u_3.1 u_1.2 v0_5 v0_12 v0_13 v0_16 v0_17 v0_21 v0_23 v0_24 v0_25 v0_26 v0_29 v0_30 y_9 u_3.2 v0_6 v0_7 v0_8 v0_9 v0_10 v0_11) := by rw [ey_9]; exact hD
      refine lv_aload_n hx hb dX12_close_47 rfl (lv_at hl 1 rfl) ?_
      refine lv_iload_n hx hb dX12_close_48 rfl (lv_at hl 0 rfl) ?_
      obtain ⟨u_10, hu_10, hF⟩ := obd_some hF
      have hPc := hP.sub (ws' := (wd_X12_laysSegments cI a0 u_3.1 u_1.2 v0_5 v0_12 v0_13 v0_16 v0_17 v0_21 v0_23 v0_24 v0_25 v0_26 v0_29 v0_30 y_9 v0_6 v0_7 v0_8 v0_9 v0_10 v0_11)) [0, 1, 3, 4, 5, 6, 7, 8] rfl
      have hDc := hD.sub (ws' := (wd_X12_laysSegments cI a0 u_3.1 u_1.2 v0_5 v0_12 v0_13 v0_16 v0_17 v0_21 v0_23 v0_24 v0_25 v0_26 v0_29 v0_30 y_9 v0_6 v0_7 v0_8 v0_9 v0_10 v0_11)) [0, 1, 3, 4, 5, 6, 7, 8] rfl rfl
      refine q_callv (wc := (wd_X12_laysSegments cI a0 u_3.1 u_1.2 v0_5 v0_12 v0_13 v0_16 v0_17 v0_21 v0_23 v0_24 v0_25 v0_26 v0_29 v0_30 y_9 v0_6 v0_7 v0_8 v0_9 v0_10 v0_11)) (w1 := (wd_X12_laysSegments cI a0 u_3.1 u_1.2 v0_5 u_10.1 u_10.2.1 v0_16 v0_17 v0_21 v0_23 v0_24 v0_25 v0_26 v0_29 v0_30 y_9 u_10.2.2.1 u_10.2.2.2.1 u_10.2.2.2.2.1 u_10.2.2.2.2.2.1 u_10.2.2.2.2.2.2.1 u_10.2.2.2.2.2.2.2)) (ws' := (wd_X12_close cI a0 u_3.1 u_1.2 v0_5 u_10.1 u_10.2.1 v0_16 v0_17 v0_21 v0_23 v0_24 v0_25 v0_26 v0_29 v0_30 y_9 u_3.2 u_10.2.2.1 u_10.2.2.2.1 u_10.2.2.2.2.1 u_10.2.2.2.2.2.1 u_10.2.2.2.2.2.2.1 u_10.2.2.2.2.2.2.2)) hP hD hS hA [0, 1, 3, 4, 5, 6, 7, 8] [2] [1, 2, 0, 3, 4, 5, 6, 7, 8] rfl rfl rfl (by decide) rfl rfl (va_runV (As := [.int y_5]) (rest := []) ⟨hx, hb, hml, hown, hta⟩ (c_X12_laysSegments l dC dI cI H.size a0 u_3.1 u_1.2 v0_5 v0_12 v0_13 v0_16 v0_17 v0_21 v0_23 v0_24 v0_25 v0_26 v0_29 v0_30 y_9 v0_6 v0_7 v0_8 v0_9 v0_10 v0_11 y_5 n u_10 hu_10) (cwV 1 hta (ga_V mA864 mA865 mA866 mA814 mA867) rfl rfl rfl (by decide +kernel) ⟨Nat.le_of_ble_eq_true rfl, Nat.le_of_ble_eq_true rfl⟩) ⟨q_fb, va_recv hK hP (ci := 11) (q0 := 0) rfl rfl, q_ps hPc hK hDc⟩ rfl rfl hl.1 rfl (lv_room (Nat.le_of_ble_eq_true rfl)) dX12_close_49 ⟨Nat.zero_le _, Nat.zero_le _⟩) (fun H locs hP hD hS => ?_)
      refine lv_aload_n hx hb dX12_close_52 rfl (lv_at hl 1 rfl) ?_
      refine va_get (D := (dC, dI)) (ci := 11) (v := .int u_10.1) (C := RX12) (T := TX12) (N := 31) hx hb hta uw_X12 hown hK hP 0 rfl rfl 12 (by decide) (hta _ mA863) (fun _ h9 => h9) rfl dX12_close_53 ?_
      obtain rfl := Option.some.inj hF
      exact W.iret (v := u_10.1) hx hb hr (fun t ht hW => ⟨⟨u_10.1, (), rfl, rfl, by rw [ht]; exact hP, va_K.moved hW.alike hK, hD⟩, hS.F ht⟩) hS.2.2 dX12_close_56
    · have hF := it_f hF c_2
      refine lv_iconst (v := 0) hx hb dX12_close_19 (by decide) ?_
      obtain rfl := Option.some.inj hF
      exact W.iret (v := 0) hx hb hr (fun t ht hW => ⟨⟨0, (), rfl, rfl, by rw [ht]; exact hP, va_K.moved hW.alike hK, hD⟩, hS.F ht⟩) hS.2.2 dX12_close_20
  refine lv_aload_n hx hb dX12_close_0 rfl (lv_at hl 0 rfl) ?_
  refine lv_aload_n hx hb dX12_close_1 rfl (lv_at hl 0 rfl) ?_
  obtain ⟨u_11, hu_11, hF⟩ := obd_some hF
  have hPc := hP.sub (ws' := (wd_X12_isOpen cI a0 v0_2 v0_3 v0_5 v0_12 v0_13 v0_16 v0_17 v0_21 v0_23 v0_24 v0_25 v0_26 v0_29 v0_30 v0_0)) [0, 1] rfl
  have hDc := hD.sub (ws' := (wd_X12_isOpen cI a0 v0_2 v0_3 v0_5 v0_12 v0_13 v0_16 v0_17 v0_21 v0_23 v0_24 v0_25 v0_26 v0_29 v0_30 v0_0)) [0, 1] rfl rfl
  refine q_callz (wc := (wd_X12_isOpen cI a0 v0_2 v0_3 v0_5 v0_12 v0_13 v0_16 v0_17 v0_21 v0_23 v0_24 v0_25 v0_26 v0_29 v0_30 v0_0)) (w1 := (wd_X12_isOpen cI a0 v0_2 v0_3 v0_5 v0_12 v0_13 v0_16 v0_17 v0_21 v0_23 v0_24 v0_25 v0_26 v0_29 v0_30 v0_0)) (ws' := (wd_X12_close cI a0 v0_2 v0_3 v0_5 v0_12 v0_13 v0_16 v0_17 v0_21 v0_23 v0_24 v0_25 v0_26 v0_29 v0_30 v0_0 v0_1 v0_6 v0_7 v0_8 v0_9 v0_10 v0_11)) hP hD hS hA [0, 1] [2, 3, 4, 5, 6, 7, 8] [7, 8, 0, 1, 2, 3, 4, 5, 6] rfl rfl rfl (by decide) rfl rfl (va_runV (As := []) (rest := [.ref (a0 0)]) ⟨hx, hb, hml, hown, hta⟩ (c_X12_isOpen l dC dI cI H.size a0 v0_2 v0_3 v0_5 v0_12 v0_13 v0_16 v0_17 v0_21 v0_23 v0_24 v0_25 v0_26 v0_29 v0_30 v0_0 u_11 hu_11) (cwV 0 hta (ga_V mA856 mA857 mA858 mA814 mA851) rfl rfl rfl (by decide +kernel) ⟨Nat.le_of_ble_eq_true rfl, Nat.le_of_ble_eq_true rfl⟩) ⟨q_fb, va_recv hK hP (ci := 11) (q0 := 0) rfl rfl, q_ps hPc hK hDc⟩ rfl rfl hl.1 rfl (lv_room (Nat.le_of_ble_eq_true rfl)) dX12_close_2 ⟨Nat.zero_le _, Nat.zero_le _⟩) (fun hzu_11 H locs hP hD hS => ?_)
  refine lv_if_eq (tgt := 12) hx hb dX12_close_5 (by decide) (fun c_12 => ?_) (fun c_12 => ?_)
  · have hF := it_t hF c_12
    refine lv_iconst (v := 1) hx hb dX12_close_12 (by decide) ?_
    exact j13 v0_2 v0_3 v0_12 v0_13 v0_0 v0_1 v0_6 v0_7 v0_8 v0_9 v0_10 v0_11 1 hF _ _ _ hP hD hS (lv_sub hl [0] rfl)
  · have hF := it_f hF c_12
    refine lv_iconst (v := 0) hx hb dX12_close_8 (by decide) ?_
    refine lv_goto (tgt := 13) hx hb dX12_close_9 (by decide) ?_
    exact j13 v0_2 v0_3 v0_12 v0_13 v0_0 v0_1 v0_6 v0_7 v0_8 v0_9 v0_10 v0_11 0 hF _ _ _ hP hD hS (lv_sub hl [0] rfl)

-- StrokeOutlinerModel.remove(I)I
def F_X12_remove_j77 (v0_2 : Int32) (v0_3 : Int32) (v0_0 : Nat → Int32) (v0_1 : Nat → Int32) : Option (Int32 × Int32 × Int32 × (Nat → Int32) × (Nat → Int32)) :=
  gd (decide (vpi 13 86)) (some ((v0_0 (13 : Int32).toNatClampNeg), v0_2, v0_3, v0_0, v0_1))
def F_X12_remove_b42 (s42 : Int32 × (Nat → Int32)) : Option (Sum (Int32 × (Nat → Int32)) ((Nat → Int32))) :=
  gd (decide (vpi 13 86)) (lt (F_X12_at (s42.2 (13 : Int32).toNatClampNeg)) (fun u_3 => if u_3 ≤ s42.1 then some (.inr s42.2) else lt (s42.1 + 18) (fun y_5 => gd (decide (vpi y_5 86)) (lt (s42.2 y_5.toNatClampNeg) (fun y_7 => gd (decide (vpi s42.1 86)) (lt (upd s42.2 s42.1.toNatClampNeg y_7) (fun y_9 => lt (s42.1 + 1) (fun y_10 => some (.inl (y_10, y_9))))))))))
def F_X12_remove_j42 (n : Nat) (v0_2 : Int32) (v0_3 : Int32) (v0_0 : Nat → Int32) (v0_1 : Nat → Int32) (x2 : Int32) : Option (Int32 × Int32 × Int32 × (Nat → Int32) × (Nat → Int32)) :=
  obd (lpq F_X12_remove_b42 n (x2, v0_0)) (fun x_42 => F_X12_remove_j77 v0_2 v0_3 x_42 v0_1)
def F_X12_remove_j14 (n : Nat) (v0_2 : Int32) (v0_0 : Nat → Int32) (v0_1 : Nat → Int32) (x1 : Int32) (t1 : Int32) : Option (Int32 × Int32 × Int32 × (Nat → Int32) × (Nat → Int32)) :=
  lt (F_X12_refused t1) (fun u_11 => if u_11.1 = 0 then obd (F_X12_saves n v0_2 v0_0 v0_1) (fun u_13 => gd (decide (vpi 13 86)) (lt ((v0_0 (13 : Int32).toNatClampNeg) - 1) (fun y_15 => gd (decide (vpi 13 86)) (lt (upd v0_0 (13 : Int32).toNatClampNeg y_15) (fun y_17 => lt (F_X12_at x1) (fun u_18 => F_X12_remove_j42 n u_13.1 u_11.2 y_17 u_13.2 u_18)))))) else some (0, v0_2, u_11.2, v0_0, v0_1))
def F_X12_remove (n : Nat) (v0_2 : Int32) (v0_0 : Nat → Int32) (v0_1 : Nat → Int32) (p1 : Int32) : Option (Int32 × Int32 × Int32 × (Nat → Int32) × (Nat → Int32)) :=
  obd (F_X12_isSubpath v0_0 p1) (fun u_19 => if u_19 = 0 then F_X12_remove_j14 n v0_2 v0_0 v0_1 p1 1 else F_X12_remove_j14 n v0_2 v0_0 v0_1 p1 0)
abbrev wd_X12_remove (cI : ClassId) (a0 : Nat → Nat) (v0_2 : Int32) (v0_3 : Int32) (v0_5 : Int32) (v0_12 : Int32) (v0_13 : Int32) (v0_16 : Int32) (v0_17 : Int32) (v0_21 : Int32) (v0_23 : Int32) (v0_24 : Int32) (v0_25 : Int32) (v0_26 : Int32) (v0_29 : Int32) (v0_30 : Int64) (v0_0 : Nat → Int32) (v0_1 : Nat → Int32) : va_W := [(a0 0, .inr (11, [.ref (a0 1), .ref (a0 2), .int v0_2, .int v0_3, .ref (a0 5), .int v0_5, .ref (a0 7), .ref (a0 8), .ref (a0 9), .ref (a0 10), .ref (a0 11), .ref (a0 12), .int v0_12, .int v0_13, .ref (a0 15), .ref (a0 16), .int v0_16, .int v0_17, .ref (a0 19), .ref (a0 20), .ref (a0 21), .int v0_21, .ref (a0 23), .int v0_23, .int v0_24, .int v0_25, .int v0_26, .ref (a0 28), .ref (a0 29), .int v0_29, .long v0_30])), (a0 1, .inl (cI, 86, .inl v0_0)), (a0 2, .inl (cI, 344, .inl v0_1))]
abbrev wz_X12_remove : List Cond := .code yX12_remove cX12_remove 3 (some .int) :: wALL
abbrev rm_X12_remove : Room := { frames := 2, cells := 0, slots := 0, locals := 43 }
abbrev Q_X12_remove (dC : Nat → ClassId) (dI : Nat → Nat → Nat) (cI : ClassId) (a0 : Nat → Nat) (v0_5 : Int32) (v0_12 : Int32) (v0_13 : Int32) (v0_16 : Int32) (v0_17 : Int32) (v0_21 : Int32) (v0_23 : Int32) (v0_24 : Int32) (v0_25 : Int32) (v0_26 : Int32) (v0_29 : Int32) (v0_30 : Int64) (u : (Int32 × Int32 × Int32 × (Nat → Int32) × (Nat → Int32))) (A : Nat → Prop) : Array Value → State → Outcome → State → Prop := va_Qi (fun (r : Int32) (_ : Unit) => r = u.1) (fun _ => q_at dC dI cI A (wd_X12_remove cI a0 u.2.1 u.2.2.1 v0_5 v0_12 v0_13 v0_16 v0_17 v0_21 v0_23 v0_24 v0_25 v0_26 v0_29 v0_30 u.2.2.2.1 u.2.2.2.2)) A
set_option maxHeartbeats 4000000 in
set_option maxRecDepth 100000 in
theorem c_X12_remove (l : Launch) (dC : Nat → ClassId) (dI : Nat → Nat → Nat) (cI : ClassId) (sz : Nat) (a0 : Nat → Nat) (v0_2 : Int32) (v0_3 : Int32) (v0_5 : Int32) (v0_12 : Int32) (v0_13 : Int32) (v0_16 : Int32) (v0_17 : Int32) (v0_21 : Int32) (v0_23 : Int32) (v0_24 : Int32) (v0_25 : Int32) (v0_26 : Int32) (v0_29 : Int32) (v0_30 : Int64) (v0_0 : Nat → Int32) (v0_1 : Nat → Int32) (p1 : Int32) (n : Nat) (u : (Int32 × Int32 × Int32 × (Nat → Int32) × (Nat → Int32))) (hF : F_X12_remove n v0_2 v0_0 v0_1 p1 = some u) : Met l yX12_remove wz_X12_remove rm_X12_remove (va_Pc [.ref (a0 0), .int p1] (q_pre dC dI cI (wd_X12_remove cI a0 v0_2 v0_3 v0_5 v0_12 v0_13 v0_16 v0_17 v0_21 v0_23 v0_24 v0_25 v0_26 v0_29 v0_30 v0_0 v0_1) sz)) (Q_X12_remove dC dI cI a0 v0_5 v0_12 v0_13 v0_16 v0_17 v0_21 v0_23 v0_24 v0_25 v0_26 v0_29 v0_30 u (va_A (wd_X12_remove cI a0 v0_2 v0_3 v0_5 v0_12 v0_13 v0_16 v0_17 v0_21 v0_23 v0_24 v0_25 v0_26 v0_29 v0_30 v0_0 v0_1) sz)) 0 0 (va_A (wd_X12_remove cI a0 v0_2 v0_3 v0_5 v0_12 v0_13 v0_16 v0_17 v0_21 v0_23 v0_24 v0_25 v0_26 v0_29 v0_30 v0_0 v0_1) sz) := by
  refine Met.ofW (cc := cX12_remove) (maxL := 3) (ret := (some .int)) (by decide) rfl ?_
  intro p e s m args below meth c s₁ B hml hv
  obtain ⟨rfl, hsz, hP, hK, hD0⟩ := hv
  have hx := B.exec
  have hb := B.bytes
  have hr := B.returns
  have hts := atoms_spec (ws := wz_X12_remove) B.pre
  have hta := wz_tl hts
  have hown : s.vm.findClass RX12 = some m.cls := findClass_of_methodNamed B.named
  have hlocks := B.notSynchronized
  subst hsz
  have hD := hD0.self (sz := s.heap.size)
  generalize hAe : va_A (wd_X12_remove cI a0 v0_2 v0_3 v0_5 v0_12 v0_13 v0_16 v0_17 v0_21 v0_23 v0_24 v0_25 v0_26 v0_29 v0_30 v0_0 v0_1) s.heap.size = A at hD ⊢
  have hA : ∀ q : Nat, s.heap.size ≤ q → A q := fun q h => by rw [← hAe]; exact Or.inr h
  have hS : va_S A s.heap s.heap [] := va_S.rf
  have hP : va_P (dC, dI) vwCl (wd_X12_remove cI a0 v0_2 v0_3 v0_5 v0_12 v0_13 v0_16 v0_17 v0_21 v0_23 v0_24 v0_25 v0_26 v0_29 v0_30 v0_0 v0_1) s.heap := hP
  have hl := lv_entry ([.ref (a0 0), .int p1]) (n := 3) (Nat.le_of_ble_eq_true rfl)
  rw [lg_entry_eq]
  generalize (lg_sl ([.ref (a0 0), .int p1]) ++ List.replicate (3 - (lg_sl ([.ref (a0 0), .int p1])).length) Slot.unset).toArray = ls at hl ⊢
  have hl : lv_has ls 3 [(0, .ref (a0 0)), (1, .int p1)] := hl
  obtain ⟨H, hHe⟩ : ∃ H, H = s.heap := ⟨_, rfl⟩
  have hS : va_S A s.heap H [] := by rw [hHe]; exact hS
  have hP : va_P (dC, dI) vwCl (wd_X12_remove cI a0 v0_2 v0_3 v0_5 v0_12 v0_13 v0_16 v0_17 v0_21 v0_23 v0_24 v0_25 v0_26 v0_29 v0_30 v0_0 v0_1) H := by rw [hHe]; exact hP
  rw [← hHe]
  unfold F_X12_remove at hF
  have j77 : ∀ (v0_2 : Int32) (v0_3 : Int32) (v0_0 : Nat → Int32) (v0_1 : Nat → Int32), F_X12_remove_j77 v0_2 v0_3 v0_0 v0_1 = some u → ∀ (H : Heap) (locs : List Loc) (ls : Array Slot), va_P (dC, dI) vwCl (wd_X12_remove cI a0 v0_2 v0_3 v0_5 v0_12 v0_13 v0_16 v0_17 v0_21 v0_23 v0_24 v0_25 v0_26 v0_29 v0_30 v0_0 v0_1) H → va_D A (wd_X12_remove cI a0 v0_2 v0_3 v0_5 v0_12 v0_13 v0_16 v0_17 v0_21 v0_23 v0_24 v0_25 v0_26 v0_29 v0_30 v0_0 v0_1) → va_S A s.heap H locs → lv_has ls 3 [(0, .ref (a0 0))] → W p l e (headSpec wz_X12_remove rm_X12_remove).room s m [.ref (a0 0), .int p1].toArray below meth c H locs 0 0 (MQ below (Q_X12_remove dC dI cI a0 v0_5 v0_12 v0_13 v0_16 v0_17 v0_21 v0_23 v0_24 v0_25 v0_26 v0_29 v0_30 u A) [.ref (a0 0), .int p1].toArray s 0 0 A) (F0 m 77 ls []) := by
    intro v0_2 v0_3 v0_0 v0_1 hF H locs ls hP hD hS hl
    unfold F_X12_remove_j77 at hF
    refine lv_aload_n hx hb dX12_remove_77 rfl (lv_at hl 0 rfl) ?_
    refine va_get (D := (dC, dI)) (ci := 11) (v := .ref (a0 1)) (C := RX12) (T := TX12) (N := 31) hx hb hta uw_X12 hown hK hP 0 rfl rfl 0 (by decide) (hta _ mA790) (fun _ h9 => h9) rfl dX12_remove_78 ?_
    refine lv_bipush (v := 13) hx hb dX12_remove_81 (by decide) ?_
    obtain ⟨g_1, hF⟩ := gd_some hF
    refine va_iald hx hb hK hP 1 0 rfl rfl (vpi_in g_1) dX12_remove_83 ?_
    obtain rfl := Option.some.inj hF
    exact W.iret (v := (v0_0 (13 : Int32).toNatClampNeg)) hx hb hr (fun t ht hW => ⟨⟨(v0_0 (13 : Int32).toNatClampNeg), (), rfl, rfl, by rw [ht]; exact hP, va_K.moved hW.alike hK, hD⟩, hS.F ht⟩) hS.2.2 dX12_remove_84
  have j42 : ∀ (v0_2 : Int32) (v0_3 : Int32) (v0_0 : Nat → Int32) (v0_1 : Nat → Int32) (x2 : Int32), F_X12_remove_j42 n v0_2 v0_3 v0_0 v0_1 x2 = some u → ∀ (H : Heap) (locs : List Loc) (ls : Array Slot), va_P (dC, dI) vwCl (wd_X12_remove cI a0 v0_2 v0_3 v0_5 v0_12 v0_13 v0_16 v0_17 v0_21 v0_23 v0_24 v0_25 v0_26 v0_29 v0_30 v0_0 v0_1) H → va_D A (wd_X12_remove cI a0 v0_2 v0_3 v0_5 v0_12 v0_13 v0_16 v0_17 v0_21 v0_23 v0_24 v0_25 v0_26 v0_29 v0_30 v0_0 v0_1) → va_S A s.heap H locs → lv_has ls 3 [(0, .ref (a0 0)), (2, .int x2)] → W p l e (headSpec wz_X12_remove rm_X12_remove).room s m [.ref (a0 0), .int p1].toArray below meth c H locs 0 0 (MQ below (Q_X12_remove dC dI cI a0 v0_5 v0_12 v0_13 v0_16 v0_17 v0_21 v0_23 v0_24 v0_25 v0_26 v0_29 v0_30 u A) [.ref (a0 0), .int p1].toArray s 0 0 A) (F0 m 42 ls []) := by
    intro v0_2 v0_3 v0_0 v0_1 x2 hF H locs ls hP hD hS hl
    unfold F_X12_remove_j42 at hF
    obtain ⟨x_42, hL_42, hE_42⟩ := obd_some hF
    have kl_42 : ∀ (k : Nat) (s42 : Int32 × (Nat → Int32)), lpq F_X12_remove_b42 k s42 = some x_42 → ∀ (H : Heap) (locs : List Loc) (ls : Array Slot), va_P (dC, dI) vwCl (wd_X12_remove cI a0 v0_2 v0_3 v0_5 v0_12 v0_13 v0_16 v0_17 v0_21 v0_23 v0_24 v0_25 v0_26 v0_29 v0_30 s42.2 v0_1) H → va_D A (wd_X12_remove cI a0 v0_2 v0_3 v0_5 v0_12 v0_13 v0_16 v0_17 v0_21 v0_23 v0_24 v0_25 v0_26 v0_29 v0_30 s42.2 v0_1) → va_S A s.heap H locs → lv_has ls 3 [(0, .ref (a0 0)), (2, .int s42.1)] → W p l e (headSpec wz_X12_remove rm_X12_remove).room s m [.ref (a0 0), .int p1].toArray below meth c H locs 0 0 (MQ below (Q_X12_remove dC dI cI a0 v0_5 v0_12 v0_13 v0_16 v0_17 v0_21 v0_23 v0_24 v0_25 v0_26 v0_29 v0_30 u A) [.ref (a0 0), .int p1].toArray s 0 0 A) (F0 m 42 ls []) := by
      intro k
      induction k with
      | zero => intro s42 h; exact absurd h lpq_zero
      | succ k ih_42 =>
        intro s42 h H locs ls hP hD hS hl
        obtain ⟨o_42, hF, hO_42⟩ := lpq_succ h
        unfold F_X12_remove_b42 at hF
        refine lv_iload_n hx hb dX12_remove_42 rfl (lv_at hl 1 rfl) ?_
        refine lv_aload_n hx hb dX12_remove_43 rfl (lv_at hl 0 rfl) ?_
        refine va_get (D := (dC, dI)) (ci := 11) (v := .ref (a0 1)) (C := RX12) (T := TX12) (N := 31) hx hb hta uw_X12 hown hK hP 0 rfl rfl 0 (by decide) (hta _ mA790) (fun _ h9 => h9) rfl dX12_remove_44 ?_
        refine lv_bipush (v := 13) hx hb dX12_remove_47 (by decide) ?_
        obtain ⟨g_2, hF⟩ := gd_some hF
        refine va_iald hx hb hK hP 1 0 rfl rfl (vpi_in g_2) dX12_remove_49 ?_
        obtain ⟨u_3, hu_3, hF⟩ := lt_some hF
        have hPc := hP.sub (ws' := ([] : va_W)) [] rfl
        have hDc := hD.sub (ws' := ([] : va_W)) [] rfl rfl
        refine q_calli (wc := ([] : va_W)) (w1 := ([] : va_W)) (ws' := (wd_X12_remove cI a0 v0_2 v0_3 v0_5 v0_12 v0_13 v0_16 v0_17 v0_21 v0_23 v0_24 v0_25 v0_26 v0_29 v0_30 s42.2 v0_1)) hP hD hS hA [] [0, 1, 2] [0, 1, 2] rfl rfl rfl (by decide) rfl rfl (va_runS (As := [.int (s42.2 (13 : Int32).toNatClampNeg)]) (rest := [.int s42.1]) ⟨hx, hb, hml, hown, hta⟩ (c_X12_at l dC dI cI H.size (s42.2 (13 : Int32).toNatClampNeg) u_3 hu_3.symm) (va_cwS 1 hta (ga_S mA828 mA829 mA814 mA825) rfl rfl rfl (by decide +kernel) ⟨Nat.le_of_ble_eq_true rfl, Nat.le_of_ble_eq_true rfl⟩) ⟨q_fb, q_ps hPc hK hDc⟩ rfl rfl hl.1 rfl (lv_room (Nat.le_of_ble_eq_true rfl)) dX12_remove_50 ⟨Nat.zero_le _, Nat.zero_le _⟩) (fun H locs hP hD hS => ?_)
        refine lv_icmp_ge (tgt := 77) hx hb dX12_remove_53 (by decide) (fun c_4 => ?_) (fun c_4 => ?_)
        · have hF := it_t hF c_4
          obtain rfl := Option.some.inj hF
          obtain rfl := lpq_x hO_42
          have hF := hE_42
          exact j77 v0_2 v0_3 s42.2 v0_1 hF _ _ _ hP hD hS (lv_sub hl [0] rfl)
        · have hF := it_f hF c_4
          refine lv_aload_n hx hb dX12_remove_56 rfl (lv_at hl 0 rfl) ?_
          refine va_get (D := (dC, dI)) (ci := 11) (v := .ref (a0 1)) (C := RX12) (T := TX12) (N := 31) hx hb hta uw_X12 hown hK hP 0 rfl rfl 0 (by decide) (hta _ mA790) (fun _ h9 => h9) rfl dX12_remove_57 ?_
          refine lv_iload_n hx hb dX12_remove_60 rfl (lv_at hl 1 rfl) ?_
          refine lv_aload_n hx hb dX12_remove_61 rfl (lv_at hl 0 rfl) ?_
          refine va_get (D := (dC, dI)) (ci := 11) (v := .ref (a0 1)) (C := RX12) (T := TX12) (N := 31) hx hb hta uw_X12 hown hK hP 0 rfl rfl 0 (by decide) (hta _ mA790) (fun _ h9 => h9) rfl dX12_remove_62 ?_
          refine lv_iload_n hx hb dX12_remove_65 rfl (lv_at hl 1 rfl) ?_
          refine lv_bipush (v := 18) hx hb dX12_remove_66 (by decide) ?_
          refine lv_iadd hx hb dX12_remove_68 ?_
          obtain ⟨y_5, ey_5, hF⟩ := lt_some hF
          refine lv_eqi ey_5 ?_
          obtain ⟨g_6, hF⟩ := gd_some hF
          refine va_iald hx hb hK hP 1 0 rfl rfl (vpi_in g_6) dX12_remove_69 ?_
          obtain ⟨y_7, ey_7, hF⟩ := lt_some hF
          refine lv_eqi ey_7 ?_
          obtain ⟨g_8, hF⟩ := gd_some hF
          refine va_iast hx hb hK hP hD hS 1 0 rfl rfl (vpi_in g_8) dX12_remove_70 (fun H locs hP hD hS => ?_)
          obtain ⟨y_9, ey_9, hF⟩ := lt_some hF
          have hP : va_P (dC, dI) vwCl (wd_X12_remove cI a0 v0_2 v0_3 v0_5 v0_12 v0_13 v0_16 v0_17 v0_21 v0_23 v0_24 v0_25 v0_26 v0_29 v0_30 y_9 v0_1) H := by rw [ey_9]; exact hP
          have hD : va_D A (wd_X12_remove cI a0 v0_2 v0_3 v0_5 v0_12 v0_13 v0_16 v0_17 v0_21 v0_23 v0_24 v0_25 v0_26 v0_29 v0_30 y_9 v0_1) := by rw [ey_9]; exact hD
          obtain ⟨y_10, ey_10, hF⟩ := lt_some hF
          refine lv_iinc (v := y_10) (lv' := [(2, .int y_10), (0, .ref (a0 0))]) hx hb dX12_remove_71 hl (k := 1) rfl (by rw [ey_10]; rfl) (by decide) rfl (fun ls hl => ?_)
          refine lv_goto (tgt := 42) hx hb dX12_remove_74 (by decide) ?_
          obtain rfl := Option.some.inj hF
          exact ih_42 _ hO_42 _ _ _ hP hD hS (lv_sub hl [1, 0] rfl)
    exact kl_42 n _ hL_42 _ _ _ hP hD hS hl
  have j14 : ∀ (v0_2 : Int32) (v0_3 : Int32) (v0_0 : Nat → Int32) (v0_1 : Nat → Int32) (x1 : Int32) (t1 : Int32), F_X12_remove_j14 n v0_2 v0_0 v0_1 x1 t1 = some u → ∀ (H : Heap) (locs : List Loc) (ls : Array Slot), va_P (dC, dI) vwCl (wd_X12_remove cI a0 v0_2 v0_3 v0_5 v0_12 v0_13 v0_16 v0_17 v0_21 v0_23 v0_24 v0_25 v0_26 v0_29 v0_30 v0_0 v0_1) H → va_D A (wd_X12_remove cI a0 v0_2 v0_3 v0_5 v0_12 v0_13 v0_16 v0_17 v0_21 v0_23 v0_24 v0_25 v0_26 v0_29 v0_30 v0_0 v0_1) → va_S A s.heap H locs → lv_has ls 3 [(0, .ref (a0 0)), (1, .int x1)] → W p l e (headSpec wz_X12_remove rm_X12_remove).room s m [.ref (a0 0), .int p1].toArray below meth c H locs 0 0 (MQ below (Q_X12_remove dC dI cI a0 v0_5 v0_12 v0_13 v0_16 v0_17 v0_21 v0_23 v0_24 v0_25 v0_26 v0_29 v0_30 u A) [.ref (a0 0), .int p1].toArray s 0 0 A) (F0 m 14 ls [.int t1, .ref (a0 0)]) := by
    intro v0_2 v0_3 v0_0 v0_1 x1 t1 hF H locs ls hP hD hS hl
    unfold F_X12_remove_j14 at hF
    obtain ⟨u_11, hu_11, hF⟩ := lt_some hF
    have hPc := hP.sub (ws' := (wd_X12_refused cI a0 v0_2 v0_3 v0_5 v0_12 v0_13 v0_16 v0_17 v0_21 v0_23 v0_24 v0_25 v0_26 v0_29 v0_30)) [0] rfl
    have hDc := hD.sub (ws' := (wd_X12_refused cI a0 v0_2 v0_3 v0_5 v0_12 v0_13 v0_16 v0_17 v0_21 v0_23 v0_24 v0_25 v0_26 v0_29 v0_30)) [0] rfl rfl
    refine q_callz (wc := (wd_X12_refused cI a0 v0_2 v0_3 v0_5 v0_12 v0_13 v0_16 v0_17 v0_21 v0_23 v0_24 v0_25 v0_26 v0_29 v0_30)) (w1 := (wd_X12_refused cI a0 v0_2 u_11.2 v0_5 v0_12 v0_13 v0_16 v0_17 v0_21 v0_23 v0_24 v0_25 v0_26 v0_29 v0_30)) (ws' := (wd_X12_remove cI a0 v0_2 u_11.2 v0_5 v0_12 v0_13 v0_16 v0_17 v0_21 v0_23 v0_24 v0_25 v0_26 v0_29 v0_30 v0_0 v0_1)) hP hD hS hA [0] [1, 2] [2, 0, 1] rfl rfl rfl (by decide) rfl rfl (va_runV (As := [.int t1]) (rest := []) ⟨hx, hb, hml, hown, hta⟩ (c_X12_refused l dC dI cI H.size a0 v0_2 v0_3 v0_5 v0_12 v0_13 v0_16 v0_17 v0_21 v0_23 v0_24 v0_25 v0_26 v0_29 v0_30 t1 u_11 hu_11.symm) (cwV 1 hta (ga_V mA822 mA823 mA824 mA814 mA809) rfl rfl rfl (by decide +kernel) ⟨Nat.le_of_ble_eq_true rfl, Nat.le_of_ble_eq_true rfl⟩) ⟨q_fb, va_recv hK hP (ci := 11) (q0 := 0) rfl rfl, q_ps hPc hK hDc⟩ rfl rfl hl.1 rfl (lv_room (Nat.le_of_ble_eq_true rfl)) dX12_remove_14 ⟨Nat.zero_le _, Nat.zero_le _⟩) (fun hzu_11 H locs hP hD hS => ?_)
    refine lv_if_eq (tgt := 22) hx hb dX12_remove_17 (by decide) (fun c_12 => ?_) (fun c_12 => ?_)
    · have hF := it_t hF c_12
      refine lv_aload_n hx hb dX12_remove_22 rfl (lv_at hl 0 rfl) ?_
      obtain ⟨u_13, hu_13, hF⟩ := obd_some hF
      have hPc := hP.sub (ws' := (wd_X12_saves cI a0 v0_2 u_11.2 v0_5 v0_12 v0_13 v0_16 v0_17 v0_21 v0_23 v0_24 v0_25 v0_26 v0_29 v0_30 v0_0 v0_1)) [0, 1, 2] rfl
      have hDc := hD.sub (ws' := (wd_X12_saves cI a0 v0_2 u_11.2 v0_5 v0_12 v0_13 v0_16 v0_17 v0_21 v0_23 v0_24 v0_25 v0_26 v0_29 v0_30 v0_0 v0_1)) [0, 1, 2] rfl rfl
      refine q_callv (wc := (wd_X12_saves cI a0 v0_2 u_11.2 v0_5 v0_12 v0_13 v0_16 v0_17 v0_21 v0_23 v0_24 v0_25 v0_26 v0_29 v0_30 v0_0 v0_1)) (w1 := (wd_X12_saves cI a0 u_13.1 u_11.2 v0_5 v0_12 v0_13 v0_16 v0_17 v0_21 v0_23 v0_24 v0_25 v0_26 v0_29 v0_30 v0_0 u_13.2)) (ws' := (wd_X12_remove cI a0 u_13.1 u_11.2 v0_5 v0_12 v0_13 v0_16 v0_17 v0_21 v0_23 v0_24 v0_25 v0_26 v0_29 v0_30 v0_0 u_13.2)) hP hD hS hA [0, 1, 2] [] [0, 1, 2] rfl rfl rfl (by decide) rfl rfl (va_runV (As := []) (rest := []) ⟨hx, hb, hml, hown, hta⟩ (c_X12_saves l dC dI cI H.size a0 v0_2 u_11.2 v0_5 v0_12 v0_13 v0_16 v0_17 v0_21 v0_23 v0_24 v0_25 v0_26 v0_29 v0_30 v0_0 v0_1 n u_13 hu_13) (cwV 0 hta (ga_V mA845 mA846 mA847 mA814 mA819) rfl rfl rfl (by decide +kernel) ⟨Nat.le_of_ble_eq_true rfl, Nat.le_of_ble_eq_true rfl⟩) ⟨q_fb, va_recv hK hP (ci := 11) (q0 := 0) rfl rfl, q_ps hPc hK hDc⟩ rfl rfl hl.1 rfl (lv_room (Nat.le_of_ble_eq_true rfl)) dX12_remove_23 ⟨Nat.zero_le _, Nat.zero_le _⟩) (fun H locs hP hD hS => ?_)
      refine lv_aload_n hx hb dX12_remove_26 rfl (lv_at hl 0 rfl) ?_
      refine va_get (D := (dC, dI)) (ci := 11) (v := .ref (a0 1)) (C := RX12) (T := TX12) (N := 31) hx hb hta uw_X12 hown hK hP 0 rfl rfl 0 (by decide) (hta _ mA790) (fun _ h9 => h9) rfl dX12_remove_27 ?_
      refine lv_bipush (v := 13) hx hb dX12_remove_30 (by decide) ?_
      refine lv_dup2_11 hx hb dX12_remove_32 rfl rfl ?_
      obtain ⟨g_14, hF⟩ := gd_some hF
      refine va_iald hx hb hK hP 1 0 rfl rfl (vpi_in g_14) dX12_remove_33 ?_
      refine lv_iconst (v := 1) hx hb dX12_remove_34 (by decide) ?_
      refine lv_isub hx hb dX12_remove_35 ?_
      obtain ⟨y_15, ey_15, hF⟩ := lt_some hF
      refine lv_eqi ey_15 ?_
      obtain ⟨g_16, hF⟩ := gd_some hF
      refine va_iast hx hb hK hP hD hS 1 0 rfl rfl (vpi_in g_16) dX12_remove_36 (fun H locs hP hD hS => ?_)
      obtain ⟨y_17, ey_17, hF⟩ := lt_some hF
      have hP : va_P (dC, dI) vwCl (wd_X12_remove cI a0 u_13.1 u_11.2 v0_5 v0_12 v0_13 v0_16 v0_17 v0_21 v0_23 v0_24 v0_25 v0_26 v0_29 v0_30 y_17 u_13.2) H := by rw [ey_17]; exact hP
      have hD : va_D A (wd_X12_remove cI a0 u_13.1 u_11.2 v0_5 v0_12 v0_13 v0_16 v0_17 v0_21 v0_23 v0_24 v0_25 v0_26 v0_29 v0_30 y_17 u_13.2) := by rw [ey_17]; exact hD
      refine lv_iload_n hx hb dX12_remove_37 rfl (lv_at hl 1 rfl) ?_
      obtain ⟨u_18, hu_18, hF⟩ := lt_some hF
      have hPc := hP.sub (ws' := ([] : va_W)) [] rfl
      have hDc := hD.sub (ws' := ([] : va_W)) [] rfl rfl
      refine q_calli (wc := ([] : va_W)) (w1 := ([] : va_W)) (ws' := (wd_X12_remove cI a0 u_13.1 u_11.2 v0_5 v0_12 v0_13 v0_16 v0_17 v0_21 v0_23 v0_24 v0_25 v0_26 v0_29 v0_30 y_17 u_13.2)) hP hD hS hA [] [0, 1, 2] [0, 1, 2] rfl rfl rfl (by decide) rfl rfl (va_runS (As := [.int x1]) (rest := []) ⟨hx, hb, hml, hown, hta⟩ (c_X12_at l dC dI cI H.size x1 u_18 hu_18.symm) (va_cwS 1 hta (ga_S mA828 mA829 mA814 mA825) rfl rfl rfl (by decide +kernel) ⟨Nat.le_of_ble_eq_true rfl, Nat.le_of_ble_eq_true rfl⟩) ⟨q_fb, q_ps hPc hK hDc⟩ rfl rfl hl.1 rfl (lv_room (Nat.le_of_ble_eq_true rfl)) dX12_remove_38 ⟨Nat.zero_le _, Nat.zero_le _⟩) (fun H locs hP hD hS => ?_)
      refine lv_istore_n (lv' := [(2, .int u_18), (0, .ref (a0 0)), (1, .int x1)]) hx hb dX12_remove_41 rfl hl (by decide) rfl (fun ls hl => ?_)
      exact j42 u_13.1 u_11.2 y_17 u_13.2 u_18 hF _ _ _ hP hD hS (lv_sub hl [1, 0] rfl)
    · have hF := it_f hF c_12
      refine lv_iconst (v := 0) hx hb dX12_remove_20 (by decide) ?_
      obtain rfl := Option.some.inj hF
      exact W.iret (v := 0) hx hb hr (fun t ht hW => ⟨⟨0, (), rfl, rfl, by rw [ht]; exact hP, va_K.moved hW.alike hK, hD⟩, hS.F ht⟩) hS.2.2 dX12_remove_21
  refine lv_aload_n hx hb dX12_remove_0 rfl (lv_at hl 0 rfl) ?_
  refine lv_aload_n hx hb dX12_remove_1 rfl (lv_at hl 0 rfl) ?_
  refine lv_iload_n hx hb dX12_remove_2 rfl (lv_at hl 1 rfl) ?_
  obtain ⟨u_19, hu_19, hF⟩ := obd_some hF
  have hPc := hP.sub (ws' := (wd_X12_isSubpath cI a0 v0_2 v0_3 v0_5 v0_12 v0_13 v0_16 v0_17 v0_21 v0_23 v0_24 v0_25 v0_26 v0_29 v0_30 v0_0)) [0, 1] rfl
  have hDc := hD.sub (ws' := (wd_X12_isSubpath cI a0 v0_2 v0_3 v0_5 v0_12 v0_13 v0_16 v0_17 v0_21 v0_23 v0_24 v0_25 v0_26 v0_29 v0_30 v0_0)) [0, 1] rfl rfl
  refine q_callz (wc := (wd_X12_isSubpath cI a0 v0_2 v0_3 v0_5 v0_12 v0_13 v0_16 v0_17 v0_21 v0_23 v0_24 v0_25 v0_26 v0_29 v0_30 v0_0)) (w1 := (wd_X12_isSubpath cI a0 v0_2 v0_3 v0_5 v0_12 v0_13 v0_16 v0_17 v0_21 v0_23 v0_24 v0_25 v0_26 v0_29 v0_30 v0_0)) (ws' := (wd_X12_remove cI a0 v0_2 v0_3 v0_5 v0_12 v0_13 v0_16 v0_17 v0_21 v0_23 v0_24 v0_25 v0_26 v0_29 v0_30 v0_0 v0_1)) hP hD hS hA [0, 1] [2] [1, 2, 0] rfl rfl rfl (by decide) rfl rfl (va_runV (As := [.int p1]) (rest := [.ref (a0 0)]) ⟨hx, hb, hml, hown, hta⟩ (c_X12_isSubpath l dC dI cI H.size a0 v0_2 v0_3 v0_5 v0_12 v0_13 v0_16 v0_17 v0_21 v0_23 v0_24 v0_25 v0_26 v0_29 v0_30 v0_0 p1 u_19 hu_19) (cwV 1 hta (ga_V mA879 mA880 mA881 mA814 mA826) rfl rfl rfl (by decide +kernel) ⟨Nat.le_of_ble_eq_true rfl, Nat.le_of_ble_eq_true rfl⟩) ⟨q_fb, va_recv hK hP (ci := 11) (q0 := 0) rfl rfl, q_ps hPc hK hDc⟩ rfl rfl hl.1 rfl (lv_room (Nat.le_of_ble_eq_true rfl)) dX12_remove_3 ⟨Nat.zero_le _, Nat.zero_le _⟩) (fun hzu_19 H locs hP hD hS => ?_)
  refine lv_if_eq (tgt := 13) hx hb dX12_remove_6 (by decide) (fun c_20 => ?_) (fun c_20 => ?_)
  · have hF := it_t hF c_20
    refine lv_iconst (v := 1) hx hb dX12_remove_13 (by decide) ?_
    exact j14 v0_2 v0_3 v0_0 v0_1 p1 1 hF _ _ _ hP hD hS (lv_sub hl [0, 1] rfl)
  · have hF := it_f hF c_20
    refine lv_iconst (v := 0) hx hb dX12_remove_9 (by decide) ?_
    refine lv_goto (tgt := 14) hx hb dX12_remove_10 (by decide) ?_
    exact j14 v0_2 v0_3 v0_0 v0_1 p1 0 hF _ _ _ hP hD hS (lv_sub hl [0, 1] rfl)

-- StrokeOutlinerModel.reverse(I)I
def F_X12_reverse_j103 (v0_2 : Int32) (v0_3 : Int32) (v0_0 : Nat → Int32) (v0_1 : Nat → Int32) (x2 : Int32) : Option (Int32 × Int32 × Int32 × (Nat → Int32) × (Nat → Int32)) :=
  some (x2, v0_2, v0_3, v0_0, v0_1)
def F_X12_reverse_b34 (x1 : Int32) (x2 : Int32) (s34 : Int32 × (Nat → Int32)) : Option (Sum (Int32 × (Nat → Int32)) ((Nat → Int32))) :=
  if (x2 / 2) ≤ s34.1 then some (.inr s34.2) else obd (F_X12_x s34.2 x1 ((x2 - 1) - s34.1)) (fun u_2 => obd (F_X12_y s34.2 x1 ((x2 - 1) - s34.1)) (fun u_3 => obd (F_X12_x s34.2 x1 s34.1) (fun u_4 => obd (F_X12_y s34.2 x1 s34.1) (fun u_5 => obd (F_X12_puts s34.2 x1 ((x2 - 1) - s34.1) u_4 u_5) (fun u_6 => obd (F_X12_puts u_6 x1 s34.1 u_2 u_3) (fun u_7 => lt (s34.1 + 1) (fun y_8 => some (.inl (y_8, u_7)))))))))
def F_X12_reverse_j34 (n : Nat) (v0_2 : Int32) (v0_3 : Int32) (v0_0 : Nat → Int32) (v0_1 : Nat → Int32) (x1 : Int32) (x2 : Int32) (x3 : Int32) : Option (Int32 × Int32 × Int32 × (Nat → Int32) × (Nat → Int32)) :=
  obd (lpq (F_X12_reverse_b34 x1 x2) n (x3, v0_0)) (fun x_34 => F_X12_reverse_j103 v0_2 v0_3 x_34 v0_1 x2)
def F_X12_reverse_j14 (n : Nat) (v0_2 : Int32) (v0_0 : Nat → Int32) (v0_1 : Nat → Int32) (x1 : Int32) (t1 : Int32) : Option (Int32 × Int32 × Int32 × (Nat → Int32) × (Nat → Int32)) :=
  lt (F_X12_refused t1) (fun u_9 => if u_9.1 = 0 then obd (F_X12_saves n v0_2 v0_0 v0_1) (fun u_11 => obd (F_X12_points v0_0 x1) (fun u_12 => F_X12_reverse_j34 n u_11.1 u_9.2 v0_0 u_11.2 x1 u_12 0)) else some (0, v0_2, u_9.2, v0_0, v0_1))
def F_X12_reverse (n : Nat) (v0_2 : Int32) (v0_0 : Nat → Int32) (v0_1 : Nat → Int32) (p1 : Int32) : Option (Int32 × Int32 × Int32 × (Nat → Int32) × (Nat → Int32)) :=
  obd (F_X12_isSubpath v0_0 p1) (fun u_13 => if u_13 = 0 then F_X12_reverse_j14 n v0_2 v0_0 v0_1 p1 1 else F_X12_reverse_j14 n v0_2 v0_0 v0_1 p1 0)
abbrev wd_X12_reverse (cI : ClassId) (a0 : Nat → Nat) (v0_2 : Int32) (v0_3 : Int32) (v0_5 : Int32) (v0_12 : Int32) (v0_13 : Int32) (v0_16 : Int32) (v0_17 : Int32) (v0_21 : Int32) (v0_23 : Int32) (v0_24 : Int32) (v0_25 : Int32) (v0_26 : Int32) (v0_29 : Int32) (v0_30 : Int64) (v0_0 : Nat → Int32) (v0_1 : Nat → Int32) : va_W := [(a0 0, .inr (11, [.ref (a0 1), .ref (a0 2), .int v0_2, .int v0_3, .ref (a0 5), .int v0_5, .ref (a0 7), .ref (a0 8), .ref (a0 9), .ref (a0 10), .ref (a0 11), .ref (a0 12), .int v0_12, .int v0_13, .ref (a0 15), .ref (a0 16), .int v0_16, .int v0_17, .ref (a0 19), .ref (a0 20), .ref (a0 21), .int v0_21, .ref (a0 23), .int v0_23, .int v0_24, .int v0_25, .int v0_26, .ref (a0 28), .ref (a0 29), .int v0_29, .long v0_30])), (a0 1, .inl (cI, 86, .inl v0_0)), (a0 2, .inl (cI, 344, .inl v0_1))]
abbrev wz_X12_reverse : List Cond := .code yX12_reverse cX12_reverse 6 (some .int) :: wALL
abbrev rm_X12_reverse : Room := { frames := 2, cells := 0, slots := 0, locals := 44 }
abbrev Q_X12_reverse (dC : Nat → ClassId) (dI : Nat → Nat → Nat) (cI : ClassId) (a0 : Nat → Nat) (v0_5 : Int32) (v0_12 : Int32) (v0_13 : Int32) (v0_16 : Int32) (v0_17 : Int32) (v0_21 : Int32) (v0_23 : Int32) (v0_24 : Int32) (v0_25 : Int32) (v0_26 : Int32) (v0_29 : Int32) (v0_30 : Int64) (u : (Int32 × Int32 × Int32 × (Nat → Int32) × (Nat → Int32))) (A : Nat → Prop) : Array Value → State → Outcome → State → Prop := va_Qi (fun (r : Int32) (_ : Unit) => r = u.1) (fun _ => q_at dC dI cI A (wd_X12_reverse cI a0 u.2.1 u.2.2.1 v0_5 v0_12 v0_13 v0_16 v0_17 v0_21 v0_23 v0_24 v0_25 v0_26 v0_29 v0_30 u.2.2.2.1 u.2.2.2.2)) A
set_option maxHeartbeats 4000000 in
set_option maxRecDepth 100000 in
theorem c_X12_reverse (l : Launch) (dC : Nat → ClassId) (dI : Nat → Nat → Nat) (cI : ClassId) (sz : Nat) (a0 : Nat → Nat) (v0_2 : Int32) (v0_3 : Int32) (v0_5 : Int32) (v0_12 : Int32) (v0_13 : Int32) (v0_16 : Int32) (v0_17 : Int32) (v0_21 : Int32) (v0_23 : Int32) (v0_24 : Int32) (v0_25 : Int32) (v0_26 : Int32) (v0_29 : Int32) (v0_30 : Int64) (v0_0 : Nat → Int32) (v0_1 : Nat → Int32) (p1 : Int32) (n : Nat) (u : (Int32 × Int32 × Int32 × (Nat → Int32) × (Nat → Int32))) (hF : F_X12_reverse n v0_2 v0_0 v0_1 p1 = some u) : Met l yX12_reverse wz_X12_reverse rm_X12_reverse (va_Pc [.ref (a0 0), .int p1] (q_pre dC dI cI (wd_X12_reverse cI a0 v0_2 v0_3 v0_5 v0_12 v0_13 v0_16 v0_17 v0_21 v0_23 v0_24 v0_25 v0_26 v0_29 v0_30 v0_0 v0_1) sz)) (Q_X12_reverse dC dI cI a0 v0_5 v0_12 v0_13 v0_16 v0_17 v0_21 v0_23 v0_24 v0_25 v0_26 v0_29 v0_30 u (va_A (wd_X12_reverse cI a0 v0_2 v0_3 v0_5 v0_12 v0_13 v0_16 v0_17 v0_21 v0_23 v0_24 v0_25 v0_26 v0_29 v0_30 v0_0 v0_1) sz)) 0 0 (va_A (wd_X12_reverse cI a0 v0_2 v0_3 v0_5 v0_12 v0_13 v0_16 v0_17 v0_21 v0_23 v0_24 v0_25 v0_26 v0_29 v0_30 v0_0 v0_1) sz) := by
  refine Met.ofW (cc := cX12_reverse) (maxL := 6) (ret := (some .int)) (by decide) rfl ?_
  intro p e s m args below meth c s₁ B hml hv
  obtain ⟨rfl, hsz, hP, hK, hD0⟩ := hv
  have hx := B.exec
  have hb := B.bytes
  have hr := B.returns
  have hts := atoms_spec (ws := wz_X12_reverse) B.pre
  have hta := wz_tl hts
  have hown : s.vm.findClass RX12 = some m.cls := findClass_of_methodNamed B.named
  have hlocks := B.notSynchronized
  subst hsz
  have hD := hD0.self (sz := s.heap.size)
  generalize hAe : va_A (wd_X12_reverse cI a0 v0_2 v0_3 v0_5 v0_12 v0_13 v0_16 v0_17 v0_21 v0_23 v0_24 v0_25 v0_26 v0_29 v0_30 v0_0 v0_1) s.heap.size = A at hD ⊢
  have hA : ∀ q : Nat, s.heap.size ≤ q → A q := fun q h => by rw [← hAe]; exact Or.inr h
  have hS : va_S A s.heap s.heap [] := va_S.rf
  have hP : va_P (dC, dI) vwCl (wd_X12_reverse cI a0 v0_2 v0_3 v0_5 v0_12 v0_13 v0_16 v0_17 v0_21 v0_23 v0_24 v0_25 v0_26 v0_29 v0_30 v0_0 v0_1) s.heap := hP
  have hl := lv_entry ([.ref (a0 0), .int p1]) (n := 6) (Nat.le_of_ble_eq_true rfl)
  rw [lg_entry_eq]
  generalize (lg_sl ([.ref (a0 0), .int p1]) ++ List.replicate (6 - (lg_sl ([.ref (a0 0), .int p1])).length) Slot.unset).toArray = ls at hl ⊢
  have hl : lv_has ls 6 [(0, .ref (a0 0)), (1, .int p1)] := hl
  obtain ⟨H, hHe⟩ : ∃ H, H = s.heap := ⟨_, rfl⟩
  have hS : va_S A s.heap H [] := by rw [hHe]; exact hS
  have hP : va_P (dC, dI) vwCl (wd_X12_reverse cI a0 v0_2 v0_3 v0_5 v0_12 v0_13 v0_16 v0_17 v0_21 v0_23 v0_24 v0_25 v0_26 v0_29 v0_30 v0_0 v0_1) H := by rw [hHe]; exact hP
  rw [← hHe]
  unfold F_X12_reverse at hF
  have j103 : ∀ (v0_2 : Int32) (v0_3 : Int32) (v0_0 : Nat → Int32) (v0_1 : Nat → Int32) (x2 : Int32), F_X12_reverse_j103 v0_2 v0_3 v0_0 v0_1 x2 = some u → ∀ (H : Heap) (locs : List Loc) (ls : Array Slot), va_P (dC, dI) vwCl (wd_X12_reverse cI a0 v0_2 v0_3 v0_5 v0_12 v0_13 v0_16 v0_17 v0_21 v0_23 v0_24 v0_25 v0_26 v0_29 v0_30 v0_0 v0_1) H → va_D A (wd_X12_reverse cI a0 v0_2 v0_3 v0_5 v0_12 v0_13 v0_16 v0_17 v0_21 v0_23 v0_24 v0_25 v0_26 v0_29 v0_30 v0_0 v0_1) → va_S A s.heap H locs → lv_has ls 6 [(2, .int x2)] → W p l e (headSpec wz_X12_reverse rm_X12_reverse).room s m [.ref (a0 0), .int p1].toArray below meth c H locs 0 0 (MQ below (Q_X12_reverse dC dI cI a0 v0_5 v0_12 v0_13 v0_16 v0_17 v0_21 v0_23 v0_24 v0_25 v0_26 v0_29 v0_30 u A) [.ref (a0 0), .int p1].toArray s 0 0 A) (F0 m 103 ls []) := by
    intro v0_2 v0_3 v0_0 v0_1 x2 hF H locs ls hP hD hS hl
    unfold F_X12_reverse_j103 at hF
    refine lv_iload_n hx hb dX12_reverse_103 rfl (lv_at hl 0 rfl) ?_
    obtain rfl := Option.some.inj hF
    exact W.iret (v := x2) hx hb hr (fun t ht hW => ⟨⟨x2, (), rfl, rfl, by rw [ht]; exact hP, va_K.moved hW.alike hK, hD⟩, hS.F ht⟩) hS.2.2 dX12_reverse_104
  have j34 : ∀ (v0_2 : Int32) (v0_3 : Int32) (v0_0 : Nat → Int32) (v0_1 : Nat → Int32) (x1 : Int32) (x2 : Int32) (x3 : Int32), F_X12_reverse_j34 n v0_2 v0_3 v0_0 v0_1 x1 x2 x3 = some u → ∀ (H : Heap) (locs : List Loc) (ls : Array Slot), va_P (dC, dI) vwCl (wd_X12_reverse cI a0 v0_2 v0_3 v0_5 v0_12 v0_13 v0_16 v0_17 v0_21 v0_23 v0_24 v0_25 v0_26 v0_29 v0_30 v0_0 v0_1) H → va_D A (wd_X12_reverse cI a0 v0_2 v0_3 v0_5 v0_12 v0_13 v0_16 v0_17 v0_21 v0_23 v0_24 v0_25 v0_26 v0_29 v0_30 v0_0 v0_1) → va_S A s.heap H locs → lv_has ls 6 [(0, .ref (a0 0)), (1, .int x1), (2, .int x2), (3, .int x3)] → W p l e (headSpec wz_X12_reverse rm_X12_reverse).room s m [.ref (a0 0), .int p1].toArray below meth c H locs 0 0 (MQ below (Q_X12_reverse dC dI cI a0 v0_5 v0_12 v0_13 v0_16 v0_17 v0_21 v0_23 v0_24 v0_25 v0_26 v0_29 v0_30 u A) [.ref (a0 0), .int p1].toArray s 0 0 A) (F0 m 34 ls []) := by
    intro v0_2 v0_3 v0_0 v0_1 x1 x2 x3 hF H locs ls hP hD hS hl
    unfold F_X12_reverse_j34 at hF
    obtain ⟨x_34, hL_34, hE_34⟩ := obd_some hF
    have kl_34 : ∀ (k : Nat) (s34 : Int32 × (Nat → Int32)), lpq (F_X12_reverse_b34 x1 x2) k s34 = some x_34 → ∀ (H : Heap) (locs : List Loc) (ls : Array Slot), va_P (dC, dI) vwCl (wd_X12_reverse cI a0 v0_2 v0_3 v0_5 v0_12 v0_13 v0_16 v0_17 v0_21 v0_23 v0_24 v0_25 v0_26 v0_29 v0_30 s34.2 v0_1) H → va_D A (wd_X12_reverse cI a0 v0_2 v0_3 v0_5 v0_12 v0_13 v0_16 v0_17 v0_21 v0_23 v0_24 v0_25 v0_26 v0_29 v0_30 s34.2 v0_1) → va_S A s.heap H locs → lv_has ls 6 [(0, .ref (a0 0)), (1, .int x1), (2, .int x2), (3, .int s34.1)] → W p l e (headSpec wz_X12_reverse rm_X12_reverse).room s m [.ref (a0 0), .int p1].toArray below meth c H locs 0 0 (MQ below (Q_X12_reverse dC dI cI a0 v0_5 v0_12 v0_13 v0_16 v0_17 v0_21 v0_23 v0_24 v0_25 v0_26 v0_29 v0_30 u A) [.ref (a0 0), .int p1].toArray s 0 0 A) (F0 m 34 ls []) := by
      intro k
      induction k with
      | zero => intro s34 h; exact absurd h lpq_zero
      | succ k ih_34 =>
        intro s34 h H locs ls hP hD hS hl
        obtain ⟨o_34, hF, hO_34⟩ := lpq_succ h
        unfold F_X12_reverse_b34 at hF
        refine lv_iload_n hx hb dX12_reverse_34 rfl (lv_at hl 3 rfl) ?_
        refine lv_iload_n hx hb dX12_reverse_35 rfl (lv_at hl 2 rfl) ?_
        refine lv_iconst (v := 2) hx hb dX12_reverse_36 (by decide) ?_
        refine lv_idiv hx hb dX12_reverse_37 (by decide) ?_
        refine lv_icmp_ge (tgt := 103) hx hb dX12_reverse_38 (by decide) (fun c_1 => ?_) (fun c_1 => ?_)
        · have hF := it_t hF c_1
          obtain rfl := Option.some.inj hF
          obtain rfl := lpq_x hO_34
          have hF := hE_34
          exact j103 v0_2 v0_3 s34.2 v0_1 x2 hF _ _ _ hP hD hS (lv_sub hl [2] rfl)
        · have hF := it_f hF c_1
          refine lv_aload_n hx hb dX12_reverse_41 rfl (lv_at hl 0 rfl) ?_
          refine lv_iload_n hx hb dX12_reverse_42 rfl (lv_at hl 1 rfl) ?_
          refine lv_iload_n hx hb dX12_reverse_43 rfl (lv_at hl 2 rfl) ?_
          refine lv_iconst (v := 1) hx hb dX12_reverse_44 (by decide) ?_
          refine lv_isub hx hb dX12_reverse_45 ?_
          refine lv_iload_n hx hb dX12_reverse_46 rfl (lv_at hl 3 rfl) ?_
          refine lv_isub hx hb dX12_reverse_47 ?_
          obtain ⟨u_2, hu_2, hF⟩ := obd_some hF
          have hPc := hP.sub (ws' := (wd_X12_x cI a0 v0_2 v0_3 v0_5 v0_12 v0_13 v0_16 v0_17 v0_21 v0_23 v0_24 v0_25 v0_26 v0_29 v0_30 s34.2)) [0, 1] rfl
          have hDc := hD.sub (ws' := (wd_X12_x cI a0 v0_2 v0_3 v0_5 v0_12 v0_13 v0_16 v0_17 v0_21 v0_23 v0_24 v0_25 v0_26 v0_29 v0_30 s34.2)) [0, 1] rfl rfl
          refine q_calli (wc := (wd_X12_x cI a0 v0_2 v0_3 v0_5 v0_12 v0_13 v0_16 v0_17 v0_21 v0_23 v0_24 v0_25 v0_26 v0_29 v0_30 s34.2)) (w1 := (wd_X12_x cI a0 v0_2 v0_3 v0_5 v0_12 v0_13 v0_16 v0_17 v0_21 v0_23 v0_24 v0_25 v0_26 v0_29 v0_30 s34.2)) (ws' := (wd_X12_reverse cI a0 v0_2 v0_3 v0_5 v0_12 v0_13 v0_16 v0_17 v0_21 v0_23 v0_24 v0_25 v0_26 v0_29 v0_30 s34.2 v0_1)) hP hD hS hA [0, 1] [2] [1, 2, 0] rfl rfl rfl (by decide) rfl rfl (va_runV (As := [.int x1, .int ((x2 - 1) - s34.1)]) (rest := []) ⟨hx, hb, hml, hown, hta⟩ (c_X12_x l dC dI cI H.size a0 v0_2 v0_3 v0_5 v0_12 v0_13 v0_16 v0_17 v0_21 v0_23 v0_24 v0_25 v0_26 v0_29 v0_30 s34.2 x1 ((x2 - 1) - s34.1) u_2 hu_2) (cwV 2 hta (ga_V mA870 mA871 mA872 mA814 mA831) rfl rfl rfl (by decide +kernel) ⟨Nat.le_of_ble_eq_true rfl, Nat.le_of_ble_eq_true rfl⟩) ⟨q_fb, va_recv hK hP (ci := 11) (q0 := 0) rfl rfl, q_ps hPc hK hDc⟩ rfl rfl hl.1 rfl (lv_room (Nat.le_of_ble_eq_true rfl)) dX12_reverse_48 ⟨Nat.zero_le _, Nat.zero_le _⟩) (fun H locs hP hD hS => ?_)
          refine lv_istore (lv' := [(4, .int u_2), (0, .ref (a0 0)), (1, .int x1), (2, .int x2), (3, .int s34.1)]) hx hb dX12_reverse_51 hl (by decide) rfl (fun ls hl => ?_)
          refine lv_aload_n hx hb dX12_reverse_53 rfl (lv_at hl 1 rfl) ?_
          refine lv_iload_n hx hb dX12_reverse_54 rfl (lv_at hl 2 rfl) ?_
          refine lv_iload_n hx hb dX12_reverse_55 rfl (lv_at hl 3 rfl) ?_
          refine lv_iconst (v := 1) hx hb dX12_reverse_56 (by decide) ?_
          refine lv_isub hx hb dX12_reverse_57 ?_
          refine lv_iload_n hx hb dX12_reverse_58 rfl (lv_at hl 4 rfl) ?_
          refine lv_isub hx hb dX12_reverse_59 ?_
          obtain ⟨u_3, hu_3, hF⟩ := obd_some hF
          have hPc := hP.sub (ws' := (wd_X12_y cI a0 v0_2 v0_3 v0_5 v0_12 v0_13 v0_16 v0_17 v0_21 v0_23 v0_24 v0_25 v0_26 v0_29 v0_30 s34.2)) [0, 1] rfl
          have hDc := hD.sub (ws' := (wd_X12_y cI a0 v0_2 v0_3 v0_5 v0_12 v0_13 v0_16 v0_17 v0_21 v0_23 v0_24 v0_25 v0_26 v0_29 v0_30 s34.2)) [0, 1] rfl rfl
          refine q_calli (wc := (wd_X12_y cI a0 v0_2 v0_3 v0_5 v0_12 v0_13 v0_16 v0_17 v0_21 v0_23 v0_24 v0_25 v0_26 v0_29 v0_30 s34.2)) (w1 := (wd_X12_y cI a0 v0_2 v0_3 v0_5 v0_12 v0_13 v0_16 v0_17 v0_21 v0_23 v0_24 v0_25 v0_26 v0_29 v0_30 s34.2)) (ws' := (wd_X12_reverse cI a0 v0_2 v0_3 v0_5 v0_12 v0_13 v0_16 v0_17 v0_21 v0_23 v0_24 v0_25 v0_26 v0_29 v0_30 s34.2 v0_1)) hP hD hS hA [0, 1] [2] [1, 2, 0] rfl rfl rfl (by decide) rfl rfl (va_runV (As := [.int x1, .int ((x2 - 1) - s34.1)]) (rest := []) ⟨hx, hb, hml, hown, hta⟩ (c_X12_y l dC dI cI H.size a0 v0_2 v0_3 v0_5 v0_12 v0_13 v0_16 v0_17 v0_21 v0_23 v0_24 v0_25 v0_26 v0_29 v0_30 s34.2 x1 ((x2 - 1) - s34.1) u_3 hu_3) (cwV 2 hta (ga_V mA873 mA874 mA875 mA814 mA832) rfl rfl rfl (by decide +kernel) ⟨Nat.le_of_ble_eq_true rfl, Nat.le_of_ble_eq_true rfl⟩) ⟨q_fb, va_recv hK hP (ci := 11) (q0 := 0) rfl rfl, q_ps hPc hK hDc⟩ rfl rfl hl.1 rfl (lv_room (Nat.le_of_ble_eq_true rfl)) dX12_reverse_60 ⟨Nat.zero_le _, Nat.zero_le _⟩) (fun H locs hP hD hS => ?_)
          refine lv_istore (lv' := [(5, .int u_3), (4, .int u_2), (0, .ref (a0 0)), (1, .int x1), (2, .int x2), (3, .int s34.1)]) hx hb dX12_reverse_63 hl (by decide) rfl (fun ls hl => ?_)
          refine lv_aload_n hx hb dX12_reverse_65 rfl (lv_at hl 2 rfl) ?_
          refine lv_iload_n hx hb dX12_reverse_66 rfl (lv_at hl 3 rfl) ?_
          refine lv_iload_n hx hb dX12_reverse_67 rfl (lv_at hl 4 rfl) ?_
          refine lv_iconst (v := 1) hx hb dX12_reverse_68 (by decide) ?_
          refine lv_isub hx hb dX12_reverse_69 ?_
          refine lv_iload_n hx hb dX12_reverse_70 rfl (lv_at hl 5 rfl) ?_
          refine lv_isub hx hb dX12_reverse_71 ?_
          refine lv_aload_n hx hb dX12_reverse_72 rfl (lv_at hl 2 rfl) ?_
          refine lv_iload_n hx hb dX12_reverse_73 rfl (lv_at hl 3 rfl) ?_
          refine lv_iload_n hx hb dX12_reverse_74 rfl (lv_at hl 5 rfl) ?_
          obtain ⟨u_4, hu_4, hF⟩ := obd_some hF
          have hPc := hP.sub (ws' := (wd_X12_x cI a0 v0_2 v0_3 v0_5 v0_12 v0_13 v0_16 v0_17 v0_21 v0_23 v0_24 v0_25 v0_26 v0_29 v0_30 s34.2)) [0, 1] rfl
          have hDc := hD.sub (ws' := (wd_X12_x cI a0 v0_2 v0_3 v0_5 v0_12 v0_13 v0_16 v0_17 v0_21 v0_23 v0_24 v0_25 v0_26 v0_29 v0_30 s34.2)) [0, 1] rfl rfl
          refine q_calli (wc := (wd_X12_x cI a0 v0_2 v0_3 v0_5 v0_12 v0_13 v0_16 v0_17 v0_21 v0_23 v0_24 v0_25 v0_26 v0_29 v0_30 s34.2)) (w1 := (wd_X12_x cI a0 v0_2 v0_3 v0_5 v0_12 v0_13 v0_16 v0_17 v0_21 v0_23 v0_24 v0_25 v0_26 v0_29 v0_30 s34.2)) (ws' := (wd_X12_reverse cI a0 v0_2 v0_3 v0_5 v0_12 v0_13 v0_16 v0_17 v0_21 v0_23 v0_24 v0_25 v0_26 v0_29 v0_30 s34.2 v0_1)) hP hD hS hA [0, 1] [2] [1, 2, 0] rfl rfl rfl (by decide) rfl rfl (va_runV (As := [.int x1, .int s34.1]) (rest := [.int ((x2 - 1) - s34.1), .int x1, .ref (a0 0)]) ⟨hx, hb, hml, hown, hta⟩ (c_X12_x l dC dI cI H.size a0 v0_2 v0_3 v0_5 v0_12 v0_13 v0_16 v0_17 v0_21 v0_23 v0_24 v0_25 v0_26 v0_29 v0_30 s34.2 x1 s34.1 u_4 hu_4) (cwV 2 hta (ga_V mA870 mA871 mA872 mA814 mA831) rfl rfl rfl (by decide +kernel) ⟨Nat.le_of_ble_eq_true rfl, Nat.le_of_ble_eq_true rfl⟩) ⟨q_fb, va_recv hK hP (ci := 11) (q0 := 0) rfl rfl, q_ps hPc hK hDc⟩ rfl rfl hl.1 rfl (lv_room (Nat.le_of_ble_eq_true rfl)) dX12_reverse_75 ⟨Nat.zero_le _, Nat.zero_le _⟩) (fun H locs hP hD hS => ?_)
          refine lv_aload_n hx hb dX12_reverse_78 rfl (lv_at hl 2 rfl) ?_
          refine lv_iload_n hx hb dX12_reverse_79 rfl (lv_at hl 3 rfl) ?_
          refine lv_iload_n hx hb dX12_reverse_80 rfl (lv_at hl 5 rfl) ?_
          obtain ⟨u_5, hu_5, hF⟩ := obd_some hF
          have hPc := hP.sub (ws' := (wd_X12_y cI a0 v0_2 v0_3 v0_5 v0_12 v0_13 v0_16 v0_17 v0_21 v0_23 v0_24 v0_25 v0_26 v0_29 v0_30 s34.2)) [0, 1] rfl
          have hDc := hD.sub (ws' := (wd_X12_y cI a0 v0_2 v0_3 v0_5 v0_12 v0_13 v0_16 v0_17 v0_21 v0_23 v0_24 v0_25 v0_26 v0_29 v0_30 s34.2)) [0, 1] rfl rfl
          refine q_calli (wc := (wd_X12_y cI a0 v0_2 v0_3 v0_5 v0_12 v0_13 v0_16 v0_17 v0_21 v0_23 v0_24 v0_25 v0_26 v0_29 v0_30 s34.2)) (w1 := (wd_X12_y cI a0 v0_2 v0_3 v0_5 v0_12 v0_13 v0_16 v0_17 v0_21 v0_23 v0_24 v0_25 v0_26 v0_29 v0_30 s34.2)) (ws' := (wd_X12_reverse cI a0 v0_2 v0_3 v0_5 v0_12 v0_13 v0_16 v0_17 v0_21 v0_23 v0_24 v0_25 v0_26 v0_29 v0_30 s34.2 v0_1)) hP hD hS hA [0, 1] [2] [1, 2, 0] rfl rfl rfl (by decide) rfl rfl (va_runV (As := [.int x1, .int s34.1]) (rest := [.int u_4, .int ((x2 - 1) - s34.1), .int x1, .ref (a0 0)]) ⟨hx, hb, hml, hown, hta⟩ (c_X12_y l dC dI cI H.size a0 v0_2 v0_3 v0_5 v0_12 v0_13 v0_16 v0_17 v0_21 v0_23 v0_24 v0_25 v0_26 v0_29 v0_30 s34.2 x1 s34.1 u_5 hu_5) (cwV 2 hta (ga_V mA873 mA874 mA875 mA814 mA832) rfl rfl rfl (by decide +kernel) ⟨Nat.le_of_ble_eq_true rfl, Nat.le_of_ble_eq_true rfl⟩) ⟨q_fb, va_recv hK hP (ci := 11) (q0 := 0) rfl rfl, q_ps hPc hK hDc⟩ rfl rfl hl.1 rfl (lv_room (Nat.le_of_ble_eq_true rfl)) dX12_reverse_81 ⟨Nat.zero_le _, Nat.zero_le _⟩) (fun H locs hP hD hS => ?_)
          obtain ⟨u_6, hu_6, hF⟩ := obd_some hF
          have hPc := hP.sub (ws' := (wd_X12_puts cI a0 v0_2 v0_3 v0_5 v0_12 v0_13 v0_16 v0_17 v0_21 v0_23 v0_24 v0_25 v0_26 v0_29 v0_30 s34.2)) [0, 1] rfl
          have hDc := hD.sub (ws' := (wd_X12_puts cI a0 v0_2 v0_3 v0_5 v0_12 v0_13 v0_16 v0_17 v0_21 v0_23 v0_24 v0_25 v0_26 v0_29 v0_30 s34.2)) [0, 1] rfl rfl
          refine q_callv (wc := (wd_X12_puts cI a0 v0_2 v0_3 v0_5 v0_12 v0_13 v0_16 v0_17 v0_21 v0_23 v0_24 v0_25 v0_26 v0_29 v0_30 s34.2)) (w1 := (wd_X12_puts cI a0 v0_2 v0_3 v0_5 v0_12 v0_13 v0_16 v0_17 v0_21 v0_23 v0_24 v0_25 v0_26 v0_29 v0_30 u_6)) (ws' := (wd_X12_reverse cI a0 v0_2 v0_3 v0_5 v0_12 v0_13 v0_16 v0_17 v0_21 v0_23 v0_24 v0_25 v0_26 v0_29 v0_30 u_6 v0_1)) hP hD hS hA [0, 1] [2] [1, 2, 0] rfl rfl rfl (by decide) rfl rfl (va_runV (As := [.int x1, .int ((x2 - 1) - s34.1), .int u_4, .int u_5]) (rest := []) ⟨hx, hb, hml, hown, hta⟩ (c_X12_puts l dC dI cI H.size a0 v0_2 v0_3 v0_5 v0_12 v0_13 v0_16 v0_17 v0_21 v0_23 v0_24 v0_25 v0_26 v0_29 v0_30 s34.2 x1 ((x2 - 1) - s34.1) u_4 u_5 u_6 hu_6) (cwV 4 hta (ga_V mA835 mA836 mA837 mA814 mA833) rfl rfl rfl (by decide +kernel) ⟨Nat.le_of_ble_eq_true rfl, Nat.le_of_ble_eq_true rfl⟩) ⟨q_fb, va_recv hK hP (ci := 11) (q0 := 0) rfl rfl, q_ps hPc hK hDc⟩ rfl rfl hl.1 rfl (lv_room (Nat.le_of_ble_eq_true rfl)) dX12_reverse_84 ⟨Nat.zero_le _, Nat.zero_le _⟩) (fun H locs hP hD hS => ?_)
          refine lv_aload_n hx hb dX12_reverse_87 rfl (lv_at hl 2 rfl) ?_
          refine lv_iload_n hx hb dX12_reverse_88 rfl (lv_at hl 3 rfl) ?_
          refine lv_iload_n hx hb dX12_reverse_89 rfl (lv_at hl 5 rfl) ?_
          refine lv_iload hx hb dX12_reverse_90 (lv_at hl 1 rfl) ?_
          refine lv_iload hx hb dX12_reverse_92 (lv_at hl 0 rfl) ?_
          obtain ⟨u_7, hu_7, hF⟩ := obd_some hF
          have hPc := hP.sub (ws' := (wd_X12_puts cI a0 v0_2 v0_3 v0_5 v0_12 v0_13 v0_16 v0_17 v0_21 v0_23 v0_24 v0_25 v0_26 v0_29 v0_30 u_6)) [0, 1] rfl
          have hDc := hD.sub (ws' := (wd_X12_puts cI a0 v0_2 v0_3 v0_5 v0_12 v0_13 v0_16 v0_17 v0_21 v0_23 v0_24 v0_25 v0_26 v0_29 v0_30 u_6)) [0, 1] rfl rfl
          refine q_callv (wc := (wd_X12_puts cI a0 v0_2 v0_3 v0_5 v0_12 v0_13 v0_16 v0_17 v0_21 v0_23 v0_24 v0_25 v0_26 v0_29 v0_30 u_6)) (w1 := (wd_X12_puts cI a0 v0_2 v0_3 v0_5 v0_12 v0_13 v0_16 v0_17 v0_21 v0_23 v0_24 v0_25 v0_26 v0_29 v0_30 u_7)) (ws' := (wd_X12_reverse cI a0 v0_2 v0_3 v0_5 v0_12 v0_13 v0_16 v0_17 v0_21 v0_23 v0_24 v0_25 v0_26 v0_29 v0_30 u_7 v0_1)) hP hD hS hA [0, 1] [2] [1, 2, 0] rfl rfl rfl (by decide) rfl rfl (va_runV (As := [.int x1, .int s34.1, .int u_2, .int u_3]) (rest := []) ⟨hx, hb, hml, hown, hta⟩ (c_X12_puts l dC dI cI H.size a0 v0_2 v0_3 v0_5 v0_12 v0_13 v0_16 v0_17 v0_21 v0_23 v0_24 v0_25 v0_26 v0_29 v0_30 u_6 x1 s34.1 u_2 u_3 u_7 hu_7) (cwV 4 hta (ga_V mA835 mA836 mA837 mA814 mA833) rfl rfl rfl (by decide +kernel) ⟨Nat.le_of_ble_eq_true rfl, Nat.le_of_ble_eq_true rfl⟩) ⟨q_fb, va_recv hK hP (ci := 11) (q0 := 0) rfl rfl, q_ps hPc hK hDc⟩ rfl rfl hl.1 rfl (lv_room (Nat.le_of_ble_eq_true rfl)) dX12_reverse_94 ⟨Nat.zero_le _, Nat.zero_le _⟩) (fun H locs hP hD hS => ?_)
          obtain ⟨y_8, ey_8, hF⟩ := lt_some hF
          refine lv_iinc (v := y_8) (lv' := [(3, .int y_8), (5, .int u_3), (4, .int u_2), (0, .ref (a0 0)), (1, .int x1), (2, .int x2)]) hx hb dX12_reverse_97 hl (k := 5) rfl (by rw [ey_8]; rfl) (by decide) rfl (fun ls hl => ?_)
          refine lv_goto (tgt := 34) hx hb dX12_reverse_100 (by decide) ?_
          obtain rfl := Option.some.inj hF
          exact ih_34 _ hO_34 _ _ _ hP hD hS (lv_sub hl [3, 4, 5, 0] rfl)
    exact kl_34 n _ hL_34 _ _ _ hP hD hS hl
  have j14 : ∀ (v0_2 : Int32) (v0_3 : Int32) (v0_0 : Nat → Int32) (v0_1 : Nat → Int32) (x1 : Int32) (t1 : Int32), F_X12_reverse_j14 n v0_2 v0_0 v0_1 x1 t1 = some u → ∀ (H : Heap) (locs : List Loc) (ls : Array Slot), va_P (dC, dI) vwCl (wd_X12_reverse cI a0 v0_2 v0_3 v0_5 v0_12 v0_13 v0_16 v0_17 v0_21 v0_23 v0_24 v0_25 v0_26 v0_29 v0_30 v0_0 v0_1) H → va_D A (wd_X12_reverse cI a0 v0_2 v0_3 v0_5 v0_12 v0_13 v0_16 v0_17 v0_21 v0_23 v0_24 v0_25 v0_26 v0_29 v0_30 v0_0 v0_1) → va_S A s.heap H locs → lv_has ls 6 [(0, .ref (a0 0)), (1, .int x1)] → W p l e (headSpec wz_X12_reverse rm_X12_reverse).room s m [.ref (a0 0), .int p1].toArray below meth c H locs 0 0 (MQ below (Q_X12_reverse dC dI cI a0 v0_5 v0_12 v0_13 v0_16 v0_17 v0_21 v0_23 v0_24 v0_25 v0_26 v0_29 v0_30 u A) [.ref (a0 0), .int p1].toArray s 0 0 A) (F0 m 14 ls [.int t1, .ref (a0 0)]) := by
    intro v0_2 v0_3 v0_0 v0_1 x1 t1 hF H locs ls hP hD hS hl
    unfold F_X12_reverse_j14 at hF
    obtain ⟨u_9, hu_9, hF⟩ := lt_some hF
    have hPc := hP.sub (ws' := (wd_X12_refused cI a0 v0_2 v0_3 v0_5 v0_12 v0_13 v0_16 v0_17 v0_21 v0_23 v0_24 v0_25 v0_26 v0_29 v0_30)) [0] rfl
    have hDc := hD.sub (ws' := (wd_X12_refused cI a0 v0_2 v0_3 v0_5 v0_12 v0_13 v0_16 v0_17 v0_21 v0_23 v0_24 v0_25 v0_26 v0_29 v0_30)) [0] rfl rfl
    refine q_callz (wc := (wd_X12_refused cI a0 v0_2 v0_3 v0_5 v0_12 v0_13 v0_16 v0_17 v0_21 v0_23 v0_24 v0_25 v0_26 v0_29 v0_30)) (w1 := (wd_X12_refused cI a0 v0_2 u_9.2 v0_5 v0_12 v0_13 v0_16 v0_17 v0_21 v0_23 v0_24 v0_25 v0_26 v0_29 v0_30)) (ws' := (wd_X12_reverse cI a0 v0_2 u_9.2 v0_5 v0_12 v0_13 v0_16 v0_17 v0_21 v0_23 v0_24 v0_25 v0_26 v0_29 v0_30 v0_0 v0_1)) hP hD hS hA [0] [1, 2] [2, 0, 1] rfl rfl rfl (by decide) rfl rfl (va_runV (As := [.int t1]) (rest := []) ⟨hx, hb, hml, hown, hta⟩ (c_X12_refused l dC dI cI H.size a0 v0_2 v0_3 v0_5 v0_12 v0_13 v0_16 v0_17 v0_21 v0_23 v0_24 v0_25 v0_26 v0_29 v0_30 t1 u_9 hu_9.symm) (cwV 1 hta (ga_V mA822 mA823 mA824 mA814 mA809) rfl rfl rfl (by decide +kernel) ⟨Nat.le_of_ble_eq_true rfl, Nat.le_of_ble_eq_true rfl⟩) ⟨q_fb, va_recv hK hP (ci := 11) (q0 := 0) rfl rfl, q_ps hPc hK hDc⟩ rfl rfl hl.1 rfl (lv_room (Nat.le_of_ble_eq_true rfl)) dX12_reverse_14 ⟨Nat.zero_le _, Nat.zero_le _⟩) (fun hzu_9 H locs hP hD hS => ?_)
    refine lv_if_eq (tgt := 22) hx hb dX12_reverse_17 (by decide) (fun c_10 => ?_) (fun c_10 => ?_)
    · have hF := it_t hF c_10
      refine lv_aload_n hx hb dX12_reverse_22 rfl (lv_at hl 0 rfl) ?_
      obtain ⟨u_11, hu_11, hF⟩ := obd_some hF
      have hPc := hP.sub (ws' := (wd_X12_saves cI a0 v0_2 u_9.2 v0_5 v0_12 v0_13 v0_16 v0_17 v0_21 v0_23 v0_24 v0_25 v0_26 v0_29 v0_30 v0_0 v0_1)) [0, 1, 2] rfl
      have hDc := hD.sub (ws' := (wd_X12_saves cI a0 v0_2 u_9.2 v0_5 v0_12 v0_13 v0_16 v0_17 v0_21 v0_23 v0_24 v0_25 v0_26 v0_29 v0_30 v0_0 v0_1)) [0, 1, 2] rfl rfl
      refine q_callv (wc := (wd_X12_saves cI a0 v0_2 u_9.2 v0_5 v0_12 v0_13 v0_16 v0_17 v0_21 v0_23 v0_24 v0_25 v0_26 v0_29 v0_30 v0_0 v0_1)) (w1 := (wd_X12_saves cI a0 u_11.1 u_9.2 v0_5 v0_12 v0_13 v0_16 v0_17 v0_21 v0_23 v0_24 v0_25 v0_26 v0_29 v0_30 v0_0 u_11.2)) (ws' := (wd_X12_reverse cI a0 u_11.1 u_9.2 v0_5 v0_12 v0_13 v0_16 v0_17 v0_21 v0_23 v0_24 v0_25 v0_26 v0_29 v0_30 v0_0 u_11.2)) hP hD hS hA [0, 1, 2] [] [0, 1, 2] rfl rfl rfl (by decide) rfl rfl (va_runV (As := []) (rest := []) ⟨hx, hb, hml, hown, hta⟩ (c_X12_saves l dC dI cI H.size a0 v0_2 u_9.2 v0_5 v0_12 v0_13 v0_16 v0_17 v0_21 v0_23 v0_24 v0_25 v0_26 v0_29 v0_30 v0_0 v0_1 n u_11 hu_11) (cwV 0 hta (ga_V mA845 mA846 mA847 mA814 mA819) rfl rfl rfl (by decide +kernel) ⟨Nat.le_of_ble_eq_true rfl, Nat.le_of_ble_eq_true rfl⟩) ⟨q_fb, va_recv hK hP (ci := 11) (q0 := 0) rfl rfl, q_ps hPc hK hDc⟩ rfl rfl hl.1 rfl (lv_room (Nat.le_of_ble_eq_true rfl)) dX12_reverse_23 ⟨Nat.zero_le _, Nat.zero_le _⟩) (fun H locs hP hD hS => ?_)
      refine lv_aload_n hx hb dX12_reverse_26 rfl (lv_at hl 0 rfl) ?_
      refine lv_iload_n hx hb dX12_reverse_27 rfl (lv_at hl 1 rfl) ?_
      obtain ⟨u_12, hu_12, hF⟩ := obd_some hF
      have hPc := hP.sub (ws' := (wd_X12_points cI a0 u_11.1 u_9.2 v0_5 v0_12 v0_13 v0_16 v0_17 v0_21 v0_23 v0_24 v0_25 v0_26 v0_29 v0_30 v0_0)) [0, 1] rfl
      have hDc := hD.sub (ws' := (wd_X12_points cI a0 u_11.1 u_9.2 v0_5 v0_12 v0_13 v0_16 v0_17 v0_21 v0_23 v0_24 v0_25 v0_26 v0_29 v0_30 v0_0)) [0, 1] rfl rfl
      refine q_calli (wc := (wd_X12_points cI a0 u_11.1 u_9.2 v0_5 v0_12 v0_13 v0_16 v0_17 v0_21 v0_23 v0_24 v0_25 v0_26 v0_29 v0_30 v0_0)) (w1 := (wd_X12_points cI a0 u_11.1 u_9.2 v0_5 v0_12 v0_13 v0_16 v0_17 v0_21 v0_23 v0_24 v0_25 v0_26 v0_29 v0_30 v0_0)) (ws' := (wd_X12_reverse cI a0 u_11.1 u_9.2 v0_5 v0_12 v0_13 v0_16 v0_17 v0_21 v0_23 v0_24 v0_25 v0_26 v0_29 v0_30 v0_0 u_11.2)) hP hD hS hA [0, 1] [2] [1, 2, 0] rfl rfl rfl (by decide) rfl rfl (va_runV (As := [.int x1]) (rest := []) ⟨hx, hb, hml, hown, hta⟩ (c_X12_points l dC dI cI H.size a0 u_11.1 u_9.2 v0_5 v0_12 v0_13 v0_16 v0_17 v0_21 v0_23 v0_24 v0_25 v0_26 v0_29 v0_30 v0_0 x1 u_12 hu_12) (cwV 1 hta (ga_V mA839 mA840 mA841 mA814 mA827) rfl rfl rfl (by decide +kernel) ⟨Nat.le_of_ble_eq_true rfl, Nat.le_of_ble_eq_true rfl⟩) ⟨q_fb, va_recv hK hP (ci := 11) (q0 := 0) rfl rfl, q_ps hPc hK hDc⟩ rfl rfl hl.1 rfl (lv_room (Nat.le_of_ble_eq_true rfl)) dX12_reverse_28 ⟨Nat.zero_le _, Nat.zero_le _⟩) (fun H locs hP hD hS => ?_)
      refine lv_istore_n (lv' := [(2, .int u_12), (0, .ref (a0 0)), (1, .int x1)]) hx hb dX12_reverse_31 rfl hl (by decide) rfl (fun ls hl => ?_)
      refine lv_iconst (v := 0) hx hb dX12_reverse_32 (by decide) ?_
      refine lv_istore_n (lv' := [(3, .int 0), (2, .int u_12), (0, .ref (a0 0)), (1, .int x1)]) hx hb dX12_reverse_33 rfl hl (by decide) rfl (fun ls hl => ?_)
      exact j34 u_11.1 u_9.2 v0_0 u_11.2 x1 u_12 0 hF _ _ _ hP hD hS (lv_sub hl [2, 3, 1, 0] rfl)
    · have hF := it_f hF c_10
      refine lv_iconst (v := 0) hx hb dX12_reverse_20 (by decide) ?_
      obtain rfl := Option.some.inj hF
      exact W.iret (v := 0) hx hb hr (fun t ht hW => ⟨⟨0, (), rfl, rfl, by rw [ht]; exact hP, va_K.moved hW.alike hK, hD⟩, hS.F ht⟩) hS.2.2 dX12_reverse_21
  refine lv_aload_n hx hb dX12_reverse_0 rfl (lv_at hl 0 rfl) ?_
  refine lv_aload_n hx hb dX12_reverse_1 rfl (lv_at hl 0 rfl) ?_
  refine lv_iload_n hx hb dX12_reverse_2 rfl (lv_at hl 1 rfl) ?_
  obtain ⟨u_13, hu_13, hF⟩ := obd_some hF
  have hPc := hP.sub (ws' := (wd_X12_isSubpath cI a0 v0_2 v0_3 v0_5 v0_12 v0_13 v0_16 v0_17 v0_21 v0_23 v0_24 v0_25 v0_26 v0_29 v0_30 v0_0)) [0, 1] rfl
  have hDc := hD.sub (ws' := (wd_X12_isSubpath cI a0 v0_2 v0_3 v0_5 v0_12 v0_13 v0_16 v0_17 v0_21 v0_23 v0_24 v0_25 v0_26 v0_29 v0_30 v0_0)) [0, 1] rfl rfl
  refine q_callz (wc := (wd_X12_isSubpath cI a0 v0_2 v0_3 v0_5 v0_12 v0_13 v0_16 v0_17 v0_21 v0_23 v0_24 v0_25 v0_26 v0_29 v0_30 v0_0)) (w1 := (wd_X12_isSubpath cI a0 v0_2 v0_3 v0_5 v0_12 v0_13 v0_16 v0_17 v0_21 v0_23 v0_24 v0_25 v0_26 v0_29 v0_30 v0_0)) (ws' := (wd_X12_reverse cI a0 v0_2 v0_3 v0_5 v0_12 v0_13 v0_16 v0_17 v0_21 v0_23 v0_24 v0_25 v0_26 v0_29 v0_30 v0_0 v0_1)) hP hD hS hA [0, 1] [2] [1, 2, 0] rfl rfl rfl (by decide) rfl rfl (va_runV (As := [.int p1]) (rest := [.ref (a0 0)]) ⟨hx, hb, hml, hown, hta⟩ (c_X12_isSubpath l dC dI cI H.size a0 v0_2 v0_3 v0_5 v0_12 v0_13 v0_16 v0_17 v0_21 v0_23 v0_24 v0_25 v0_26 v0_29 v0_30 v0_0 p1 u_13 hu_13) (cwV 1 hta (ga_V mA879 mA880 mA881 mA814 mA826) rfl rfl rfl (by decide +kernel) ⟨Nat.le_of_ble_eq_true rfl, Nat.le_of_ble_eq_true rfl⟩) ⟨q_fb, va_recv hK hP (ci := 11) (q0 := 0) rfl rfl, q_ps hPc hK hDc⟩ rfl rfl hl.1 rfl (lv_room (Nat.le_of_ble_eq_true rfl)) dX12_reverse_3 ⟨Nat.zero_le _, Nat.zero_le _⟩) (fun hzu_13 H locs hP hD hS => ?_)
  refine lv_if_eq (tgt := 13) hx hb dX12_reverse_6 (by decide) (fun c_14 => ?_) (fun c_14 => ?_)
  · have hF := it_t hF c_14
    refine lv_iconst (v := 1) hx hb dX12_reverse_13 (by decide) ?_
    exact j14 v0_2 v0_3 v0_0 v0_1 p1 1 hF _ _ _ hP hD hS (lv_sub hl [0, 1] rfl)
  · have hF := it_f hF c_14
    refine lv_iconst (v := 0) hx hb dX12_reverse_9 (by decide) ?_
    refine lv_goto (tgt := 14) hx hb dX12_reverse_10 (by decide) ?_
    exact j14 v0_2 v0_3 v0_0 v0_1 p1 0 hF _ _ _ hP hD hS (lv_sub hl [0, 1] rfl)

-- StrokeOutlinerModel.isBetween(III)Z
def F_X12_isBetween (p0 : Int32) (p1 : Int32) (p2 : Int32) : (Int32) :=
  if p2 ≤ p0 then lt (F_X12_within p1 p2 p0) (fun u_2 => u_2) else lt (F_X12_within p1 p0 p2) (fun u_3 => u_3)
abbrev wz_X12_isBetween : List Cond := .code yX12_isBetween cX12_isBetween 3 (some .boolean) :: wALL
abbrev rm_X12_isBetween : Room := { frames := 1, cells := 0, slots := 0, locals := 22 }
abbrev Q_X12_isBetween (dC : Nat → ClassId) (dI : Nat → Nat → Nat) (cI : ClassId) (u : (Int32)) (A : Nat → Prop) : Array Value → State → Outcome → State → Prop := va_Qi (fun (r : Int32) (_ : Unit) => r = u ∧ (u = 0 ∨ u = 1)) (fun _ => q_at dC dI cI A ([] : va_W)) A
set_option maxHeartbeats 4000000 in
set_option maxRecDepth 100000 in
theorem c_X12_isBetween (l : Launch) (dC : Nat → ClassId) (dI : Nat → Nat → Nat) (cI : ClassId) (sz : Nat) (p0 : Int32) (p1 : Int32) (p2 : Int32) (u : (Int32)) (hF : F_X12_isBetween p0 p1 p2 = u) : Met l yX12_isBetween wz_X12_isBetween rm_X12_isBetween (va_Pc [.int p0, .int p1, .int p2] (q_pre dC dI cI ([] : va_W) sz)) (Q_X12_isBetween dC dI cI u (va_A ([] : va_W) sz)) 0 0 (va_A ([] : va_W) sz) := by
  refine Met.ofW (cc := cX12_isBetween) (maxL := 3) (ret := (some .boolean)) (by decide) rfl ?_
  intro p e s m args below meth c s₁ B hml hv
  obtain ⟨rfl, hsz, hP, hK, hD0⟩ := hv
  have hx := B.exec
  have hb := B.bytes
  have hr := B.returns
  have hts := atoms_spec (ws := wz_X12_isBetween) B.pre
  have hta := wz_tl hts
  have hown : s.vm.findClass RX12 = some m.cls := findClass_of_methodNamed B.named
  have hlocks := B.notSynchronized
  subst hsz
  have hD := hD0.self (sz := s.heap.size)
  generalize hAe : va_A ([] : va_W) s.heap.size = A at hD ⊢
  have hA : ∀ q : Nat, s.heap.size ≤ q → A q := fun q h => by rw [← hAe]; exact Or.inr h
  have hS : va_S A s.heap s.heap [] := va_S.rf
  have hP : va_P (dC, dI) vwCl ([] : va_W) s.heap := hP
  have hl := lv_entry ([.int p0, .int p1, .int p2]) (n := 3) (Nat.le_of_ble_eq_true rfl)
  rw [lg_entry_eq]
  generalize (lg_sl ([.int p0, .int p1, .int p2]) ++ List.replicate (3 - (lg_sl ([.int p0, .int p1, .int p2])).length) Slot.unset).toArray = ls at hl ⊢
  have hl : lv_has ls 3 [(0, .int p0), (1, .int p1), (2, .int p2)] := hl
  obtain ⟨H, hHe⟩ : ∃ H, H = s.heap := ⟨_, rfl⟩
  have hS : va_S A s.heap H [] := by rw [hHe]; exact hS
  have hP : va_P (dC, dI) vwCl ([] : va_W) H := by rw [hHe]; exact hP
  rw [← hHe]
  unfold F_X12_isBetween at hF
  refine lv_iload_n hx hb dX12_isBetween_0 rfl (lv_at hl 0 rfl) ?_
  refine lv_iload_n hx hb dX12_isBetween_1 rfl (lv_at hl 2 rfl) ?_
  refine lv_icmp_ge (tgt := 14) hx hb dX12_isBetween_2 (by decide) (fun c_1 => ?_) (fun c_1 => ?_)
  · have hF := it_t hF c_1
    refine lv_iload_n hx hb dX12_isBetween_14 rfl (lv_at hl 1 rfl) ?_
    refine lv_iload_n hx hb dX12_isBetween_15 rfl (lv_at hl 2 rfl) ?_
    refine lv_iload_n hx hb dX12_isBetween_16 rfl (lv_at hl 0 rfl) ?_
    obtain ⟨u_2, hu_2, hF⟩ := lt_some hF
    have hPc := hP.sub (ws' := ([] : va_W)) [] rfl
    have hDc := hD.sub (ws' := ([] : va_W)) [] rfl rfl
    refine q_callz (wc := ([] : va_W)) (w1 := ([] : va_W)) (ws' := ([] : va_W)) hP hD hS hA [] [] [] rfl rfl rfl (by decide) rfl rfl (va_runS (As := [.int p1, .int p2, .int p0]) (rest := []) ⟨hx, hb, hml, hown, hta⟩ (c_X12_within l dC dI cI H.size p1 p2 p0 u_2 hu_2.symm) (va_cwS 3 hta (ga_S mA812 mA813 mA814 mA810) rfl rfl rfl (by decide +kernel) ⟨Nat.le_of_ble_eq_true rfl, Nat.le_of_ble_eq_true rfl⟩) ⟨q_fb, q_ps hPc hK hDc⟩ rfl rfl hl.1 rfl (lv_room (Nat.le_of_ble_eq_true rfl)) dX12_isBetween_17 ⟨Nat.zero_le _, Nat.zero_le _⟩) (fun hzu_2 H locs hP hD hS => ?_)
    subst hF
    exact W.zret (v := u_2) (ty := .boolean) hx hb hr (z_nar hzu_2) (fun t ht hW => ⟨⟨u_2, (), rfl, ⟨rfl, hzu_2⟩, by rw [ht]; exact hP, va_K.moved hW.alike hK, hD⟩, hS.F ht⟩) hS.2.2 dX12_isBetween_20
  · have hF := it_f hF c_1
    refine lv_iload_n hx hb dX12_isBetween_5 rfl (lv_at hl 1 rfl) ?_
    refine lv_iload_n hx hb dX12_isBetween_6 rfl (lv_at hl 0 rfl) ?_
    refine lv_iload_n hx hb dX12_isBetween_7 rfl (lv_at hl 2 rfl) ?_
    obtain ⟨u_3, hu_3, hF⟩ := lt_some hF
    have hPc := hP.sub (ws' := ([] : va_W)) [] rfl
    have hDc := hD.sub (ws' := ([] : va_W)) [] rfl rfl
    refine q_callz (wc := ([] : va_W)) (w1 := ([] : va_W)) (ws' := ([] : va_W)) hP hD hS hA [] [] [] rfl rfl rfl (by decide) rfl rfl (va_runS (As := [.int p1, .int p0, .int p2]) (rest := []) ⟨hx, hb, hml, hown, hta⟩ (c_X12_within l dC dI cI H.size p1 p0 p2 u_3 hu_3.symm) (va_cwS 3 hta (ga_S mA812 mA813 mA814 mA810) rfl rfl rfl (by decide +kernel) ⟨Nat.le_of_ble_eq_true rfl, Nat.le_of_ble_eq_true rfl⟩) ⟨q_fb, q_ps hPc hK hDc⟩ rfl rfl hl.1 rfl (lv_room (Nat.le_of_ble_eq_true rfl)) dX12_isBetween_8 ⟨Nat.zero_le _, Nat.zero_le _⟩) (fun hzu_3 H locs hP hD hS => ?_)
    refine lv_goto (tgt := 20) hx hb dX12_isBetween_11 (by decide) ?_
    subst hF
    exact W.zret (v := u_3) (ty := .boolean) hx hb hr (z_nar hzu_3) (fun t ht hW => ⟨⟨u_3, (), rfl, ⟨rfl, hzu_3⟩, by rw [ht]; exact hP, va_K.moved hW.alike hK, hD⟩, hS.F ht⟩) hS.2.2 dX12_isBetween_20

-- StrokeOutlinerModel.isIdle(II)Z
def F_X12_isIdle_j113  : Option (Int32) :=
  some 0
def F_X12_isIdle_j239  : Option (Int32) :=
  some 0
def F_X12_isIdle_j101 (v0_0 : Nat → Int32) (x1 : Int32) (x2 : Int32) (x4 : Int32) (x5 : Int32) : Option (Int32) :=
  if x4 = (-1) then F_X12_isIdle_j113 else if x5 = (-1) then F_X12_isIdle_j113 else obd (F_X12_x v0_0 x1 x5) (fun u_3 => obd (F_X12_x v0_0 x1 x4) (fun u_4 => obd (F_X12_y v0_0 x1 x2) (fun u_5 => obd (F_X12_y v0_0 x1 x4) (fun u_6 => obd (F_X12_y v0_0 x1 x5) (fun u_7 => obd (F_X12_y v0_0 x1 x4) (fun u_8 => obd (F_X12_x v0_0 x1 x2) (fun u_9 => obd (F_X12_x v0_0 x1 x4) (fun u_10 => lt (((u_3 - u_4) * (u_5 - u_6)) - ((u_7 - u_8) * (u_9 - u_10))) (fun y_11 => if y_11 = 0 then obd (F_X12_x v0_0 x1 x4) (fun u_13 => obd (F_X12_x v0_0 x1 x2) (fun u_14 => obd (F_X12_x v0_0 x1 x5) (fun u_15 => lt (F_X12_isBetween u_13 u_14 u_15) (fun u_16 => if u_16 = 0 then F_X12_isIdle_j239 else obd (F_X12_y v0_0 x1 x4) (fun u_18 => obd (F_X12_y v0_0 x1 x2) (fun u_19 => obd (F_X12_y v0_0 x1 x5) (fun u_20 => lt (F_X12_isBetween u_18 u_19 u_20) (fun u_21 => if u_21 = 0 then F_X12_isIdle_j239 else some 1)))))))) else F_X12_isIdle_j239)))))))))
def F_X12_isIdle_j59 (v0_0 : Nat → Int32) (x1 : Int32) (x2 : Int32) (x4 : Int32) (t0 : Int32) : Option (Int32) :=
  if x4 = (-1) then F_X12_isIdle_j101 v0_0 x1 x2 x4 t0 else obd (F_X12_x v0_0 x1 x4) (fun u_24 => obd (F_X12_x v0_0 x1 x2) (fun u_25 => if u_24 = u_25 then obd (F_X12_y v0_0 x1 x4) (fun u_27 => obd (F_X12_y v0_0 x1 x2) (fun u_28 => if u_27 = u_28 then some 1 else F_X12_isIdle_j101 v0_0 x1 x2 x4 t0)) else F_X12_isIdle_j101 v0_0 x1 x2 x4 t0))
def F_X12_isIdle_j31 (v0_0 : Nat → Int32) (x1 : Int32) (x2 : Int32) (x3 : Int32) (t0 : Int32) : Option (Int32) :=
  if (x3 - 1) ≤ x2 then obd (F_X12_isClosed v0_0 x1) (fun u_31 => if u_31 = 0 then F_X12_isIdle_j59 v0_0 x1 x2 t0 (-1) else F_X12_isIdle_j59 v0_0 x1 x2 t0 0) else F_X12_isIdle_j59 v0_0 x1 x2 t0 (x2 + 1)
def F_X12_isIdle (v0_0 : Nat → Int32) (p1 : Int32) (p2 : Int32) : Option (Int32) :=
  obd (F_X12_points v0_0 p1) (fun u_33 => if p2 ≤ 0 then obd (F_X12_isClosed v0_0 p1) (fun u_35 => if u_35 = 0 then F_X12_isIdle_j31 v0_0 p1 p2 u_33 (-1) else F_X12_isIdle_j31 v0_0 p1 p2 u_33 (u_33 - 1)) else F_X12_isIdle_j31 v0_0 p1 p2 u_33 (p2 - 1))
abbrev wd_X12_isIdle (cI : ClassId) (a0 : Nat → Nat) (v0_2 : Int32) (v0_3 : Int32) (v0_5 : Int32) (v0_12 : Int32) (v0_13 : Int32) (v0_16 : Int32) (v0_17 : Int32) (v0_21 : Int32) (v0_23 : Int32) (v0_24 : Int32) (v0_25 : Int32) (v0_26 : Int32) (v0_29 : Int32) (v0_30 : Int64) (v0_0 : Nat → Int32) : va_W := [(a0 0, .inr (11, [.ref (a0 1), .ref (a0 2), .int v0_2, .int v0_3, .ref (a0 5), .int v0_5, .ref (a0 7), .ref (a0 8), .ref (a0 9), .ref (a0 10), .ref (a0 11), .ref (a0 12), .int v0_12, .int v0_13, .ref (a0 15), .ref (a0 16), .int v0_16, .int v0_17, .ref (a0 19), .ref (a0 20), .ref (a0 21), .int v0_21, .ref (a0 23), .int v0_23, .int v0_24, .int v0_25, .int v0_26, .ref (a0 28), .ref (a0 29), .int v0_29, .long v0_30])), (a0 1, .inl (cI, 86, .inl v0_0))]
abbrev wz_X12_isIdle : List Cond := .code yX12_isIdle cX12_isIdle 7 (some .boolean) :: wALL
abbrev rm_X12_isIdle : Room := { frames := 2, cells := 0, slots := 0, locals := 44 }
abbrev Q_X12_isIdle (dC : Nat → ClassId) (dI : Nat → Nat → Nat) (cI : ClassId) (a0 : Nat → Nat) (v0_2 : Int32) (v0_3 : Int32) (v0_5 : Int32) (v0_12 : Int32) (v0_13 : Int32) (v0_16 : Int32) (v0_17 : Int32) (v0_21 : Int32) (v0_23 : Int32) (v0_24 : Int32) (v0_25 : Int32) (v0_26 : Int32) (v0_29 : Int32) (v0_30 : Int64) (v0_0 : Nat → Int32) (u : (Int32)) (A : Nat → Prop) : Array Value → State → Outcome → State → Prop := va_Qi (fun (r : Int32) (_ : Unit) => r = u ∧ (u = 0 ∨ u = 1)) (fun _ => q_at dC dI cI A (wd_X12_isIdle cI a0 v0_2 v0_3 v0_5 v0_12 v0_13 v0_16 v0_17 v0_21 v0_23 v0_24 v0_25 v0_26 v0_29 v0_30 v0_0)) A
set_option maxHeartbeats 4000000 in
set_option maxRecDepth 100000 in
theorem c_X12_isIdle (l : Launch) (dC : Nat → ClassId) (dI : Nat → Nat → Nat) (cI : ClassId) (sz : Nat) (a0 : Nat → Nat) (v0_2 : Int32) (v0_3 : Int32) (v0_5 : Int32) (v0_12 : Int32) (v0_13 : Int32) (v0_16 : Int32) (v0_17 : Int32) (v0_21 : Int32) (v0_23 : Int32) (v0_24 : Int32) (v0_25 : Int32) (v0_26 : Int32) (v0_29 : Int32) (v0_30 : Int64) (v0_0 : Nat → Int32) (p1 : Int32) (p2 : Int32) (u : (Int32)) (hF : F_X12_isIdle v0_0 p1 p2 = some u) : Met l yX12_isIdle wz_X12_isIdle rm_X12_isIdle (va_Pc [.ref (a0 0), .int p1, .int p2] (q_pre dC dI cI (wd_X12_isIdle cI a0 v0_2 v0_3 v0_5 v0_12 v0_13 v0_16 v0_17 v0_21 v0_23 v0_24 v0_25 v0_26 v0_29 v0_30 v0_0) sz)) (Q_X12_isIdle dC dI cI a0 v0_2 v0_3 v0_5 v0_12 v0_13 v0_16 v0_17 v0_21 v0_23 v0_24 v0_25 v0_26 v0_29 v0_30 v0_0 u (va_A (wd_X12_isIdle cI a0 v0_2 v0_3 v0_5 v0_12 v0_13 v0_16 v0_17 v0_21 v0_23 v0_24 v0_25 v0_26 v0_29 v0_30 v0_0) sz)) 0 0 (va_A (wd_X12_isIdle cI a0 v0_2 v0_3 v0_5 v0_12 v0_13 v0_16 v0_17 v0_21 v0_23 v0_24 v0_25 v0_26 v0_29 v0_30 v0_0) sz) := by
  refine Met.ofW (cc := cX12_isIdle) (maxL := 7) (ret := (some .boolean)) (by decide) rfl ?_
  intro p e s m args below meth c s₁ B hml hv
  obtain ⟨rfl, hsz, hP, hK, hD0⟩ := hv
  have hx := B.exec
  have hb := B.bytes
  have hr := B.returns
  have hts := atoms_spec (ws := wz_X12_isIdle) B.pre
  have hta := wz_tl hts
  have hown : s.vm.findClass RX12 = some m.cls := findClass_of_methodNamed B.named
  have hlocks := B.notSynchronized
  subst hsz
  have hD := hD0.self (sz := s.heap.size)
  generalize hAe : va_A (wd_X12_isIdle cI a0 v0_2 v0_3 v0_5 v0_12 v0_13 v0_16 v0_17 v0_21 v0_23 v0_24 v0_25 v0_26 v0_29 v0_30 v0_0) s.heap.size = A at hD ⊢
  have hA : ∀ q : Nat, s.heap.size ≤ q → A q := fun q h => by rw [← hAe]; exact Or.inr h
  have hS : va_S A s.heap s.heap [] := va_S.rf
  have hP : va_P (dC, dI) vwCl (wd_X12_isIdle cI a0 v0_2 v0_3 v0_5 v0_12 v0_13 v0_16 v0_17 v0_21 v0_23 v0_24 v0_25 v0_26 v0_29 v0_30 v0_0) s.heap := hP
  have hl := lv_entry ([.ref (a0 0), .int p1, .int p2]) (n := 7) (Nat.le_of_ble_eq_true rfl)
  rw [lg_entry_eq]
  generalize (lg_sl ([.ref (a0 0), .int p1, .int p2]) ++ List.replicate (7 - (lg_sl ([.ref (a0 0), .int p1, .int p2])).length) Slot.unset).toArray = ls at hl ⊢
  have hl : lv_has ls 7 [(0, .ref (a0 0)), (1, .int p1), (2, .int p2)] := hl
  obtain ⟨H, hHe⟩ : ∃ H, H = s.heap := ⟨_, rfl⟩
  have hS : va_S A s.heap H [] := by rw [hHe]; exact hS
  have hP : va_P (dC, dI) vwCl (wd_X12_isIdle cI a0 v0_2 v0_3 v0_5 v0_12 v0_13 v0_16 v0_17 v0_21 v0_23 v0_24 v0_25 v0_26 v0_29 v0_30 v0_0) H := by rw [hHe]; exact hP
  rw [← hHe]
  unfold F_X12_isIdle at hF
  have j113 : ∀ (_ : Unit), F_X12_isIdle_j113 = some u → ∀ (H : Heap) (locs : List Loc) (ls : Array Slot), va_P (dC, dI) vwCl (wd_X12_isIdle cI a0 v0_2 v0_3 v0_5 v0_12 v0_13 v0_16 v0_17 v0_21 v0_23 v0_24 v0_25 v0_26 v0_29 v0_30 v0_0) H → va_D A (wd_X12_isIdle cI a0 v0_2 v0_3 v0_5 v0_12 v0_13 v0_16 v0_17 v0_21 v0_23 v0_24 v0_25 v0_26 v0_29 v0_30 v0_0) → va_S A s.heap H locs → lv_has ls 7 [] → W p l e (headSpec wz_X12_isIdle rm_X12_isIdle).room s m [.ref (a0 0), .int p1, .int p2].toArray below meth c H locs 0 0 (MQ below (Q_X12_isIdle dC dI cI a0 v0_2 v0_3 v0_5 v0_12 v0_13 v0_16 v0_17 v0_21 v0_23 v0_24 v0_25 v0_26 v0_29 v0_30 v0_0 u A) [.ref (a0 0), .int p1, .int p2].toArray s 0 0 A) (F0 m 113 ls []) := by
    intro _ hF H locs ls hP hD hS hl
    unfold F_X12_isIdle_j113 at hF
    refine lv_iconst (v := 0) hx hb dX12_isIdle_113 (by decide) ?_
    obtain rfl := Option.some.inj hF
    exact W.zret (v := 0) (ty := .boolean) hx hb hr (z_nar (Or.inl rfl)) (fun t ht hW => ⟨⟨0, (), rfl, ⟨rfl, (Or.inl rfl)⟩, by rw [ht]; exact hP, va_K.moved hW.alike hK, hD⟩, hS.F ht⟩) hS.2.2 dX12_isIdle_114
  have j239 : ∀ (_ : Unit), F_X12_isIdle_j239 = some u → ∀ (H : Heap) (locs : List Loc) (ls : Array Slot), va_P (dC, dI) vwCl (wd_X12_isIdle cI a0 v0_2 v0_3 v0_5 v0_12 v0_13 v0_16 v0_17 v0_21 v0_23 v0_24 v0_25 v0_26 v0_29 v0_30 v0_0) H → va_D A (wd_X12_isIdle cI a0 v0_2 v0_3 v0_5 v0_12 v0_13 v0_16 v0_17 v0_21 v0_23 v0_24 v0_25 v0_26 v0_29 v0_30 v0_0) → va_S A s.heap H locs → lv_has ls 7 [] → W p l e (headSpec wz_X12_isIdle rm_X12_isIdle).room s m [.ref (a0 0), .int p1, .int p2].toArray below meth c H locs 0 0 (MQ below (Q_X12_isIdle dC dI cI a0 v0_2 v0_3 v0_5 v0_12 v0_13 v0_16 v0_17 v0_21 v0_23 v0_24 v0_25 v0_26 v0_29 v0_30 v0_0 u A) [.ref (a0 0), .int p1, .int p2].toArray s 0 0 A) (F0 m 239 ls []) := by
    intro _ hF H locs ls hP hD hS hl
    unfold F_X12_isIdle_j239 at hF
    refine lv_iconst (v := 0) hx hb dX12_isIdle_239 (by decide) ?_
    obtain rfl := Option.some.inj hF
    exact W.zret (v := 0) (ty := .boolean) hx hb hr (z_nar (Or.inl rfl)) (fun t ht hW => ⟨⟨0, (), rfl, ⟨rfl, (Or.inl rfl)⟩, by rw [ht]; exact hP, va_K.moved hW.alike hK, hD⟩, hS.F ht⟩) hS.2.2 dX12_isIdle_240
  have j101 : ∀ (x1 : Int32) (x2 : Int32) (x4 : Int32) (x5 : Int32), F_X12_isIdle_j101 v0_0 x1 x2 x4 x5 = some u → ∀ (H : Heap) (locs : List Loc) (ls : Array Slot), va_P (dC, dI) vwCl (wd_X12_isIdle cI a0 v0_2 v0_3 v0_5 v0_12 v0_13 v0_16 v0_17 v0_21 v0_23 v0_24 v0_25 v0_26 v0_29 v0_30 v0_0) H → va_D A (wd_X12_isIdle cI a0 v0_2 v0_3 v0_5 v0_12 v0_13 v0_16 v0_17 v0_21 v0_23 v0_24 v0_25 v0_26 v0_29 v0_30 v0_0) → va_S A s.heap H locs → lv_has ls 7 [(0, .ref (a0 0)), (1, .int x1), (2, .int x2), (4, .int x4), (5, .int x5)] → W p l e (headSpec wz_X12_isIdle rm_X12_isIdle).room s m [.ref (a0 0), .int p1, .int p2].toArray below meth c H locs 0 0 (MQ below (Q_X12_isIdle dC dI cI a0 v0_2 v0_3 v0_5 v0_12 v0_13 v0_16 v0_17 v0_21 v0_23 v0_24 v0_25 v0_26 v0_29 v0_30 v0_0 u A) [.ref (a0 0), .int p1, .int p2].toArray s 0 0 A) (F0 m 101 ls []) := by
    intro x1 x2 x4 x5 hF H locs ls hP hD hS hl
    unfold F_X12_isIdle_j101 at hF
    refine lv_iload hx hb dX12_isIdle_101 (lv_at hl 3 rfl) ?_
    refine lv_iconst (v := (-1)) hx hb dX12_isIdle_103 (by decide) ?_
    refine lv_icmp_eq (tgt := 113) hx hb dX12_isIdle_104 (by decide) (fun c_1 => ?_) (fun c_1 => ?_)
    · have hF := it_t hF c_1
      exact j113 () hF _ _ _ hP hD hS (lv_sub hl [] rfl)
    · have hF := it_f hF c_1
      refine lv_iload hx hb dX12_isIdle_107 (lv_at hl 4 rfl) ?_
      refine lv_iconst (v := (-1)) hx hb dX12_isIdle_109 (by decide) ?_
      refine lv_icmp_ne (tgt := 115) hx hb dX12_isIdle_110 (by decide) (fun c_2 => ?_) (fun c_2 => ?_)
      · have hF := it_f hF c_2
        refine lv_aload_n hx hb dX12_isIdle_115 rfl (lv_at hl 0 rfl) ?_
        refine lv_iload_n hx hb dX12_isIdle_116 rfl (lv_at hl 1 rfl) ?_
        refine lv_iload hx hb dX12_isIdle_117 (lv_at hl 4 rfl) ?_
        obtain ⟨u_3, hu_3, hF⟩ := obd_some hF
        have hPc := hP.sub (ws' := (wd_X12_x cI a0 v0_2 v0_3 v0_5 v0_12 v0_13 v0_16 v0_17 v0_21 v0_23 v0_24 v0_25 v0_26 v0_29 v0_30 v0_0)) [0, 1] rfl
        have hDc := hD.sub (ws' := (wd_X12_x cI a0 v0_2 v0_3 v0_5 v0_12 v0_13 v0_16 v0_17 v0_21 v0_23 v0_24 v0_25 v0_26 v0_29 v0_30 v0_0)) [0, 1] rfl rfl
        refine q_calli (wc := (wd_X12_x cI a0 v0_2 v0_3 v0_5 v0_12 v0_13 v0_16 v0_17 v0_21 v0_23 v0_24 v0_25 v0_26 v0_29 v0_30 v0_0)) (w1 := (wd_X12_x cI a0 v0_2 v0_3 v0_5 v0_12 v0_13 v0_16 v0_17 v0_21 v0_23 v0_24 v0_25 v0_26 v0_29 v0_30 v0_0)) (ws' := (wd_X12_isIdle cI a0 v0_2 v0_3 v0_5 v0_12 v0_13 v0_16 v0_17 v0_21 v0_23 v0_24 v0_25 v0_26 v0_29 v0_30 v0_0)) hP hD hS hA [0, 1] [] [0, 1] rfl rfl rfl (by decide) rfl rfl (va_runV (As := [.int x1, .int x5]) (rest := []) ⟨hx, hb, hml, hown, hta⟩ (c_X12_x l dC dI cI H.size a0 v0_2 v0_3 v0_5 v0_12 v0_13 v0_16 v0_17 v0_21 v0_23 v0_24 v0_25 v0_26 v0_29 v0_30 v0_0 x1 x5 u_3 hu_3) (cwV 2 hta (ga_V mA870 mA871 mA872 mA814 mA831) rfl rfl rfl (by decide +kernel) ⟨Nat.le_of_ble_eq_true rfl, Nat.le_of_ble_eq_true rfl⟩) ⟨q_fb, va_recv hK hP (ci := 11) (q0 := 0) rfl rfl, q_ps hPc hK hDc⟩ rfl rfl hl.1 rfl (lv_room (Nat.le_of_ble_eq_true rfl)) dX12_isIdle_119 ⟨Nat.zero_le _, Nat.zero_le _⟩) (fun H locs hP hD hS => ?_)
        refine lv_aload_n hx hb dX12_isIdle_122 rfl (lv_at hl 0 rfl) ?_
        refine lv_iload_n hx hb dX12_isIdle_123 rfl (lv_at hl 1 rfl) ?_
        refine lv_iload hx hb dX12_isIdle_124 (lv_at hl 3 rfl) ?_
        obtain ⟨u_4, hu_4, hF⟩ := obd_some hF
        have hPc := hP.sub (ws' := (wd_X12_x cI a0 v0_2 v0_3 v0_5 v0_12 v0_13 v0_16 v0_17 v0_21 v0_23 v0_24 v0_25 v0_26 v0_29 v0_30 v0_0)) [0, 1] rfl
        have hDc := hD.sub (ws' := (wd_X12_x cI a0 v0_2 v0_3 v0_5 v0_12 v0_13 v0_16 v0_17 v0_21 v0_23 v0_24 v0_25 v0_26 v0_29 v0_30 v0_0)) [0, 1] rfl rfl
        refine q_calli (wc := (wd_X12_x cI a0 v0_2 v0_3 v0_5 v0_12 v0_13 v0_16 v0_17 v0_21 v0_23 v0_24 v0_25 v0_26 v0_29 v0_30 v0_0)) (w1 := (wd_X12_x cI a0 v0_2 v0_3 v0_5 v0_12 v0_13 v0_16 v0_17 v0_21 v0_23 v0_24 v0_25 v0_26 v0_29 v0_30 v0_0)) (ws' := (wd_X12_isIdle cI a0 v0_2 v0_3 v0_5 v0_12 v0_13 v0_16 v0_17 v0_21 v0_23 v0_24 v0_25 v0_26 v0_29 v0_30 v0_0)) hP hD hS hA [0, 1] [] [0, 1] rfl rfl rfl (by decide) rfl rfl (va_runV (As := [.int x1, .int x4]) (rest := [.int u_3]) ⟨hx, hb, hml, hown, hta⟩ (c_X12_x l dC dI cI H.size a0 v0_2 v0_3 v0_5 v0_12 v0_13 v0_16 v0_17 v0_21 v0_23 v0_24 v0_25 v0_26 v0_29 v0_30 v0_0 x1 x4 u_4 hu_4) (cwV 2 hta (ga_V mA870 mA871 mA872 mA814 mA831) rfl rfl rfl (by decide +kernel) ⟨Nat.le_of_ble_eq_true rfl, Nat.le_of_ble_eq_true rfl⟩) ⟨q_fb, va_recv hK hP (ci := 11) (q0 := 0) rfl rfl, q_ps hPc hK hDc⟩ rfl rfl hl.1 rfl (lv_room (Nat.le_of_ble_eq_true rfl)) dX12_isIdle_126 ⟨Nat.zero_le _, Nat.zero_le _⟩) (fun H locs hP hD hS => ?_)
        refine lv_isub hx hb dX12_isIdle_129 ?_
        refine lv_aload_n hx hb dX12_isIdle_130 rfl (lv_at hl 0 rfl) ?_
        refine lv_iload_n hx hb dX12_isIdle_131 rfl (lv_at hl 1 rfl) ?_
        refine lv_iload_n hx hb dX12_isIdle_132 rfl (lv_at hl 2 rfl) ?_
        obtain ⟨u_5, hu_5, hF⟩ := obd_some hF
        have hPc := hP.sub (ws' := (wd_X12_y cI a0 v0_2 v0_3 v0_5 v0_12 v0_13 v0_16 v0_17 v0_21 v0_23 v0_24 v0_25 v0_26 v0_29 v0_30 v0_0)) [0, 1] rfl
        have hDc := hD.sub (ws' := (wd_X12_y cI a0 v0_2 v0_3 v0_5 v0_12 v0_13 v0_16 v0_17 v0_21 v0_23 v0_24 v0_25 v0_26 v0_29 v0_30 v0_0)) [0, 1] rfl rfl
        refine q_calli (wc := (wd_X12_y cI a0 v0_2 v0_3 v0_5 v0_12 v0_13 v0_16 v0_17 v0_21 v0_23 v0_24 v0_25 v0_26 v0_29 v0_30 v0_0)) (w1 := (wd_X12_y cI a0 v0_2 v0_3 v0_5 v0_12 v0_13 v0_16 v0_17 v0_21 v0_23 v0_24 v0_25 v0_26 v0_29 v0_30 v0_0)) (ws' := (wd_X12_isIdle cI a0 v0_2 v0_3 v0_5 v0_12 v0_13 v0_16 v0_17 v0_21 v0_23 v0_24 v0_25 v0_26 v0_29 v0_30 v0_0)) hP hD hS hA [0, 1] [] [0, 1] rfl rfl rfl (by decide) rfl rfl (va_runV (As := [.int x1, .int x2]) (rest := [.int (u_3 - u_4)]) ⟨hx, hb, hml, hown, hta⟩ (c_X12_y l dC dI cI H.size a0 v0_2 v0_3 v0_5 v0_12 v0_13 v0_16 v0_17 v0_21 v0_23 v0_24 v0_25 v0_26 v0_29 v0_30 v0_0 x1 x2 u_5 hu_5) (cwV 2 hta (ga_V mA873 mA874 mA875 mA814 mA832) rfl rfl rfl (by decide +kernel) ⟨Nat.le_of_ble_eq_true rfl, Nat.le_of_ble_eq_true rfl⟩) ⟨q_fb, va_recv hK hP (ci := 11) (q0 := 0) rfl rfl, q_ps hPc hK hDc⟩ rfl rfl hl.1 rfl (lv_room (Nat.le_of_ble_eq_true rfl)) dX12_isIdle_133 ⟨Nat.zero_le _, Nat.zero_le _⟩) (fun H locs hP hD hS => ?_)
        refine lv_aload_n hx hb dX12_isIdle_136 rfl (lv_at hl 0 rfl) ?_
        refine lv_iload_n hx hb dX12_isIdle_137 rfl (lv_at hl 1 rfl) ?_
        refine lv_iload hx hb dX12_isIdle_138 (lv_at hl 3 rfl) ?_
        obtain ⟨u_6, hu_6, hF⟩ := obd_some hF
        have hPc := hP.sub (ws' := (wd_X12_y cI a0 v0_2 v0_3 v0_5 v0_12 v0_13 v0_16 v0_17 v0_21 v0_23 v0_24 v0_25 v0_26 v0_29 v0_30 v0_0)) [0, 1] rfl
        have hDc := hD.sub (ws' := (wd_X12_y cI a0 v0_2 v0_3 v0_5 v0_12 v0_13 v0_16 v0_17 v0_21 v0_23 v0_24 v0_25 v0_26 v0_29 v0_30 v0_0)) [0, 1] rfl rfl
        refine q_calli (wc := (wd_X12_y cI a0 v0_2 v0_3 v0_5 v0_12 v0_13 v0_16 v0_17 v0_21 v0_23 v0_24 v0_25 v0_26 v0_29 v0_30 v0_0)) (w1 := (wd_X12_y cI a0 v0_2 v0_3 v0_5 v0_12 v0_13 v0_16 v0_17 v0_21 v0_23 v0_24 v0_25 v0_26 v0_29 v0_30 v0_0)) (ws' := (wd_X12_isIdle cI a0 v0_2 v0_3 v0_5 v0_12 v0_13 v0_16 v0_17 v0_21 v0_23 v0_24 v0_25 v0_26 v0_29 v0_30 v0_0)) hP hD hS hA [0, 1] [] [0, 1] rfl rfl rfl (by decide) rfl rfl (va_runV (As := [.int x1, .int x4]) (rest := [.int u_5, .int (u_3 - u_4)]) ⟨hx, hb, hml, hown, hta⟩ (c_X12_y l dC dI cI H.size a0 v0_2 v0_3 v0_5 v0_12 v0_13 v0_16 v0_17 v0_21 v0_23 v0_24 v0_25 v0_26 v0_29 v0_30 v0_0 x1 x4 u_6 hu_6) (cwV 2 hta (ga_V mA873 mA874 mA875 mA814 mA832) rfl rfl rfl (by decide +kernel) ⟨Nat.le_of_ble_eq_true rfl, Nat.le_of_ble_eq_true rfl⟩) ⟨q_fb, va_recv hK hP (ci := 11) (q0 := 0) rfl rfl, q_ps hPc hK hDc⟩ rfl rfl hl.1 rfl (lv_room (Nat.le_of_ble_eq_true rfl)) dX12_isIdle_140 ⟨Nat.zero_le _, Nat.zero_le _⟩) (fun H locs hP hD hS => ?_)
        refine lv_isub hx hb dX12_isIdle_143 ?_
        refine lv_imul hx hb dX12_isIdle_144 ?_
        refine lv_aload_n hx hb dX12_isIdle_145 rfl (lv_at hl 0 rfl) ?_
        refine lv_iload_n hx hb dX12_isIdle_146 rfl (lv_at hl 1 rfl) ?_
        refine lv_iload hx hb dX12_isIdle_147 (lv_at hl 4 rfl) ?_
        obtain ⟨u_7, hu_7, hF⟩ := obd_some hF
        have hPc := hP.sub (ws' := (wd_X12_y cI a0 v0_2 v0_3 v0_5 v0_12 v0_13 v0_16 v0_17 v0_21 v0_23 v0_24 v0_25 v0_26 v0_29 v0_30 v0_0)) [0, 1] rfl
        have hDc := hD.sub (ws' := (wd_X12_y cI a0 v0_2 v0_3 v0_5 v0_12 v0_13 v0_16 v0_17 v0_21 v0_23 v0_24 v0_25 v0_26 v0_29 v0_30 v0_0)) [0, 1] rfl rfl
        refine q_calli (wc := (wd_X12_y cI a0 v0_2 v0_3 v0_5 v0_12 v0_13 v0_16 v0_17 v0_21 v0_23 v0_24 v0_25 v0_26 v0_29 v0_30 v0_0)) (w1 := (wd_X12_y cI a0 v0_2 v0_3 v0_5 v0_12 v0_13 v0_16 v0_17 v0_21 v0_23 v0_24 v0_25 v0_26 v0_29 v0_30 v0_0)) (ws' := (wd_X12_isIdle cI a0 v0_2 v0_3 v0_5 v0_12 v0_13 v0_16 v0_17 v0_21 v0_23 v0_24 v0_25 v0_26 v0_29 v0_30 v0_0)) hP hD hS hA [0, 1] [] [0, 1] rfl rfl rfl (by decide) rfl rfl (va_runV (As := [.int x1, .int x5]) (rest := [.int ((u_3 - u_4) * (u_5 - u_6))]) ⟨hx, hb, hml, hown, hta⟩ (c_X12_y l dC dI cI H.size a0 v0_2 v0_3 v0_5 v0_12 v0_13 v0_16 v0_17 v0_21 v0_23 v0_24 v0_25 v0_26 v0_29 v0_30 v0_0 x1 x5 u_7 hu_7) (cwV 2 hta (ga_V mA873 mA874 mA875 mA814 mA832) rfl rfl rfl (by decide +kernel) ⟨Nat.le_of_ble_eq_true rfl, Nat.le_of_ble_eq_true rfl⟩) ⟨q_fb, va_recv hK hP (ci := 11) (q0 := 0) rfl rfl, q_ps hPc hK hDc⟩ rfl rfl hl.1 rfl (lv_room (Nat.le_of_ble_eq_true rfl)) dX12_isIdle_149 ⟨Nat.zero_le _, Nat.zero_le _⟩) (fun H locs hP hD hS => ?_)
        refine lv_aload_n hx hb dX12_isIdle_152 rfl (lv_at hl 0 rfl) ?_
        refine lv_iload_n hx hb dX12_isIdle_153 rfl (lv_at hl 1 rfl) ?_
        refine lv_iload hx hb dX12_isIdle_154 (lv_at hl 3 rfl) ?_
        obtain ⟨u_8, hu_8, hF⟩ := obd_some hF
        have hPc := hP.sub (ws' := (wd_X12_y cI a0 v0_2 v0_3 v0_5 v0_12 v0_13 v0_16 v0_17 v0_21 v0_23 v0_24 v0_25 v0_26 v0_29 v0_30 v0_0)) [0, 1] rfl
        have hDc := hD.sub (ws' := (wd_X12_y cI a0 v0_2 v0_3 v0_5 v0_12 v0_13 v0_16 v0_17 v0_21 v0_23 v0_24 v0_25 v0_26 v0_29 v0_30 v0_0)) [0, 1] rfl rfl
        refine q_calli (wc := (wd_X12_y cI a0 v0_2 v0_3 v0_5 v0_12 v0_13 v0_16 v0_17 v0_21 v0_23 v0_24 v0_25 v0_26 v0_29 v0_30 v0_0)) (w1 := (wd_X12_y cI a0 v0_2 v0_3 v0_5 v0_12 v0_13 v0_16 v0_17 v0_21 v0_23 v0_24 v0_25 v0_26 v0_29 v0_30 v0_0)) (ws' := (wd_X12_isIdle cI a0 v0_2 v0_3 v0_5 v0_12 v0_13 v0_16 v0_17 v0_21 v0_23 v0_24 v0_25 v0_26 v0_29 v0_30 v0_0)) hP hD hS hA [0, 1] [] [0, 1] rfl rfl rfl (by decide) rfl rfl (va_runV (As := [.int x1, .int x4]) (rest := [.int u_7, .int ((u_3 - u_4) * (u_5 - u_6))]) ⟨hx, hb, hml, hown, hta⟩ (c_X12_y l dC dI cI H.size a0 v0_2 v0_3 v0_5 v0_12 v0_13 v0_16 v0_17 v0_21 v0_23 v0_24 v0_25 v0_26 v0_29 v0_30 v0_0 x1 x4 u_8 hu_8) (cwV 2 hta (ga_V mA873 mA874 mA875 mA814 mA832) rfl rfl rfl (by decide +kernel) ⟨Nat.le_of_ble_eq_true rfl, Nat.le_of_ble_eq_true rfl⟩) ⟨q_fb, va_recv hK hP (ci := 11) (q0 := 0) rfl rfl, q_ps hPc hK hDc⟩ rfl rfl hl.1 rfl (lv_room (Nat.le_of_ble_eq_true rfl)) dX12_isIdle_156 ⟨Nat.zero_le _, Nat.zero_le _⟩) (fun H locs hP hD hS => ?_)
        refine lv_isub hx hb dX12_isIdle_159 ?_
        refine lv_aload_n hx hb dX12_isIdle_160 rfl (lv_at hl 0 rfl) ?_
        refine lv_iload_n hx hb dX12_isIdle_161 rfl (lv_at hl 1 rfl) ?_
        refine lv_iload_n hx hb dX12_isIdle_162 rfl (lv_at hl 2 rfl) ?_
        obtain ⟨u_9, hu_9, hF⟩ := obd_some hF
        have hPc := hP.sub (ws' := (wd_X12_x cI a0 v0_2 v0_3 v0_5 v0_12 v0_13 v0_16 v0_17 v0_21 v0_23 v0_24 v0_25 v0_26 v0_29 v0_30 v0_0)) [0, 1] rfl
        have hDc := hD.sub (ws' := (wd_X12_x cI a0 v0_2 v0_3 v0_5 v0_12 v0_13 v0_16 v0_17 v0_21 v0_23 v0_24 v0_25 v0_26 v0_29 v0_30 v0_0)) [0, 1] rfl rfl
        refine q_calli (wc := (wd_X12_x cI a0 v0_2 v0_3 v0_5 v0_12 v0_13 v0_16 v0_17 v0_21 v0_23 v0_24 v0_25 v0_26 v0_29 v0_30 v0_0)) (w1 := (wd_X12_x cI a0 v0_2 v0_3 v0_5 v0_12 v0_13 v0_16 v0_17 v0_21 v0_23 v0_24 v0_25 v0_26 v0_29 v0_30 v0_0)) (ws' := (wd_X12_isIdle cI a0 v0_2 v0_3 v0_5 v0_12 v0_13 v0_16 v0_17 v0_21 v0_23 v0_24 v0_25 v0_26 v0_29 v0_30 v0_0)) hP hD hS hA [0, 1] [] [0, 1] rfl rfl rfl (by decide) rfl rfl (va_runV (As := [.int x1, .int x2]) (rest := [.int (u_7 - u_8), .int ((u_3 - u_4) * (u_5 - u_6))]) ⟨hx, hb, hml, hown, hta⟩ (c_X12_x l dC dI cI H.size a0 v0_2 v0_3 v0_5 v0_12 v0_13 v0_16 v0_17 v0_21 v0_23 v0_24 v0_25 v0_26 v0_29 v0_30 v0_0 x1 x2 u_9 hu_9) (cwV 2 hta (ga_V mA870 mA871 mA872 mA814 mA831) rfl rfl rfl (by decide +kernel) ⟨Nat.le_of_ble_eq_true rfl, Nat.le_of_ble_eq_true rfl⟩) ⟨q_fb, va_recv hK hP (ci := 11) (q0 := 0) rfl rfl, q_ps hPc hK hDc⟩ rfl rfl hl.1 rfl (lv_room (Nat.le_of_ble_eq_true rfl)) dX12_isIdle_163 ⟨Nat.zero_le _, Nat.zero_le _⟩) (fun H locs hP hD hS => ?_)
        refine lv_aload_n hx hb dX12_isIdle_166 rfl (lv_at hl 0 rfl) ?_
        refine lv_iload_n hx hb dX12_isIdle_167 rfl (lv_at hl 1 rfl) ?_
        refine lv_iload hx hb dX12_isIdle_168 (lv_at hl 3 rfl) ?_
        obtain ⟨u_10, hu_10, hF⟩ := obd_some hF
        have hPc := hP.sub (ws' := (wd_X12_x cI a0 v0_2 v0_3 v0_5 v0_12 v0_13 v0_16 v0_17 v0_21 v0_23 v0_24 v0_25 v0_26 v0_29 v0_30 v0_0)) [0, 1] rfl
        have hDc := hD.sub (ws' := (wd_X12_x cI a0 v0_2 v0_3 v0_5 v0_12 v0_13 v0_16 v0_17 v0_21 v0_23 v0_24 v0_25 v0_26 v0_29 v0_30 v0_0)) [0, 1] rfl rfl
        refine q_calli (wc := (wd_X12_x cI a0 v0_2 v0_3 v0_5 v0_12 v0_13 v0_16 v0_17 v0_21 v0_23 v0_24 v0_25 v0_26 v0_29 v0_30 v0_0)) (w1 := (wd_X12_x cI a0 v0_2 v0_3 v0_5 v0_12 v0_13 v0_16 v0_17 v0_21 v0_23 v0_24 v0_25 v0_26 v0_29 v0_30 v0_0)) (ws' := (wd_X12_isIdle cI a0 v0_2 v0_3 v0_5 v0_12 v0_13 v0_16 v0_17 v0_21 v0_23 v0_24 v0_25 v0_26 v0_29 v0_30 v0_0)) hP hD hS hA [0, 1] [] [0, 1] rfl rfl rfl (by decide) rfl rfl (va_runV (As := [.int x1, .int x4]) (rest := [.int u_9, .int (u_7 - u_8), .int ((u_3 - u_4) * (u_5 - u_6))]) ⟨hx, hb, hml, hown, hta⟩ (c_X12_x l dC dI cI H.size a0 v0_2 v0_3 v0_5 v0_12 v0_13 v0_16 v0_17 v0_21 v0_23 v0_24 v0_25 v0_26 v0_29 v0_30 v0_0 x1 x4 u_10 hu_10) (cwV 2 hta (ga_V mA870 mA871 mA872 mA814 mA831) rfl rfl rfl (by decide +kernel) ⟨Nat.le_of_ble_eq_true rfl, Nat.le_of_ble_eq_true rfl⟩) ⟨q_fb, va_recv hK hP (ci := 11) (q0 := 0) rfl rfl, q_ps hPc hK hDc⟩ rfl rfl hl.1 rfl (lv_room (Nat.le_of_ble_eq_true rfl)) dX12_isIdle_170 ⟨Nat.zero_le _, Nat.zero_le _⟩) (fun H locs hP hD hS => ?_)
        refine lv_isub hx hb dX12_isIdle_173 ?_
        refine lv_imul hx hb dX12_isIdle_174 ?_
        refine lv_isub hx hb dX12_isIdle_175 ?_
        obtain ⟨y_11, ey_11, hF⟩ := lt_some hF
        refine lv_eqi ey_11 ?_
        refine lv_istore (lv' := [(6, .int y_11), (0, .ref (a0 0)), (1, .int x1), (2, .int x2), (4, .int x4), (5, .int x5)]) hx hb dX12_isIdle_176 hl (by decide) rfl (fun ls hl => ?_)
        refine lv_iload hx hb dX12_isIdle_178 (lv_at hl 0 rfl) ?_
        refine lv_if_ne (tgt := 239) hx hb dX12_isIdle_180 (by decide) (fun c_12 => ?_) (fun c_12 => ?_)
        · have hF := it_f hF c_12
          exact j239 () hF _ _ _ hP hD hS (lv_sub hl [] rfl)
        · have hF := it_t hF c_12
          refine lv_aload_n hx hb dX12_isIdle_183 rfl (lv_at hl 1 rfl) ?_
          refine lv_iload_n hx hb dX12_isIdle_184 rfl (lv_at hl 2 rfl) ?_
          refine lv_iload hx hb dX12_isIdle_185 (lv_at hl 4 rfl) ?_
          obtain ⟨u_13, hu_13, hF⟩ := obd_some hF
          have hPc := hP.sub (ws' := (wd_X12_x cI a0 v0_2 v0_3 v0_5 v0_12 v0_13 v0_16 v0_17 v0_21 v0_23 v0_24 v0_25 v0_26 v0_29 v0_30 v0_0)) [0, 1] rfl
          have hDc := hD.sub (ws' := (wd_X12_x cI a0 v0_2 v0_3 v0_5 v0_12 v0_13 v0_16 v0_17 v0_21 v0_23 v0_24 v0_25 v0_26 v0_29 v0_30 v0_0)) [0, 1] rfl rfl
          refine q_calli (wc := (wd_X12_x cI a0 v0_2 v0_3 v0_5 v0_12 v0_13 v0_16 v0_17 v0_21 v0_23 v0_24 v0_25 v0_26 v0_29 v0_30 v0_0)) (w1 := (wd_X12_x cI a0 v0_2 v0_3 v0_5 v0_12 v0_13 v0_16 v0_17 v0_21 v0_23 v0_24 v0_25 v0_26 v0_29 v0_30 v0_0)) (ws' := (wd_X12_isIdle cI a0 v0_2 v0_3 v0_5 v0_12 v0_13 v0_16 v0_17 v0_21 v0_23 v0_24 v0_25 v0_26 v0_29 v0_30 v0_0)) hP hD hS hA [0, 1] [] [0, 1] rfl rfl rfl (by decide) rfl rfl (va_runV (As := [.int x1, .int x4]) (rest := []) ⟨hx, hb, hml, hown, hta⟩ (c_X12_x l dC dI cI H.size a0 v0_2 v0_3 v0_5 v0_12 v0_13 v0_16 v0_17 v0_21 v0_23 v0_24 v0_25 v0_26 v0_29 v0_30 v0_0 x1 x4 u_13 hu_13) (cwV 2 hta (ga_V mA870 mA871 mA872 mA814 mA831) rfl rfl rfl (by decide +kernel) ⟨Nat.le_of_ble_eq_true rfl, Nat.le_of_ble_eq_true rfl⟩) ⟨q_fb, va_recv hK hP (ci := 11) (q0 := 0) rfl rfl, q_ps hPc hK hDc⟩ rfl rfl hl.1 rfl (lv_room (Nat.le_of_ble_eq_true rfl)) dX12_isIdle_187 ⟨Nat.zero_le _, Nat.zero_le _⟩) (fun H locs hP hD hS => ?_)
          refine lv_aload_n hx hb dX12_isIdle_190 rfl (lv_at hl 1 rfl) ?_
          refine lv_iload_n hx hb dX12_isIdle_191 rfl (lv_at hl 2 rfl) ?_
          refine lv_iload_n hx hb dX12_isIdle_192 rfl (lv_at hl 3 rfl) ?_
          obtain ⟨u_14, hu_14, hF⟩ := obd_some hF
          have hPc := hP.sub (ws' := (wd_X12_x cI a0 v0_2 v0_3 v0_5 v0_12 v0_13 v0_16 v0_17 v0_21 v0_23 v0_24 v0_25 v0_26 v0_29 v0_30 v0_0)) [0, 1] rfl
          have hDc := hD.sub (ws' := (wd_X12_x cI a0 v0_2 v0_3 v0_5 v0_12 v0_13 v0_16 v0_17 v0_21 v0_23 v0_24 v0_25 v0_26 v0_29 v0_30 v0_0)) [0, 1] rfl rfl
          refine q_calli (wc := (wd_X12_x cI a0 v0_2 v0_3 v0_5 v0_12 v0_13 v0_16 v0_17 v0_21 v0_23 v0_24 v0_25 v0_26 v0_29 v0_30 v0_0)) (w1 := (wd_X12_x cI a0 v0_2 v0_3 v0_5 v0_12 v0_13 v0_16 v0_17 v0_21 v0_23 v0_24 v0_25 v0_26 v0_29 v0_30 v0_0)) (ws' := (wd_X12_isIdle cI a0 v0_2 v0_3 v0_5 v0_12 v0_13 v0_16 v0_17 v0_21 v0_23 v0_24 v0_25 v0_26 v0_29 v0_30 v0_0)) hP hD hS hA [0, 1] [] [0, 1] rfl rfl rfl (by decide) rfl rfl (va_runV (As := [.int x1, .int x2]) (rest := [.int u_13]) ⟨hx, hb, hml, hown, hta⟩ (c_X12_x l dC dI cI H.size a0 v0_2 v0_3 v0_5 v0_12 v0_13 v0_16 v0_17 v0_21 v0_23 v0_24 v0_25 v0_26 v0_29 v0_30 v0_0 x1 x2 u_14 hu_14) (cwV 2 hta (ga_V mA870 mA871 mA872 mA814 mA831) rfl rfl rfl (by decide +kernel) ⟨Nat.le_of_ble_eq_true rfl, Nat.le_of_ble_eq_true rfl⟩) ⟨q_fb, va_recv hK hP (ci := 11) (q0 := 0) rfl rfl, q_ps hPc hK hDc⟩ rfl rfl hl.1 rfl (lv_room (Nat.le_of_ble_eq_true rfl)) dX12_isIdle_193 ⟨Nat.zero_le _, Nat.zero_le _⟩) (fun H locs hP hD hS => ?_)
          refine lv_aload_n hx hb dX12_isIdle_196 rfl (lv_at hl 1 rfl) ?_
          refine lv_iload_n hx hb dX12_isIdle_197 rfl (lv_at hl 2 rfl) ?_
          refine lv_iload hx hb dX12_isIdle_198 (lv_at hl 5 rfl) ?_
          obtain ⟨u_15, hu_15, hF⟩ := obd_some hF
          have hPc := hP.sub (ws' := (wd_X12_x cI a0 v0_2 v0_3 v0_5 v0_12 v0_13 v0_16 v0_17 v0_21 v0_23 v0_24 v0_25 v0_26 v0_29 v0_30 v0_0)) [0, 1] rfl
          have hDc := hD.sub (ws' := (wd_X12_x cI a0 v0_2 v0_3 v0_5 v0_12 v0_13 v0_16 v0_17 v0_21 v0_23 v0_24 v0_25 v0_26 v0_29 v0_30 v0_0)) [0, 1] rfl rfl
          refine q_calli (wc := (wd_X12_x cI a0 v0_2 v0_3 v0_5 v0_12 v0_13 v0_16 v0_17 v0_21 v0_23 v0_24 v0_25 v0_26 v0_29 v0_30 v0_0)) (w1 := (wd_X12_x cI a0 v0_2 v0_3 v0_5 v0_12 v0_13 v0_16 v0_17 v0_21 v0_23 v0_24 v0_25 v0_26 v0_29 v0_30 v0_0)) (ws' := (wd_X12_isIdle cI a0 v0_2 v0_3 v0_5 v0_12 v0_13 v0_16 v0_17 v0_21 v0_23 v0_24 v0_25 v0_26 v0_29 v0_30 v0_0)) hP hD hS hA [0, 1] [] [0, 1] rfl rfl rfl (by decide) rfl rfl (va_runV (As := [.int x1, .int x5]) (rest := [.int u_14, .int u_13]) ⟨hx, hb, hml, hown, hta⟩ (c_X12_x l dC dI cI H.size a0 v0_2 v0_3 v0_5 v0_12 v0_13 v0_16 v0_17 v0_21 v0_23 v0_24 v0_25 v0_26 v0_29 v0_30 v0_0 x1 x5 u_15 hu_15) (cwV 2 hta (ga_V mA870 mA871 mA872 mA814 mA831) rfl rfl rfl (by decide +kernel) ⟨Nat.le_of_ble_eq_true rfl, Nat.le_of_ble_eq_true rfl⟩) ⟨q_fb, va_recv hK hP (ci := 11) (q0 := 0) rfl rfl, q_ps hPc hK hDc⟩ rfl rfl hl.1 rfl (lv_room (Nat.le_of_ble_eq_true rfl)) dX12_isIdle_200 ⟨Nat.zero_le _, Nat.zero_le _⟩) (fun H locs hP hD hS => ?_)
          obtain ⟨u_16, hu_16, hF⟩ := lt_some hF
          have hPc := hP.sub (ws' := ([] : va_W)) [] rfl
          have hDc := hD.sub (ws' := ([] : va_W)) [] rfl rfl
          refine q_callz (wc := ([] : va_W)) (w1 := ([] : va_W)) (ws' := (wd_X12_isIdle cI a0 v0_2 v0_3 v0_5 v0_12 v0_13 v0_16 v0_17 v0_21 v0_23 v0_24 v0_25 v0_26 v0_29 v0_30 v0_0)) hP hD hS hA [] [0, 1] [0, 1] rfl rfl rfl (by decide) rfl rfl (va_runS (As := [.int u_13, .int u_14, .int u_15]) (rest := []) ⟨hx, hb, hml, hown, hta⟩ (c_X12_isBetween l dC dI cI H.size u_13 u_14 u_15 u_16 hu_16.symm) (va_cwS 3 hta (ga_S mA885 mA886 mA814 mA883) rfl rfl rfl (by decide +kernel) ⟨Nat.le_of_ble_eq_true rfl, Nat.le_of_ble_eq_true rfl⟩) ⟨q_fb, q_ps hPc hK hDc⟩ rfl rfl hl.1 rfl (lv_room (Nat.le_of_ble_eq_true rfl)) dX12_isIdle_203 ⟨Nat.zero_le _, Nat.zero_le _⟩) (fun hzu_16 H locs hP hD hS => ?_)
          refine lv_if_eq (tgt := 239) hx hb dX12_isIdle_206 (by decide) (fun c_17 => ?_) (fun c_17 => ?_)
          · have hF := it_t hF c_17
            exact j239 () hF _ _ _ hP hD hS (lv_sub hl [] rfl)
          · have hF := it_f hF c_17
            refine lv_aload_n hx hb dX12_isIdle_209 rfl (lv_at hl 1 rfl) ?_
            refine lv_iload_n hx hb dX12_isIdle_210 rfl (lv_at hl 2 rfl) ?_
            refine lv_iload hx hb dX12_isIdle_211 (lv_at hl 4 rfl) ?_
            obtain ⟨u_18, hu_18, hF⟩ := obd_some hF
            have hPc := hP.sub (ws' := (wd_X12_y cI a0 v0_2 v0_3 v0_5 v0_12 v0_13 v0_16 v0_17 v0_21 v0_23 v0_24 v0_25 v0_26 v0_29 v0_30 v0_0)) [0, 1] rfl
            have hDc := hD.sub (ws' := (wd_X12_y cI a0 v0_2 v0_3 v0_5 v0_12 v0_13 v0_16 v0_17 v0_21 v0_23 v0_24 v0_25 v0_26 v0_29 v0_30 v0_0)) [0, 1] rfl rfl
            refine q_calli (wc := (wd_X12_y cI a0 v0_2 v0_3 v0_5 v0_12 v0_13 v0_16 v0_17 v0_21 v0_23 v0_24 v0_25 v0_26 v0_29 v0_30 v0_0)) (w1 := (wd_X12_y cI a0 v0_2 v0_3 v0_5 v0_12 v0_13 v0_16 v0_17 v0_21 v0_23 v0_24 v0_25 v0_26 v0_29 v0_30 v0_0)) (ws' := (wd_X12_isIdle cI a0 v0_2 v0_3 v0_5 v0_12 v0_13 v0_16 v0_17 v0_21 v0_23 v0_24 v0_25 v0_26 v0_29 v0_30 v0_0)) hP hD hS hA [0, 1] [] [0, 1] rfl rfl rfl (by decide) rfl rfl (va_runV (As := [.int x1, .int x4]) (rest := []) ⟨hx, hb, hml, hown, hta⟩ (c_X12_y l dC dI cI H.size a0 v0_2 v0_3 v0_5 v0_12 v0_13 v0_16 v0_17 v0_21 v0_23 v0_24 v0_25 v0_26 v0_29 v0_30 v0_0 x1 x4 u_18 hu_18) (cwV 2 hta (ga_V mA873 mA874 mA875 mA814 mA832) rfl rfl rfl (by decide +kernel) ⟨Nat.le_of_ble_eq_true rfl, Nat.le_of_ble_eq_true rfl⟩) ⟨q_fb, va_recv hK hP (ci := 11) (q0 := 0) rfl rfl, q_ps hPc hK hDc⟩ rfl rfl hl.1 rfl (lv_room (Nat.le_of_ble_eq_true rfl)) dX12_isIdle_213 ⟨Nat.zero_le _, Nat.zero_le _⟩) (fun H locs hP hD hS => ?_)
            refine lv_aload_n hx hb dX12_isIdle_216 rfl (lv_at hl 1 rfl) ?_
            refine lv_iload_n hx hb dX12_isIdle_217 rfl (lv_at hl 2 rfl) ?_
            refine lv_iload_n hx hb dX12_isIdle_218 rfl (lv_at hl 3 rfl) ?_
            obtain ⟨u_19, hu_19, hF⟩ := obd_some hF
            have hPc := hP.sub (ws' := (wd_X12_y cI a0 v0_2 v0_3 v0_5 v0_12 v0_13 v0_16 v0_17 v0_21 v0_23 v0_24 v0_25 v0_26 v0_29 v0_30 v0_0)) [0, 1] rfl
            have hDc := hD.sub (ws' := (wd_X12_y cI a0 v0_2 v0_3 v0_5 v0_12 v0_13 v0_16 v0_17 v0_21 v0_23 v0_24 v0_25 v0_26 v0_29 v0_30 v0_0)) [0, 1] rfl rfl
            refine q_calli (wc := (wd_X12_y cI a0 v0_2 v0_3 v0_5 v0_12 v0_13 v0_16 v0_17 v0_21 v0_23 v0_24 v0_25 v0_26 v0_29 v0_30 v0_0)) (w1 := (wd_X12_y cI a0 v0_2 v0_3 v0_5 v0_12 v0_13 v0_16 v0_17 v0_21 v0_23 v0_24 v0_25 v0_26 v0_29 v0_30 v0_0)) (ws' := (wd_X12_isIdle cI a0 v0_2 v0_3 v0_5 v0_12 v0_13 v0_16 v0_17 v0_21 v0_23 v0_24 v0_25 v0_26 v0_29 v0_30 v0_0)) hP hD hS hA [0, 1] [] [0, 1] rfl rfl rfl (by decide) rfl rfl (va_runV (As := [.int x1, .int x2]) (rest := [.int u_18]) ⟨hx, hb, hml, hown, hta⟩ (c_X12_y l dC dI cI H.size a0 v0_2 v0_3 v0_5 v0_12 v0_13 v0_16 v0_17 v0_21 v0_23 v0_24 v0_25 v0_26 v0_29 v0_30 v0_0 x1 x2 u_19 hu_19) (cwV 2 hta (ga_V mA873 mA874 mA875 mA814 mA832) rfl rfl rfl (by decide +kernel) ⟨Nat.le_of_ble_eq_true rfl, Nat.le_of_ble_eq_true rfl⟩) ⟨q_fb, va_recv hK hP (ci := 11) (q0 := 0) rfl rfl, q_ps hPc hK hDc⟩ rfl rfl hl.1 rfl (lv_room (Nat.le_of_ble_eq_true rfl)) dX12_isIdle_219 ⟨Nat.zero_le _, Nat.zero_le _⟩) (fun H locs hP hD hS => ?_)
            refine lv_aload_n hx hb dX12_isIdle_222 rfl (lv_at hl 1 rfl) ?_
            refine lv_iload_n hx hb dX12_isIdle_223 rfl (lv_at hl 2 rfl) ?_
            refine lv_iload hx hb dX12_isIdle_224 (lv_at hl 5 rfl) ?_
            obtain ⟨u_20, hu_20, hF⟩ := obd_some hF
            have hPc := hP.sub (ws' := (wd_X12_y cI a0 v0_2 v0_3 v0_5 v0_12 v0_13 v0_16 v0_17 v0_21 v0_23 v0_24 v0_25 v0_26 v0_29 v0_30 v0_0)) [0, 1] rfl
            have hDc := hD.sub (ws' := (wd_X12_y cI a0 v0_2 v0_3 v0_5 v0_12 v0_13 v0_16 v0_17 v0_21 v0_23 v0_24 v0_25 v0_26 v0_29 v0_30 v0_0)) [0, 1] rfl rfl
            refine q_calli (wc := (wd_X12_y cI a0 v0_2 v0_3 v0_5 v0_12 v0_13 v0_16 v0_17 v0_21 v0_23 v0_24 v0_25 v0_26 v0_29 v0_30 v0_0)) (w1 := (wd_X12_y cI a0 v0_2 v0_3 v0_5 v0_12 v0_13 v0_16 v0_17 v0_21 v0_23 v0_24 v0_25 v0_26 v0_29 v0_30 v0_0)) (ws' := (wd_X12_isIdle cI a0 v0_2 v0_3 v0_5 v0_12 v0_13 v0_16 v0_17 v0_21 v0_23 v0_24 v0_25 v0_26 v0_29 v0_30 v0_0)) hP hD hS hA [0, 1] [] [0, 1] rfl rfl rfl (by decide) rfl rfl (va_runV (As := [.int x1, .int x5]) (rest := [.int u_19, .int u_18]) ⟨hx, hb, hml, hown, hta⟩ (c_X12_y l dC dI cI H.size a0 v0_2 v0_3 v0_5 v0_12 v0_13 v0_16 v0_17 v0_21 v0_23 v0_24 v0_25 v0_26 v0_29 v0_30 v0_0 x1 x5 u_20 hu_20) (cwV 2 hta (ga_V mA873 mA874 mA875 mA814 mA832) rfl rfl rfl (by decide +kernel) ⟨Nat.le_of_ble_eq_true rfl, Nat.le_of_ble_eq_true rfl⟩) ⟨q_fb, va_recv hK hP (ci := 11) (q0 := 0) rfl rfl, q_ps hPc hK hDc⟩ rfl rfl hl.1 rfl (lv_room (Nat.le_of_ble_eq_true rfl)) dX12_isIdle_226 ⟨Nat.zero_le _, Nat.zero_le _⟩) (fun H locs hP hD hS => ?_)
            obtain ⟨u_21, hu_21, hF⟩ := lt_some hF
            have hPc := hP.sub (ws' := ([] : va_W)) [] rfl
            have hDc := hD.sub (ws' := ([] : va_W)) [] rfl rfl
            refine q_callz (wc := ([] : va_W)) (w1 := ([] : va_W)) (ws' := (wd_X12_isIdle cI a0 v0_2 v0_3 v0_5 v0_12 v0_13 v0_16 v0_17 v0_21 v0_23 v0_24 v0_25 v0_26 v0_29 v0_30 v0_0)) hP hD hS hA [] [0, 1] [0, 1] rfl rfl rfl (by decide) rfl rfl (va_runS (As := [.int u_18, .int u_19, .int u_20]) (rest := []) ⟨hx, hb, hml, hown, hta⟩ (c_X12_isBetween l dC dI cI H.size u_18 u_19 u_20 u_21 hu_21.symm) (va_cwS 3 hta (ga_S mA885 mA886 mA814 mA883) rfl rfl rfl (by decide +kernel) ⟨Nat.le_of_ble_eq_true rfl, Nat.le_of_ble_eq_true rfl⟩) ⟨q_fb, q_ps hPc hK hDc⟩ rfl rfl hl.1 rfl (lv_room (Nat.le_of_ble_eq_true rfl)) dX12_isIdle_229 ⟨Nat.zero_le _, Nat.zero_le _⟩) (fun hzu_21 H locs hP hD hS => ?_)
            refine lv_if_eq (tgt := 239) hx hb dX12_isIdle_232 (by decide) (fun c_22 => ?_) (fun c_22 => ?_)
            · have hF := it_t hF c_22
              exact j239 () hF _ _ _ hP hD hS (lv_sub hl [] rfl)
            · have hF := it_f hF c_22
              refine lv_iconst (v := 1) hx hb dX12_isIdle_235 (by decide) ?_
              refine lv_goto (tgt := 240) hx hb dX12_isIdle_236 (by decide) ?_
              obtain rfl := Option.some.inj hF
              exact W.zret (v := 1) (ty := .boolean) hx hb hr (z_nar (Or.inr rfl)) (fun t ht hW => ⟨⟨1, (), rfl, ⟨rfl, (Or.inr rfl)⟩, by rw [ht]; exact hP, va_K.moved hW.alike hK, hD⟩, hS.F ht⟩) hS.2.2 dX12_isIdle_240
      · have hF := it_t hF c_2
        exact j113 () hF _ _ _ hP hD hS (lv_sub hl [] rfl)
  have j59 : ∀ (x1 : Int32) (x2 : Int32) (x4 : Int32) (t0 : Int32), F_X12_isIdle_j59 v0_0 x1 x2 x4 t0 = some u → ∀ (H : Heap) (locs : List Loc) (ls : Array Slot), va_P (dC, dI) vwCl (wd_X12_isIdle cI a0 v0_2 v0_3 v0_5 v0_12 v0_13 v0_16 v0_17 v0_21 v0_23 v0_24 v0_25 v0_26 v0_29 v0_30 v0_0) H → va_D A (wd_X12_isIdle cI a0 v0_2 v0_3 v0_5 v0_12 v0_13 v0_16 v0_17 v0_21 v0_23 v0_24 v0_25 v0_26 v0_29 v0_30 v0_0) → va_S A s.heap H locs → lv_has ls 7 [(0, .ref (a0 0)), (1, .int x1), (2, .int x2), (4, .int x4)] → W p l e (headSpec wz_X12_isIdle rm_X12_isIdle).room s m [.ref (a0 0), .int p1, .int p2].toArray below meth c H locs 0 0 (MQ below (Q_X12_isIdle dC dI cI a0 v0_2 v0_3 v0_5 v0_12 v0_13 v0_16 v0_17 v0_21 v0_23 v0_24 v0_25 v0_26 v0_29 v0_30 v0_0 u A) [.ref (a0 0), .int p1, .int p2].toArray s 0 0 A) (F0 m 59 ls [.int t0]) := by
    intro x1 x2 x4 t0 hF H locs ls hP hD hS hl
    unfold F_X12_isIdle_j59 at hF
    refine lv_istore (lv' := [(5, .int t0), (0, .ref (a0 0)), (1, .int x1), (2, .int x2), (4, .int x4)]) hx hb dX12_isIdle_59 hl (by decide) rfl (fun ls hl => ?_)
    refine lv_iload hx hb dX12_isIdle_61 (lv_at hl 4 rfl) ?_
    refine lv_iconst (v := (-1)) hx hb dX12_isIdle_63 (by decide) ?_
    refine lv_icmp_eq (tgt := 101) hx hb dX12_isIdle_64 (by decide) (fun c_23 => ?_) (fun c_23 => ?_)
    · have hF := it_t hF c_23
      exact j101 x1 x2 x4 t0 hF _ _ _ hP hD hS (lv_sub hl [1, 2, 3, 4, 0] rfl)
    · have hF := it_f hF c_23
      refine lv_aload_n hx hb dX12_isIdle_67 rfl (lv_at hl 1 rfl) ?_
      refine lv_iload_n hx hb dX12_isIdle_68 rfl (lv_at hl 2 rfl) ?_
      refine lv_iload hx hb dX12_isIdle_69 (lv_at hl 4 rfl) ?_
      obtain ⟨u_24, hu_24, hF⟩ := obd_some hF
      have hPc := hP.sub (ws' := (wd_X12_x cI a0 v0_2 v0_3 v0_5 v0_12 v0_13 v0_16 v0_17 v0_21 v0_23 v0_24 v0_25 v0_26 v0_29 v0_30 v0_0)) [0, 1] rfl
      have hDc := hD.sub (ws' := (wd_X12_x cI a0 v0_2 v0_3 v0_5 v0_12 v0_13 v0_16 v0_17 v0_21 v0_23 v0_24 v0_25 v0_26 v0_29 v0_30 v0_0)) [0, 1] rfl rfl
      refine q_calli (wc := (wd_X12_x cI a0 v0_2 v0_3 v0_5 v0_12 v0_13 v0_16 v0_17 v0_21 v0_23 v0_24 v0_25 v0_26 v0_29 v0_30 v0_0)) (w1 := (wd_X12_x cI a0 v0_2 v0_3 v0_5 v0_12 v0_13 v0_16 v0_17 v0_21 v0_23 v0_24 v0_25 v0_26 v0_29 v0_30 v0_0)) (ws' := (wd_X12_isIdle cI a0 v0_2 v0_3 v0_5 v0_12 v0_13 v0_16 v0_17 v0_21 v0_23 v0_24 v0_25 v0_26 v0_29 v0_30 v0_0)) hP hD hS hA [0, 1] [] [0, 1] rfl rfl rfl (by decide) rfl rfl (va_runV (As := [.int x1, .int x4]) (rest := []) ⟨hx, hb, hml, hown, hta⟩ (c_X12_x l dC dI cI H.size a0 v0_2 v0_3 v0_5 v0_12 v0_13 v0_16 v0_17 v0_21 v0_23 v0_24 v0_25 v0_26 v0_29 v0_30 v0_0 x1 x4 u_24 hu_24) (cwV 2 hta (ga_V mA870 mA871 mA872 mA814 mA831) rfl rfl rfl (by decide +kernel) ⟨Nat.le_of_ble_eq_true rfl, Nat.le_of_ble_eq_true rfl⟩) ⟨q_fb, va_recv hK hP (ci := 11) (q0 := 0) rfl rfl, q_ps hPc hK hDc⟩ rfl rfl hl.1 rfl (lv_room (Nat.le_of_ble_eq_true rfl)) dX12_isIdle_71 ⟨Nat.zero_le _, Nat.zero_le _⟩) (fun H locs hP hD hS => ?_)
      refine lv_aload_n hx hb dX12_isIdle_74 rfl (lv_at hl 1 rfl) ?_
      refine lv_iload_n hx hb dX12_isIdle_75 rfl (lv_at hl 2 rfl) ?_
      refine lv_iload_n hx hb dX12_isIdle_76 rfl (lv_at hl 3 rfl) ?_
      obtain ⟨u_25, hu_25, hF⟩ := obd_some hF
      have hPc := hP.sub (ws' := (wd_X12_x cI a0 v0_2 v0_3 v0_5 v0_12 v0_13 v0_16 v0_17 v0_21 v0_23 v0_24 v0_25 v0_26 v0_29 v0_30 v0_0)) [0, 1] rfl
      have hDc := hD.sub (ws' := (wd_X12_x cI a0 v0_2 v0_3 v0_5 v0_12 v0_13 v0_16 v0_17 v0_21 v0_23 v0_24 v0_25 v0_26 v0_29 v0_30 v0_0)) [0, 1] rfl rfl
      refine q_calli (wc := (wd_X12_x cI a0 v0_2 v0_3 v0_5 v0_12 v0_13 v0_16 v0_17 v0_21 v0_23 v0_24 v0_25 v0_26 v0_29 v0_30 v0_0)) (w1 := (wd_X12_x cI a0 v0_2 v0_3 v0_5 v0_12 v0_13 v0_16 v0_17 v0_21 v0_23 v0_24 v0_25 v0_26 v0_29 v0_30 v0_0)) (ws' := (wd_X12_isIdle cI a0 v0_2 v0_3 v0_5 v0_12 v0_13 v0_16 v0_17 v0_21 v0_23 v0_24 v0_25 v0_26 v0_29 v0_30 v0_0)) hP hD hS hA [0, 1] [] [0, 1] rfl rfl rfl (by decide) rfl rfl (va_runV (As := [.int x1, .int x2]) (rest := [.int u_24]) ⟨hx, hb, hml, hown, hta⟩ (c_X12_x l dC dI cI H.size a0 v0_2 v0_3 v0_5 v0_12 v0_13 v0_16 v0_17 v0_21 v0_23 v0_24 v0_25 v0_26 v0_29 v0_30 v0_0 x1 x2 u_25 hu_25) (cwV 2 hta (ga_V mA870 mA871 mA872 mA814 mA831) rfl rfl rfl (by decide +kernel) ⟨Nat.le_of_ble_eq_true rfl, Nat.le_of_ble_eq_true rfl⟩) ⟨q_fb, va_recv hK hP (ci := 11) (q0 := 0) rfl rfl, q_ps hPc hK hDc⟩ rfl rfl hl.1 rfl (lv_room (Nat.le_of_ble_eq_true rfl)) dX12_isIdle_77 ⟨Nat.zero_le _, Nat.zero_le _⟩) (fun H locs hP hD hS => ?_)
      refine lv_icmp_ne (tgt := 101) hx hb dX12_isIdle_80 (by decide) (fun c_26 => ?_) (fun c_26 => ?_)
      · have hF := it_f hF c_26
        exact j101 x1 x2 x4 t0 hF _ _ _ hP hD hS (lv_sub hl [1, 2, 3, 4, 0] rfl)
      · have hF := it_t hF c_26
        refine lv_aload_n hx hb dX12_isIdle_83 rfl (lv_at hl 1 rfl) ?_
        refine lv_iload_n hx hb dX12_isIdle_84 rfl (lv_at hl 2 rfl) ?_
        refine lv_iload hx hb dX12_isIdle_85 (lv_at hl 4 rfl) ?_
        obtain ⟨u_27, hu_27, hF⟩ := obd_some hF
        have hPc := hP.sub (ws' := (wd_X12_y cI a0 v0_2 v0_3 v0_5 v0_12 v0_13 v0_16 v0_17 v0_21 v0_23 v0_24 v0_25 v0_26 v0_29 v0_30 v0_0)) [0, 1] rfl
        have hDc := hD.sub (ws' := (wd_X12_y cI a0 v0_2 v0_3 v0_5 v0_12 v0_13 v0_16 v0_17 v0_21 v0_23 v0_24 v0_25 v0_26 v0_29 v0_30 v0_0)) [0, 1] rfl rfl
        refine q_calli (wc := (wd_X12_y cI a0 v0_2 v0_3 v0_5 v0_12 v0_13 v0_16 v0_17 v0_21 v0_23 v0_24 v0_25 v0_26 v0_29 v0_30 v0_0)) (w1 := (wd_X12_y cI a0 v0_2 v0_3 v0_5 v0_12 v0_13 v0_16 v0_17 v0_21 v0_23 v0_24 v0_25 v0_26 v0_29 v0_30 v0_0)) (ws' := (wd_X12_isIdle cI a0 v0_2 v0_3 v0_5 v0_12 v0_13 v0_16 v0_17 v0_21 v0_23 v0_24 v0_25 v0_26 v0_29 v0_30 v0_0)) hP hD hS hA [0, 1] [] [0, 1] rfl rfl rfl (by decide) rfl rfl (va_runV (As := [.int x1, .int x4]) (rest := []) ⟨hx, hb, hml, hown, hta⟩ (c_X12_y l dC dI cI H.size a0 v0_2 v0_3 v0_5 v0_12 v0_13 v0_16 v0_17 v0_21 v0_23 v0_24 v0_25 v0_26 v0_29 v0_30 v0_0 x1 x4 u_27 hu_27) (cwV 2 hta (ga_V mA873 mA874 mA875 mA814 mA832) rfl rfl rfl (by decide +kernel) ⟨Nat.le_of_ble_eq_true rfl, Nat.le_of_ble_eq_true rfl⟩) ⟨q_fb, va_recv hK hP (ci := 11) (q0 := 0) rfl rfl, q_ps hPc hK hDc⟩ rfl rfl hl.1 rfl (lv_room (Nat.le_of_ble_eq_true rfl)) dX12_isIdle_87 ⟨Nat.zero_le _, Nat.zero_le _⟩) (fun H locs hP hD hS => ?_)
        refine lv_aload_n hx hb dX12_isIdle_90 rfl (lv_at hl 1 rfl) ?_
        refine lv_iload_n hx hb dX12_isIdle_91 rfl (lv_at hl 2 rfl) ?_
        refine lv_iload_n hx hb dX12_isIdle_92 rfl (lv_at hl 3 rfl) ?_
        obtain ⟨u_28, hu_28, hF⟩ := obd_some hF
        have hPc := hP.sub (ws' := (wd_X12_y cI a0 v0_2 v0_3 v0_5 v0_12 v0_13 v0_16 v0_17 v0_21 v0_23 v0_24 v0_25 v0_26 v0_29 v0_30 v0_0)) [0, 1] rfl
        have hDc := hD.sub (ws' := (wd_X12_y cI a0 v0_2 v0_3 v0_5 v0_12 v0_13 v0_16 v0_17 v0_21 v0_23 v0_24 v0_25 v0_26 v0_29 v0_30 v0_0)) [0, 1] rfl rfl
        refine q_calli (wc := (wd_X12_y cI a0 v0_2 v0_3 v0_5 v0_12 v0_13 v0_16 v0_17 v0_21 v0_23 v0_24 v0_25 v0_26 v0_29 v0_30 v0_0)) (w1 := (wd_X12_y cI a0 v0_2 v0_3 v0_5 v0_12 v0_13 v0_16 v0_17 v0_21 v0_23 v0_24 v0_25 v0_26 v0_29 v0_30 v0_0)) (ws' := (wd_X12_isIdle cI a0 v0_2 v0_3 v0_5 v0_12 v0_13 v0_16 v0_17 v0_21 v0_23 v0_24 v0_25 v0_26 v0_29 v0_30 v0_0)) hP hD hS hA [0, 1] [] [0, 1] rfl rfl rfl (by decide) rfl rfl (va_runV (As := [.int x1, .int x2]) (rest := [.int u_27]) ⟨hx, hb, hml, hown, hta⟩ (c_X12_y l dC dI cI H.size a0 v0_2 v0_3 v0_5 v0_12 v0_13 v0_16 v0_17 v0_21 v0_23 v0_24 v0_25 v0_26 v0_29 v0_30 v0_0 x1 x2 u_28 hu_28) (cwV 2 hta (ga_V mA873 mA874 mA875 mA814 mA832) rfl rfl rfl (by decide +kernel) ⟨Nat.le_of_ble_eq_true rfl, Nat.le_of_ble_eq_true rfl⟩) ⟨q_fb, va_recv hK hP (ci := 11) (q0 := 0) rfl rfl, q_ps hPc hK hDc⟩ rfl rfl hl.1 rfl (lv_room (Nat.le_of_ble_eq_true rfl)) dX12_isIdle_93 ⟨Nat.zero_le _, Nat.zero_le _⟩) (fun H locs hP hD hS => ?_)
        refine lv_icmp_ne (tgt := 101) hx hb dX12_isIdle_96 (by decide) (fun c_29 => ?_) (fun c_29 => ?_)
        · have hF := it_f hF c_29
          exact j101 x1 x2 x4 t0 hF _ _ _ hP hD hS (lv_sub hl [1, 2, 3, 4, 0] rfl)
        · have hF := it_t hF c_29
          refine lv_iconst (v := 1) hx hb dX12_isIdle_99 (by decide) ?_
          obtain rfl := Option.some.inj hF
          exact W.zret (v := 1) (ty := .boolean) hx hb hr (z_nar (Or.inr rfl)) (fun t ht hW => ⟨⟨1, (), rfl, ⟨rfl, (Or.inr rfl)⟩, by rw [ht]; exact hP, va_K.moved hW.alike hK, hD⟩, hS.F ht⟩) hS.2.2 dX12_isIdle_100
  have j31 : ∀ (x1 : Int32) (x2 : Int32) (x3 : Int32) (t0 : Int32), F_X12_isIdle_j31 v0_0 x1 x2 x3 t0 = some u → ∀ (H : Heap) (locs : List Loc) (ls : Array Slot), va_P (dC, dI) vwCl (wd_X12_isIdle cI a0 v0_2 v0_3 v0_5 v0_12 v0_13 v0_16 v0_17 v0_21 v0_23 v0_24 v0_25 v0_26 v0_29 v0_30 v0_0) H → va_D A (wd_X12_isIdle cI a0 v0_2 v0_3 v0_5 v0_12 v0_13 v0_16 v0_17 v0_21 v0_23 v0_24 v0_25 v0_26 v0_29 v0_30 v0_0) → va_S A s.heap H locs → lv_has ls 7 [(0, .ref (a0 0)), (1, .int x1), (2, .int x2), (3, .int x3)] → W p l e (headSpec wz_X12_isIdle rm_X12_isIdle).room s m [.ref (a0 0), .int p1, .int p2].toArray below meth c H locs 0 0 (MQ below (Q_X12_isIdle dC dI cI a0 v0_2 v0_3 v0_5 v0_12 v0_13 v0_16 v0_17 v0_21 v0_23 v0_24 v0_25 v0_26 v0_29 v0_30 v0_0 u A) [.ref (a0 0), .int p1, .int p2].toArray s 0 0 A) (F0 m 31 ls [.int t0]) := by
    intro x1 x2 x3 t0 hF H locs ls hP hD hS hl
    unfold F_X12_isIdle_j31 at hF
    refine lv_istore (lv' := [(4, .int t0), (0, .ref (a0 0)), (1, .int x1), (2, .int x2), (3, .int x3)]) hx hb dX12_isIdle_31 hl (by decide) rfl (fun ls hl => ?_)
    refine lv_iload_n hx hb dX12_isIdle_33 rfl (lv_at hl 3 rfl) ?_
    refine lv_iload_n hx hb dX12_isIdle_34 rfl (lv_at hl 4 rfl) ?_
    refine lv_iconst (v := 1) hx hb dX12_isIdle_35 (by decide) ?_
    refine lv_isub hx hb dX12_isIdle_36 ?_
    refine lv_icmp_ge (tgt := 46) hx hb dX12_isIdle_37 (by decide) (fun c_30 => ?_) (fun c_30 => ?_)
    · have hF := it_t hF c_30
      refine lv_aload_n hx hb dX12_isIdle_46 rfl (lv_at hl 1 rfl) ?_
      refine lv_iload_n hx hb dX12_isIdle_47 rfl (lv_at hl 2 rfl) ?_
      obtain ⟨u_31, hu_31, hF⟩ := obd_some hF
      have hPc := hP.sub (ws' := (wd_X12_isClosed cI a0 v0_2 v0_3 v0_5 v0_12 v0_13 v0_16 v0_17 v0_21 v0_23 v0_24 v0_25 v0_26 v0_29 v0_30 v0_0)) [0, 1] rfl
      have hDc := hD.sub (ws' := (wd_X12_isClosed cI a0 v0_2 v0_3 v0_5 v0_12 v0_13 v0_16 v0_17 v0_21 v0_23 v0_24 v0_25 v0_26 v0_29 v0_30 v0_0)) [0, 1] rfl rfl
      refine q_callz (wc := (wd_X12_isClosed cI a0 v0_2 v0_3 v0_5 v0_12 v0_13 v0_16 v0_17 v0_21 v0_23 v0_24 v0_25 v0_26 v0_29 v0_30 v0_0)) (w1 := (wd_X12_isClosed cI a0 v0_2 v0_3 v0_5 v0_12 v0_13 v0_16 v0_17 v0_21 v0_23 v0_24 v0_25 v0_26 v0_29 v0_30 v0_0)) (ws' := (wd_X12_isIdle cI a0 v0_2 v0_3 v0_5 v0_12 v0_13 v0_16 v0_17 v0_21 v0_23 v0_24 v0_25 v0_26 v0_29 v0_30 v0_0)) hP hD hS hA [0, 1] [] [0, 1] rfl rfl rfl (by decide) rfl rfl (va_runV (As := [.int x1]) (rest := []) ⟨hx, hb, hml, hown, hta⟩ (c_X12_isClosed l dC dI cI H.size a0 v0_2 v0_3 v0_5 v0_12 v0_13 v0_16 v0_17 v0_21 v0_23 v0_24 v0_25 v0_26 v0_29 v0_30 v0_0 x1 u_31 hu_31) (cwV 1 hta (ga_V mA852 mA853 mA854 mA814 mA830) rfl rfl rfl (by decide +kernel) ⟨Nat.le_of_ble_eq_true rfl, Nat.le_of_ble_eq_true rfl⟩) ⟨q_fb, va_recv hK hP (ci := 11) (q0 := 0) rfl rfl, q_ps hPc hK hDc⟩ rfl rfl hl.1 rfl (lv_room (Nat.le_of_ble_eq_true rfl)) dX12_isIdle_48 ⟨Nat.zero_le _, Nat.zero_le _⟩) (fun hzu_31 H locs hP hD hS => ?_)
      refine lv_if_eq (tgt := 58) hx hb dX12_isIdle_51 (by decide) (fun c_32 => ?_) (fun c_32 => ?_)
      · have hF := it_t hF c_32
        refine lv_iconst (v := (-1)) hx hb dX12_isIdle_58 (by decide) ?_
        exact j59 x1 x2 t0 (-1) hF _ _ _ hP hD hS (lv_sub hl [1, 2, 3, 0] rfl)
      · have hF := it_f hF c_32
        refine lv_iconst (v := 0) hx hb dX12_isIdle_54 (by decide) ?_
        refine lv_goto (tgt := 59) hx hb dX12_isIdle_55 (by decide) ?_
        exact j59 x1 x2 t0 0 hF _ _ _ hP hD hS (lv_sub hl [1, 2, 3, 0] rfl)
    · have hF := it_f hF c_30
      refine lv_iload_n hx hb dX12_isIdle_40 rfl (lv_at hl 3 rfl) ?_
      refine lv_iconst (v := 1) hx hb dX12_isIdle_41 (by decide) ?_
      refine lv_iadd hx hb dX12_isIdle_42 ?_
      refine lv_goto (tgt := 59) hx hb dX12_isIdle_43 (by decide) ?_
      exact j59 x1 x2 t0 (x2 + 1) hF _ _ _ hP hD hS (lv_sub hl [1, 2, 3, 0] rfl)
  refine lv_aload_n hx hb dX12_isIdle_0 rfl (lv_at hl 0 rfl) ?_
  refine lv_iload_n hx hb dX12_isIdle_1 rfl (lv_at hl 1 rfl) ?_
  obtain ⟨u_33, hu_33, hF⟩ := obd_some hF
  have hPc := hP.sub (ws' := (wd_X12_points cI a0 v0_2 v0_3 v0_5 v0_12 v0_13 v0_16 v0_17 v0_21 v0_23 v0_24 v0_25 v0_26 v0_29 v0_30 v0_0)) [0, 1] rfl
  have hDc := hD.sub (ws' := (wd_X12_points cI a0 v0_2 v0_3 v0_5 v0_12 v0_13 v0_16 v0_17 v0_21 v0_23 v0_24 v0_25 v0_26 v0_29 v0_30 v0_0)) [0, 1] rfl rfl
  refine q_calli (wc := (wd_X12_points cI a0 v0_2 v0_3 v0_5 v0_12 v0_13 v0_16 v0_17 v0_21 v0_23 v0_24 v0_25 v0_26 v0_29 v0_30 v0_0)) (w1 := (wd_X12_points cI a0 v0_2 v0_3 v0_5 v0_12 v0_13 v0_16 v0_17 v0_21 v0_23 v0_24 v0_25 v0_26 v0_29 v0_30 v0_0)) (ws' := (wd_X12_isIdle cI a0 v0_2 v0_3 v0_5 v0_12 v0_13 v0_16 v0_17 v0_21 v0_23 v0_24 v0_25 v0_26 v0_29 v0_30 v0_0)) hP hD hS hA [0, 1] [] [0, 1] rfl rfl rfl (by decide) rfl rfl (va_runV (As := [.int p1]) (rest := []) ⟨hx, hb, hml, hown, hta⟩ (c_X12_points l dC dI cI H.size a0 v0_2 v0_3 v0_5 v0_12 v0_13 v0_16 v0_17 v0_21 v0_23 v0_24 v0_25 v0_26 v0_29 v0_30 v0_0 p1 u_33 hu_33) (cwV 1 hta (ga_V mA839 mA840 mA841 mA814 mA827) rfl rfl rfl (by decide +kernel) ⟨Nat.le_of_ble_eq_true rfl, Nat.le_of_ble_eq_true rfl⟩) ⟨q_fb, va_recv hK hP (ci := 11) (q0 := 0) rfl rfl, q_ps hPc hK hDc⟩ rfl rfl hl.1 rfl (lv_room (Nat.le_of_ble_eq_true rfl)) dX12_isIdle_2 ⟨Nat.zero_le _, Nat.zero_le _⟩) (fun H locs hP hD hS => ?_)
  refine lv_istore_n (lv' := [(3, .int u_33), (0, .ref (a0 0)), (1, .int p1), (2, .int p2)]) hx hb dX12_isIdle_5 rfl hl (by decide) rfl (fun ls hl => ?_)
  refine lv_iload_n hx hb dX12_isIdle_6 rfl (lv_at hl 3 rfl) ?_
  refine lv_if_le (tgt := 16) hx hb dX12_isIdle_7 (by decide) (fun c_34 => ?_) (fun c_34 => ?_)
  · have hF := it_t hF c_34
    refine lv_aload_n hx hb dX12_isIdle_16 rfl (lv_at hl 1 rfl) ?_
    refine lv_iload_n hx hb dX12_isIdle_17 rfl (lv_at hl 2 rfl) ?_
    obtain ⟨u_35, hu_35, hF⟩ := obd_some hF
    have hPc := hP.sub (ws' := (wd_X12_isClosed cI a0 v0_2 v0_3 v0_5 v0_12 v0_13 v0_16 v0_17 v0_21 v0_23 v0_24 v0_25 v0_26 v0_29 v0_30 v0_0)) [0, 1] rfl
    have hDc := hD.sub (ws' := (wd_X12_isClosed cI a0 v0_2 v0_3 v0_5 v0_12 v0_13 v0_16 v0_17 v0_21 v0_23 v0_24 v0_25 v0_26 v0_29 v0_30 v0_0)) [0, 1] rfl rfl
    refine q_callz (wc := (wd_X12_isClosed cI a0 v0_2 v0_3 v0_5 v0_12 v0_13 v0_16 v0_17 v0_21 v0_23 v0_24 v0_25 v0_26 v0_29 v0_30 v0_0)) (w1 := (wd_X12_isClosed cI a0 v0_2 v0_3 v0_5 v0_12 v0_13 v0_16 v0_17 v0_21 v0_23 v0_24 v0_25 v0_26 v0_29 v0_30 v0_0)) (ws' := (wd_X12_isIdle cI a0 v0_2 v0_3 v0_5 v0_12 v0_13 v0_16 v0_17 v0_21 v0_23 v0_24 v0_25 v0_26 v0_29 v0_30 v0_0)) hP hD hS hA [0, 1] [] [0, 1] rfl rfl rfl (by decide) rfl rfl (va_runV (As := [.int p1]) (rest := []) ⟨hx, hb, hml, hown, hta⟩ (c_X12_isClosed l dC dI cI H.size a0 v0_2 v0_3 v0_5 v0_12 v0_13 v0_16 v0_17 v0_21 v0_23 v0_24 v0_25 v0_26 v0_29 v0_30 v0_0 p1 u_35 hu_35) (cwV 1 hta (ga_V mA852 mA853 mA854 mA814 mA830) rfl rfl rfl (by decide +kernel) ⟨Nat.le_of_ble_eq_true rfl, Nat.le_of_ble_eq_true rfl⟩) ⟨q_fb, va_recv hK hP (ci := 11) (q0 := 0) rfl rfl, q_ps hPc hK hDc⟩ rfl rfl hl.1 rfl (lv_room (Nat.le_of_ble_eq_true rfl)) dX12_isIdle_18 ⟨Nat.zero_le _, Nat.zero_le _⟩) (fun hzu_35 H locs hP hD hS => ?_)
    refine lv_if_eq (tgt := 30) hx hb dX12_isIdle_21 (by decide) (fun c_36 => ?_) (fun c_36 => ?_)
    · have hF := it_t hF c_36
      refine lv_iconst (v := (-1)) hx hb dX12_isIdle_30 (by decide) ?_
      exact j31 p1 p2 u_33 (-1) hF _ _ _ hP hD hS (lv_sub hl [1, 2, 3, 0] rfl)
    · have hF := it_f hF c_36
      refine lv_iload_n hx hb dX12_isIdle_24 rfl (lv_at hl 0 rfl) ?_
      refine lv_iconst (v := 1) hx hb dX12_isIdle_25 (by decide) ?_
      refine lv_isub hx hb dX12_isIdle_26 ?_
      refine lv_goto (tgt := 31) hx hb dX12_isIdle_27 (by decide) ?_
      exact j31 p1 p2 u_33 (u_33 - 1) hF _ _ _ hP hD hS (lv_sub hl [1, 2, 3, 0] rfl)
  · have hF := it_f hF c_34
    refine lv_iload_n hx hb dX12_isIdle_10 rfl (lv_at hl 3 rfl) ?_
    refine lv_iconst (v := 1) hx hb dX12_isIdle_11 (by decide) ?_
    refine lv_isub hx hb dX12_isIdle_12 ?_
    refine lv_goto (tgt := 31) hx hb dX12_isIdle_13 (by decide) ?_
    exact j31 p1 p2 u_33 (p2 - 1) hF _ _ _ hP hD hS (lv_sub hl [1, 2, 3, 0] rfl)

-- StrokeOutlinerModel.firstIdle(I)I
def F_X12_firstIdle_j37  : Option (Int32) :=
  some (-1)
def F_X12_firstIdle_j29 (x2 : Int32) : Option (Int32) :=
  some x2
def F_X12_firstIdle_b2 (v0_0 : Nat → Int32) (x1 : Int32) (s2 : Int32) : Option (Sum (Int32) (Sum (Int32) (Unit))) :=
  obd (F_X12_points v0_0 x1) (fun u_1 => if u_1 ≤ s2 then some (.inr (.inr ())) else obd (F_X12_points v0_0 x1) (fun u_3 => if u_3 ≤ 1 then some (.inr (.inr ())) else obd (F_X12_isIdle v0_0 x1 s2) (fun u_5 => if u_5 = 0 then lt (s2 + 1) (fun y_7 => some (.inl y_7)) else some (.inr (.inl s2)))))
def F_X12_firstIdle_j2 (n : Nat) (v0_0 : Nat → Int32) (x1 : Int32) (x2 : Int32) : Option (Int32) :=
  obd (lpq (F_X12_firstIdle_b2 v0_0 x1) n x2) (fun x_2 => Sum.elim (fun x_2 => F_X12_firstIdle_j29 x_2) (fun x_2 => F_X12_firstIdle_j37) x_2)
def F_X12_firstIdle (n : Nat) (v0_0 : Nat → Int32) (p1 : Int32) : Option (Int32) :=
  F_X12_firstIdle_j2 n v0_0 p1 0
abbrev wd_X12_firstIdle (cI : ClassId) (a0 : Nat → Nat) (v0_2 : Int32) (v0_3 : Int32) (v0_5 : Int32) (v0_12 : Int32) (v0_13 : Int32) (v0_16 : Int32) (v0_17 : Int32) (v0_21 : Int32) (v0_23 : Int32) (v0_24 : Int32) (v0_25 : Int32) (v0_26 : Int32) (v0_29 : Int32) (v0_30 : Int64) (v0_0 : Nat → Int32) : va_W := [(a0 0, .inr (11, [.ref (a0 1), .ref (a0 2), .int v0_2, .int v0_3, .ref (a0 5), .int v0_5, .ref (a0 7), .ref (a0 8), .ref (a0 9), .ref (a0 10), .ref (a0 11), .ref (a0 12), .int v0_12, .int v0_13, .ref (a0 15), .ref (a0 16), .int v0_16, .int v0_17, .ref (a0 19), .ref (a0 20), .ref (a0 21), .int v0_21, .ref (a0 23), .int v0_23, .int v0_24, .int v0_25, .int v0_26, .ref (a0 28), .ref (a0 29), .int v0_29, .long v0_30])), (a0 1, .inl (cI, 86, .inl v0_0))]
abbrev wz_X12_firstIdle : List Cond := .code yX12_firstIdle cX12_firstIdle 3 (some .int) :: wALL
abbrev rm_X12_firstIdle : Room := { frames := 3, cells := 0, slots := 0, locals := 70 }
abbrev Q_X12_firstIdle (dC : Nat → ClassId) (dI : Nat → Nat → Nat) (cI : ClassId) (a0 : Nat → Nat) (v0_2 : Int32) (v0_3 : Int32) (v0_5 : Int32) (v0_12 : Int32) (v0_13 : Int32) (v0_16 : Int32) (v0_17 : Int32) (v0_21 : Int32) (v0_23 : Int32) (v0_24 : Int32) (v0_25 : Int32) (v0_26 : Int32) (v0_29 : Int32) (v0_30 : Int64) (v0_0 : Nat → Int32) (u : (Int32)) (A : Nat → Prop) : Array Value → State → Outcome → State → Prop := va_Qi (fun (r : Int32) (_ : Unit) => r = u) (fun _ => q_at dC dI cI A (wd_X12_firstIdle cI a0 v0_2 v0_3 v0_5 v0_12 v0_13 v0_16 v0_17 v0_21 v0_23 v0_24 v0_25 v0_26 v0_29 v0_30 v0_0)) A
set_option maxHeartbeats 4000000 in
set_option maxRecDepth 100000 in
theorem c_X12_firstIdle (l : Launch) (dC : Nat → ClassId) (dI : Nat → Nat → Nat) (cI : ClassId) (sz : Nat) (a0 : Nat → Nat) (v0_2 : Int32) (v0_3 : Int32) (v0_5 : Int32) (v0_12 : Int32) (v0_13 : Int32) (v0_16 : Int32) (v0_17 : Int32) (v0_21 : Int32) (v0_23 : Int32) (v0_24 : Int32) (v0_25 : Int32) (v0_26 : Int32) (v0_29 : Int32) (v0_30 : Int64) (v0_0 : Nat → Int32) (p1 : Int32) (n : Nat) (u : (Int32)) (hF : F_X12_firstIdle n v0_0 p1 = some u) : Met l yX12_firstIdle wz_X12_firstIdle rm_X12_firstIdle (va_Pc [.ref (a0 0), .int p1] (q_pre dC dI cI (wd_X12_firstIdle cI a0 v0_2 v0_3 v0_5 v0_12 v0_13 v0_16 v0_17 v0_21 v0_23 v0_24 v0_25 v0_26 v0_29 v0_30 v0_0) sz)) (Q_X12_firstIdle dC dI cI a0 v0_2 v0_3 v0_5 v0_12 v0_13 v0_16 v0_17 v0_21 v0_23 v0_24 v0_25 v0_26 v0_29 v0_30 v0_0 u (va_A (wd_X12_firstIdle cI a0 v0_2 v0_3 v0_5 v0_12 v0_13 v0_16 v0_17 v0_21 v0_23 v0_24 v0_25 v0_26 v0_29 v0_30 v0_0) sz)) 0 0 (va_A (wd_X12_firstIdle cI a0 v0_2 v0_3 v0_5 v0_12 v0_13 v0_16 v0_17 v0_21 v0_23 v0_24 v0_25 v0_26 v0_29 v0_30 v0_0) sz) := by
  refine Met.ofW (cc := cX12_firstIdle) (maxL := 3) (ret := (some .int)) (by decide) rfl ?_
  intro p e s m args below meth c s₁ B hml hv
  obtain ⟨rfl, hsz, hP, hK, hD0⟩ := hv
  have hx := B.exec
  have hb := B.bytes
  have hr := B.returns
  have hts := atoms_spec (ws := wz_X12_firstIdle) B.pre
  have hta := wz_tl hts
  have hown : s.vm.findClass RX12 = some m.cls := findClass_of_methodNamed B.named
  have hlocks := B.notSynchronized
  subst hsz
  have hD := hD0.self (sz := s.heap.size)
  generalize hAe : va_A (wd_X12_firstIdle cI a0 v0_2 v0_3 v0_5 v0_12 v0_13 v0_16 v0_17 v0_21 v0_23 v0_24 v0_25 v0_26 v0_29 v0_30 v0_0) s.heap.size = A at hD ⊢
  have hA : ∀ q : Nat, s.heap.size ≤ q → A q := fun q h => by rw [← hAe]; exact Or.inr h
  have hS : va_S A s.heap s.heap [] := va_S.rf
  have hP : va_P (dC, dI) vwCl (wd_X12_firstIdle cI a0 v0_2 v0_3 v0_5 v0_12 v0_13 v0_16 v0_17 v0_21 v0_23 v0_24 v0_25 v0_26 v0_29 v0_30 v0_0) s.heap := hP
  have hl := lv_entry ([.ref (a0 0), .int p1]) (n := 3) (Nat.le_of_ble_eq_true rfl)
  rw [lg_entry_eq]
  generalize (lg_sl ([.ref (a0 0), .int p1]) ++ List.replicate (3 - (lg_sl ([.ref (a0 0), .int p1])).length) Slot.unset).toArray = ls at hl ⊢
  have hl : lv_has ls 3 [(0, .ref (a0 0)), (1, .int p1)] := hl
  obtain ⟨H, hHe⟩ : ∃ H, H = s.heap := ⟨_, rfl⟩
  have hS : va_S A s.heap H [] := by rw [hHe]; exact hS
  have hP : va_P (dC, dI) vwCl (wd_X12_firstIdle cI a0 v0_2 v0_3 v0_5 v0_12 v0_13 v0_16 v0_17 v0_21 v0_23 v0_24 v0_25 v0_26 v0_29 v0_30 v0_0) H := by rw [hHe]; exact hP
  rw [← hHe]
  unfold F_X12_firstIdle at hF
  have j37 : ∀ (_ : Unit), F_X12_firstIdle_j37 = some u → ∀ (H : Heap) (locs : List Loc) (ls : Array Slot), va_P (dC, dI) vwCl (wd_X12_firstIdle cI a0 v0_2 v0_3 v0_5 v0_12 v0_13 v0_16 v0_17 v0_21 v0_23 v0_24 v0_25 v0_26 v0_29 v0_30 v0_0) H → va_D A (wd_X12_firstIdle cI a0 v0_2 v0_3 v0_5 v0_12 v0_13 v0_16 v0_17 v0_21 v0_23 v0_24 v0_25 v0_26 v0_29 v0_30 v0_0) → va_S A s.heap H locs → lv_has ls 3 [] → W p l e (headSpec wz_X12_firstIdle rm_X12_firstIdle).room s m [.ref (a0 0), .int p1].toArray below meth c H locs 0 0 (MQ below (Q_X12_firstIdle dC dI cI a0 v0_2 v0_3 v0_5 v0_12 v0_13 v0_16 v0_17 v0_21 v0_23 v0_24 v0_25 v0_26 v0_29 v0_30 v0_0 u A) [.ref (a0 0), .int p1].toArray s 0 0 A) (F0 m 37 ls []) := by
    intro _ hF H locs ls hP hD hS hl
    unfold F_X12_firstIdle_j37 at hF
    refine lv_iconst (v := (-1)) hx hb dX12_firstIdle_37 (by decide) ?_
    obtain rfl := Option.some.inj hF
    exact W.iret (v := (-1)) hx hb hr (fun t ht hW => ⟨⟨(-1), (), rfl, rfl, by rw [ht]; exact hP, va_K.moved hW.alike hK, hD⟩, hS.F ht⟩) hS.2.2 dX12_firstIdle_38
  have j29 : ∀ (x2 : Int32), F_X12_firstIdle_j29 x2 = some u → ∀ (H : Heap) (locs : List Loc) (ls : Array Slot), va_P (dC, dI) vwCl (wd_X12_firstIdle cI a0 v0_2 v0_3 v0_5 v0_12 v0_13 v0_16 v0_17 v0_21 v0_23 v0_24 v0_25 v0_26 v0_29 v0_30 v0_0) H → va_D A (wd_X12_firstIdle cI a0 v0_2 v0_3 v0_5 v0_12 v0_13 v0_16 v0_17 v0_21 v0_23 v0_24 v0_25 v0_26 v0_29 v0_30 v0_0) → va_S A s.heap H locs → lv_has ls 3 [(2, .int x2)] → W p l e (headSpec wz_X12_firstIdle rm_X12_firstIdle).room s m [.ref (a0 0), .int p1].toArray below meth c H locs 0 0 (MQ below (Q_X12_firstIdle dC dI cI a0 v0_2 v0_3 v0_5 v0_12 v0_13 v0_16 v0_17 v0_21 v0_23 v0_24 v0_25 v0_26 v0_29 v0_30 v0_0 u A) [.ref (a0 0), .int p1].toArray s 0 0 A) (F0 m 29 ls []) := by
    intro x2 hF H locs ls hP hD hS hl
    unfold F_X12_firstIdle_j29 at hF
    refine lv_iload_n hx hb dX12_firstIdle_29 rfl (lv_at hl 0 rfl) ?_
    obtain rfl := Option.some.inj hF
    exact W.iret (v := x2) hx hb hr (fun t ht hW => ⟨⟨x2, (), rfl, rfl, by rw [ht]; exact hP, va_K.moved hW.alike hK, hD⟩, hS.F ht⟩) hS.2.2 dX12_firstIdle_30
  have j2 : ∀ (x1 : Int32) (x2 : Int32), F_X12_firstIdle_j2 n v0_0 x1 x2 = some u → ∀ (H : Heap) (locs : List Loc) (ls : Array Slot), va_P (dC, dI) vwCl (wd_X12_firstIdle cI a0 v0_2 v0_3 v0_5 v0_12 v0_13 v0_16 v0_17 v0_21 v0_23 v0_24 v0_25 v0_26 v0_29 v0_30 v0_0) H → va_D A (wd_X12_firstIdle cI a0 v0_2 v0_3 v0_5 v0_12 v0_13 v0_16 v0_17 v0_21 v0_23 v0_24 v0_25 v0_26 v0_29 v0_30 v0_0) → va_S A s.heap H locs → lv_has ls 3 [(0, .ref (a0 0)), (1, .int x1), (2, .int x2)] → W p l e (headSpec wz_X12_firstIdle rm_X12_firstIdle).room s m [.ref (a0 0), .int p1].toArray below meth c H locs 0 0 (MQ below (Q_X12_firstIdle dC dI cI a0 v0_2 v0_3 v0_5 v0_12 v0_13 v0_16 v0_17 v0_21 v0_23 v0_24 v0_25 v0_26 v0_29 v0_30 v0_0 u A) [.ref (a0 0), .int p1].toArray s 0 0 A) (F0 m 2 ls []) := by
    intro x1 x2 hF H locs ls hP hD hS hl
    unfold F_X12_firstIdle_j2 at hF
    obtain ⟨x_2, hL_2, hE_2⟩ := obd_some hF
    have kl_2 : ∀ (k : Nat) (s2 : Int32), lpq (F_X12_firstIdle_b2 v0_0 x1) k s2 = some x_2 → ∀ (H : Heap) (locs : List Loc) (ls : Array Slot), va_P (dC, dI) vwCl (wd_X12_firstIdle cI a0 v0_2 v0_3 v0_5 v0_12 v0_13 v0_16 v0_17 v0_21 v0_23 v0_24 v0_25 v0_26 v0_29 v0_30 v0_0) H → va_D A (wd_X12_firstIdle cI a0 v0_2 v0_3 v0_5 v0_12 v0_13 v0_16 v0_17 v0_21 v0_23 v0_24 v0_25 v0_26 v0_29 v0_30 v0_0) → va_S A s.heap H locs → lv_has ls 3 [(0, .ref (a0 0)), (1, .int x1), (2, .int s2)] → W p l e (headSpec wz_X12_firstIdle rm_X12_firstIdle).room s m [.ref (a0 0), .int p1].toArray below meth c H locs 0 0 (MQ below (Q_X12_firstIdle dC dI cI a0 v0_2 v0_3 v0_5 v0_12 v0_13 v0_16 v0_17 v0_21 v0_23 v0_24 v0_25 v0_26 v0_29 v0_30 v0_0 u A) [.ref (a0 0), .int p1].toArray s 0 0 A) (F0 m 2 ls []) := by
      intro k
      induction k with
      | zero => intro s2 h; exact absurd h lpq_zero
      | succ k ih_2 =>
        intro s2 h H locs ls hP hD hS hl
        obtain ⟨o_2, hF, hO_2⟩ := lpq_succ h
        unfold F_X12_firstIdle_b2 at hF
        refine lv_iload_n hx hb dX12_firstIdle_2 rfl (lv_at hl 2 rfl) ?_
        refine lv_aload_n hx hb dX12_firstIdle_3 rfl (lv_at hl 0 rfl) ?_
        refine lv_iload_n hx hb dX12_firstIdle_4 rfl (lv_at hl 1 rfl) ?_
        obtain ⟨u_1, hu_1, hF⟩ := obd_some hF
        have hPc := hP.sub (ws' := (wd_X12_points cI a0 v0_2 v0_3 v0_5 v0_12 v0_13 v0_16 v0_17 v0_21 v0_23 v0_24 v0_25 v0_26 v0_29 v0_30 v0_0)) [0, 1] rfl
        have hDc := hD.sub (ws' := (wd_X12_points cI a0 v0_2 v0_3 v0_5 v0_12 v0_13 v0_16 v0_17 v0_21 v0_23 v0_24 v0_25 v0_26 v0_29 v0_30 v0_0)) [0, 1] rfl rfl
        refine q_calli (wc := (wd_X12_points cI a0 v0_2 v0_3 v0_5 v0_12 v0_13 v0_16 v0_17 v0_21 v0_23 v0_24 v0_25 v0_26 v0_29 v0_30 v0_0)) (w1 := (wd_X12_points cI a0 v0_2 v0_3 v0_5 v0_12 v0_13 v0_16 v0_17 v0_21 v0_23 v0_24 v0_25 v0_26 v0_29 v0_30 v0_0)) (ws' := (wd_X12_firstIdle cI a0 v0_2 v0_3 v0_5 v0_12 v0_13 v0_16 v0_17 v0_21 v0_23 v0_24 v0_25 v0_26 v0_29 v0_30 v0_0)) hP hD hS hA [0, 1] [] [0, 1] rfl rfl rfl (by decide) rfl rfl (va_runV (As := [.int x1]) (rest := [.int s2]) ⟨hx, hb, hml, hown, hta⟩ (c_X12_points l dC dI cI H.size a0 v0_2 v0_3 v0_5 v0_12 v0_13 v0_16 v0_17 v0_21 v0_23 v0_24 v0_25 v0_26 v0_29 v0_30 v0_0 x1 u_1 hu_1) (cwV 1 hta (ga_V mA839 mA840 mA841 mA814 mA827) rfl rfl rfl (by decide +kernel) ⟨Nat.le_of_ble_eq_true rfl, Nat.le_of_ble_eq_true rfl⟩) ⟨q_fb, va_recv hK hP (ci := 11) (q0 := 0) rfl rfl, q_ps hPc hK hDc⟩ rfl rfl hl.1 rfl (lv_room (Nat.le_of_ble_eq_true rfl)) dX12_firstIdle_5 ⟨Nat.zero_le _, Nat.zero_le _⟩) (fun H locs hP hD hS => ?_)
        refine lv_icmp_ge (tgt := 37) hx hb dX12_firstIdle_8 (by decide) (fun c_2 => ?_) (fun c_2 => ?_)
        · have hF := it_t hF c_2
          obtain rfl := Option.some.inj hF
          obtain rfl := lpq_x hO_2
          have hF := hE_2
          have hF := el_r hF
          exact j37 () hF _ _ _ hP hD hS (lv_sub hl [] rfl)
        · have hF := it_f hF c_2
          refine lv_aload_n hx hb dX12_firstIdle_11 rfl (lv_at hl 0 rfl) ?_
          refine lv_iload_n hx hb dX12_firstIdle_12 rfl (lv_at hl 1 rfl) ?_
          obtain ⟨u_3, hu_3, hF⟩ := obd_some hF
          have hPc := hP.sub (ws' := (wd_X12_points cI a0 v0_2 v0_3 v0_5 v0_12 v0_13 v0_16 v0_17 v0_21 v0_23 v0_24 v0_25 v0_26 v0_29 v0_30 v0_0)) [0, 1] rfl
          have hDc := hD.sub (ws' := (wd_X12_points cI a0 v0_2 v0_3 v0_5 v0_12 v0_13 v0_16 v0_17 v0_21 v0_23 v0_24 v0_25 v0_26 v0_29 v0_30 v0_0)) [0, 1] rfl rfl
          refine q_calli (wc := (wd_X12_points cI a0 v0_2 v0_3 v0_5 v0_12 v0_13 v0_16 v0_17 v0_21 v0_23 v0_24 v0_25 v0_26 v0_29 v0_30 v0_0)) (w1 := (wd_X12_points cI a0 v0_2 v0_3 v0_5 v0_12 v0_13 v0_16 v0_17 v0_21 v0_23 v0_24 v0_25 v0_26 v0_29 v0_30 v0_0)) (ws' := (wd_X12_firstIdle cI a0 v0_2 v0_3 v0_5 v0_12 v0_13 v0_16 v0_17 v0_21 v0_23 v0_24 v0_25 v0_26 v0_29 v0_30 v0_0)) hP hD hS hA [0, 1] [] [0, 1] rfl rfl rfl (by decide) rfl rfl (va_runV (As := [.int x1]) (rest := []) ⟨hx, hb, hml, hown, hta⟩ (c_X12_points l dC dI cI H.size a0 v0_2 v0_3 v0_5 v0_12 v0_13 v0_16 v0_17 v0_21 v0_23 v0_24 v0_25 v0_26 v0_29 v0_30 v0_0 x1 u_3 hu_3) (cwV 1 hta (ga_V mA839 mA840 mA841 mA814 mA827) rfl rfl rfl (by decide +kernel) ⟨Nat.le_of_ble_eq_true rfl, Nat.le_of_ble_eq_true rfl⟩) ⟨q_fb, va_recv hK hP (ci := 11) (q0 := 0) rfl rfl, q_ps hPc hK hDc⟩ rfl rfl hl.1 rfl (lv_room (Nat.le_of_ble_eq_true rfl)) dX12_firstIdle_13 ⟨Nat.zero_le _, Nat.zero_le _⟩) (fun H locs hP hD hS => ?_)
          refine lv_iconst (v := 1) hx hb dX12_firstIdle_16 (by decide) ?_
          refine lv_icmp_le (tgt := 37) hx hb dX12_firstIdle_17 (by decide) (fun c_4 => ?_) (fun c_4 => ?_)
          · have hF := it_t hF c_4
            obtain rfl := Option.some.inj hF
            obtain rfl := lpq_x hO_2
            have hF := hE_2
            have hF := el_r hF
            exact j37 () hF _ _ _ hP hD hS (lv_sub hl [] rfl)
          · have hF := it_f hF c_4
            refine lv_aload_n hx hb dX12_firstIdle_20 rfl (lv_at hl 0 rfl) ?_
            refine lv_iload_n hx hb dX12_firstIdle_21 rfl (lv_at hl 1 rfl) ?_
            refine lv_iload_n hx hb dX12_firstIdle_22 rfl (lv_at hl 2 rfl) ?_
            obtain ⟨u_5, hu_5, hF⟩ := obd_some hF
            have hPc := hP.sub (ws' := (wd_X12_isIdle cI a0 v0_2 v0_3 v0_5 v0_12 v0_13 v0_16 v0_17 v0_21 v0_23 v0_24 v0_25 v0_26 v0_29 v0_30 v0_0)) [0, 1] rfl
            have hDc := hD.sub (ws' := (wd_X12_isIdle cI a0 v0_2 v0_3 v0_5 v0_12 v0_13 v0_16 v0_17 v0_21 v0_23 v0_24 v0_25 v0_26 v0_29 v0_30 v0_0)) [0, 1] rfl rfl
            refine q_callz (wc := (wd_X12_isIdle cI a0 v0_2 v0_3 v0_5 v0_12 v0_13 v0_16 v0_17 v0_21 v0_23 v0_24 v0_25 v0_26 v0_29 v0_30 v0_0)) (w1 := (wd_X12_isIdle cI a0 v0_2 v0_3 v0_5 v0_12 v0_13 v0_16 v0_17 v0_21 v0_23 v0_24 v0_25 v0_26 v0_29 v0_30 v0_0)) (ws' := (wd_X12_firstIdle cI a0 v0_2 v0_3 v0_5 v0_12 v0_13 v0_16 v0_17 v0_21 v0_23 v0_24 v0_25 v0_26 v0_29 v0_30 v0_0)) hP hD hS hA [0, 1] [] [0, 1] rfl rfl rfl (by decide) rfl rfl (va_runV (As := [.int x1, .int s2]) (rest := []) ⟨hx, hb, hml, hown, hta⟩ (c_X12_isIdle l dC dI cI H.size a0 v0_2 v0_3 v0_5 v0_12 v0_13 v0_16 v0_17 v0_21 v0_23 v0_24 v0_25 v0_26 v0_29 v0_30 v0_0 x1 s2 u_5 hu_5) (cwV 2 hta (ga_V mA888 mA889 mA890 mA814 mA884) rfl rfl rfl (by decide +kernel) ⟨Nat.le_of_ble_eq_true rfl, Nat.le_of_ble_eq_true rfl⟩) ⟨q_fb, va_recv hK hP (ci := 11) (q0 := 0) rfl rfl, q_ps hPc hK hDc⟩ rfl rfl hl.1 rfl (lv_room (Nat.le_of_ble_eq_true rfl)) dX12_firstIdle_23 ⟨Nat.zero_le _, Nat.zero_le _⟩) (fun hzu_5 H locs hP hD hS => ?_)
            refine lv_if_eq (tgt := 31) hx hb dX12_firstIdle_26 (by decide) (fun c_6 => ?_) (fun c_6 => ?_)
            · have hF := it_t hF c_6
              obtain ⟨y_7, ey_7, hF⟩ := lt_some hF
              refine lv_iinc (v := y_7) (lv' := [(2, .int y_7), (0, .ref (a0 0)), (1, .int x1)]) hx hb dX12_firstIdle_31 hl (k := 2) rfl (by rw [ey_7]; rfl) (by decide) rfl (fun ls hl => ?_)
              refine lv_goto (tgt := 2) hx hb dX12_firstIdle_34 (by decide) ?_
              obtain rfl := Option.some.inj hF
              exact ih_2 _ hO_2 _ _ _ hP hD hS (lv_sub hl [1, 2, 0] rfl)
            · have hF := it_f hF c_6
              obtain rfl := Option.some.inj hF
              obtain rfl := lpq_x hO_2
              have hF := hE_2
              have hF := el_l hF
              exact j29 s2 hF _ _ _ hP hD hS (lv_sub hl [2] rfl)
    exact kl_2 n _ hL_2 _ _ _ hP hD hS hl
  refine lv_iconst (v := 0) hx hb dX12_firstIdle_0 (by decide) ?_
  refine lv_istore_n (lv' := [(2, .int 0), (0, .ref (a0 0)), (1, .int p1)]) hx hb dX12_firstIdle_1 rfl hl (by decide) rfl (fun ls hl => ?_)
  exact j2 p1 0 hF _ _ _ hP hD hS (lv_sub hl [1, 2, 0] rfl)

-- StrokeOutlinerModel.simplify(I)I
def F_X12_simplify_j108 (v0_2 : Int32) (v0_3 : Int32) (v0_0 : Nat → Int32) (v0_1 : Nat → Int32) (x2 : Int32) : Option (Int32 × Int32 × Int32 × (Nat → Int32) × (Nat → Int32)) :=
  some (x2, v0_2, v0_3, v0_0, v0_1)
def F_X12_simplify_j96 (n : Nat) (v0_0 : Nat → Int32) (x1 : Int32) (x2 : Int32) : Option (Sum (Int32 × Int32 × (Nat → Int32)) (Int32 × (Nat → Int32))) :=
  lt (x2 + 1) (fun y_1 => obd (F_X12_firstIdle n v0_0 x1) (fun u_2 => some (.inl (y_1, u_2, v0_0))))
def F_X12_simplify_b55 (x1 : Int32) (s55 : Int32 × (Nat → Int32)) : Option (Sum (Int32 × (Nat → Int32)) ((Nat → Int32))) :=
  obd (F_X12_points s55.2 x1) (fun u_3 => if u_3 ≤ s55.1 then some (.inr s55.2) else obd (F_X12_x s55.2 x1 (s55.1 + 1)) (fun u_5 => obd (F_X12_y s55.2 x1 (s55.1 + 1)) (fun u_6 => obd (F_X12_puts s55.2 x1 s55.1 u_5 u_6) (fun u_7 => lt (s55.1 + 1) (fun y_8 => some (.inl (y_8, u_7)))))))
def F_X12_simplify_j55 (n : Nat) (v0_0 : Nat → Int32) (x1 : Int32) (x2 : Int32) (x4 : Int32) : Option (Sum (Int32 × Int32 × (Nat → Int32)) (Int32 × (Nat → Int32))) :=
  obd (lpq (F_X12_simplify_b55 x1) n (x4, v0_0)) (fun x_55 => F_X12_simplify_j96 n x_55 x1 x2)
def F_X12_simplify_b34 (n : Nat) (x1 : Int32) (s34 : Int32 × Int32 × (Nat → Int32)) : Option (Sum (Int32 × Int32 × (Nat → Int32)) (Int32 × (Nat → Int32))) :=
  if s34.2.1 = (-1) then some (.inr (s34.1, s34.2.2)) else lt (F_X12_at x1) (fun u_10 => gd (decide (vpi u_10 86)) (lt ((s34.2.2 u_10.toNatClampNeg) - 1) (fun y_12 => gd (decide (vpi u_10 86)) (lt (upd s34.2.2 u_10.toNatClampNeg y_12) (fun y_14 => F_X12_simplify_j55 n y_14 x1 s34.1 s34.2.1)))))
def F_X12_simplify_j34 (n : Nat) (v0_2 : Int32) (v0_3 : Int32) (v0_0 : Nat → Int32) (v0_1 : Nat → Int32) (x1 : Int32) (x2 : Int32) (x3 : Int32) : Option (Int32 × Int32 × Int32 × (Nat → Int32) × (Nat → Int32)) :=
  obd (lpq (F_X12_simplify_b34 n x1) n (x2, x3, v0_0)) (fun x_34 => F_X12_simplify_j108 v0_2 v0_3 x_34.2 v0_1 x_34.1)
def F_X12_simplify_j14 (n : Nat) (v0_2 : Int32) (v0_0 : Nat → Int32) (v0_1 : Nat → Int32) (x1 : Int32) (t1 : Int32) : Option (Int32 × Int32 × Int32 × (Nat → Int32) × (Nat → Int32)) :=
  lt (F_X12_refused t1) (fun u_15 => if u_15.1 = 0 then obd (F_X12_saves n v0_2 v0_0 v0_1) (fun u_17 => obd (F_X12_firstIdle n v0_0 x1) (fun u_18 => F_X12_simplify_j34 n u_17.1 u_15.2 v0_0 u_17.2 x1 0 u_18)) else some (0, v0_2, u_15.2, v0_0, v0_1))
def F_X12_simplify (n : Nat) (v0_2 : Int32) (v0_0 : Nat → Int32) (v0_1 : Nat → Int32) (p1 : Int32) : Option (Int32 × Int32 × Int32 × (Nat → Int32) × (Nat → Int32)) :=
  obd (F_X12_isSubpath v0_0 p1) (fun u_19 => if u_19 = 0 then F_X12_simplify_j14 n v0_2 v0_0 v0_1 p1 1 else F_X12_simplify_j14 n v0_2 v0_0 v0_1 p1 0)
abbrev wd_X12_simplify (cI : ClassId) (a0 : Nat → Nat) (v0_2 : Int32) (v0_3 : Int32) (v0_5 : Int32) (v0_12 : Int32) (v0_13 : Int32) (v0_16 : Int32) (v0_17 : Int32) (v0_21 : Int32) (v0_23 : Int32) (v0_24 : Int32) (v0_25 : Int32) (v0_26 : Int32) (v0_29 : Int32) (v0_30 : Int64) (v0_0 : Nat → Int32) (v0_1 : Nat → Int32) : va_W := [(a0 0, .inr (11, [.ref (a0 1), .ref (a0 2), .int v0_2, .int v0_3, .ref (a0 5), .int v0_5, .ref (a0 7), .ref (a0 8), .ref (a0 9), .ref (a0 10), .ref (a0 11), .ref (a0 12), .int v0_12, .int v0_13, .ref (a0 15), .ref (a0 16), .int v0_16, .int v0_17, .ref (a0 19), .ref (a0 20), .ref (a0 21), .int v0_21, .ref (a0 23), .int v0_23, .int v0_24, .int v0_25, .int v0_26, .ref (a0 28), .ref (a0 29), .int v0_29, .long v0_30])), (a0 1, .inl (cI, 86, .inl v0_0)), (a0 2, .inl (cI, 344, .inl v0_1))]
abbrev wz_X12_simplify : List Cond := .code yX12_simplify cX12_simplify 5 (some .int) :: wALL
abbrev rm_X12_simplify : Room := { frames := 4, cells := 0, slots := 0, locals := 92 }
abbrev Q_X12_simplify (dC : Nat → ClassId) (dI : Nat → Nat → Nat) (cI : ClassId) (a0 : Nat → Nat) (v0_5 : Int32) (v0_12 : Int32) (v0_13 : Int32) (v0_16 : Int32) (v0_17 : Int32) (v0_21 : Int32) (v0_23 : Int32) (v0_24 : Int32) (v0_25 : Int32) (v0_26 : Int32) (v0_29 : Int32) (v0_30 : Int64) (u : (Int32 × Int32 × Int32 × (Nat → Int32) × (Nat → Int32))) (A : Nat → Prop) : Array Value → State → Outcome → State → Prop := va_Qi (fun (r : Int32) (_ : Unit) => r = u.1) (fun _ => q_at dC dI cI A (wd_X12_simplify cI a0 u.2.1 u.2.2.1 v0_5 v0_12 v0_13 v0_16 v0_17 v0_21 v0_23 v0_24 v0_25 v0_26 v0_29 v0_30 u.2.2.2.1 u.2.2.2.2)) A
set_option maxHeartbeats 4000000 in
set_option maxRecDepth 100000 in
theorem c_X12_simplify (l : Launch) (dC : Nat → ClassId) (dI : Nat → Nat → Nat) (cI : ClassId) (sz : Nat) (a0 : Nat → Nat) (v0_2 : Int32) (v0_3 : Int32) (v0_5 : Int32) (v0_12 : Int32) (v0_13 : Int32) (v0_16 : Int32) (v0_17 : Int32) (v0_21 : Int32) (v0_23 : Int32) (v0_24 : Int32) (v0_25 : Int32) (v0_26 : Int32) (v0_29 : Int32) (v0_30 : Int64) (v0_0 : Nat → Int32) (v0_1 : Nat → Int32) (p1 : Int32) (n : Nat) (u : (Int32 × Int32 × Int32 × (Nat → Int32) × (Nat → Int32))) (hF : F_X12_simplify n v0_2 v0_0 v0_1 p1 = some u) : Met l yX12_simplify wz_X12_simplify rm_X12_simplify (va_Pc [.ref (a0 0), .int p1] (q_pre dC dI cI (wd_X12_simplify cI a0 v0_2 v0_3 v0_5 v0_12 v0_13 v0_16 v0_17 v0_21 v0_23 v0_24 v0_25 v0_26 v0_29 v0_30 v0_0 v0_1) sz)) (Q_X12_simplify dC dI cI a0 v0_5 v0_12 v0_13 v0_16 v0_17 v0_21 v0_23 v0_24 v0_25 v0_26 v0_29 v0_30 u (va_A (wd_X12_simplify cI a0 v0_2 v0_3 v0_5 v0_12 v0_13 v0_16 v0_17 v0_21 v0_23 v0_24 v0_25 v0_26 v0_29 v0_30 v0_0 v0_1) sz)) 0 0 (va_A (wd_X12_simplify cI a0 v0_2 v0_3 v0_5 v0_12 v0_13 v0_16 v0_17 v0_21 v0_23 v0_24 v0_25 v0_26 v0_29 v0_30 v0_0 v0_1) sz) := by
  refine Met.ofW (cc := cX12_simplify) (maxL := 5) (ret := (some .int)) (by decide) rfl ?_
  intro p e s m args below meth c s₁ B hml hv
  obtain ⟨rfl, hsz, hP, hK, hD0⟩ := hv
  have hx := B.exec
  have hb := B.bytes
  have hr := B.returns
  have hts := atoms_spec (ws := wz_X12_simplify) B.pre
  have hta := wz_tl hts
  have hown : s.vm.findClass RX12 = some m.cls := findClass_of_methodNamed B.named
  have hlocks := B.notSynchronized
  subst hsz
  have hD := hD0.self (sz := s.heap.size)
  generalize hAe : va_A (wd_X12_simplify cI a0 v0_2 v0_3 v0_5 v0_12 v0_13 v0_16 v0_17 v0_21 v0_23 v0_24 v0_25 v0_26 v0_29 v0_30 v0_0 v0_1) s.heap.size = A at hD ⊢
  have hA : ∀ q : Nat, s.heap.size ≤ q → A q := fun q h => by rw [← hAe]; exact Or.inr h
  have hS : va_S A s.heap s.heap [] := va_S.rf
  have hP : va_P (dC, dI) vwCl (wd_X12_simplify cI a0 v0_2 v0_3 v0_5 v0_12 v0_13 v0_16 v0_17 v0_21 v0_23 v0_24 v0_25 v0_26 v0_29 v0_30 v0_0 v0_1) s.heap := hP
  have hl := lv_entry ([.ref (a0 0), .int p1]) (n := 5) (Nat.le_of_ble_eq_true rfl)
  rw [lg_entry_eq]
  generalize (lg_sl ([.ref (a0 0), .int p1]) ++ List.replicate (5 - (lg_sl ([.ref (a0 0), .int p1])).length) Slot.unset).toArray = ls at hl ⊢
  have hl : lv_has ls 5 [(0, .ref (a0 0)), (1, .int p1)] := hl
  obtain ⟨H, hHe⟩ : ∃ H, H = s.heap := ⟨_, rfl⟩
  have hS : va_S A s.heap H [] := by rw [hHe]; exact hS
  have hP : va_P (dC, dI) vwCl (wd_X12_simplify cI a0 v0_2 v0_3 v0_5 v0_12 v0_13 v0_16 v0_17 v0_21 v0_23 v0_24 v0_25 v0_26 v0_29 v0_30 v0_0 v0_1) H := by rw [hHe]; exact hP
  rw [← hHe]
  unfold F_X12_simplify at hF
  have j108 : ∀ (v0_2 : Int32) (v0_3 : Int32) (v0_0 : Nat → Int32) (v0_1 : Nat → Int32) (x2 : Int32), F_X12_simplify_j108 v0_2 v0_3 v0_0 v0_1 x2 = some u → ∀ (H : Heap) (locs : List Loc) (ls : Array Slot), va_P (dC, dI) vwCl (wd_X12_simplify cI a0 v0_2 v0_3 v0_5 v0_12 v0_13 v0_16 v0_17 v0_21 v0_23 v0_24 v0_25 v0_26 v0_29 v0_30 v0_0 v0_1) H → va_D A (wd_X12_simplify cI a0 v0_2 v0_3 v0_5 v0_12 v0_13 v0_16 v0_17 v0_21 v0_23 v0_24 v0_25 v0_26 v0_29 v0_30 v0_0 v0_1) → va_S A s.heap H locs → lv_has ls 5 [(2, .int x2)] → W p l e (headSpec wz_X12_simplify rm_X12_simplify).room s m [.ref (a0 0), .int p1].toArray below meth c H locs 0 0 (MQ below (Q_X12_simplify dC dI cI a0 v0_5 v0_12 v0_13 v0_16 v0_17 v0_21 v0_23 v0_24 v0_25 v0_26 v0_29 v0_30 u A) [.ref (a0 0), .int p1].toArray s 0 0 A) (F0 m 108 ls []) := by
    intro v0_2 v0_3 v0_0 v0_1 x2 hF H locs ls hP hD hS hl
    unfold F_X12_simplify_j108 at hF
    refine lv_iload_n hx hb dX12_simplify_108 rfl (lv_at hl 0 rfl) ?_
    obtain rfl := Option.some.inj hF
    exact W.iret (v := x2) hx hb hr (fun t ht hW => ⟨⟨x2, (), rfl, rfl, by rw [ht]; exact hP, va_K.moved hW.alike hK, hD⟩, hS.F ht⟩) hS.2.2 dX12_simplify_109
  have j34 : ∀ (v0_2 : Int32) (v0_3 : Int32) (v0_0 : Nat → Int32) (v0_1 : Nat → Int32) (x1 : Int32) (x2 : Int32) (x3 : Int32), F_X12_simplify_j34 n v0_2 v0_3 v0_0 v0_1 x1 x2 x3 = some u → ∀ (H : Heap) (locs : List Loc) (ls : Array Slot), va_P (dC, dI) vwCl (wd_X12_simplify cI a0 v0_2 v0_3 v0_5 v0_12 v0_13 v0_16 v0_17 v0_21 v0_23 v0_24 v0_25 v0_26 v0_29 v0_30 v0_0 v0_1) H → va_D A (wd_X12_simplify cI a0 v0_2 v0_3 v0_5 v0_12 v0_13 v0_16 v0_17 v0_21 v0_23 v0_24 v0_25 v0_26 v0_29 v0_30 v0_0 v0_1) → va_S A s.heap H locs → lv_has ls 5 [(0, .ref (a0 0)), (1, .int x1), (2, .int x2), (3, .int x3)] → W p l e (headSpec wz_X12_simplify rm_X12_simplify).room s m [.ref (a0 0), .int p1].toArray below meth c H locs 0 0 (MQ below (Q_X12_simplify dC dI cI a0 v0_5 v0_12 v0_13 v0_16 v0_17 v0_21 v0_23 v0_24 v0_25 v0_26 v0_29 v0_30 u A) [.ref (a0 0), .int p1].toArray s 0 0 A) (F0 m 34 ls []) := by
    intro v0_2 v0_3 v0_0 v0_1 x1 x2 x3 hF H locs ls hP hD hS hl
    unfold F_X12_simplify_j34 at hF
    obtain ⟨x_34, hL_34, hE_34⟩ := obd_some hF
    have kl_34 : ∀ (k : Nat) (s34 : Int32 × Int32 × (Nat → Int32)), lpq (F_X12_simplify_b34 n x1) k s34 = some x_34 → ∀ (H : Heap) (locs : List Loc) (ls : Array Slot), va_P (dC, dI) vwCl (wd_X12_simplify cI a0 v0_2 v0_3 v0_5 v0_12 v0_13 v0_16 v0_17 v0_21 v0_23 v0_24 v0_25 v0_26 v0_29 v0_30 s34.2.2 v0_1) H → va_D A (wd_X12_simplify cI a0 v0_2 v0_3 v0_5 v0_12 v0_13 v0_16 v0_17 v0_21 v0_23 v0_24 v0_25 v0_26 v0_29 v0_30 s34.2.2 v0_1) → va_S A s.heap H locs → lv_has ls 5 [(0, .ref (a0 0)), (1, .int x1), (2, .int s34.1), (3, .int s34.2.1)] → W p l e (headSpec wz_X12_simplify rm_X12_simplify).room s m [.ref (a0 0), .int p1].toArray below meth c H locs 0 0 (MQ below (Q_X12_simplify dC dI cI a0 v0_5 v0_12 v0_13 v0_16 v0_17 v0_21 v0_23 v0_24 v0_25 v0_26 v0_29 v0_30 u A) [.ref (a0 0), .int p1].toArray s 0 0 A) (F0 m 34 ls []) := by
      intro k
      induction k with
      | zero => intro s34 h; exact absurd h lpq_zero
      | succ k ih_34 =>
        intro s34 h H locs ls hP hD hS hl
        obtain ⟨o_34, hF, hO_34⟩ := lpq_succ h
        unfold F_X12_simplify_b34 at hF
        have j96 : ∀ (v0_0 : Nat → Int32) (x2 : Int32), F_X12_simplify_j96 n v0_0 x1 x2 = some o_34 → ∀ (H : Heap) (locs : List Loc) (ls : Array Slot), va_P (dC, dI) vwCl (wd_X12_simplify cI a0 v0_2 v0_3 v0_5 v0_12 v0_13 v0_16 v0_17 v0_21 v0_23 v0_24 v0_25 v0_26 v0_29 v0_30 v0_0 v0_1) H → va_D A (wd_X12_simplify cI a0 v0_2 v0_3 v0_5 v0_12 v0_13 v0_16 v0_17 v0_21 v0_23 v0_24 v0_25 v0_26 v0_29 v0_30 v0_0 v0_1) → va_S A s.heap H locs → lv_has ls 5 [(0, .ref (a0 0)), (1, .int x1), (2, .int x2)] → W p l e (headSpec wz_X12_simplify rm_X12_simplify).room s m [.ref (a0 0), .int p1].toArray below meth c H locs 0 0 (MQ below (Q_X12_simplify dC dI cI a0 v0_5 v0_12 v0_13 v0_16 v0_17 v0_21 v0_23 v0_24 v0_25 v0_26 v0_29 v0_30 u A) [.ref (a0 0), .int p1].toArray s 0 0 A) (F0 m 96 ls []) := by
          intro v0_0 x2 hF H locs ls hP hD hS hl
          unfold F_X12_simplify_j96 at hF
          obtain ⟨y_1, ey_1, hF⟩ := lt_some hF
          refine lv_iinc (v := y_1) (lv' := [(2, .int y_1), (0, .ref (a0 0)), (1, .int x1)]) hx hb dX12_simplify_96 hl (k := 2) rfl (by rw [ey_1]; rfl) (by decide) rfl (fun ls hl => ?_)
          refine lv_aload_n hx hb dX12_simplify_99 rfl (lv_at hl 1 rfl) ?_
          refine lv_iload_n hx hb dX12_simplify_100 rfl (lv_at hl 2 rfl) ?_
          obtain ⟨u_2, hu_2, hF⟩ := obd_some hF
          have hPc := hP.sub (ws' := (wd_X12_firstIdle cI a0 v0_2 v0_3 v0_5 v0_12 v0_13 v0_16 v0_17 v0_21 v0_23 v0_24 v0_25 v0_26 v0_29 v0_30 v0_0)) [0, 1] rfl
          have hDc := hD.sub (ws' := (wd_X12_firstIdle cI a0 v0_2 v0_3 v0_5 v0_12 v0_13 v0_16 v0_17 v0_21 v0_23 v0_24 v0_25 v0_26 v0_29 v0_30 v0_0)) [0, 1] rfl rfl
          refine q_calli (wc := (wd_X12_firstIdle cI a0 v0_2 v0_3 v0_5 v0_12 v0_13 v0_16 v0_17 v0_21 v0_23 v0_24 v0_25 v0_26 v0_29 v0_30 v0_0)) (w1 := (wd_X12_firstIdle cI a0 v0_2 v0_3 v0_5 v0_12 v0_13 v0_16 v0_17 v0_21 v0_23 v0_24 v0_25 v0_26 v0_29 v0_30 v0_0)) (ws' := (wd_X12_simplify cI a0 v0_2 v0_3 v0_5 v0_12 v0_13 v0_16 v0_17 v0_21 v0_23 v0_24 v0_25 v0_26 v0_29 v0_30 v0_0 v0_1)) hP hD hS hA [0, 1] [2] [1, 2, 0] rfl rfl rfl (by decide) rfl rfl (va_runV (As := [.int x1]) (rest := []) ⟨hx, hb, hml, hown, hta⟩ (c_X12_firstIdle l dC dI cI H.size a0 v0_2 v0_3 v0_5 v0_12 v0_13 v0_16 v0_17 v0_21 v0_23 v0_24 v0_25 v0_26 v0_29 v0_30 v0_0 x1 n u_2 hu_2) (cwV 1 hta (ga_V mA892 mA893 mA894 mA814 mA887) rfl rfl rfl (by decide +kernel) ⟨Nat.le_of_ble_eq_true rfl, Nat.le_of_ble_eq_true rfl⟩) ⟨q_fb, va_recv hK hP (ci := 11) (q0 := 0) rfl rfl, q_ps hPc hK hDc⟩ rfl rfl hl.1 rfl (lv_room (Nat.le_of_ble_eq_true rfl)) dX12_simplify_101 ⟨Nat.zero_le _, Nat.zero_le _⟩) (fun H locs hP hD hS => ?_)
          refine lv_istore_n (lv' := [(3, .int u_2), (2, .int y_1), (0, .ref (a0 0)), (1, .int x1)]) hx hb dX12_simplify_104 rfl hl (by decide) rfl (fun ls hl => ?_)
          refine lv_goto (tgt := 34) hx hb dX12_simplify_105 (by decide) ?_
          obtain rfl := Option.some.inj hF
          exact ih_34 _ hO_34 _ _ _ hP hD hS (lv_sub hl [2, 3, 1, 0] rfl)
        have j55 : ∀ (v0_0 : Nat → Int32) (x2 : Int32) (x4 : Int32), F_X12_simplify_j55 n v0_0 x1 x2 x4 = some o_34 → ∀ (H : Heap) (locs : List Loc) (ls : Array Slot), va_P (dC, dI) vwCl (wd_X12_simplify cI a0 v0_2 v0_3 v0_5 v0_12 v0_13 v0_16 v0_17 v0_21 v0_23 v0_24 v0_25 v0_26 v0_29 v0_30 v0_0 v0_1) H → va_D A (wd_X12_simplify cI a0 v0_2 v0_3 v0_5 v0_12 v0_13 v0_16 v0_17 v0_21 v0_23 v0_24 v0_25 v0_26 v0_29 v0_30 v0_0 v0_1) → va_S A s.heap H locs → lv_has ls 5 [(0, .ref (a0 0)), (1, .int x1), (2, .int x2), (4, .int x4)] → W p l e (headSpec wz_X12_simplify rm_X12_simplify).room s m [.ref (a0 0), .int p1].toArray below meth c H locs 0 0 (MQ below (Q_X12_simplify dC dI cI a0 v0_5 v0_12 v0_13 v0_16 v0_17 v0_21 v0_23 v0_24 v0_25 v0_26 v0_29 v0_30 u A) [.ref (a0 0), .int p1].toArray s 0 0 A) (F0 m 55 ls []) := by
          intro v0_0 x2 x4 hF H locs ls hP hD hS hl
          unfold F_X12_simplify_j55 at hF
          obtain ⟨x_55, hL_55, hE_55⟩ := obd_some hF
          have kl_55 : ∀ (k : Nat) (s55 : Int32 × (Nat → Int32)), lpq (F_X12_simplify_b55 x1) k s55 = some x_55 → ∀ (H : Heap) (locs : List Loc) (ls : Array Slot), va_P (dC, dI) vwCl (wd_X12_simplify cI a0 v0_2 v0_3 v0_5 v0_12 v0_13 v0_16 v0_17 v0_21 v0_23 v0_24 v0_25 v0_26 v0_29 v0_30 s55.2 v0_1) H → va_D A (wd_X12_simplify cI a0 v0_2 v0_3 v0_5 v0_12 v0_13 v0_16 v0_17 v0_21 v0_23 v0_24 v0_25 v0_26 v0_29 v0_30 s55.2 v0_1) → va_S A s.heap H locs → lv_has ls 5 [(0, .ref (a0 0)), (1, .int x1), (2, .int x2), (4, .int s55.1)] → W p l e (headSpec wz_X12_simplify rm_X12_simplify).room s m [.ref (a0 0), .int p1].toArray below meth c H locs 0 0 (MQ below (Q_X12_simplify dC dI cI a0 v0_5 v0_12 v0_13 v0_16 v0_17 v0_21 v0_23 v0_24 v0_25 v0_26 v0_29 v0_30 u A) [.ref (a0 0), .int p1].toArray s 0 0 A) (F0 m 55 ls []) := by
            intro k
            induction k with
            | zero => intro s55 h; exact absurd h lpq_zero
            | succ k ih_55 =>
              intro s55 h H locs ls hP hD hS hl
              obtain ⟨o_55, hF, hO_55⟩ := lpq_succ h
              unfold F_X12_simplify_b55 at hF
              refine lv_iload hx hb dX12_simplify_55 (lv_at hl 3 rfl) ?_
              refine lv_aload_n hx hb dX12_simplify_57 rfl (lv_at hl 0 rfl) ?_
              refine lv_iload_n hx hb dX12_simplify_58 rfl (lv_at hl 1 rfl) ?_
              obtain ⟨u_3, hu_3, hF⟩ := obd_some hF
              have hPc := hP.sub (ws' := (wd_X12_points cI a0 v0_2 v0_3 v0_5 v0_12 v0_13 v0_16 v0_17 v0_21 v0_23 v0_24 v0_25 v0_26 v0_29 v0_30 s55.2)) [0, 1] rfl
              have hDc := hD.sub (ws' := (wd_X12_points cI a0 v0_2 v0_3 v0_5 v0_12 v0_13 v0_16 v0_17 v0_21 v0_23 v0_24 v0_25 v0_26 v0_29 v0_30 s55.2)) [0, 1] rfl rfl
              refine q_calli (wc := (wd_X12_points cI a0 v0_2 v0_3 v0_5 v0_12 v0_13 v0_16 v0_17 v0_21 v0_23 v0_24 v0_25 v0_26 v0_29 v0_30 s55.2)) (w1 := (wd_X12_points cI a0 v0_2 v0_3 v0_5 v0_12 v0_13 v0_16 v0_17 v0_21 v0_23 v0_24 v0_25 v0_26 v0_29 v0_30 s55.2)) (ws' := (wd_X12_simplify cI a0 v0_2 v0_3 v0_5 v0_12 v0_13 v0_16 v0_17 v0_21 v0_23 v0_24 v0_25 v0_26 v0_29 v0_30 s55.2 v0_1)) hP hD hS hA [0, 1] [2] [1, 2, 0] rfl rfl rfl (by decide) rfl rfl (va_runV (As := [.int x1]) (rest := [.int s55.1]) ⟨hx, hb, hml, hown, hta⟩ (c_X12_points l dC dI cI H.size a0 v0_2 v0_3 v0_5 v0_12 v0_13 v0_16 v0_17 v0_21 v0_23 v0_24 v0_25 v0_26 v0_29 v0_30 s55.2 x1 u_3 hu_3) (cwV 1 hta (ga_V mA839 mA840 mA841 mA814 mA827) rfl rfl rfl (by decide +kernel) ⟨Nat.le_of_ble_eq_true rfl, Nat.le_of_ble_eq_true rfl⟩) ⟨q_fb, va_recv hK hP (ci := 11) (q0 := 0) rfl rfl, q_ps hPc hK hDc⟩ rfl rfl hl.1 rfl (lv_room (Nat.le_of_ble_eq_true rfl)) dX12_simplify_59 ⟨Nat.zero_le _, Nat.zero_le _⟩) (fun H locs hP hD hS => ?_)
              refine lv_icmp_ge (tgt := 96) hx hb dX12_simplify_62 (by decide) (fun c_4 => ?_) (fun c_4 => ?_)
              · have hF := it_t hF c_4
                obtain rfl := Option.some.inj hF
                obtain rfl := lpq_x hO_55
                have hF := hE_55
                exact j96 s55.2 x2 hF _ _ _ hP hD hS (lv_sub hl [0, 1, 2] rfl)
              · have hF := it_f hF c_4
                refine lv_aload_n hx hb dX12_simplify_65 rfl (lv_at hl 0 rfl) ?_
                refine lv_iload_n hx hb dX12_simplify_66 rfl (lv_at hl 1 rfl) ?_
                refine lv_iload hx hb dX12_simplify_67 (lv_at hl 3 rfl) ?_
                refine lv_aload_n hx hb dX12_simplify_69 rfl (lv_at hl 0 rfl) ?_
                refine lv_iload_n hx hb dX12_simplify_70 rfl (lv_at hl 1 rfl) ?_
                refine lv_iload hx hb dX12_simplify_71 (lv_at hl 3 rfl) ?_
                refine lv_iconst (v := 1) hx hb dX12_simplify_73 (by decide) ?_
                refine lv_iadd hx hb dX12_simplify_74 ?_
                obtain ⟨u_5, hu_5, hF⟩ := obd_some hF
                have hPc := hP.sub (ws' := (wd_X12_x cI a0 v0_2 v0_3 v0_5 v0_12 v0_13 v0_16 v0_17 v0_21 v0_23 v0_24 v0_25 v0_26 v0_29 v0_30 s55.2)) [0, 1] rfl
                have hDc := hD.sub (ws' := (wd_X12_x cI a0 v0_2 v0_3 v0_5 v0_12 v0_13 v0_16 v0_17 v0_21 v0_23 v0_24 v0_25 v0_26 v0_29 v0_30 s55.2)) [0, 1] rfl rfl
                refine q_calli (wc := (wd_X12_x cI a0 v0_2 v0_3 v0_5 v0_12 v0_13 v0_16 v0_17 v0_21 v0_23 v0_24 v0_25 v0_26 v0_29 v0_30 s55.2)) (w1 := (wd_X12_x cI a0 v0_2 v0_3 v0_5 v0_12 v0_13 v0_16 v0_17 v0_21 v0_23 v0_24 v0_25 v0_26 v0_29 v0_30 s55.2)) (ws' := (wd_X12_simplify cI a0 v0_2 v0_3 v0_5 v0_12 v0_13 v0_16 v0_17 v0_21 v0_23 v0_24 v0_25 v0_26 v0_29 v0_30 s55.2 v0_1)) hP hD hS hA [0, 1] [2] [1, 2, 0] rfl rfl rfl (by decide) rfl rfl (va_runV (As := [.int x1, .int (s55.1 + 1)]) (rest := [.int s55.1, .int x1, .ref (a0 0)]) ⟨hx, hb, hml, hown, hta⟩ (c_X12_x l dC dI cI H.size a0 v0_2 v0_3 v0_5 v0_12 v0_13 v0_16 v0_17 v0_21 v0_23 v0_24 v0_25 v0_26 v0_29 v0_30 s55.2 x1 (s55.1 + 1) u_5 hu_5) (cwV 2 hta (ga_V mA870 mA871 mA872 mA814 mA831) rfl rfl rfl (by decide +kernel) ⟨Nat.le_of_ble_eq_true rfl, Nat.le_of_ble_eq_true rfl⟩) ⟨q_fb, va_recv hK hP (ci := 11) (q0 := 0) rfl rfl, q_ps hPc hK hDc⟩ rfl rfl hl.1 rfl (lv_room (Nat.le_of_ble_eq_true rfl)) dX12_simplify_75 ⟨Nat.zero_le _, Nat.zero_le _⟩) (fun H locs hP hD hS => ?_)
                refine lv_aload_n hx hb dX12_simplify_78 rfl (lv_at hl 0 rfl) ?_
                refine lv_iload_n hx hb dX12_simplify_79 rfl (lv_at hl 1 rfl) ?_
                refine lv_iload hx hb dX12_simplify_80 (lv_at hl 3 rfl) ?_
                refine lv_iconst (v := 1) hx hb dX12_simplify_82 (by decide) ?_
                refine lv_iadd hx hb dX12_simplify_83 ?_
                obtain ⟨u_6, hu_6, hF⟩ := obd_some hF
                have hPc := hP.sub (ws' := (wd_X12_y cI a0 v0_2 v0_3 v0_5 v0_12 v0_13 v0_16 v0_17 v0_21 v0_23 v0_24 v0_25 v0_26 v0_29 v0_30 s55.2)) [0, 1] rfl
                have hDc := hD.sub (ws' := (wd_X12_y cI a0 v0_2 v0_3 v0_5 v0_12 v0_13 v0_16 v0_17 v0_21 v0_23 v0_24 v0_25 v0_26 v0_29 v0_30 s55.2)) [0, 1] rfl rfl
                refine q_calli (wc := (wd_X12_y cI a0 v0_2 v0_3 v0_5 v0_12 v0_13 v0_16 v0_17 v0_21 v0_23 v0_24 v0_25 v0_26 v0_29 v0_30 s55.2)) (w1 := (wd_X12_y cI a0 v0_2 v0_3 v0_5 v0_12 v0_13 v0_16 v0_17 v0_21 v0_23 v0_24 v0_25 v0_26 v0_29 v0_30 s55.2)) (ws' := (wd_X12_simplify cI a0 v0_2 v0_3 v0_5 v0_12 v0_13 v0_16 v0_17 v0_21 v0_23 v0_24 v0_25 v0_26 v0_29 v0_30 s55.2 v0_1)) hP hD hS hA [0, 1] [2] [1, 2, 0] rfl rfl rfl (by decide) rfl rfl (va_runV (As := [.int x1, .int (s55.1 + 1)]) (rest := [.int u_5, .int s55.1, .int x1, .ref (a0 0)]) ⟨hx, hb, hml, hown, hta⟩ (c_X12_y l dC dI cI H.size a0 v0_2 v0_3 v0_5 v0_12 v0_13 v0_16 v0_17 v0_21 v0_23 v0_24 v0_25 v0_26 v0_29 v0_30 s55.2 x1 (s55.1 + 1) u_6 hu_6) (cwV 2 hta (ga_V mA873 mA874 mA875 mA814 mA832) rfl rfl rfl (by decide +kernel) ⟨Nat.le_of_ble_eq_true rfl, Nat.le_of_ble_eq_true rfl⟩) ⟨q_fb, va_recv hK hP (ci := 11) (q0 := 0) rfl rfl, q_ps hPc hK hDc⟩ rfl rfl hl.1 rfl (lv_room (Nat.le_of_ble_eq_true rfl)) dX12_simplify_84 ⟨Nat.zero_le _, Nat.zero_le _⟩) (fun H locs hP hD hS => ?_)
                obtain ⟨u_7, hu_7, hF⟩ := obd_some hF
                have hPc := hP.sub (ws' := (wd_X12_puts cI a0 v0_2 v0_3 v0_5 v0_12 v0_13 v0_16 v0_17 v0_21 v0_23 v0_24 v0_25 v0_26 v0_29 v0_30 s55.2)) [0, 1] rfl
                have hDc := hD.sub (ws' := (wd_X12_puts cI a0 v0_2 v0_3 v0_5 v0_12 v0_13 v0_16 v0_17 v0_21 v0_23 v0_24 v0_25 v0_26 v0_29 v0_30 s55.2)) [0, 1] rfl rfl
                refine q_callv (wc := (wd_X12_puts cI a0 v0_2 v0_3 v0_5 v0_12 v0_13 v0_16 v0_17 v0_21 v0_23 v0_24 v0_25 v0_26 v0_29 v0_30 s55.2)) (w1 := (wd_X12_puts cI a0 v0_2 v0_3 v0_5 v0_12 v0_13 v0_16 v0_17 v0_21 v0_23 v0_24 v0_25 v0_26 v0_29 v0_30 u_7)) (ws' := (wd_X12_simplify cI a0 v0_2 v0_3 v0_5 v0_12 v0_13 v0_16 v0_17 v0_21 v0_23 v0_24 v0_25 v0_26 v0_29 v0_30 u_7 v0_1)) hP hD hS hA [0, 1] [2] [1, 2, 0] rfl rfl rfl (by decide) rfl rfl (va_runV (As := [.int x1, .int s55.1, .int u_5, .int u_6]) (rest := []) ⟨hx, hb, hml, hown, hta⟩ (c_X12_puts l dC dI cI H.size a0 v0_2 v0_3 v0_5 v0_12 v0_13 v0_16 v0_17 v0_21 v0_23 v0_24 v0_25 v0_26 v0_29 v0_30 s55.2 x1 s55.1 u_5 u_6 u_7 hu_7) (cwV 4 hta (ga_V mA835 mA836 mA837 mA814 mA833) rfl rfl rfl (by decide +kernel) ⟨Nat.le_of_ble_eq_true rfl, Nat.le_of_ble_eq_true rfl⟩) ⟨q_fb, va_recv hK hP (ci := 11) (q0 := 0) rfl rfl, q_ps hPc hK hDc⟩ rfl rfl hl.1 rfl (lv_room (Nat.le_of_ble_eq_true rfl)) dX12_simplify_87 ⟨Nat.zero_le _, Nat.zero_le _⟩) (fun H locs hP hD hS => ?_)
                obtain ⟨y_8, ey_8, hF⟩ := lt_some hF
                refine lv_iinc (v := y_8) (lv' := [(4, .int y_8), (0, .ref (a0 0)), (1, .int x1), (2, .int x2)]) hx hb dX12_simplify_90 hl (k := 3) rfl (by rw [ey_8]; rfl) (by decide) rfl (fun ls hl => ?_)
                refine lv_goto (tgt := 55) hx hb dX12_simplify_93 (by decide) ?_
                obtain rfl := Option.some.inj hF
                exact ih_55 _ hO_55 _ _ _ hP hD hS (lv_sub hl [1, 2, 3, 0] rfl)
          exact kl_55 n _ hL_55 _ _ _ hP hD hS hl
        refine lv_iload_n hx hb dX12_simplify_34 rfl (lv_at hl 3 rfl) ?_
        refine lv_iconst (v := (-1)) hx hb dX12_simplify_35 (by decide) ?_
        refine lv_icmp_eq (tgt := 108) hx hb dX12_simplify_36 (by decide) (fun c_9 => ?_) (fun c_9 => ?_)
        · have hF := it_t hF c_9
          obtain rfl := Option.some.inj hF
          obtain rfl := lpq_x hO_34
          have hF := hE_34
          exact j108 v0_2 v0_3 s34.2.2 v0_1 s34.1 hF _ _ _ hP hD hS (lv_sub hl [2] rfl)
        · have hF := it_f hF c_9
          refine lv_aload_n hx hb dX12_simplify_39 rfl (lv_at hl 0 rfl) ?_
          refine va_get (D := (dC, dI)) (ci := 11) (v := .ref (a0 1)) (C := RX12) (T := TX12) (N := 31) hx hb hta uw_X12 hown hK hP 0 rfl rfl 0 (by decide) (hta _ mA790) (fun _ h9 => h9) rfl dX12_simplify_40 ?_
          refine lv_iload_n hx hb dX12_simplify_43 rfl (lv_at hl 1 rfl) ?_
          obtain ⟨u_10, hu_10, hF⟩ := lt_some hF
          have hPc := hP.sub (ws' := ([] : va_W)) [] rfl
          have hDc := hD.sub (ws' := ([] : va_W)) [] rfl rfl
          refine q_calli (wc := ([] : va_W)) (w1 := ([] : va_W)) (ws' := (wd_X12_simplify cI a0 v0_2 v0_3 v0_5 v0_12 v0_13 v0_16 v0_17 v0_21 v0_23 v0_24 v0_25 v0_26 v0_29 v0_30 s34.2.2 v0_1)) hP hD hS hA [] [0, 1, 2] [0, 1, 2] rfl rfl rfl (by decide) rfl rfl (va_runS (As := [.int x1]) (rest := [.ref (a0 1)]) ⟨hx, hb, hml, hown, hta⟩ (c_X12_at l dC dI cI H.size x1 u_10 hu_10.symm) (va_cwS 1 hta (ga_S mA828 mA829 mA814 mA825) rfl rfl rfl (by decide +kernel) ⟨Nat.le_of_ble_eq_true rfl, Nat.le_of_ble_eq_true rfl⟩) ⟨q_fb, q_ps hPc hK hDc⟩ rfl rfl hl.1 rfl (lv_room (Nat.le_of_ble_eq_true rfl)) dX12_simplify_44 ⟨Nat.zero_le _, Nat.zero_le _⟩) (fun H locs hP hD hS => ?_)
          refine lv_dup2_11 hx hb dX12_simplify_47 rfl rfl ?_
          obtain ⟨g_11, hF⟩ := gd_some hF
          refine va_iald hx hb hK hP 1 0 rfl rfl (vpi_in g_11) dX12_simplify_48 ?_
          refine lv_iconst (v := 1) hx hb dX12_simplify_49 (by decide) ?_
          refine lv_isub hx hb dX12_simplify_50 ?_
          obtain ⟨y_12, ey_12, hF⟩ := lt_some hF
          refine lv_eqi ey_12 ?_
          obtain ⟨g_13, hF⟩ := gd_some hF
          refine va_iast hx hb hK hP hD hS 1 0 rfl rfl (vpi_in g_13) dX12_simplify_51 (fun H locs hP hD hS => ?_)
          obtain ⟨y_14, ey_14, hF⟩ := lt_some hF
          have hP : va_P (dC, dI) vwCl (wd_X12_simplify cI a0 v0_2 v0_3 v0_5 v0_12 v0_13 v0_16 v0_17 v0_21 v0_23 v0_24 v0_25 v0_26 v0_29 v0_30 y_14 v0_1) H := by rw [ey_14]; exact hP
          have hD : va_D A (wd_X12_simplify cI a0 v0_2 v0_3 v0_5 v0_12 v0_13 v0_16 v0_17 v0_21 v0_23 v0_24 v0_25 v0_26 v0_29 v0_30 y_14 v0_1) := by rw [ey_14]; exact hD
          refine lv_iload_n hx hb dX12_simplify_52 rfl (lv_at hl 3 rfl) ?_
          refine lv_istore (lv' := [(4, .int s34.2.1), (0, .ref (a0 0)), (1, .int x1), (2, .int s34.1), (3, .int s34.2.1)]) hx hb dX12_simplify_53 hl (by decide) rfl (fun ls hl => ?_)
          exact j55 y_14 s34.1 s34.2.1 hF _ _ _ hP hD hS (lv_sub hl [1, 2, 3, 0] rfl)
    exact kl_34 n _ hL_34 _ _ _ hP hD hS hl
  have j14 : ∀ (v0_2 : Int32) (v0_3 : Int32) (v0_0 : Nat → Int32) (v0_1 : Nat → Int32) (x1 : Int32) (t1 : Int32), F_X12_simplify_j14 n v0_2 v0_0 v0_1 x1 t1 = some u → ∀ (H : Heap) (locs : List Loc) (ls : Array Slot), va_P (dC, dI) vwCl (wd_X12_simplify cI a0 v0_2 v0_3 v0_5 v0_12 v0_13 v0_16 v0_17 v0_21 v0_23 v0_24 v0_25 v0_26 v0_29 v0_30 v0_0 v0_1) H → va_D A (wd_X12_simplify cI a0 v0_2 v0_3 v0_5 v0_12 v0_13 v0_16 v0_17 v0_21 v0_23 v0_24 v0_25 v0_26 v0_29 v0_30 v0_0 v0_1) → va_S A s.heap H locs → lv_has ls 5 [(0, .ref (a0 0)), (1, .int x1)] → W p l e (headSpec wz_X12_simplify rm_X12_simplify).room s m [.ref (a0 0), .int p1].toArray below meth c H locs 0 0 (MQ below (Q_X12_simplify dC dI cI a0 v0_5 v0_12 v0_13 v0_16 v0_17 v0_21 v0_23 v0_24 v0_25 v0_26 v0_29 v0_30 u A) [.ref (a0 0), .int p1].toArray s 0 0 A) (F0 m 14 ls [.int t1, .ref (a0 0)]) := by
    intro v0_2 v0_3 v0_0 v0_1 x1 t1 hF H locs ls hP hD hS hl
    unfold F_X12_simplify_j14 at hF
    obtain ⟨u_15, hu_15, hF⟩ := lt_some hF
    have hPc := hP.sub (ws' := (wd_X12_refused cI a0 v0_2 v0_3 v0_5 v0_12 v0_13 v0_16 v0_17 v0_21 v0_23 v0_24 v0_25 v0_26 v0_29 v0_30)) [0] rfl
    have hDc := hD.sub (ws' := (wd_X12_refused cI a0 v0_2 v0_3 v0_5 v0_12 v0_13 v0_16 v0_17 v0_21 v0_23 v0_24 v0_25 v0_26 v0_29 v0_30)) [0] rfl rfl
    refine q_callz (wc := (wd_X12_refused cI a0 v0_2 v0_3 v0_5 v0_12 v0_13 v0_16 v0_17 v0_21 v0_23 v0_24 v0_25 v0_26 v0_29 v0_30)) (w1 := (wd_X12_refused cI a0 v0_2 u_15.2 v0_5 v0_12 v0_13 v0_16 v0_17 v0_21 v0_23 v0_24 v0_25 v0_26 v0_29 v0_30)) (ws' := (wd_X12_simplify cI a0 v0_2 u_15.2 v0_5 v0_12 v0_13 v0_16 v0_17 v0_21 v0_23 v0_24 v0_25 v0_26 v0_29 v0_30 v0_0 v0_1)) hP hD hS hA [0] [1, 2] [2, 0, 1] rfl rfl rfl (by decide) rfl rfl (va_runV (As := [.int t1]) (rest := []) ⟨hx, hb, hml, hown, hta⟩ (c_X12_refused l dC dI cI H.size a0 v0_2 v0_3 v0_5 v0_12 v0_13 v0_16 v0_17 v0_21 v0_23 v0_24 v0_25 v0_26 v0_29 v0_30 t1 u_15 hu_15.symm) (cwV 1 hta (ga_V mA822 mA823 mA824 mA814 mA809) rfl rfl rfl (by decide +kernel) ⟨Nat.le_of_ble_eq_true rfl, Nat.le_of_ble_eq_true rfl⟩) ⟨q_fb, va_recv hK hP (ci := 11) (q0 := 0) rfl rfl, q_ps hPc hK hDc⟩ rfl rfl hl.1 rfl (lv_room (Nat.le_of_ble_eq_true rfl)) dX12_simplify_14 ⟨Nat.zero_le _, Nat.zero_le _⟩) (fun hzu_15 H locs hP hD hS => ?_)
    refine lv_if_eq (tgt := 22) hx hb dX12_simplify_17 (by decide) (fun c_16 => ?_) (fun c_16 => ?_)
    · have hF := it_t hF c_16
      refine lv_aload_n hx hb dX12_simplify_22 rfl (lv_at hl 0 rfl) ?_
      obtain ⟨u_17, hu_17, hF⟩ := obd_some hF
      have hPc := hP.sub (ws' := (wd_X12_saves cI a0 v0_2 u_15.2 v0_5 v0_12 v0_13 v0_16 v0_17 v0_21 v0_23 v0_24 v0_25 v0_26 v0_29 v0_30 v0_0 v0_1)) [0, 1, 2] rfl
      have hDc := hD.sub (ws' := (wd_X12_saves cI a0 v0_2 u_15.2 v0_5 v0_12 v0_13 v0_16 v0_17 v0_21 v0_23 v0_24 v0_25 v0_26 v0_29 v0_30 v0_0 v0_1)) [0, 1, 2] rfl rfl
      refine q_callv (wc := (wd_X12_saves cI a0 v0_2 u_15.2 v0_5 v0_12 v0_13 v0_16 v0_17 v0_21 v0_23 v0_24 v0_25 v0_26 v0_29 v0_30 v0_0 v0_1)) (w1 := (wd_X12_saves cI a0 u_17.1 u_15.2 v0_5 v0_12 v0_13 v0_16 v0_17 v0_21 v0_23 v0_24 v0_25 v0_26 v0_29 v0_30 v0_0 u_17.2)) (ws' := (wd_X12_simplify cI a0 u_17.1 u_15.2 v0_5 v0_12 v0_13 v0_16 v0_17 v0_21 v0_23 v0_24 v0_25 v0_26 v0_29 v0_30 v0_0 u_17.2)) hP hD hS hA [0, 1, 2] [] [0, 1, 2] rfl rfl rfl (by decide) rfl rfl (va_runV (As := []) (rest := []) ⟨hx, hb, hml, hown, hta⟩ (c_X12_saves l dC dI cI H.size a0 v0_2 u_15.2 v0_5 v0_12 v0_13 v0_16 v0_17 v0_21 v0_23 v0_24 v0_25 v0_26 v0_29 v0_30 v0_0 v0_1 n u_17 hu_17) (cwV 0 hta (ga_V mA845 mA846 mA847 mA814 mA819) rfl rfl rfl (by decide +kernel) ⟨Nat.le_of_ble_eq_true rfl, Nat.le_of_ble_eq_true rfl⟩) ⟨q_fb, va_recv hK hP (ci := 11) (q0 := 0) rfl rfl, q_ps hPc hK hDc⟩ rfl rfl hl.1 rfl (lv_room (Nat.le_of_ble_eq_true rfl)) dX12_simplify_23 ⟨Nat.zero_le _, Nat.zero_le _⟩) (fun H locs hP hD hS => ?_)
      refine lv_iconst (v := 0) hx hb dX12_simplify_26 (by decide) ?_
      refine lv_istore_n (lv' := [(2, .int 0), (0, .ref (a0 0)), (1, .int x1)]) hx hb dX12_simplify_27 rfl hl (by decide) rfl (fun ls hl => ?_)
      refine lv_aload_n hx hb dX12_simplify_28 rfl (lv_at hl 1 rfl) ?_
      refine lv_iload_n hx hb dX12_simplify_29 rfl (lv_at hl 2 rfl) ?_
      obtain ⟨u_18, hu_18, hF⟩ := obd_some hF
      have hPc := hP.sub (ws' := (wd_X12_firstIdle cI a0 u_17.1 u_15.2 v0_5 v0_12 v0_13 v0_16 v0_17 v0_21 v0_23 v0_24 v0_25 v0_26 v0_29 v0_30 v0_0)) [0, 1] rfl
      have hDc := hD.sub (ws' := (wd_X12_firstIdle cI a0 u_17.1 u_15.2 v0_5 v0_12 v0_13 v0_16 v0_17 v0_21 v0_23 v0_24 v0_25 v0_26 v0_29 v0_30 v0_0)) [0, 1] rfl rfl
      refine q_calli (wc := (wd_X12_firstIdle cI a0 u_17.1 u_15.2 v0_5 v0_12 v0_13 v0_16 v0_17 v0_21 v0_23 v0_24 v0_25 v0_26 v0_29 v0_30 v0_0)) (w1 := (wd_X12_firstIdle cI a0 u_17.1 u_15.2 v0_5 v0_12 v0_13 v0_16 v0_17 v0_21 v0_23 v0_24 v0_25 v0_26 v0_29 v0_30 v0_0)) (ws' := (wd_X12_simplify cI a0 u_17.1 u_15.2 v0_5 v0_12 v0_13 v0_16 v0_17 v0_21 v0_23 v0_24 v0_25 v0_26 v0_29 v0_30 v0_0 u_17.2)) hP hD hS hA [0, 1] [2] [1, 2, 0] rfl rfl rfl (by decide) rfl rfl (va_runV (As := [.int x1]) (rest := []) ⟨hx, hb, hml, hown, hta⟩ (c_X12_firstIdle l dC dI cI H.size a0 u_17.1 u_15.2 v0_5 v0_12 v0_13 v0_16 v0_17 v0_21 v0_23 v0_24 v0_25 v0_26 v0_29 v0_30 v0_0 x1 n u_18 hu_18) (cwV 1 hta (ga_V mA892 mA893 mA894 mA814 mA887) rfl rfl rfl (by decide +kernel) ⟨Nat.le_of_ble_eq_true rfl, Nat.le_of_ble_eq_true rfl⟩) ⟨q_fb, va_recv hK hP (ci := 11) (q0 := 0) rfl rfl, q_ps hPc hK hDc⟩ rfl rfl hl.1 rfl (lv_room (Nat.le_of_ble_eq_true rfl)) dX12_simplify_30 ⟨Nat.zero_le _, Nat.zero_le _⟩) (fun H locs hP hD hS => ?_)
      refine lv_istore_n (lv' := [(3, .int u_18), (2, .int 0), (0, .ref (a0 0)), (1, .int x1)]) hx hb dX12_simplify_33 rfl hl (by decide) rfl (fun ls hl => ?_)
      exact j34 u_17.1 u_15.2 v0_0 u_17.2 x1 0 u_18 hF _ _ _ hP hD hS (lv_sub hl [2, 3, 1, 0] rfl)
    · have hF := it_f hF c_16
      refine lv_iconst (v := 0) hx hb dX12_simplify_20 (by decide) ?_
      obtain rfl := Option.some.inj hF
      exact W.iret (v := 0) hx hb hr (fun t ht hW => ⟨⟨0, (), rfl, rfl, by rw [ht]; exact hP, va_K.moved hW.alike hK, hD⟩, hS.F ht⟩) hS.2.2 dX12_simplify_21
  refine lv_aload_n hx hb dX12_simplify_0 rfl (lv_at hl 0 rfl) ?_
  refine lv_aload_n hx hb dX12_simplify_1 rfl (lv_at hl 0 rfl) ?_
  refine lv_iload_n hx hb dX12_simplify_2 rfl (lv_at hl 1 rfl) ?_
  obtain ⟨u_19, hu_19, hF⟩ := obd_some hF
  have hPc := hP.sub (ws' := (wd_X12_isSubpath cI a0 v0_2 v0_3 v0_5 v0_12 v0_13 v0_16 v0_17 v0_21 v0_23 v0_24 v0_25 v0_26 v0_29 v0_30 v0_0)) [0, 1] rfl
  have hDc := hD.sub (ws' := (wd_X12_isSubpath cI a0 v0_2 v0_3 v0_5 v0_12 v0_13 v0_16 v0_17 v0_21 v0_23 v0_24 v0_25 v0_26 v0_29 v0_30 v0_0)) [0, 1] rfl rfl
  refine q_callz (wc := (wd_X12_isSubpath cI a0 v0_2 v0_3 v0_5 v0_12 v0_13 v0_16 v0_17 v0_21 v0_23 v0_24 v0_25 v0_26 v0_29 v0_30 v0_0)) (w1 := (wd_X12_isSubpath cI a0 v0_2 v0_3 v0_5 v0_12 v0_13 v0_16 v0_17 v0_21 v0_23 v0_24 v0_25 v0_26 v0_29 v0_30 v0_0)) (ws' := (wd_X12_simplify cI a0 v0_2 v0_3 v0_5 v0_12 v0_13 v0_16 v0_17 v0_21 v0_23 v0_24 v0_25 v0_26 v0_29 v0_30 v0_0 v0_1)) hP hD hS hA [0, 1] [2] [1, 2, 0] rfl rfl rfl (by decide) rfl rfl (va_runV (As := [.int p1]) (rest := [.ref (a0 0)]) ⟨hx, hb, hml, hown, hta⟩ (c_X12_isSubpath l dC dI cI H.size a0 v0_2 v0_3 v0_5 v0_12 v0_13 v0_16 v0_17 v0_21 v0_23 v0_24 v0_25 v0_26 v0_29 v0_30 v0_0 p1 u_19 hu_19) (cwV 1 hta (ga_V mA879 mA880 mA881 mA814 mA826) rfl rfl rfl (by decide +kernel) ⟨Nat.le_of_ble_eq_true rfl, Nat.le_of_ble_eq_true rfl⟩) ⟨q_fb, va_recv hK hP (ci := 11) (q0 := 0) rfl rfl, q_ps hPc hK hDc⟩ rfl rfl hl.1 rfl (lv_room (Nat.le_of_ble_eq_true rfl)) dX12_simplify_3 ⟨Nat.zero_le _, Nat.zero_le _⟩) (fun hzu_19 H locs hP hD hS => ?_)
  refine lv_if_eq (tgt := 13) hx hb dX12_simplify_6 (by decide) (fun c_20 => ?_) (fun c_20 => ?_)
  · have hF := it_t hF c_20
    refine lv_iconst (v := 1) hx hb dX12_simplify_13 (by decide) ?_
    exact j14 v0_2 v0_3 v0_0 v0_1 p1 1 hF _ _ _ hP hD hS (lv_sub hl [0, 1] rfl)
  · have hF := it_f hF c_20
    refine lv_iconst (v := 0) hx hb dX12_simplify_9 (by decide) ?_
    refine lv_goto (tgt := 14) hx hb dX12_simplify_10 (by decide) ?_
    exact j14 v0_2 v0_3 v0_0 v0_1 p1 0 hF _ _ _ hP hD hS (lv_sub hl [0, 1] rfl)
