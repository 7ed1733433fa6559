-- StrokeOutliner$PathText.isFull()Z
def F_X5_isFull (v0_1 : Int32) : (Int32) :=
  if v0_1 < 150 then 0 else 1
abbrev wd_X5_isFull (cI : ClassId) (a0 : Nat → Nat) (v0_1 : Int32) (v0_2 : Int32) (v0_3 : Int32) (v0_4 : Int32) (v0_5 : Int32) : va_W := [(a0 0, .inr (4, [.ref (a0 1), .int v0_1, .int v0_2, .int v0_3, .int v0_4, .int v0_5]))]
abbrev wz_X5_isFull : List Cond := .code yX5_isFull cX5_isFull 1 (some .boolean) :: wALL
abbrev rm_X5_isFull : Room := { frames := 0, cells := 0, slots := 0, locals := 0 }
abbrev Q_X5_isFull (dC : Nat → ClassId) (dI : Nat → Nat → Nat) (cI : ClassId) (a0 : Nat → Nat) (v0_1 : Int32) (v0_2 : Int32) (v0_3 : Int32) (v0_4 : Int32) (v0_5 : Int32) (u : (Int32)) (A : Nat → Prop) : Array Value → State → Outcome → State → Prop := va_Qi (fun (r : Int32) (_ : Unit) => r = u ∧ (u = 0 ∨ u = 1)) (fun _ => q_at dC dI cI A (wd_X5_isFull cI a0 v0_1 v0_2 v0_3 v0_4 v0_5)) A
set_option maxHeartbeats 4000000 in
set_option maxRecDepth 100000 in
theorem c_X5_isFull (l : Launch) (dC : Nat → ClassId) (dI : Nat → Nat → Nat) (cI : ClassId) (sz : Nat) (a0 : Nat → Nat) (v0_1 : Int32) (v0_2 : Int32) (v0_3 : Int32) (v0_4 : Int32) (v0_5 : Int32) (u : (Int32)) (hF : F_X5_isFull v0_1 = u) : Met l yX5_isFull wz_X5_isFull rm_X5_isFull (va_Pc [.ref (a0 0)] (q_pre dC dI cI (wd_X5_isFull cI a0 v0_1 v0_2 v0_3 v0_4 v0_5) sz)) (Q_X5_isFull dC dI cI a0 v0_1 v0_2 v0_3 v0_4 v0_5 u (va_A (wd_X5_isFull cI a0 v0_1 v0_2 v0_3 v0_4 v0_5) sz)) 0 0 (va_A (wd_X5_isFull cI a0 v0_1 v0_2 v0_3 v0_4 v0_5) sz) := by
  refine Met.ofW (cc := cX5_isFull) (maxL := 1) (ret := (some .boolean)) (by decide) rfl ?_
  intro p e s m args below meth c s₁ B hml hv
  obtain ⟨rfl, hsz, hP, hK, hD0⟩ := hv
  have hx := B.exec
  have hb := B.bytes
  have hr := B.returns
  have hts := atoms_spec (ws := wz_X5_isFull) B.pre
  have hta := wz_tl hts
  have hown : s.vm.findClass RX5 = some m.cls := findClass_of_methodNamed B.named
  have hlocks := B.notSynchronized
  subst hsz
  have hD := hD0.self (sz := s.heap.size)
  generalize hAe : va_A (wd_X5_isFull cI a0 v0_1 v0_2 v0_3 v0_4 v0_5) s.heap.size = A at hD ⊢
  have hA : ∀ q : Nat, s.heap.size ≤ q → A q := fun q h => by rw [← hAe]; exact Or.inr h
  have hS : va_S A s.heap s.heap [] := va_S.rf
  have hP : va_P (dC, dI) vwCl (wd_X5_isFull cI a0 v0_1 v0_2 v0_3 v0_4 v0_5) s.heap := hP
  have hl := lv_entry ([.ref (a0 0)]) (n := 1) (Nat.le_of_ble_eq_true rfl)
  rw [lg_entry_eq]
  generalize (lg_sl ([.ref (a0 0)]) ++ List.replicate (1 - (lg_sl ([.ref (a0 0)])).length) Slot.unset).toArray = ls at hl ⊢
  have hl : lv_has ls 1 [(0, .ref (a0 0))] := hl
  obtain ⟨H, hHe⟩ : ∃ H, H = s.heap := ⟨_, rfl⟩
  have hS : va_S A s.heap H [] := by rw [hHe]; exact hS
  have hP : va_P (dC, dI) vwCl (wd_X5_isFull cI a0 v0_1 v0_2 v0_3 v0_4 v0_5) H := by rw [hHe]; exact hP
  rw [← hHe]
  unfold F_X5_isFull at hF
  refine lv_aload_n hx hb dX5_isFull_0 rfl (lv_at hl 0 rfl) ?_
  refine va_get (D := (dC, dI)) (ci := 4) (v := .int v0_1) (C := RX5) (T := TX5) (N := 6) hx hb hta uw_X5 hown hK hP 0 rfl rfl 1 (by decide) (hta _ mA671) (fun _ h9 => h9) rfl dX5_isFull_1 ?_
  refine lv_sipush (v := 150) hx hb dX5_isFull_4 (by decide) ?_
  refine lv_icmp_lt (tgt := 14) hx hb dX5_isFull_7 (by decide) (fun c_1 => ?_) (fun c_1 => ?_)
  · have hF := it_t hF c_1
    refine lv_iconst (v := 0) hx hb dX5_isFull_14 (by decide) ?_
    subst hF
    exact W.zret (v := 0) (ty := .boolean) hx hb hr (z_nar (Or.inl rfl)) (fun t ht hW => ⟨⟨0, (), rfl, ⟨rfl, (Or.inl rfl)⟩, by rw [ht]; exact hP, va_K.moved hW.alike hK, hD⟩, hS.F ht⟩) hS.2.2 dX5_isFull_15
  · have hF := it_f hF c_1
    refine lv_iconst (v := 1) hx hb dX5_isFull_10 (by decide) ?_
    refine lv_goto (tgt := 15) hx hb dX5_isFull_11 (by decide) ?_
    subst hF
    exact W.zret (v := 1) (ty := .boolean) hx hb hr (z_nar (Or.inr rfl)) (fun t ht hW => ⟨⟨1, (), rfl, ⟨rfl, (Or.inr rfl)⟩, by rw [ht]; exact hP, va_K.moved hW.alike hK, hD⟩, hS.F ht⟩) hS.2.2 dX5_isFull_15

-- StrokeOutliner$PathText.add(I)V
def F_X5_add (v0_1 : Int32) (v0_0 : Nat → Int32) (p1 : Int32) : Option (Int32 × (Nat → Int32)) :=
  if v0_1 < 0 then some (v0_1, v0_0) else if 150 ≤ v0_1 then some (v0_1, v0_0) else gd (decide (vpi v0_1 150)) (lt (upd v0_0 v0_1.toNatClampNeg p1) (fun y_4 => lt (v0_1 + 1) (fun y_5 => some (y_5, y_4))))
abbrev wd_X5_add (cI : ClassId) (a0 : Nat → Nat) (v0_1 : Int32) (v0_2 : Int32) (v0_3 : Int32) (v0_4 : Int32) (v0_5 : Int32) (v0_0 : Nat → Int32) : va_W := [(a0 0, .inr (4, [.ref (a0 1), .int v0_1, .int v0_2, .int v0_3, .int v0_4, .int v0_5])), (a0 1, .inl (cI, 150, .inl v0_0))]
abbrev wz_X5_add : List Cond := .code yX5_add cX5_add 2 none :: wALL
abbrev rm_X5_add : Room := { frames := 0, cells := 0, slots := 0, locals := 0 }
abbrev Q_X5_add (dC : Nat → ClassId) (dI : Nat → Nat → Nat) (cI : ClassId) (a0 : Nat → Nat) (v0_2 : Int32) (v0_3 : Int32) (v0_4 : Int32) (v0_5 : Int32) (u : (Int32 × (Nat → Int32))) (A : Nat → Prop) : Array Value → State → Outcome → State → Prop := va_Qv (fun (_ : Unit) => True) (fun _ => q_at dC dI cI A (wd_X5_add cI a0 u.1 v0_2 v0_3 v0_4 v0_5 u.2)) A
set_option maxHeartbeats 4000000 in
set_option maxRecDepth 100000 in
theorem c_X5_add (l : Launch) (dC : Nat → ClassId) (dI : Nat → Nat → Nat) (cI : ClassId) (sz : Nat) (a0 : Nat → Nat) (v0_1 : Int32) (v0_2 : Int32) (v0_3 : Int32) (v0_4 : Int32) (v0_5 : Int32) (v0_0 : Nat → Int32) (p1 : Int32) (u : (Int32 × (Nat → Int32))) (hF : F_X5_add v0_1 v0_0 p1 = some u) : Met l yX5_add wz_X5_add rm_X5_add (va_Pc [.ref (a0 0), .int p1] (q_pre dC dI cI (wd_X5_add cI a0 v0_1 v0_2 v0_3 v0_4 v0_5 v0_0) sz)) (Q_X5_add dC dI cI a0 v0_2 v0_3 v0_4 v0_5 u (va_A (wd_X5_add cI a0 v0_1 v0_2 v0_3 v0_4 v0_5 v0_0) sz)) 0 0 (va_A (wd_X5_add cI a0 v0_1 v0_2 v0_3 v0_4 v0_5 v0_0) sz) := by
  refine Met.ofW (cc := cX5_add) (maxL := 2) (ret := none) (by decide) rfl ?_
  intro p e s m args below meth c s₁ B hml hv
  obtain ⟨rfl, hsz, hP, hK, hD0⟩ := hv
  have hx := B.exec
  have hb := B.bytes
  have hr := B.returns
  have hts := atoms_spec (ws := wz_X5_add) B.pre
  have hta := wz_tl hts
  have hown : s.vm.findClass RX5 = some m.cls := findClass_of_methodNamed B.named
  have hlocks := B.notSynchronized
  subst hsz
  have hD := hD0.self (sz := s.heap.size)
  generalize hAe : va_A (wd_X5_add cI a0 v0_1 v0_2 v0_3 v0_4 v0_5 v0_0) s.heap.size = A at hD ⊢
  have hA : ∀ q : Nat, s.heap.size ≤ q → A q := fun q h => by rw [← hAe]; exact Or.inr h
  have hS : va_S A s.heap s.heap [] := va_S.rf
  have hP : va_P (dC, dI) vwCl (wd_X5_add cI a0 v0_1 v0_2 v0_3 v0_4 v0_5 v0_0) s.heap := hP
  have hl := lv_entry ([.ref (a0 0), .int p1]) (n := 2) (Nat.le_of_ble_eq_true rfl)
  rw [lg_entry_eq]
  generalize (lg_sl ([.ref (a0 0), .int p1]) ++ List.replicate (2 - (lg_sl ([.ref (a0 0), .int p1])).length) Slot.unset).toArray = ls at hl ⊢
  have hl : lv_has ls 2 [(0, .ref (a0 0)), (1, .int p1)] := hl
  obtain ⟨H, hHe⟩ : ∃ H, H = s.heap := ⟨_, rfl⟩
  have hS : va_S A s.heap H [] := by rw [hHe]; exact hS
  have hP : va_P (dC, dI) vwCl (wd_X5_add cI a0 v0_1 v0_2 v0_3 v0_4 v0_5 v0_0) H := by rw [hHe]; exact hP
  rw [← hHe]
  unfold F_X5_add at hF
  refine lv_aload_n hx hb dX5_add_0 rfl (lv_at hl 0 rfl) ?_
  refine va_get (D := (dC, dI)) (ci := 4) (v := .int v0_1) (C := RX5) (T := TX5) (N := 6) hx hb hta uw_X5 hown hK hP 0 rfl rfl 1 (by decide) (hta _ mA671) (fun _ h9 => h9) rfl dX5_add_1 ?_
  refine lv_if_lt (tgt := 37) hx hb dX5_add_4 (by decide) (fun c_1 => ?_) (fun c_1 => ?_)
  · have hF := it_t hF c_1
    obtain rfl := Option.some.inj hF
    exact W.vret hx hb hr (fun t ht hW => ⟨⟨(), rfl, trivial, by rw [ht]; exact hP, va_K.moved hW.alike hK, hD⟩, hS.F ht⟩) hS.2.2 dX5_add_37
  · have hF := it_f hF c_1
    refine lv_aload_n hx hb dX5_add_7 rfl (lv_at hl 0 rfl) ?_
    refine va_get (D := (dC, dI)) (ci := 4) (v := .int v0_1) (C := RX5) (T := TX5) (N := 6) hx hb hta uw_X5 hown hK hP 0 rfl rfl 1 (by decide) (hta _ mA671) (fun _ h9 => h9) rfl dX5_add_8 ?_
    refine lv_sipush (v := 150) hx hb dX5_add_11 (by decide) ?_
    refine lv_icmp_ge (tgt := 37) hx hb dX5_add_14 (by decide) (fun c_2 => ?_) (fun c_2 => ?_)
    · have hF := it_t hF c_2
      obtain rfl := Option.some.inj hF
      exact W.vret hx hb hr (fun t ht hW => ⟨⟨(), rfl, trivial, by rw [ht]; exact hP, va_K.moved hW.alike hK, hD⟩, hS.F ht⟩) hS.2.2 dX5_add_37
    · have hF := it_f hF c_2
      refine lv_aload_n hx hb dX5_add_17 rfl (lv_at hl 0 rfl) ?_
      refine va_get (D := (dC, dI)) (ci := 4) (v := .ref (a0 1)) (C := RX5) (T := TX5) (N := 6) hx hb hta uw_X5 hown hK hP 0 rfl rfl 0 (by decide) (hta _ mA42) (fun _ h9 => h9) rfl dX5_add_18 ?_
      refine lv_aload_n hx hb dX5_add_21 rfl (lv_at hl 0 rfl) ?_
      refine va_get (D := (dC, dI)) (ci := 4) (v := .int v0_1) (C := RX5) (T := TX5) (N := 6) hx hb hta uw_X5 hown hK hP 0 rfl rfl 1 (by decide) (hta _ mA671) (fun _ h9 => h9) rfl dX5_add_22 ?_
      refine lv_iload_n hx hb dX5_add_25 rfl (lv_at hl 1 rfl) ?_
      obtain ⟨g_3, hF⟩ := gd_some hF
      refine va_iast hx hb hK hP hD hS 1 0 rfl rfl (vpi_in g_3) dX5_add_26 (fun H locs hP hD hS => ?_)
      obtain ⟨y_4, ey_4, hF⟩ := lt_some hF
      have hP : va_P (dC, dI) vwCl (wd_X5_add cI a0 v0_1 v0_2 v0_3 v0_4 v0_5 y_4) H := by rw [ey_4]; exact hP
      have hD : va_D A (wd_X5_add cI a0 v0_1 v0_2 v0_3 v0_4 v0_5 y_4) := by rw [ey_4]; exact hD
      refine lv_aload_n hx hb dX5_add_27 rfl (lv_at hl 0 rfl) ?_
      refine lv_dup hx hb dX5_add_28 rfl ?_
      refine va_get (D := (dC, dI)) (ci := 4) (v := .int v0_1) (C := RX5) (T := TX5) (N := 6) hx hb hta uw_X5 hown hK hP 0 rfl rfl 1 (by decide) (hta _ mA671) (fun _ h9 => h9) rfl dX5_add_29 ?_
      refine lv_iconst (v := 1) hx hb dX5_add_32 (by decide) ?_
      refine lv_iadd hx hb dX5_add_33 ?_
      obtain ⟨y_5, ey_5, hF⟩ := lt_some hF
      refine lv_eqi ey_5 ?_
      refine va_put (D := (dC, dI)) (ci := 4) (v := .int y_5) (ty := .int) (C := RX5) (T := TX5) (N := 6) hx hb hta uw_X5 tyX5 tyX5_ok nmX5 hown hK hP hD hS 0 rfl rfl 1 (by decide) (hta _ mA671) (fun _ h9 => h9) rfl (by decide +kernel) rfl rfl (Nat.le_of_ble_eq_true rfl) dX5_add_34 (fun H locs hP hD hS => ?_)
      have hP : va_P (dC, dI) vwCl (wd_X5_add cI a0 y_5 v0_2 v0_3 v0_4 v0_5 y_4) H := hP
      have hD : va_D A (wd_X5_add cI a0 y_5 v0_2 v0_3 v0_4 v0_5 y_4) := hD
      obtain rfl := Option.some.inj hF
      exact W.vret hx hb hr (fun t ht hW => ⟨⟨(), rfl, trivial, by rw [ht]; exact hP, va_K.moved hW.alike hK, hD⟩, hS.F ht⟩) hS.2.2 dX5_add_37

-- StrokeOutliner$PathText.length()I
def F_X5_length (v0_1 : Int32) : (Int32) :=
  v0_1
abbrev wd_X5_length (cI : ClassId) (a0 : Nat → Nat) (v0_1 : Int32) (v0_2 : Int32) (v0_3 : Int32) (v0_4 : Int32) (v0_5 : Int32) : va_W := [(a0 0, .inr (4, [.ref (a0 1), .int v0_1, .int v0_2, .int v0_3, .int v0_4, .int v0_5]))]
abbrev wz_X5_length : List Cond := .code yX5_length cX5_length 1 (some .int) :: wALL
abbrev rm_X5_length : Room := { frames := 0, cells := 0, slots := 0, locals := 0 }
abbrev Q_X5_length (dC : Nat → ClassId) (dI : Nat → Nat → Nat) (cI : ClassId) (a0 : Nat → Nat) (v0_1 : Int32) (v0_2 : Int32) (v0_3 : Int32) (v0_4 : Int32) (v0_5 : Int32) (u : (Int32)) (A : Nat → Prop) : Array Value → State → Outcome → State → Prop := va_Qi (fun (r : Int32) (_ : Unit) => r = u) (fun _ => q_at dC dI cI A (wd_X5_length cI a0 v0_1 v0_2 v0_3 v0_4 v0_5)) A
set_option maxHeartbeats 4000000 in
set_option maxRecDepth 100000 in
theorem c_X5_length (l : Launch) (dC : Nat → ClassId) (dI : Nat → Nat → Nat) (cI : ClassId) (sz : Nat) (a0 : Nat → Nat) (v0_1 : Int32) (v0_2 : Int32) (v0_3 : Int32) (v0_4 : Int32) (v0_5 : Int32) (u : (Int32)) (hF : F_X5_length v0_1 = u) : Met l yX5_length wz_X5_length rm_X5_length (va_Pc [.ref (a0 0)] (q_pre dC dI cI (wd_X5_length cI a0 v0_1 v0_2 v0_3 v0_4 v0_5) sz)) (Q_X5_length dC dI cI a0 v0_1 v0_2 v0_3 v0_4 v0_5 u (va_A (wd_X5_length cI a0 v0_1 v0_2 v0_3 v0_4 v0_5) sz)) 0 0 (va_A (wd_X5_length cI a0 v0_1 v0_2 v0_3 v0_4 v0_5) sz) := by
  refine Met.ofW (cc := cX5_length) (maxL := 1) (ret := (some .int)) (by decide) rfl ?_
  intro p e s m args below meth c s₁ B hml hv
  obtain ⟨rfl, hsz, hP, hK, hD0⟩ := hv
  have hx := B.exec
  have hb := B.bytes
  have hr := B.returns
  have hts := atoms_spec (ws := wz_X5_length) B.pre
  have hta := wz_tl hts
  have hown : s.vm.findClass RX5 = some m.cls := findClass_of_methodNamed B.named
  have hlocks := B.notSynchronized
  subst hsz
  have hD := hD0.self (sz := s.heap.size)
  generalize hAe : va_A (wd_X5_length cI a0 v0_1 v0_2 v0_3 v0_4 v0_5) s.heap.size = A at hD ⊢
  have hA : ∀ q : Nat, s.heap.size ≤ q → A q := fun q h => by rw [← hAe]; exact Or.inr h
  have hS : va_S A s.heap s.heap [] := va_S.rf
  have hP : va_P (dC, dI) vwCl (wd_X5_length cI a0 v0_1 v0_2 v0_3 v0_4 v0_5) s.heap := hP
  have hl := lv_entry ([.ref (a0 0)]) (n := 1) (Nat.le_of_ble_eq_true rfl)
  rw [lg_entry_eq]
  generalize (lg_sl ([.ref (a0 0)]) ++ List.replicate (1 - (lg_sl ([.ref (a0 0)])).length) Slot.unset).toArray = ls at hl ⊢
  have hl : lv_has ls 1 [(0, .ref (a0 0))] := hl
  obtain ⟨H, hHe⟩ : ∃ H, H = s.heap := ⟨_, rfl⟩
  have hS : va_S A s.heap H [] := by rw [hHe]; exact hS
  have hP : va_P (dC, dI) vwCl (wd_X5_length cI a0 v0_1 v0_2 v0_3 v0_4 v0_5) H := by rw [hHe]; exact hP
  rw [← hHe]
  unfold F_X5_length at hF
  refine lv_aload_n hx hb dX5_length_0 rfl (lv_at hl 0 rfl) ?_
  refine va_get (D := (dC, dI)) (ci := 4) (v := .int v0_1) (C := RX5) (T := TX5) (N := 6) hx hb hta uw_X5 hown hK hP 0 rfl rfl 1 (by decide) (hta _ mA671) (fun _ h9 => h9) rfl dX5_length_1 ?_
  subst hF
  exact W.iret (v := v0_1) hx hb hr (fun t ht hW => ⟨⟨v0_1, (), rfl, rfl, by rw [ht]; exact hP, va_K.moved hW.alike hK, hD⟩, hS.F ht⟩) hS.2.2 dX5_length_4

-- StrokeOutliner$PathText.empty()V
def F_X5_empty  : (Int32) :=
  0
abbrev wd_X5_empty (cI : ClassId) (a0 : Nat → Nat) (v0_1 : Int32) (v0_2 : Int32) (v0_3 : Int32) (v0_4 : Int32) (v0_5 : Int32) : va_W := [(a0 0, .inr (4, [.ref (a0 1), .int v0_1, .int v0_2, .int v0_3, .int v0_4, .int v0_5]))]
abbrev wz_X5_empty : List Cond := .code yX5_empty cX5_empty 1 none :: wALL
abbrev rm_X5_empty : Room := { frames := 0, cells := 0, slots := 0, locals := 0 }
abbrev Q_X5_empty (dC : Nat → ClassId) (dI : Nat → Nat → Nat) (cI : ClassId) (a0 : Nat → Nat) (v0_2 : Int32) (v0_3 : Int32) (v0_4 : Int32) (v0_5 : Int32) (u : (Int32)) (A : Nat → Prop) : Array Value → State → Outcome → State → Prop := va_Qv (fun (_ : Unit) => True) (fun _ => q_at dC dI cI A (wd_X5_empty cI a0 u v0_2 v0_3 v0_4 v0_5)) A
set_option maxHeartbeats 4000000 in
set_option maxRecDepth 100000 in
theorem c_X5_empty (l : Launch) (dC : Nat → ClassId) (dI : Nat → Nat → Nat) (cI : ClassId) (sz : Nat) (a0 : Nat → Nat) (v0_1 : Int32) (v0_2 : Int32) (v0_3 : Int32) (v0_4 : Int32) (v0_5 : Int32) (u : (Int32)) (hF : F_X5_empty = u) : Met l yX5_empty wz_X5_empty rm_X5_empty (va_Pc [.ref (a0 0)] (q_pre dC dI cI (wd_X5_empty cI a0 v0_1 v0_2 v0_3 v0_4 v0_5) sz)) (Q_X5_empty dC dI cI a0 v0_2 v0_3 v0_4 v0_5 u (va_A (wd_X5_empty cI a0 v0_1 v0_2 v0_3 v0_4 v0_5) sz)) 0 0 (va_A (wd_X5_empty cI a0 v0_1 v0_2 v0_3 v0_4 v0_5) sz) := by
  refine Met.ofW (cc := cX5_empty) (maxL := 1) (ret := none) (by decide) rfl ?_
  intro p e s m args below meth c s₁ B hml hv
  obtain ⟨rfl, hsz, hP, hK, hD0⟩ := hv
  have hx := B.exec
  have hb := B.bytes
  have hr := B.returns
  have hts := atoms_spec (ws := wz_X5_empty) B.pre
  have hta := wz_tl hts
  have hown : s.vm.findClass RX5 = some m.cls := findClass_of_methodNamed B.named
  have hlocks := B.notSynchronized
  subst hsz
  have hD := hD0.self (sz := s.heap.size)
  generalize hAe : va_A (wd_X5_empty cI a0 v0_1 v0_2 v0_3 v0_4 v0_5) s.heap.size = A at hD ⊢
  have hA : ∀ q : Nat, s.heap.size ≤ q → A q := fun q h => by rw [← hAe]; exact Or.inr h
  have hS : va_S A s.heap s.heap [] := va_S.rf
  have hP : va_P (dC, dI) vwCl (wd_X5_empty cI a0 v0_1 v0_2 v0_3 v0_4 v0_5) s.heap := hP
  have hl := lv_entry ([.ref (a0 0)]) (n := 1) (Nat.le_of_ble_eq_true rfl)
  rw [lg_entry_eq]
  generalize (lg_sl ([.ref (a0 0)]) ++ List.replicate (1 - (lg_sl ([.ref (a0 0)])).length) Slot.unset).toArray = ls at hl ⊢
  have hl : lv_has ls 1 [(0, .ref (a0 0))] := hl
  obtain ⟨H, hHe⟩ : ∃ H, H = s.heap := ⟨_, rfl⟩
  have hS : va_S A s.heap H [] := by rw [hHe]; exact hS
  have hP : va_P (dC, dI) vwCl (wd_X5_empty cI a0 v0_1 v0_2 v0_3 v0_4 v0_5) H := by rw [hHe]; exact hP
  rw [← hHe]
  unfold F_X5_empty at hF
  refine lv_aload_n hx hb dX5_empty_0 rfl (lv_at hl 0 rfl) ?_
  refine lv_iconst (v := 0) hx hb dX5_empty_1 (by decide) ?_
  refine va_put (D := (dC, dI)) (ci := 4) (v := .int 0) (ty := .int) (C := RX5) (T := TX5) (N := 6) hx hb hta uw_X5 tyX5 tyX5_ok nmX5 hown hK hP hD hS 0 rfl rfl 1 (by decide) (hta _ mA671) (fun _ h9 => h9) rfl (by decide +kernel) rfl rfl (Nat.le_of_ble_eq_true rfl) dX5_empty_2 (fun H locs hP hD hS => ?_)
  have hP : va_P (dC, dI) vwCl (wd_X5_empty cI a0 0 v0_2 v0_3 v0_4 v0_5) H := hP
  have hD : va_D A (wd_X5_empty cI a0 0 v0_2 v0_3 v0_4 v0_5) := hD
  subst hF
  exact W.vret hx hb hr (fun t ht hW => ⟨⟨(), rfl, trivial, by rw [ht]; exact hP, va_K.moved hW.alike hK, hD⟩, hS.F ht⟩) hS.2.2 dX5_empty_5

-- StrokeOutliner$PathText.next()I
def F_X5_next_j32  : Option (Int32) :=
  some (-1)
def F_X5_next (v0_1 : Int32) (v0_2 : Int32) (v0_0 : Nat → Int32) : Option (Int32) :=
  if v0_2 < 0 then F_X5_next_j32 else if v0_1 ≤ v0_2 then F_X5_next_j32 else obd (F_X4_at 150 v0_0 v0_2) (fun u_3 => some u_3)
abbrev wd_X5_next (cI : ClassId) (a0 : Nat → Nat) (v0_1 : Int32) (v0_2 : Int32) (v0_3 : Int32) (v0_4 : Int32) (v0_5 : Int32) (v0_0 : Nat → Int32) : va_W := [(a0 0, .inr (4, [.ref (a0 1), .int v0_1, .int v0_2, .int v0_3, .int v0_4, .int v0_5])), (a0 1, .inl (cI, 150, .inl v0_0))]
abbrev wz_X5_next : List Cond := .code yX5_next cX5_next 1 (some .int) :: wALL
abbrev rm_X5_next : Room := { frames := 1, cells := 0, slots := 0, locals := 21 }
abbrev Q_X5_next (dC : Nat → ClassId) (dI : Nat → Nat → Nat) (cI : ClassId) (a0 : Nat → Nat) (v0_1 : Int32) (v0_2 : Int32) (v0_3 : Int32) (v0_4 : Int32) (v0_5 : Int32) (v0_0 : Nat → Int32) (u : (Int32)) (A : Nat → Prop) : Array Value → State → Outcome → State → Prop := va_Qi (fun (r : Int32) (_ : Unit) => r = u) (fun _ => q_at dC dI cI A (wd_X5_next cI a0 v0_1 v0_2 v0_3 v0_4 v0_5 v0_0)) A
set_option maxHeartbeats 4000000 in
set_option maxRecDepth 100000 in
theorem c_X5_next (l : Launch) (dC : Nat → ClassId) (dI : Nat → Nat → Nat) (cI : ClassId) (sz : Nat) (a0 : Nat → Nat) (v0_1 : Int32) (v0_2 : Int32) (v0_3 : Int32) (v0_4 : Int32) (v0_5 : Int32) (v0_0 : Nat → Int32) (u : (Int32)) (hF : F_X5_next v0_1 v0_2 v0_0 = some u) : Met l yX5_next wz_X5_next rm_X5_next (va_Pc [.ref (a0 0)] (q_pre dC dI cI (wd_X5_next cI a0 v0_1 v0_2 v0_3 v0_4 v0_5 v0_0) sz)) (Q_X5_next dC dI cI a0 v0_1 v0_2 v0_3 v0_4 v0_5 v0_0 u (va_A (wd_X5_next cI a0 v0_1 v0_2 v0_3 v0_4 v0_5 v0_0) sz)) 0 0 (va_A (wd_X5_next cI a0 v0_1 v0_2 v0_3 v0_4 v0_5 v0_0) sz) := by
  refine Met.ofW (cc := cX5_next) (maxL := 1) (ret := (some .int)) (by decide) rfl ?_
  intro p e s m args below meth c s₁ B hml hv
  obtain ⟨rfl, hsz, hP, hK, hD0⟩ := hv
  have hx := B.exec
  have hb := B.bytes
  have hr := B.returns
  have hts := atoms_spec (ws := wz_X5_next) B.pre
  have hta := wz_tl hts
  have hown : s.vm.findClass RX5 = some m.cls := findClass_of_methodNamed B.named
  have hlocks := B.notSynchronized
  subst hsz
  have hD := hD0.self (sz := s.heap.size)
  generalize hAe : va_A (wd_X5_next cI a0 v0_1 v0_2 v0_3 v0_4 v0_5 v0_0) s.heap.size = A at hD ⊢
  have hA : ∀ q : Nat, s.heap.size ≤ q → A q := fun q h => by rw [← hAe]; exact Or.inr h
  have hS : va_S A s.heap s.heap [] := va_S.rf
  have hP : va_P (dC, dI) vwCl (wd_X5_next cI a0 v0_1 v0_2 v0_3 v0_4 v0_5 v0_0) s.heap := hP
  have hl := lv_entry ([.ref (a0 0)]) (n := 1) (Nat.le_of_ble_eq_true rfl)
  rw [lg_entry_eq]
  generalize (lg_sl ([.ref (a0 0)]) ++ List.replicate (1 - (lg_sl ([.ref (a0 0)])).length) Slot.unset).toArray = ls at hl ⊢
  have hl : lv_has ls 1 [(0, .ref (a0 0))] := hl
  obtain ⟨H, hHe⟩ : ∃ H, H = s.heap := ⟨_, rfl⟩
  have hS : va_S A s.heap H [] := by rw [hHe]; exact hS
  have hP : va_P (dC, dI) vwCl (wd_X5_next cI a0 v0_1 v0_2 v0_3 v0_4 v0_5 v0_0) H := by rw [hHe]; exact hP
  rw [← hHe]
  unfold F_X5_next at hF
  have j32 : ∀ (_ : Unit), F_X5_next_j32 = some u → ∀ (H : Heap) (locs : List Loc) (ls : Array Slot), va_P (dC, dI) vwCl (wd_X5_next cI a0 v0_1 v0_2 v0_3 v0_4 v0_5 v0_0) H → va_D A (wd_X5_next cI a0 v0_1 v0_2 v0_3 v0_4 v0_5 v0_0) → va_S A s.heap H locs → lv_has ls 1 [] → W p l e (headSpec wz_X5_next rm_X5_next).room s m [.ref (a0 0)].toArray below meth c H locs 0 0 (MQ below (Q_X5_next dC dI cI a0 v0_1 v0_2 v0_3 v0_4 v0_5 v0_0 u A) [.ref (a0 0)].toArray s 0 0 A) (F0 m 32 ls []) := by
    intro _ hF H locs ls hP hD hS hl
    unfold F_X5_next_j32 at hF
    refine lv_iconst (v := (-1)) hx hb dX5_next_32 (by decide) ?_
    obtain rfl := Option.some.inj hF
    exact W.iret (v := (-1)) hx hb hr (fun t ht hW => ⟨⟨(-1), (), rfl, rfl, by rw [ht]; exact hP, va_K.moved hW.alike hK, hD⟩, hS.F ht⟩) hS.2.2 dX5_next_33
  refine lv_aload_n hx hb dX5_next_0 rfl (lv_at hl 0 rfl) ?_
  refine va_get (D := (dC, dI)) (ci := 4) (v := .int v0_2) (C := RX5) (T := TX5) (N := 6) hx hb hta uw_X5 hown hK hP 0 rfl rfl 2 (by decide) (hta _ mA690) (fun _ h9 => h9) rfl dX5_next_1 ?_
  refine lv_if_lt (tgt := 32) hx hb dX5_next_4 (by decide) (fun c_1 => ?_) (fun c_1 => ?_)
  · have hF := it_t hF c_1
    exact j32 () hF _ _ _ hP hD hS (lv_sub hl [] rfl)
  · have hF := it_f hF c_1
    refine lv_aload_n hx hb dX5_next_7 rfl (lv_at hl 0 rfl) ?_
    refine va_get (D := (dC, dI)) (ci := 4) (v := .int v0_2) (C := RX5) (T := TX5) (N := 6) hx hb hta uw_X5 hown hK hP 0 rfl rfl 2 (by decide) (hta _ mA690) (fun _ h9 => h9) rfl dX5_next_8 ?_
    refine lv_aload_n hx hb dX5_next_11 rfl (lv_at hl 0 rfl) ?_
    refine va_get (D := (dC, dI)) (ci := 4) (v := .int v0_1) (C := RX5) (T := TX5) (N := 6) hx hb hta uw_X5 hown hK hP 0 rfl rfl 1 (by decide) (hta _ mA671) (fun _ h9 => h9) rfl dX5_next_12 ?_
    refine lv_icmp_ge (tgt := 32) hx hb dX5_next_15 (by decide) (fun c_2 => ?_) (fun c_2 => ?_)
    · have hF := it_t hF c_2
      exact j32 () hF _ _ _ hP hD hS (lv_sub hl [] rfl)
    · have hF := it_f hF c_2
      refine lv_aload_n hx hb dX5_next_18 rfl (lv_at hl 0 rfl) ?_
      refine va_get (D := (dC, dI)) (ci := 4) (v := .ref (a0 1)) (C := RX5) (T := TX5) (N := 6) hx hb hta uw_X5 hown hK hP 0 rfl rfl 0 (by decide) (hta _ mA42) (fun _ h9 => h9) rfl dX5_next_19 ?_
      refine lv_aload_n hx hb dX5_next_22 rfl (lv_at hl 0 rfl) ?_
      refine va_get (D := (dC, dI)) (ci := 4) (v := .int v0_2) (C := RX5) (T := TX5) (N := 6) hx hb hta uw_X5 hown hK hP 0 rfl rfl 2 (by decide) (hta _ mA690) (fun _ h9 => h9) rfl dX5_next_23 ?_
      obtain ⟨u_3, hu_3, hF⟩ := obd_some hF
      have hPc := hP.sub (ws' := (wd_X4_at cI (a0 1) 150 v0_0)) [1] rfl
      have hDc := hD.sub (ws' := (wd_X4_at cI (a0 1) 150 v0_0)) [1] rfl rfl
      refine q_calli (wc := (wd_X4_at cI (a0 1) 150 v0_0)) (w1 := (wd_X4_at cI (a0 1) 150 v0_0)) (ws' := (wd_X5_next cI a0 v0_1 v0_2 v0_3 v0_4 v0_5 v0_0)) hP hD hS hA [1] [0] [0, 1] rfl rfl rfl (by decide) rfl rfl (va_runS (As := [.ref (a0 1), .int v0_2]) (rest := []) ⟨hx, hb, hml, hown, hta⟩ (c_X4_at l dC dI cI H.size (a0 1) 150 v0_0 v0_2 u_3 hu_3) (va_cwS 2 hta (ga_S mA710 mA237 mA221 mA238) rfl rfl rfl (by decide +kernel) ⟨Nat.le_of_ble_eq_true rfl, Nat.le_of_ble_eq_true rfl⟩) ⟨q_fb, q_ps hPc hK hDc⟩ rfl rfl hl.1 rfl (lv_room (Nat.le_of_ble_eq_true rfl)) dX5_next_26 ⟨Nat.zero_le _, Nat.zero_le _⟩) (fun H locs hP hD hS => ?_)
      refine lv_goto (tgt := 33) hx hb dX5_next_29 (by decide) ?_
      obtain rfl := Option.some.inj hF
      exact W.iret (v := u_3) hx hb hr (fun t ht hW => ⟨⟨u_3, (), rfl, rfl, by rw [ht]; exact hP, va_K.moved hW.alike hK, hD⟩, hS.F ht⟩) hS.2.2 dX5_next_33

-- StrokeOutliner$PathText.expect(I)V
def F_X5_expect (v0_1 : Int32) (v0_2 : Int32) (v0_3 : Int32) (v0_0 : Nat → Int32) (p1 : Int32) : Option (Int32 × Int32) :=
  if v0_3 = (-1) then obd (F_X5_next v0_1 v0_2 v0_0) (fun u_2 => if u_2 = p1 then lt (v0_2 + 1) (fun y_4 => some (y_4, v0_3)) else some (v0_2, v0_2)) else some (v0_2, v0_3)
abbrev wd_X5_expect (cI : ClassId) (a0 : Nat → Nat) (v0_1 : Int32) (v0_2 : Int32) (v0_3 : Int32) (v0_4 : Int32) (v0_5 : Int32) (v0_0 : Nat → Int32) : va_W := [(a0 0, .inr (4, [.ref (a0 1), .int v0_1, .int v0_2, .int v0_3, .int v0_4, .int v0_5])), (a0 1, .inl (cI, 150, .inl v0_0))]
abbrev wz_X5_expect : List Cond := .code yX5_expect cX5_expect 2 none :: wALL
abbrev rm_X5_expect : Room := { frames := 2, cells := 0, slots := 0, locals := 41 }
abbrev Q_X5_expect (dC : Nat → ClassId) (dI : Nat → Nat → Nat) (cI : ClassId) (a0 : Nat → Nat) (v0_1 : Int32) (v0_4 : Int32) (v0_5 : Int32) (v0_0 : Nat → Int32) (u : (Int32 × Int32)) (A : Nat → Prop) : Array Value → State → Outcome → State → Prop := va_Qv (fun (_ : Unit) => True) (fun _ => q_at dC dI cI A (wd_X5_expect cI a0 v0_1 u.1 u.2 v0_4 v0_5 v0_0)) A
set_option maxHeartbeats 4000000 in
set_option maxRecDepth 100000 in
theorem c_X5_expect (l : Launch) (dC : Nat → ClassId) (dI : Nat → Nat → Nat) (cI : ClassId) (sz : Nat) (a0 : Nat → Nat) (v0_1 : Int32) (v0_2 : Int32) (v0_3 : Int32) (v0_4 : Int32) (v0_5 : Int32) (v0_0 : Nat → Int32) (p1 : Int32) (u : (Int32 × Int32)) (hF : F_X5_expect v0_1 v0_2 v0_3 v0_0 p1 = some u) : Met l yX5_expect wz_X5_expect rm_X5_expect (va_Pc [.ref (a0 0), .int p1] (q_pre dC dI cI (wd_X5_expect cI a0 v0_1 v0_2 v0_3 v0_4 v0_5 v0_0) sz)) (Q_X5_expect dC dI cI a0 v0_1 v0_4 v0_5 v0_0 u (va_A (wd_X5_expect cI a0 v0_1 v0_2 v0_3 v0_4 v0_5 v0_0) sz)) 0 0 (va_A (wd_X5_expect cI a0 v0_1 v0_2 v0_3 v0_4 v0_5 v0_0) sz) := by
  refine Met.ofW (cc := cX5_expect) (maxL := 2) (ret := none) (by decide) rfl ?_
  intro p e s m args below meth c s₁ B hml hv
  obtain ⟨rfl, hsz, hP, hK, hD0⟩ := hv
  have hx := B.exec
  have hb := B.bytes
  have hr := B.returns
  have hts := atoms_spec (ws := wz_X5_expect) B.pre
  have hta := wz_tl hts
  have hown : s.vm.findClass RX5 = some m.cls := findClass_of_methodNamed B.named
  have hlocks := B.notSynchronized
  subst hsz
  have hD := hD0.self (sz := s.heap.size)
  generalize hAe : va_A (wd_X5_expect cI a0 v0_1 v0_2 v0_3 v0_4 v0_5 v0_0) s.heap.size = A at hD ⊢
  have hA : ∀ q : Nat, s.heap.size ≤ q → A q := fun q h => by rw [← hAe]; exact Or.inr h
  have hS : va_S A s.heap s.heap [] := va_S.rf
  have hP : va_P (dC, dI) vwCl (wd_X5_expect cI a0 v0_1 v0_2 v0_3 v0_4 v0_5 v0_0) s.heap := hP
  have hl := lv_entry ([.ref (a0 0), .int p1]) (n := 2) (Nat.le_of_ble_eq_true rfl)
  rw [lg_entry_eq]
  generalize (lg_sl ([.ref (a0 0), .int p1]) ++ List.replicate (2 - (lg_sl ([.ref (a0 0), .int p1])).length) Slot.unset).toArray = ls at hl ⊢
  have hl : lv_has ls 2 [(0, .ref (a0 0)), (1, .int p1)] := hl
  obtain ⟨H, hHe⟩ : ∃ H, H = s.heap := ⟨_, rfl⟩
  have hS : va_S A s.heap H [] := by rw [hHe]; exact hS
  have hP : va_P (dC, dI) vwCl (wd_X5_expect cI a0 v0_1 v0_2 v0_3 v0_4 v0_5 v0_0) H := by rw [hHe]; exact hP
  rw [← hHe]
  unfold F_X5_expect at hF
  refine lv_aload_n hx hb dX5_expect_0 rfl (lv_at hl 0 rfl) ?_
  refine va_get (D := (dC, dI)) (ci := 4) (v := .int v0_3) (C := RX5) (T := TX5) (N := 6) hx hb hta uw_X5 hown hK hP 0 rfl rfl 3 (by decide) (hta _ mA691) (fun _ h9 => h9) rfl dX5_expect_1 ?_
  refine lv_iconst (v := (-1)) hx hb dX5_expect_4 (by decide) ?_
  refine lv_icmp_eq (tgt := 9) hx hb dX5_expect_5 (by decide) (fun c_1 => ?_) (fun c_1 => ?_)
  · have hF := it_t hF c_1
    refine lv_aload_n hx hb dX5_expect_9 rfl (lv_at hl 0 rfl) ?_
    obtain ⟨u_2, hu_2, hF⟩ := obd_some hF
    have hPc := hP.sub (ws' := (wd_X5_next cI a0 v0_1 v0_2 v0_3 v0_4 v0_5 v0_0)) [0, 1] rfl
    have hDc := hD.sub (ws' := (wd_X5_next cI a0 v0_1 v0_2 v0_3 v0_4 v0_5 v0_0)) [0, 1] rfl rfl
    refine q_calli (wc := (wd_X5_next cI a0 v0_1 v0_2 v0_3 v0_4 v0_5 v0_0)) (w1 := (wd_X5_next cI a0 v0_1 v0_2 v0_3 v0_4 v0_5 v0_0)) (ws' := (wd_X5_expect cI a0 v0_1 v0_2 v0_3 v0_4 v0_5 v0_0)) hP hD hS hA [0, 1] [] [0, 1] rfl rfl rfl (by decide) rfl rfl (va_runV (As := []) (rest := []) ⟨hx, hb, hml, hown, hta⟩ (c_X5_next l dC dI cI H.size a0 v0_1 v0_2 v0_3 v0_4 v0_5 v0_0 u_2 hu_2) (cwV 0 hta (ga_V mA706 mA707 mA708 mA15 mA709) rfl rfl rfl (by decide +kernel) ⟨Nat.le_of_ble_eq_true rfl, Nat.le_of_ble_eq_true rfl⟩) ⟨q_fb, va_recv hK hP (ci := 4) (q0 := 0) rfl rfl, q_ps hPc hK hDc⟩ rfl rfl hl.1 rfl (lv_room (Nat.le_of_ble_eq_true rfl)) dX5_expect_10 ⟨Nat.zero_le _, Nat.zero_le _⟩) (fun H locs hP hD hS => ?_)
    refine lv_iload_n hx hb dX5_expect_13 rfl (lv_at hl 1 rfl) ?_
    refine lv_icmp_ne (tgt := 30) hx hb dX5_expect_14 (by decide) (fun c_3 => ?_) (fun c_3 => ?_)
    · have hF := it_f hF c_3
      refine lv_aload_n hx hb dX5_expect_30 rfl (lv_at hl 0 rfl) ?_
      refine lv_aload_n hx hb dX5_expect_31 rfl (lv_at hl 0 rfl) ?_
      refine va_get (D := (dC, dI)) (ci := 4) (v := .int v0_2) (C := RX5) (T := TX5) (N := 6) hx hb hta uw_X5 hown hK hP 0 rfl rfl 2 (by decide) (hta _ mA690) (fun _ h9 => h9) rfl dX5_expect_32 ?_
      refine va_put (D := (dC, dI)) (ci := 4) (v := .int v0_2) (ty := .int) (C := RX5) (T := TX5) (N := 6) hx hb hta uw_X5 tyX5 tyX5_ok nmX5 hown hK hP hD hS 0 rfl rfl 3 (by decide) (hta _ mA691) (fun _ h9 => h9) rfl (by decide +kernel) rfl rfl (Nat.le_of_ble_eq_true rfl) dX5_expect_35 (fun H locs hP hD hS => ?_)
      have hP : va_P (dC, dI) vwCl (wd_X5_expect cI a0 v0_1 v0_2 v0_2 v0_4 v0_5 v0_0) H := hP
      have hD : va_D A (wd_X5_expect cI a0 v0_1 v0_2 v0_2 v0_4 v0_5 v0_0) := hD
      obtain rfl := Option.some.inj hF
      exact W.vret hx hb hr (fun t ht hW => ⟨⟨(), rfl, trivial, by rw [ht]; exact hP, va_K.moved hW.alike hK, hD⟩, hS.F ht⟩) hS.2.2 dX5_expect_38
    · have hF := it_t hF c_3
      refine lv_aload_n hx hb dX5_expect_17 rfl (lv_at hl 0 rfl) ?_
      refine lv_dup hx hb dX5_expect_18 rfl ?_
      refine va_get (D := (dC, dI)) (ci := 4) (v := .int v0_2) (C := RX5) (T := TX5) (N := 6) hx hb hta uw_X5 hown hK hP 0 rfl rfl 2 (by decide) (hta _ mA690) (fun _ h9 => h9) rfl dX5_expect_19 ?_
      refine lv_iconst (v := 1) hx hb dX5_expect_22 (by decide) ?_
      refine lv_iadd hx hb dX5_expect_23 ?_
      obtain ⟨y_4, ey_4, hF⟩ := lt_some hF
      refine lv_eqi ey_4 ?_
      refine va_put (D := (dC, dI)) (ci := 4) (v := .int y_4) (ty := .int) (C := RX5) (T := TX5) (N := 6) hx hb hta uw_X5 tyX5 tyX5_ok nmX5 hown hK hP hD hS 0 rfl rfl 2 (by decide) (hta _ mA690) (fun _ h9 => h9) rfl (by decide +kernel) rfl rfl (Nat.le_of_ble_eq_true rfl) dX5_expect_24 (fun H locs hP hD hS => ?_)
      have hP : va_P (dC, dI) vwCl (wd_X5_expect cI a0 v0_1 y_4 v0_3 v0_4 v0_5 v0_0) H := hP
      have hD : va_D A (wd_X5_expect cI a0 v0_1 y_4 v0_3 v0_4 v0_5 v0_0) := hD
      refine lv_goto (tgt := 38) hx hb dX5_expect_27 (by decide) ?_
      obtain rfl := Option.some.inj hF
      exact W.vret hx hb hr (fun t ht hW => ⟨⟨(), rfl, trivial, by rw [ht]; exact hP, va_K.moved hW.alike hK, hD⟩, hS.F ht⟩) hS.2.2 dX5_expect_38
  · have hF := it_f hF c_1
    obtain rfl := Option.some.inj hF
    exact W.vret hx hb hr (fun t ht hW => ⟨⟨(), rfl, trivial, by rw [ht]; exact hP, va_K.moved hW.alike hK, hD⟩, hS.F ht⟩) hS.2.2 dX5_expect_8

-- StrokeOutliner$PathText.isDigit(I)Z
def F_X5_isDigit_j16  : (Int32) :=
  0
def F_X5_isDigit (p0 : Int32) : (Int32) :=
  if p0 < 48 then F_X5_isDigit_j16 else if 57 < p0 then F_X5_isDigit_j16 else 1
abbrev wz_X5_isDigit : List Cond := .code yX5_isDigit cX5_isDigit 1 (some .boolean) :: wALL
abbrev rm_X5_isDigit : Room := { frames := 0, cells := 0, slots := 0, locals := 0 }
abbrev Q_X5_isDigit (dC : Nat → ClassId) (dI : Nat → Nat → Nat) (cI : ClassId) (u : (Int32)) (A : Nat → Prop) : Array Value → State → Outcome → State → Prop := va_Qi (fun (r : Int32) (_ : Unit) => r = u ∧ (u = 0 ∨ u = 1)) (fun _ => q_at dC dI cI A ([] : va_W)) A
set_option maxHeartbeats 4000000 in
set_option maxRecDepth 100000 in
theorem c_X5_isDigit (l : Launch) (dC : Nat → ClassId) (dI : Nat → Nat → Nat) (cI : ClassId) (sz : Nat) (p0 : Int32) (u : (Int32)) (hF : F_X5_isDigit p0 = u) : Met l yX5_isDigit wz_X5_isDigit rm_X5_isDigit (va_Pc [.int p0] (q_pre dC dI cI ([] : va_W) sz)) (Q_X5_isDigit dC dI cI u (va_A ([] : va_W) sz)) 0 0 (va_A ([] : va_W) sz) := by
  refine Met.ofW (cc := cX5_isDigit) (maxL := 1) (ret := (some .boolean)) (by decide) rfl ?_
  intro p e s m args below meth c s₁ B hml hv
  obtain ⟨rfl, hsz, hP, hK, hD0⟩ := hv
  have hx := B.exec
  have hb := B.bytes
  have hr := B.returns
  have hts := atoms_spec (ws := wz_X5_isDigit) B.pre
  have hta := wz_tl hts
  have hown : s.vm.findClass RX5 = some m.cls := findClass_of_methodNamed B.named
  have hlocks := B.notSynchronized
  subst hsz
  have hD := hD0.self (sz := s.heap.size)
  generalize hAe : va_A ([] : va_W) s.heap.size = A at hD ⊢
  have hA : ∀ q : Nat, s.heap.size ≤ q → A q := fun q h => by rw [← hAe]; exact Or.inr h
  have hS : va_S A s.heap s.heap [] := va_S.rf
  have hP : va_P (dC, dI) vwCl ([] : va_W) s.heap := hP
  have hl := lv_entry ([.int p0]) (n := 1) (Nat.le_of_ble_eq_true rfl)
  rw [lg_entry_eq]
  generalize (lg_sl ([.int p0]) ++ List.replicate (1 - (lg_sl ([.int p0])).length) Slot.unset).toArray = ls at hl ⊢
  have hl : lv_has ls 1 [(0, .int p0)] := hl
  obtain ⟨H, hHe⟩ : ∃ H, H = s.heap := ⟨_, rfl⟩
  have hS : va_S A s.heap H [] := by rw [hHe]; exact hS
  have hP : va_P (dC, dI) vwCl ([] : va_W) H := by rw [hHe]; exact hP
  rw [← hHe]
  unfold F_X5_isDigit at hF
  have j16 : ∀ (_ : Unit), F_X5_isDigit_j16 = u → ∀ (H : Heap) (locs : List Loc) (ls : Array Slot), va_P (dC, dI) vwCl ([] : va_W) H → va_D A ([] : va_W) → va_S A s.heap H locs → lv_has ls 1 [] → W p l e (headSpec wz_X5_isDigit rm_X5_isDigit).room s m [.int p0].toArray below meth c H locs 0 0 (MQ below (Q_X5_isDigit dC dI cI u A) [.int p0].toArray s 0 0 A) (F0 m 16 ls []) := by
    intro _ hF H locs ls hP hD hS hl
    unfold F_X5_isDigit_j16 at hF
    refine lv_iconst (v := 0) hx hb dX5_isDigit_16 (by decide) ?_
    subst hF
    exact W.zret (v := 0) (ty := .boolean) hx hb hr (z_nar (Or.inl rfl)) (fun t ht hW => ⟨⟨0, (), rfl, ⟨rfl, (Or.inl rfl)⟩, by rw [ht]; exact hP, va_K.moved hW.alike hK, hD⟩, hS.F ht⟩) hS.2.2 dX5_isDigit_17
  refine lv_iload_n hx hb dX5_isDigit_0 rfl (lv_at hl 0 rfl) ?_
  refine lv_bipush (v := 48) hx hb dX5_isDigit_1 (by decide) ?_
  refine lv_icmp_lt (tgt := 16) hx hb dX5_isDigit_3 (by decide) (fun c_1 => ?_) (fun c_1 => ?_)
  · have hF := it_t hF c_1
    exact j16 () hF _ _ _ hP hD hS (lv_sub hl [] rfl)
  · have hF := it_f hF c_1
    refine lv_iload_n hx hb dX5_isDigit_6 rfl (lv_at hl 0 rfl) ?_
    refine lv_bipush (v := 57) hx hb dX5_isDigit_7 (by decide) ?_
    refine lv_icmp_gt (tgt := 16) hx hb dX5_isDigit_9 (by decide) (fun c_2 => ?_) (fun c_2 => ?_)
    · have hF := it_t hF c_2
      exact j16 () hF _ _ _ hP hD hS (lv_sub hl [] rfl)
    · have hF := it_f hF c_2
      refine lv_iconst (v := 1) hx hb dX5_isDigit_12 (by decide) ?_
      refine lv_goto (tgt := 17) hx hb dX5_isDigit_13 (by decide) ?_
      subst hF
      exact W.zret (v := 1) (ty := .boolean) hx hb hr (z_nar (Or.inr rfl)) (fun t ht hW => ⟨⟨1, (), rfl, ⟨rfl, (Or.inr rfl)⟩, by rw [ht]; exact hP, va_K.moved hW.alike hK, hD⟩, hS.F ht⟩) hS.2.2 dX5_isDigit_17

-- StrokeOutliner$PathText.readNumber()I
def F_X5_readNumber_j131 (v0_2 : Int32) (v0_3 : Int32) (x2 : Int32) (x3 : Int32) : Option (Int32 × Int32 × Int32) :=
  if x2 = 0 then some (x3, v0_2, v0_3) else some ((-x3), v0_2, v0_3)
def F_X5_readNumber_j109 (v0_2 : Int32) (x2 : Int32) (x3 : Int32) : Option (Int32 × Int32 × Int32) :=
  F_X5_readNumber_j131 v0_2 v0_2 x2 x3
def F_X5_readNumber_j94 (v0_1 : Int32) (v0_2 : Int32) (v0_3 : Int32) (v0_0 : Nat → Int32) (x1 : Int32) (x2 : Int32) (x3 : Int32) (x4 : Int32) : Option (Int32 × Int32 × Int32) :=
  if x4 = 0 then F_X5_readNumber_j109 v0_2 x2 x3 else obd (F_X5_next v0_1 v0_2 v0_0) (fun u_3 => lt (F_X5_isDigit u_3) (fun u_4 => if u_4 = 0 then if x3 ≤ 100 then F_X5_readNumber_j131 v0_2 v0_3 x2 x3 else F_X5_readNumber_j131 v0_2 x1 x2 x3 else F_X5_readNumber_j109 v0_2 x2 x3))
def F_X5_readNumber_b49 (v0_1 : Int32) (v0_0 : Nat → Int32) (s49 : Int32 × Int32 × Int32) : Option (Sum (Int32 × Int32 × Int32) (Int32 × Int32 × Int32)) :=
  if 3 ≤ s49.2.1 then some (.inr (s49.1, s49.2.1, s49.2.2)) else obd (F_X5_next v0_1 s49.2.2 v0_0) (fun u_8 => lt (F_X5_isDigit u_8) (fun u_9 => if u_9 = 0 then some (.inr (s49.1, s49.2.1, s49.2.2)) else obd (F_X5_next v0_1 s49.2.2 v0_0) (fun u_11 => lt (((10 * s49.1) + u_11) - 48) (fun y_12 => lt (s49.2.2 + 1) (fun y_13 => lt (s49.2.1 + 1) (fun y_14 => some (.inl (y_12, y_14, y_13))))))))
def F_X5_readNumber_j49 (n : Nat) (v0_1 : Int32) (v0_2 : Int32) (v0_3 : Int32) (v0_0 : Nat → Int32) (x1 : Int32) (x2 : Int32) (x3 : Int32) (x4 : Int32) : Option (Int32 × Int32 × Int32) :=
  obd (lpq (F_X5_readNumber_b49 v0_1 v0_0) n (x3, x4, v0_2)) (fun x_49 => F_X5_readNumber_j94 v0_1 x_49.2.2 v0_3 v0_0 x1 x2 x_49.1 x_49.2.1)
def F_X5_readNumber_j44 (n : Nat) (v0_1 : Int32) (v0_2 : Int32) (v0_3 : Int32) (v0_0 : Nat → Int32) (x1 : Int32) (x2 : Int32) : Option (Int32 × Int32 × Int32) :=
  F_X5_readNumber_j49 n v0_1 v0_2 v0_3 v0_0 x1 x2 0 0
def F_X5_readNumber_j29 (n : Nat) (v0_1 : Int32) (v0_2 : Int32) (v0_3 : Int32) (v0_0 : Nat → Int32) (x1 : Int32) (t0 : Int32) : Option (Int32 × Int32 × Int32) :=
  if t0 = 0 then F_X5_readNumber_j44 n v0_1 v0_2 v0_3 v0_0 x1 t0 else lt (v0_2 + 1) (fun y_16 => F_X5_readNumber_j44 n v0_1 y_16 v0_3 v0_0 x1 t0)
def F_X5_readNumber (n : Nat) (v0_1 : Int32) (v0_2 : Int32) (v0_3 : Int32) (v0_0 : Nat → Int32) : Option (Int32 × Int32 × Int32) :=
  if v0_3 = (-1) then obd (F_X5_next v0_1 v0_2 v0_0) (fun u_18 => if u_18 = 45 then F_X5_readNumber_j29 n v0_1 v0_2 v0_3 v0_0 v0_2 1 else F_X5_readNumber_j29 n v0_1 v0_2 v0_3 v0_0 v0_2 0) else some (0, v0_2, v0_3)
abbrev wd_X5_readNumber (cI : ClassId) (a0 : Nat → Nat) (v0_1 : Int32) (v0_2 : Int32) (v0_3 : Int32) (v0_4 : Int32) (v0_5 : Int32) (v0_0 : Nat → Int32) : va_W := [(a0 0, .inr (4, [.ref (a0 1), .int v0_1, .int v0_2, .int v0_3, .int v0_4, .int v0_5])), (a0 1, .inl (cI, 150, .inl v0_0))]
abbrev wz_X5_readNumber : List Cond := .code yX5_readNumber cX5_readNumber 5 (some .int) :: wALL
abbrev rm_X5_readNumber : Room := { frames := 2, cells := 0, slots := 0, locals := 41 }
abbrev Q_X5_readNumber (dC : Nat → ClassId) (dI : Nat → Nat → Nat) (cI : ClassId) (a0 : Nat → Nat) (v0_1 : Int32) (v0_4 : Int32) (v0_5 : Int32) (v0_0 : Nat → Int32) (u : (Int32 × Int32 × Int32)) (A : Nat → Prop) : Array Value → State → Outcome → State → Prop := va_Qi (fun (r : Int32) (_ : Unit) => r = u.1) (fun _ => q_at dC dI cI A (wd_X5_readNumber cI a0 v0_1 u.2.1 u.2.2 v0_4 v0_5 v0_0)) A
set_option maxHeartbeats 4000000 in
set_option maxRecDepth 100000 in
theorem c_X5_readNumber (l : Launch) (dC : Nat → ClassId) (dI : Nat → Nat → Nat) (cI : ClassId) (sz : Nat) (a0 : Nat → Nat) (v0_1 : Int32) (v0_2 : Int32) (v0_3 : Int32) (v0_4 : Int32) (v0_5 : Int32) (v0_0 : Nat → Int32) (n : Nat) (u : (Int32 × Int32 × Int32)) (hF : F_X5_readNumber n v0_1 v0_2 v0_3 v0_0 = some u) : Met l yX5_readNumber wz_X5_readNumber rm_X5_readNumber (va_Pc [.ref (a0 0)] (q_pre dC dI cI (wd_X5_readNumber cI a0 v0_1 v0_2 v0_3 v0_4 v0_5 v0_0) sz)) (Q_X5_readNumber dC dI cI a0 v0_1 v0_4 v0_5 v0_0 u (va_A (wd_X5_readNumber cI a0 v0_1 v0_2 v0_3 v0_4 v0_5 v0_0) sz)) 0 0 (va_A (wd_X5_readNumber cI a0 v0_1 v0_2 v0_3 v0_4 v0_5 v0_0) sz) := by
  refine Met.ofW (cc := cX5_readNumber) (maxL := 5) (ret := (some .int)) (by decide) rfl ?_
  intro p e s m args below meth c s₁ B hml hv
  obtain ⟨rfl, hsz, hP, hK, hD0⟩ := hv
  have hx := B.exec
  have hb := B.bytes
  have hr := B.returns
  have hts := atoms_spec (ws := wz_X5_readNumber) B.pre
  have hta := wz_tl hts
  have hown : s.vm.findClass RX5 = some m.cls := findClass_of_methodNamed B.named
  have hlocks := B.notSynchronized
  subst hsz
  have hD := hD0.self (sz := s.heap.size)
  generalize hAe : va_A (wd_X5_readNumber cI a0 v0_1 v0_2 v0_3 v0_4 v0_5 v0_0) s.heap.size = A at hD ⊢
  have hA : ∀ q : Nat, s.heap.size ≤ q → A q := fun q h => by rw [← hAe]; exact Or.inr h
  have hS : va_S A s.heap s.heap [] := va_S.rf
  have hP : va_P (dC, dI) vwCl (wd_X5_readNumber cI a0 v0_1 v0_2 v0_3 v0_4 v0_5 v0_0) s.heap := hP
  have hl := lv_entry ([.ref (a0 0)]) (n := 5) (Nat.le_of_ble_eq_true rfl)
  rw [lg_entry_eq]
  generalize (lg_sl ([.ref (a0 0)]) ++ List.replicate (5 - (lg_sl ([.ref (a0 0)])).length) Slot.unset).toArray = ls at hl ⊢
  have hl : lv_has ls 5 [(0, .ref (a0 0))] := hl
  obtain ⟨H, hHe⟩ : ∃ H, H = s.heap := ⟨_, rfl⟩
  have hS : va_S A s.heap H [] := by rw [hHe]; exact hS
  have hP : va_P (dC, dI) vwCl (wd_X5_readNumber cI a0 v0_1 v0_2 v0_3 v0_4 v0_5 v0_0) H := by rw [hHe]; exact hP
  rw [← hHe]
  unfold F_X5_readNumber at hF
  have j131 : ∀ (v0_2 : Int32) (v0_3 : Int32) (x2 : Int32) (x3 : Int32), F_X5_readNumber_j131 v0_2 v0_3 x2 x3 = some u → ∀ (H : Heap) (locs : List Loc) (ls : Array Slot), va_P (dC, dI) vwCl (wd_X5_readNumber cI a0 v0_1 v0_2 v0_3 v0_4 v0_5 v0_0) H → va_D A (wd_X5_readNumber cI a0 v0_1 v0_2 v0_3 v0_4 v0_5 v0_0) → va_S A s.heap H locs → lv_has ls 5 [(2, .int x2), (3, .int x3)] → W p l e (headSpec wz_X5_readNumber rm_X5_readNumber).room s m [.ref (a0 0)].toArray below meth c H locs 0 0 (MQ below (Q_X5_readNumber dC dI cI a0 v0_1 v0_4 v0_5 v0_0 u A) [.ref (a0 0)].toArray s 0 0 A) (F0 m 131 ls []) := by
    intro v0_2 v0_3 x2 x3 hF H locs ls hP hD hS hl
    unfold F_X5_readNumber_j131 at hF
    refine lv_iload_n hx hb dX5_readNumber_131 rfl (lv_at hl 0 rfl) ?_
    refine lv_if_eq (tgt := 140) hx hb dX5_readNumber_132 (by decide) (fun c_1 => ?_) (fun c_1 => ?_)
    · have hF := it_t hF c_1
      refine lv_iload_n hx hb dX5_readNumber_140 rfl (lv_at hl 1 rfl) ?_
      obtain rfl := Option.some.inj hF
      exact W.iret (v := x3) hx hb hr (fun t ht hW => ⟨⟨x3, (), rfl, rfl, by rw [ht]; exact hP, va_K.moved hW.alike hK, hD⟩, hS.F ht⟩) hS.2.2 dX5_readNumber_141
    · have hF := it_f hF c_1
      refine lv_iload_n hx hb dX5_readNumber_135 rfl (lv_at hl 1 rfl) ?_
      refine lv_ineg hx hb dX5_readNumber_136 ?_
      refine lv_goto (tgt := 141) hx hb dX5_readNumber_137 (by decide) ?_
      obtain rfl := Option.some.inj hF
      exact W.iret (v := (-x3)) hx hb hr (fun t ht hW => ⟨⟨(-x3), (), rfl, rfl, by rw [ht]; exact hP, va_K.moved hW.alike hK, hD⟩, hS.F ht⟩) hS.2.2 dX5_readNumber_141
  have j109 : ∀ (v0_2 : Int32) (v0_3 : Int32) (x2 : Int32) (x3 : Int32), F_X5_readNumber_j109 v0_2 x2 x3 = some u → ∀ (H : Heap) (locs : List Loc) (ls : Array Slot), va_P (dC, dI) vwCl (wd_X5_readNumber cI a0 v0_1 v0_2 v0_3 v0_4 v0_5 v0_0) H → va_D A (wd_X5_readNumber cI a0 v0_1 v0_2 v0_3 v0_4 v0_5 v0_0) → va_S A s.heap H locs → lv_has ls 5 [(0, .ref (a0 0)), (2, .int x2), (3, .int x3)] → W p l e (headSpec wz_X5_readNumber rm_X5_readNumber).room s m [.ref (a0 0)].toArray below meth c H locs 0 0 (MQ below (Q_X5_readNumber dC dI cI a0 v0_1 v0_4 v0_5 v0_0 u A) [.ref (a0 0)].toArray s 0 0 A) (F0 m 109 ls []) := by
    intro v0_2 v0_3 x2 x3 hF H locs ls hP hD hS hl
    unfold F_X5_readNumber_j109 at hF
    refine lv_aload_n hx hb dX5_readNumber_109 rfl (lv_at hl 0 rfl) ?_
    refine lv_aload_n hx hb dX5_readNumber_110 rfl (lv_at hl 0 rfl) ?_
    refine va_get (D := (dC, dI)) (ci := 4) (v := .int v0_2) (C := RX5) (T := TX5) (N := 6) hx hb hta uw_X5 hown hK hP 0 rfl rfl 2 (by decide) (hta _ mA690) (fun _ h9 => h9) rfl dX5_readNumber_111 ?_
    refine va_put (D := (dC, dI)) (ci := 4) (v := .int v0_2) (ty := .int) (C := RX5) (T := TX5) (N := 6) hx hb hta uw_X5 tyX5 tyX5_ok nmX5 hown hK hP hD hS 0 rfl rfl 3 (by decide) (hta _ mA691) (fun _ h9 => h9) rfl (by decide +kernel) rfl rfl (Nat.le_of_ble_eq_true rfl) dX5_readNumber_114 (fun H locs hP hD hS => ?_)
    have hP : va_P (dC, dI) vwCl (wd_X5_readNumber cI a0 v0_1 v0_2 v0_2 v0_4 v0_5 v0_0) H := hP
    have hD : va_D A (wd_X5_readNumber cI a0 v0_1 v0_2 v0_2 v0_4 v0_5 v0_0) := hD
    refine lv_goto (tgt := 131) hx hb dX5_readNumber_117 (by decide) ?_
    exact j131 v0_2 v0_2 x2 x3 hF _ _ _ hP hD hS (lv_sub hl [1, 2] rfl)
  have j94 : ∀ (v0_2 : Int32) (v0_3 : Int32) (x1 : Int32) (x2 : Int32) (x3 : Int32) (x4 : Int32), F_X5_readNumber_j94 v0_1 v0_2 v0_3 v0_0 x1 x2 x3 x4 = some u → ∀ (H : Heap) (locs : List Loc) (ls : Array Slot), va_P (dC, dI) vwCl (wd_X5_readNumber cI a0 v0_1 v0_2 v0_3 v0_4 v0_5 v0_0) H → va_D A (wd_X5_readNumber cI a0 v0_1 v0_2 v0_3 v0_4 v0_5 v0_0) → va_S A s.heap H locs → lv_has ls 5 [(0, .ref (a0 0)), (1, .int x1), (2, .int x2), (3, .int x3), (4, .int x4)] → W p l e (headSpec wz_X5_readNumber rm_X5_readNumber).room s m [.ref (a0 0)].toArray below meth c H locs 0 0 (MQ below (Q_X5_readNumber dC dI cI a0 v0_1 v0_4 v0_5 v0_0 u A) [.ref (a0 0)].toArray s 0 0 A) (F0 m 94 ls []) := by
    intro v0_2 v0_3 x1 x2 x3 x4 hF H locs ls hP hD hS hl
    unfold F_X5_readNumber_j94 at hF
    refine lv_iload hx hb dX5_readNumber_94 (lv_at hl 4 rfl) ?_
    refine lv_if_eq (tgt := 109) hx hb dX5_readNumber_96 (by decide) (fun c_2 => ?_) (fun c_2 => ?_)
    · have hF := it_t hF c_2
      exact j109 v0_2 v0_3 x2 x3 hF _ _ _ hP hD hS (lv_sub hl [0, 2, 3] rfl)
    · have hF := it_f hF c_2
      refine lv_aload_n hx hb dX5_readNumber_99 rfl (lv_at hl 0 rfl) ?_
      obtain ⟨u_3, hu_3, hF⟩ := obd_some hF
      have hPc := hP.sub (ws' := (wd_X5_next cI a0 v0_1 v0_2 v0_3 v0_4 v0_5 v0_0)) [0, 1] rfl
      have hDc := hD.sub (ws' := (wd_X5_next cI a0 v0_1 v0_2 v0_3 v0_4 v0_5 v0_0)) [0, 1] rfl rfl
      refine q_calli (wc := (wd_X5_next cI a0 v0_1 v0_2 v0_3 v0_4 v0_5 v0_0)) (w1 := (wd_X5_next cI a0 v0_1 v0_2 v0_3 v0_4 v0_5 v0_0)) (ws' := (wd_X5_readNumber cI a0 v0_1 v0_2 v0_3 v0_4 v0_5 v0_0)) hP hD hS hA [0, 1] [] [0, 1] rfl rfl rfl (by decide) rfl rfl (va_runV (As := []) (rest := []) ⟨hx, hb, hml, hown, hta⟩ (c_X5_next l dC dI cI H.size a0 v0_1 v0_2 v0_3 v0_4 v0_5 v0_0 u_3 hu_3) (cwV 0 hta (ga_V mA706 mA707 mA708 mA15 mA709) rfl rfl rfl (by decide +kernel) ⟨Nat.le_of_ble_eq_true rfl, Nat.le_of_ble_eq_true rfl⟩) ⟨q_fb, va_recv hK hP (ci := 4) (q0 := 0) rfl rfl, q_ps hPc hK hDc⟩ rfl rfl hl.1 rfl (lv_room (Nat.le_of_ble_eq_true rfl)) dX5_readNumber_100 ⟨Nat.zero_le _, Nat.zero_le _⟩) (fun H locs hP hD hS => ?_)
      obtain ⟨u_4, hu_4, hF⟩ := lt_some hF
      have hPc := hP.sub (ws' := ([] : va_W)) [] rfl
      have hDc := hD.sub (ws' := ([] : va_W)) [] rfl rfl
      refine q_callz (wc := ([] : va_W)) (w1 := ([] : va_W)) (ws' := (wd_X5_readNumber cI a0 v0_1 v0_2 v0_3 v0_4 v0_5 v0_0)) hP hD hS hA [] [0, 1] [0, 1] rfl rfl rfl (by decide) rfl rfl (va_runS (As := [.int u_3]) (rest := []) ⟨hx, hb, hml, hown, hta⟩ (c_X5_isDigit l dC dI cI H.size u_3 u_4 hu_4.symm) (va_cwS 1 hta (ga_S mA719 mA720 mA15 mA721) rfl rfl rfl (by decide +kernel) ⟨Nat.le_of_ble_eq_true rfl, Nat.le_of_ble_eq_true rfl⟩) ⟨q_fb, q_ps hPc hK hDc⟩ rfl rfl hl.1 rfl (lv_room (Nat.le_of_ble_eq_true rfl)) dX5_readNumber_103 ⟨Nat.zero_le _, Nat.zero_le _⟩) (fun hzu_4 H locs hP hD hS => ?_)
      refine lv_if_eq (tgt := 120) hx hb dX5_readNumber_106 (by decide) (fun c_5 => ?_) (fun c_5 => ?_)
      · have hF := it_t hF c_5
        refine lv_iload_n hx hb dX5_readNumber_120 rfl (lv_at hl 3 rfl) ?_
        refine lv_bipush (v := 100) hx hb dX5_readNumber_121 (by decide) ?_
        refine lv_icmp_le (tgt := 131) hx hb dX5_readNumber_123 (by decide) (fun c_6 => ?_) (fun c_6 => ?_)
        · have hF := it_t hF c_6
          exact j131 v0_2 v0_3 x2 x3 hF _ _ _ hP hD hS (lv_sub hl [2, 3] rfl)
        · have hF := it_f hF c_6
          refine lv_aload_n hx hb dX5_readNumber_126 rfl (lv_at hl 0 rfl) ?_
          refine lv_iload_n hx hb dX5_readNumber_127 rfl (lv_at hl 1 rfl) ?_
          refine va_put (D := (dC, dI)) (ci := 4) (v := .int x1) (ty := .int) (C := RX5) (T := TX5) (N := 6) hx hb hta uw_X5 tyX5 tyX5_ok nmX5 hown hK hP hD hS 0 rfl rfl 3 (by decide) (hta _ mA691) (fun _ h9 => h9) rfl (by decide +kernel) rfl rfl (Nat.le_of_ble_eq_true rfl) dX5_readNumber_128 (fun H locs hP hD hS => ?_)
          have hP : va_P (dC, dI) vwCl (wd_X5_readNumber cI a0 v0_1 v0_2 x1 v0_4 v0_5 v0_0) H := hP
          have hD : va_D A (wd_X5_readNumber cI a0 v0_1 v0_2 x1 v0_4 v0_5 v0_0) := hD
          exact j131 v0_2 x1 x2 x3 hF _ _ _ hP hD hS (lv_sub hl [2, 3] rfl)
      · have hF := it_f hF c_5
        exact j109 v0_2 v0_3 x2 x3 hF _ _ _ hP hD hS (lv_sub hl [0, 2, 3] rfl)
  have j49 : ∀ (v0_2 : Int32) (v0_3 : Int32) (x1 : Int32) (x2 : Int32) (x3 : Int32) (x4 : Int32), F_X5_readNumber_j49 n v0_1 v0_2 v0_3 v0_0 x1 x2 x3 x4 = some u → ∀ (H : Heap) (locs : List Loc) (ls : Array Slot), va_P (dC, dI) vwCl (wd_X5_readNumber cI a0 v0_1 v0_2 v0_3 v0_4 v0_5 v0_0) H → va_D A (wd_X5_readNumber cI a0 v0_1 v0_2 v0_3 v0_4 v0_5 v0_0) → va_S A s.heap H locs → lv_has ls 5 [(0, .ref (a0 0)), (1, .int x1), (2, .int x2), (3, .int x3), (4, .int x4)] → W p l e (headSpec wz_X5_readNumber rm_X5_readNumber).room s m [.ref (a0 0)].toArray below meth c H locs 0 0 (MQ below (Q_X5_readNumber dC dI cI a0 v0_1 v0_4 v0_5 v0_0 u A) [.ref (a0 0)].toArray s 0 0 A) (F0 m 49 ls []) := by
    intro v0_2 v0_3 x1 x2 x3 x4 hF H locs ls hP hD hS hl
    unfold F_X5_readNumber_j49 at hF
    obtain ⟨x_49, hL_49, hE_49⟩ := obd_some hF
    have kl_49 : ∀ (k : Nat) (s49 : Int32 × Int32 × Int32), lpq (F_X5_readNumber_b49 v0_1 v0_0) k s49 = some x_49 → ∀ (H : Heap) (locs : List Loc) (ls : Array Slot), va_P (dC, dI) vwCl (wd_X5_readNumber cI a0 v0_1 s49.2.2 v0_3 v0_4 v0_5 v0_0) H → va_D A (wd_X5_readNumber cI a0 v0_1 s49.2.2 v0_3 v0_4 v0_5 v0_0) → va_S A s.heap H locs → lv_has ls 5 [(0, .ref (a0 0)), (1, .int x1), (2, .int x2), (3, .int s49.1), (4, .int s49.2.1)] → W p l e (headSpec wz_X5_readNumber rm_X5_readNumber).room s m [.ref (a0 0)].toArray below meth c H locs 0 0 (MQ below (Q_X5_readNumber dC dI cI a0 v0_1 v0_4 v0_5 v0_0 u A) [.ref (a0 0)].toArray s 0 0 A) (F0 m 49 ls []) := by
      intro k
      induction k with
      | zero => intro s49 h; exact absurd h lpq_zero
      | succ k ih_49 =>
        intro s49 h H locs ls hP hD hS hl
        obtain ⟨o_49, hF, hO_49⟩ := lpq_succ h
        unfold F_X5_readNumber_b49 at hF
        refine lv_iload hx hb dX5_readNumber_49 (lv_at hl 4 rfl) ?_
        refine lv_iconst (v := 3) hx hb dX5_readNumber_51 (by decide) ?_
        refine lv_icmp_ge (tgt := 94) hx hb dX5_readNumber_52 (by decide) (fun c_7 => ?_) (fun c_7 => ?_)
        · have hF := it_t hF c_7
          obtain rfl := Option.some.inj hF
          obtain rfl := lpq_x hO_49
          have hF := hE_49
          exact j94 s49.2.2 v0_3 x1 x2 s49.1 s49.2.1 hF _ _ _ hP hD hS (lv_sub hl [0, 1, 2, 3, 4] rfl)
        · have hF := it_f hF c_7
          refine lv_aload_n hx hb dX5_readNumber_55 rfl (lv_at hl 0 rfl) ?_
          obtain ⟨u_8, hu_8, hF⟩ := obd_some hF
          have hPc := hP.sub (ws' := (wd_X5_next cI a0 v0_1 s49.2.2 v0_3 v0_4 v0_5 v0_0)) [0, 1] rfl
          have hDc := hD.sub (ws' := (wd_X5_next cI a0 v0_1 s49.2.2 v0_3 v0_4 v0_5 v0_0)) [0, 1] rfl rfl
          refine q_calli (wc := (wd_X5_next cI a0 v0_1 s49.2.2 v0_3 v0_4 v0_5 v0_0)) (w1 := (wd_X5_next cI a0 v0_1 s49.2.2 v0_3 v0_4 v0_5 v0_0)) (ws' := (wd_X5_readNumber cI a0 v0_1 s49.2.2 v0_3 v0_4 v0_5 v0_0)) hP hD hS hA [0, 1] [] [0, 1] rfl rfl rfl (by decide) rfl rfl (va_runV (As := []) (rest := []) ⟨hx, hb, hml, hown, hta⟩ (c_X5_next l dC dI cI H.size a0 v0_1 s49.2.2 v0_3 v0_4 v0_5 v0_0 u_8 hu_8) (cwV 0 hta (ga_V mA706 mA707 mA708 mA15 mA709) rfl rfl rfl (by decide +kernel) ⟨Nat.le_of_ble_eq_true rfl, Nat.le_of_ble_eq_true rfl⟩) ⟨q_fb, va_recv hK hP (ci := 4) (q0 := 0) rfl rfl, q_ps hPc hK hDc⟩ rfl rfl hl.1 rfl (lv_room (Nat.le_of_ble_eq_true rfl)) dX5_readNumber_56 ⟨Nat.zero_le _, Nat.zero_le _⟩) (fun H locs hP hD hS => ?_)
          obtain ⟨u_9, hu_9, hF⟩ := lt_some hF
          have hPc := hP.sub (ws' := ([] : va_W)) [] rfl
          have hDc := hD.sub (ws' := ([] : va_W)) [] rfl rfl
          refine q_callz (wc := ([] : va_W)) (w1 := ([] : va_W)) (ws' := (wd_X5_readNumber cI a0 v0_1 s49.2.2 v0_3 v0_4 v0_5 v0_0)) hP hD hS hA [] [0, 1] [0, 1] rfl rfl rfl (by decide) rfl rfl (va_runS (As := [.int u_8]) (rest := []) ⟨hx, hb, hml, hown, hta⟩ (c_X5_isDigit l dC dI cI H.size u_8 u_9 hu_9.symm) (va_cwS 1 hta (ga_S mA719 mA720 mA15 mA721) rfl rfl rfl (by decide +kernel) ⟨Nat.le_of_ble_eq_true rfl, Nat.le_of_ble_eq_true rfl⟩) ⟨q_fb, q_ps hPc hK hDc⟩ rfl rfl hl.1 rfl (lv_room (Nat.le_of_ble_eq_true rfl)) dX5_readNumber_59 ⟨Nat.zero_le _, Nat.zero_le _⟩) (fun hzu_9 H locs hP hD hS => ?_)
          refine lv_if_eq (tgt := 94) hx hb dX5_readNumber_62 (by decide) (fun c_10 => ?_) (fun c_10 => ?_)
          · have hF := it_t hF c_10
            obtain rfl := Option.some.inj hF
            obtain rfl := lpq_x hO_49
            have hF := hE_49
            exact j94 s49.2.2 v0_3 x1 x2 s49.1 s49.2.1 hF _ _ _ hP hD hS (lv_sub hl [0, 1, 2, 3, 4] rfl)
          · have hF := it_f hF c_10
            refine lv_bipush (v := 10) hx hb dX5_readNumber_65 (by decide) ?_
            refine lv_iload_n hx hb dX5_readNumber_67 rfl (lv_at hl 3 rfl) ?_
            refine lv_imul hx hb dX5_readNumber_68 ?_
            refine lv_aload_n hx hb dX5_readNumber_69 rfl (lv_at hl 0 rfl) ?_
            obtain ⟨u_11, hu_11, hF⟩ := obd_some hF
            have hPc := hP.sub (ws' := (wd_X5_next cI a0 v0_1 s49.2.2 v0_3 v0_4 v0_5 v0_0)) [0, 1] rfl
            have hDc := hD.sub (ws' := (wd_X5_next cI a0 v0_1 s49.2.2 v0_3 v0_4 v0_5 v0_0)) [0, 1] rfl rfl
            refine q_calli (wc := (wd_X5_next cI a0 v0_1 s49.2.2 v0_3 v0_4 v0_5 v0_0)) (w1 := (wd_X5_next cI a0 v0_1 s49.2.2 v0_3 v0_4 v0_5 v0_0)) (ws' := (wd_X5_readNumber cI a0 v0_1 s49.2.2 v0_3 v0_4 v0_5 v0_0)) hP hD hS hA [0, 1] [] [0, 1] rfl rfl rfl (by decide) rfl rfl (va_runV (As := []) (rest := [.int (10 * s49.1)]) ⟨hx, hb, hml, hown, hta⟩ (c_X5_next l dC dI cI H.size a0 v0_1 s49.2.2 v0_3 v0_4 v0_5 v0_0 u_11 hu_11) (cwV 0 hta (ga_V mA706 mA707 mA708 mA15 mA709) rfl rfl rfl (by decide +kernel) ⟨Nat.le_of_ble_eq_true rfl, Nat.le_of_ble_eq_true rfl⟩) ⟨q_fb, va_recv hK hP (ci := 4) (q0 := 0) rfl rfl, q_ps hPc hK hDc⟩ rfl rfl hl.1 rfl (lv_room (Nat.le_of_ble_eq_true rfl)) dX5_readNumber_70 ⟨Nat.zero_le _, Nat.zero_le _⟩) (fun H locs hP hD hS => ?_)
            refine lv_iadd hx hb dX5_readNumber_73 ?_
            refine lv_bipush (v := 48) hx hb dX5_readNumber_74 (by decide) ?_
            refine lv_isub hx hb dX5_readNumber_76 ?_
            obtain ⟨y_12, ey_12, hF⟩ := lt_some hF
            refine lv_eqi ey_12 ?_
            refine lv_istore_n (lv' := [(3, .int y_12), (0, .ref (a0 0)), (1, .int x1), (2, .int x2), (4, .int s49.2.1)]) hx hb dX5_readNumber_77 rfl hl (by decide) rfl (fun ls hl => ?_)
            refine lv_aload_n hx hb dX5_readNumber_78 rfl (lv_at hl 1 rfl) ?_
            refine lv_dup hx hb dX5_readNumber_79 rfl ?_
            refine va_get (D := (dC, dI)) (ci := 4) (v := .int s49.2.2) (C := RX5) (T := TX5) (N := 6) hx hb hta uw_X5 hown hK hP 0 rfl rfl 2 (by decide) (hta _ mA690) (fun _ h9 => h9) rfl dX5_readNumber_80 ?_
            refine lv_iconst (v := 1) hx hb dX5_readNumber_83 (by decide) ?_
            refine lv_iadd hx hb dX5_readNumber_84 ?_
            obtain ⟨y_13, ey_13, hF⟩ := lt_some hF
            refine lv_eqi ey_13 ?_
            refine va_put (D := (dC, dI)) (ci := 4) (v := .int y_13) (ty := .int) (C := RX5) (T := TX5) (N := 6) hx hb hta uw_X5 tyX5 tyX5_ok nmX5 hown hK hP hD hS 0 rfl rfl 2 (by decide) (hta _ mA690) (fun _ h9 => h9) rfl (by decide +kernel) rfl rfl (Nat.le_of_ble_eq_true rfl) dX5_readNumber_85 (fun H locs hP hD hS => ?_)
            have hP : va_P (dC, dI) vwCl (wd_X5_readNumber cI a0 v0_1 y_13 v0_3 v0_4 v0_5 v0_0) H := hP
            have hD : va_D A (wd_X5_readNumber cI a0 v0_1 y_13 v0_3 v0_4 v0_5 v0_0) := hD
            obtain ⟨y_14, ey_14, hF⟩ := lt_some hF
            refine lv_iinc (v := y_14) (lv' := [(4, .int y_14), (3, .int y_12), (0, .ref (a0 0)), (1, .int x1), (2, .int x2)]) hx hb dX5_readNumber_88 hl (k := 4) rfl (by rw [ey_14]; rfl) (by decide) rfl (fun ls hl => ?_)
            refine lv_goto (tgt := 49) hx hb dX5_readNumber_91 (by decide) ?_
            obtain rfl := Option.some.inj hF
            exact ih_49 _ hO_49 _ _ _ hP hD hS (lv_sub hl [2, 3, 4, 1, 0] rfl)
    exact kl_49 n _ hL_49 _ _ _ hP hD hS hl
  have j44 : ∀ (v0_2 : Int32) (v0_3 : Int32) (x1 : Int32) (x2 : Int32), F_X5_readNumber_j44 n v0_1 v0_2 v0_3 v0_0 x1 x2 = some u → ∀ (H : Heap) (locs : List Loc) (ls : Array Slot), va_P (dC, dI) vwCl (wd_X5_readNumber cI a0 v0_1 v0_2 v0_3 v0_4 v0_5 v0_0) H → va_D A (wd_X5_readNumber cI a0 v0_1 v0_2 v0_3 v0_4 v0_5 v0_0) → va_S A s.heap H locs → lv_has ls 5 [(0, .ref (a0 0)), (1, .int x1), (2, .int x2)] → W p l e (headSpec wz_X5_readNumber rm_X5_readNumber).room s m [.ref (a0 0)].toArray below meth c H locs 0 0 (MQ below (Q_X5_readNumber dC dI cI a0 v0_1 v0_4 v0_5 v0_0 u A) [.ref (a0 0)].toArray s 0 0 A) (F0 m 44 ls []) := by
    intro v0_2 v0_3 x1 x2 hF H locs ls hP hD hS hl
    unfold F_X5_readNumber_j44 at hF
    refine lv_iconst (v := 0) hx hb dX5_readNumber_44 (by decide) ?_
    refine lv_istore_n (lv' := [(3, .int 0), (0, .ref (a0 0)), (1, .int x1), (2, .int x2)]) hx hb dX5_readNumber_45 rfl hl (by decide) rfl (fun ls hl => ?_)
    refine lv_iconst (v := 0) hx hb dX5_readNumber_46 (by decide) ?_
    refine lv_istore (lv' := [(4, .int 0), (3, .int 0), (0, .ref (a0 0)), (1, .int x1), (2, .int x2)]) hx hb dX5_readNumber_47 hl (by decide) rfl (fun ls hl => ?_)
    exact j49 v0_2 v0_3 x1 x2 0 0 hF _ _ _ hP hD hS (lv_sub hl [2, 3, 4, 1, 0] rfl)
  have j29 : ∀ (v0_2 : Int32) (v0_3 : Int32) (x1 : Int32) (t0 : Int32), F_X5_readNumber_j29 n v0_1 v0_2 v0_3 v0_0 x1 t0 = some u → ∀ (H : Heap) (locs : List Loc) (ls : Array Slot), va_P (dC, dI) vwCl (wd_X5_readNumber cI a0 v0_1 v0_2 v0_3 v0_4 v0_5 v0_0) H → va_D A (wd_X5_readNumber cI a0 v0_1 v0_2 v0_3 v0_4 v0_5 v0_0) → va_S A s.heap H locs → lv_has ls 5 [(0, .ref (a0 0)), (1, .int x1)] → W p l e (headSpec wz_X5_readNumber rm_X5_readNumber).room s m [.ref (a0 0)].toArray below meth c H locs 0 0 (MQ below (Q_X5_readNumber dC dI cI a0 v0_1 v0_4 v0_5 v0_0 u A) [.ref (a0 0)].toArray s 0 0 A) (F0 m 29 ls [.int t0]) := by
    intro v0_2 v0_3 x1 t0 hF H locs ls hP hD hS hl
    unfold F_X5_readNumber_j29 at hF
    refine lv_istore_n (lv' := [(2, .int t0), (0, .ref (a0 0)), (1, .int x1)]) hx hb dX5_readNumber_29 rfl hl (by decide) rfl (fun ls hl => ?_)
    refine lv_iload_n hx hb dX5_readNumber_30 rfl (lv_at hl 0 rfl) ?_
    refine lv_if_eq (tgt := 44) hx hb dX5_readNumber_31 (by decide) (fun c_15 => ?_) (fun c_15 => ?_)
    · have hF := it_t hF c_15
      exact j44 v0_2 v0_3 x1 t0 hF _ _ _ hP hD hS (lv_sub hl [1, 2, 0] rfl)
    · have hF := it_f hF c_15
      refine lv_aload_n hx hb dX5_readNumber_34 rfl (lv_at hl 1 rfl) ?_
      refine lv_dup hx hb dX5_readNumber_35 rfl ?_
      refine va_get (D := (dC, dI)) (ci := 4) (v := .int v0_2) (C := RX5) (T := TX5) (N := 6) hx hb hta uw_X5 hown hK hP 0 rfl rfl 2 (by decide) (hta _ mA690) (fun _ h9 => h9) rfl dX5_readNumber_36 ?_
      refine lv_iconst (v := 1) hx hb dX5_readNumber_39 (by decide) ?_
      refine lv_iadd hx hb dX5_readNumber_40 ?_
      obtain ⟨y_16, ey_16, hF⟩ := lt_some hF
      refine lv_eqi ey_16 ?_
      refine va_put (D := (dC, dI)) (ci := 4) (v := .int y_16) (ty := .int) (C := RX5) (T := TX5) (N := 6) hx hb hta uw_X5 tyX5 tyX5_ok nmX5 hown hK hP hD hS 0 rfl rfl 2 (by decide) (hta _ mA690) (fun _ h9 => h9) rfl (by decide +kernel) rfl rfl (Nat.le_of_ble_eq_true rfl) dX5_readNumber_41 (fun H locs hP hD hS => ?_)
      have hP : va_P (dC, dI) vwCl (wd_X5_readNumber cI a0 v0_1 y_16 v0_3 v0_4 v0_5 v0_0) H := hP
      have hD : va_D A (wd_X5_readNumber cI a0 v0_1 y_16 v0_3 v0_4 v0_5 v0_0) := hD
      exact j44 y_16 v0_3 x1 t0 hF _ _ _ hP hD hS (lv_sub hl [1, 2, 0] rfl)
  refine lv_aload_n hx hb dX5_readNumber_0 rfl (lv_at hl 0 rfl) ?_
  refine va_get (D := (dC, dI)) (ci := 4) (v := .int v0_3) (C := RX5) (T := TX5) (N := 6) hx hb hta uw_X5 hown hK hP 0 rfl rfl 3 (by decide) (hta _ mA691) (fun _ h9 => h9) rfl dX5_readNumber_1 ?_
  refine lv_iconst (v := (-1)) hx hb dX5_readNumber_4 (by decide) ?_
  refine lv_icmp_eq (tgt := 10) hx hb dX5_readNumber_5 (by decide) (fun c_17 => ?_) (fun c_17 => ?_)
  · have hF := it_t hF c_17
    refine lv_aload_n hx hb dX5_readNumber_10 rfl (lv_at hl 0 rfl) ?_
    refine va_get (D := (dC, dI)) (ci := 4) (v := .int v0_2) (C := RX5) (T := TX5) (N := 6) hx hb hta uw_X5 hown hK hP 0 rfl rfl 2 (by decide) (hta _ mA690) (fun _ h9 => h9) rfl dX5_readNumber_11 ?_
    refine lv_istore_n (lv' := [(1, .int v0_2), (0, .ref (a0 0))]) hx hb dX5_readNumber_14 rfl hl (by decide) rfl (fun ls hl => ?_)
    refine lv_aload_n hx hb dX5_readNumber_15 rfl (lv_at hl 1 rfl) ?_
    obtain ⟨u_18, hu_18, hF⟩ := obd_some hF
    have hPc := hP.sub (ws' := (wd_X5_next cI a0 v0_1 v0_2 v0_3 v0_4 v0_5 v0_0)) [0, 1] rfl
    have hDc := hD.sub (ws' := (wd_X5_next cI a0 v0_1 v0_2 v0_3 v0_4 v0_5 v0_0)) [0, 1] rfl rfl
    refine q_calli (wc := (wd_X5_next cI a0 v0_1 v0_2 v0_3 v0_4 v0_5 v0_0)) (w1 := (wd_X5_next cI a0 v0_1 v0_2 v0_3 v0_4 v0_5 v0_0)) (ws' := (wd_X5_readNumber cI a0 v0_1 v0_2 v0_3 v0_4 v0_5 v0_0)) hP hD hS hA [0, 1] [] [0, 1] rfl rfl rfl (by decide) rfl rfl (va_runV (As := []) (rest := []) ⟨hx, hb, hml, hown, hta⟩ (c_X5_next l dC dI cI H.size a0 v0_1 v0_2 v0_3 v0_4 v0_5 v0_0 u_18 hu_18) (cwV 0 hta (ga_V mA706 mA707 mA708 mA15 mA709) rfl rfl rfl (by decide +kernel) ⟨Nat.le_of_ble_eq_true rfl, Nat.le_of_ble_eq_true rfl⟩) ⟨q_fb, va_recv hK hP (ci := 4) (q0 := 0) rfl rfl, q_ps hPc hK hDc⟩ rfl rfl hl.1 rfl (lv_room (Nat.le_of_ble_eq_true rfl)) dX5_readNumber_16 ⟨Nat.zero_le _, Nat.zero_le _⟩) (fun H locs hP hD hS => ?_)
    refine lv_bipush (v := 45) hx hb dX5_readNumber_19 (by decide) ?_
    refine lv_icmp_ne (tgt := 28) hx hb dX5_readNumber_21 (by decide) (fun c_19 => ?_) (fun c_19 => ?_)
    · have hF := it_f hF c_19
      refine lv_iconst (v := 0) hx hb dX5_readNumber_28 (by decide) ?_
      exact j29 v0_2 v0_3 v0_2 0 hF _ _ _ hP hD hS (lv_sub hl [1, 0] rfl)
    · have hF := it_t hF c_19
      refine lv_iconst (v := 1) hx hb dX5_readNumber_24 (by decide) ?_
      refine lv_goto (tgt := 29) hx hb dX5_readNumber_25 (by decide) ?_
      exact j29 v0_2 v0_3 v0_2 1 hF _ _ _ hP hD hS (lv_sub hl [1, 0] rfl)
  · have hF := it_f hF c_17
    refine lv_iconst (v := 0) hx hb dX5_readNumber_8 (by decide) ?_
    obtain rfl := Option.some.inj hF
    exact W.iret (v := 0) hx hb hr (fun t ht hW => ⟨⟨0, (), rfl, rfl, by rw [ht]; exact hP, va_K.moved hW.alike hK, hD⟩, hS.F ht⟩) hS.2.2 dX5_readNumber_9

-- StrokeOutliner$PathText.readPoint()V
def F_X5_readPoint (n : Nat) (v0_1 : Int32) (v0_2 : Int32) (v0_3 : Int32) (v0_0 : Nat → Int32) : Option (Int32 × Int32 × Int32 × Int32) :=
  obd (F_X5_readNumber n v0_1 v0_2 v0_3 v0_0) (fun u_1 => obd (F_X5_expect v0_1 u_1.2.1 u_1.2.2 v0_0 44) (fun u_2 => obd (F_X5_readNumber n v0_1 u_2.1 u_2.2 v0_0) (fun u_3 => some (u_3.2.1, u_3.2.2, u_1.1, u_3.1))))
abbrev wd_X5_readPoint (cI : ClassId) (a0 : Nat → Nat) (v0_1 : Int32) (v0_2 : Int32) (v0_3 : Int32) (v0_4 : Int32) (v0_5 : Int32) (v0_0 : Nat → Int32) : va_W := [(a0 0, .inr (4, [.ref (a0 1), .int v0_1, .int v0_2, .int v0_3, .int v0_4, .int v0_5])), (a0 1, .inl (cI, 150, .inl v0_0))]
abbrev wz_X5_readPoint : List Cond := .code yX5_readPoint cX5_readPoint 1 none :: wALL
abbrev rm_X5_readPoint : Room := { frames := 3, cells := 0, slots := 0, locals := 65 }
abbrev Q_X5_readPoint (dC : Nat → ClassId) (dI : Nat → Nat → Nat) (cI : ClassId) (a0 : Nat → Nat) (v0_1 : Int32) (v0_0 : Nat → Int32) (u : (Int32 × Int32 × Int32 × Int32)) (A : Nat → Prop) : Array Value → State → Outcome → State → Prop := va_Qv (fun (_ : Unit) => True) (fun _ => q_at dC dI cI A (wd_X5_readPoint cI a0 v0_1 u.1 u.2.1 u.2.2.1 u.2.2.2 v0_0)) A
set_option maxHeartbeats 4000000 in
set_option maxRecDepth 100000 in
theorem c_X5_readPoint (l : Launch) (dC : Nat → ClassId) (dI : Nat → Nat → Nat) (cI : ClassId) (sz : Nat) (a0 : Nat → Nat) (v0_1 : Int32) (v0_2 : Int32) (v0_3 : Int32) (v0_4 : Int32) (v0_5 : Int32) (v0_0 : Nat → Int32) (n : Nat) (u : (Int32 × Int32 × Int32 × Int32)) (hF : F_X5_readPoint n v0_1 v0_2 v0_3 v0_0 = some u) : Met l yX5_readPoint wz_X5_readPoint rm_X5_readPoint (va_Pc [.ref (a0 0)] (q_pre dC dI cI (wd_X5_readPoint cI a0 v0_1 v0_2 v0_3 v0_4 v0_5 v0_0) sz)) (Q_X5_readPoint dC dI cI a0 v0_1 v0_0 u (va_A (wd_X5_readPoint cI a0 v0_1 v0_2 v0_3 v0_4 v0_5 v0_0) sz)) 0 0 (va_A (wd_X5_readPoint cI a0 v0_1 v0_2 v0_3 v0_4 v0_5 v0_0) sz) := by
  refine Met.ofW (cc := cX5_readPoint) (maxL := 1) (ret := none) (by decide) rfl ?_
  intro p e s m args below meth c s₁ B hml hv
  obtain ⟨rfl, hsz, hP, hK, hD0⟩ := hv
  have hx := B.exec
  have hb := B.bytes
  have hr := B.returns
  have hts := atoms_spec (ws := wz_X5_readPoint) B.pre
  have hta := wz_tl hts
  have hown : s.vm.findClass RX5 = some m.cls := findClass_of_methodNamed B.named
  have hlocks := B.notSynchronized
  subst hsz
  have hD := hD0.self (sz := s.heap.size)
  generalize hAe : va_A (wd_X5_readPoint cI a0 v0_1 v0_2 v0_3 v0_4 v0_5 v0_0) s.heap.size = A at hD ⊢
  have hA : ∀ q : Nat, s.heap.size ≤ q → A q := fun q h => by rw [← hAe]; exact Or.inr h
  have hS : va_S A s.heap s.heap [] := va_S.rf
  have hP : va_P (dC, dI) vwCl (wd_X5_readPoint cI a0 v0_1 v0_2 v0_3 v0_4 v0_5 v0_0) s.heap := hP
  have hl := lv_entry ([.ref (a0 0)]) (n := 1) (Nat.le_of_ble_eq_true rfl)
  rw [lg_entry_eq]
  generalize (lg_sl ([.ref (a0 0)]) ++ List.replicate (1 - (lg_sl ([.ref (a0 0)])).length) Slot.unset).toArray = ls at hl ⊢
  have hl : lv_has ls 1 [(0, .ref (a0 0))] := hl
  obtain ⟨H, hHe⟩ : ∃ H, H = s.heap := ⟨_, rfl⟩
  have hS : va_S A s.heap H [] := by rw [hHe]; exact hS
  have hP : va_P (dC, dI) vwCl (wd_X5_readPoint cI a0 v0_1 v0_2 v0_3 v0_4 v0_5 v0_0) H := by rw [hHe]; exact hP
  rw [← hHe]
  unfold F_X5_readPoint at hF
  refine lv_aload_n hx hb dX5_readPoint_0 rfl (lv_at hl 0 rfl) ?_
  refine lv_aload_n hx hb dX5_readPoint_1 rfl (lv_at hl 0 rfl) ?_
  obtain ⟨u_1, hu_1, hF⟩ := obd_some hF
  have hPc := hP.sub (ws' := (wd_X5_readNumber cI a0 v0_1 v0_2 v0_3 v0_4 v0_5 v0_0)) [0, 1] rfl
  have hDc := hD.sub (ws' := (wd_X5_readNumber cI a0 v0_1 v0_2 v0_3 v0_4 v0_5 v0_0)) [0, 1] rfl rfl
  refine q_calli (wc := (wd_X5_readNumber cI a0 v0_1 v0_2 v0_3 v0_4 v0_5 v0_0)) (w1 := (wd_X5_readNumber cI a0 v0_1 u_1.2.1 u_1.2.2 v0_4 v0_5 v0_0)) (ws' := (wd_X5_readPoint cI a0 v0_1 u_1.2.1 u_1.2.2 v0_4 v0_5 v0_0)) hP hD hS hA [0, 1] [] [0, 1] rfl rfl rfl (by decide) rfl rfl (va_runV (As := []) (rest := [.ref (a0 0)]) ⟨hx, hb, hml, hown, hta⟩ (c_X5_readNumber l dC dI cI H.size a0 v0_1 v0_2 v0_3 v0_4 v0_5 v0_0 n u_1 hu_1) (cwV 0 hta (ga_V mA715 mA716 mA717 mA15 mA718) rfl rfl rfl (by decide +kernel) ⟨Nat.le_of_ble_eq_true rfl, Nat.le_of_ble_eq_true rfl⟩) ⟨q_fb, va_recv hK hP (ci := 4) (q0 := 0) rfl rfl, q_ps hPc hK hDc⟩ rfl rfl hl.1 rfl (lv_room (Nat.le_of_ble_eq_true rfl)) dX5_readPoint_2 ⟨Nat.zero_le _, Nat.zero_le _⟩) (fun H locs hP hD hS => ?_)
  refine va_put (D := (dC, dI)) (ci := 4) (v := .int u_1.1) (ty := .int) (C := RX5) (T := TX5) (N := 6) hx hb hta uw_X5 tyX5 tyX5_ok nmX5 hown hK hP hD hS 0 rfl rfl 4 (by decide) (hta _ mA700) (fun _ h9 => h9) rfl (by decide +kernel) rfl rfl (Nat.le_of_ble_eq_true rfl) dX5_readPoint_5 (fun H locs hP hD hS => ?_)
  have hP : va_P (dC, dI) vwCl (wd_X5_readPoint cI a0 v0_1 u_1.2.1 u_1.2.2 u_1.1 v0_5 v0_0) H := hP
  have hD : va_D A (wd_X5_readPoint cI a0 v0_1 u_1.2.1 u_1.2.2 u_1.1 v0_5 v0_0) := hD
  refine lv_aload_n hx hb dX5_readPoint_8 rfl (lv_at hl 0 rfl) ?_
  refine lv_bipush (v := 44) hx hb dX5_readPoint_9 (by decide) ?_
  obtain ⟨u_2, hu_2, hF⟩ := obd_some hF
  have hPc := hP.sub (ws' := (wd_X5_expect cI a0 v0_1 u_1.2.1 u_1.2.2 u_1.1 v0_5 v0_0)) [0, 1] rfl
  have hDc := hD.sub (ws' := (wd_X5_expect cI a0 v0_1 u_1.2.1 u_1.2.2 u_1.1 v0_5 v0_0)) [0, 1] rfl rfl
  refine q_callv (wc := (wd_X5_expect cI a0 v0_1 u_1.2.1 u_1.2.2 u_1.1 v0_5 v0_0)) (w1 := (wd_X5_expect cI a0 v0_1 u_2.1 u_2.2 u_1.1 v0_5 v0_0)) (ws' := (wd_X5_readPoint cI a0 v0_1 u_2.1 u_2.2 u_1.1 v0_5 v0_0)) hP hD hS hA [0, 1] [] [0, 1] rfl rfl rfl (by decide) rfl rfl (va_runV (As := [.int 44]) (rest := []) ⟨hx, hb, hml, hown, hta⟩ (c_X5_expect l dC dI cI H.size a0 v0_1 u_1.2.1 u_1.2.2 u_1.1 v0_5 v0_0 44 u_2 hu_2) (cwV 1 hta (ga_V mA702 mA703 mA704 mA15 mA705) rfl rfl rfl (by decide +kernel) ⟨Nat.le_of_ble_eq_true rfl, Nat.le_of_ble_eq_true rfl⟩) ⟨q_fb, va_recv hK hP (ci := 4) (q0 := 0) rfl rfl, q_ps hPc hK hDc⟩ rfl rfl hl.1 rfl (lv_room (Nat.le_of_ble_eq_true rfl)) dX5_readPoint_11 ⟨Nat.zero_le _, Nat.zero_le _⟩) (fun H locs hP hD hS => ?_)
  refine lv_aload_n hx hb dX5_readPoint_14 rfl (lv_at hl 0 rfl) ?_
  refine lv_aload_n hx hb dX5_readPoint_15 rfl (lv_at hl 0 rfl) ?_
  obtain ⟨u_3, hu_3, hF⟩ := obd_some hF
  have hPc := hP.sub (ws' := (wd_X5_readNumber cI a0 v0_1 u_2.1 u_2.2 u_1.1 v0_5 v0_0)) [0, 1] rfl
  have hDc := hD.sub (ws' := (wd_X5_readNumber cI a0 v0_1 u_2.1 u_2.2 u_1.1 v0_5 v0_0)) [0, 1] rfl rfl
  refine q_calli (wc := (wd_X5_readNumber cI a0 v0_1 u_2.1 u_2.2 u_1.1 v0_5 v0_0)) (w1 := (wd_X5_readNumber cI a0 v0_1 u_3.2.1 u_3.2.2 u_1.1 v0_5 v0_0)) (ws' := (wd_X5_readPoint cI a0 v0_1 u_3.2.1 u_3.2.2 u_1.1 v0_5 v0_0)) hP hD hS hA [0, 1] [] [0, 1] rfl rfl rfl (by decide) rfl rfl (va_runV (As := []) (rest := [.ref (a0 0)]) ⟨hx, hb, hml, hown, hta⟩ (c_X5_readNumber l dC dI cI H.size a0 v0_1 u_2.1 u_2.2 u_1.1 v0_5 v0_0 n u_3 hu_3) (cwV 0 hta (ga_V mA715 mA716 mA717 mA15 mA718) rfl rfl rfl (by decide +kernel) ⟨Nat.le_of_ble_eq_true rfl, Nat.le_of_ble_eq_true rfl⟩) ⟨q_fb, va_recv hK hP (ci := 4) (q0 := 0) rfl rfl, q_ps hPc hK hDc⟩ rfl rfl hl.1 rfl (lv_room (Nat.le_of_ble_eq_true rfl)) dX5_readPoint_16 ⟨Nat.zero_le _, Nat.zero_le _⟩) (fun H locs hP hD hS => ?_)
  refine va_put (D := (dC, dI)) (ci := 4) (v := .int u_3.1) (ty := .int) (C := RX5) (T := TX5) (N := 6) hx hb hta uw_X5 tyX5 tyX5_ok nmX5 hown hK hP hD hS 0 rfl rfl 5 (by decide) (hta _ mA701) (fun _ h9 => h9) rfl (by decide +kernel) rfl rfl (Nat.le_of_ble_eq_true rfl) dX5_readPoint_19 (fun H locs hP hD hS => ?_)
  have hP : va_P (dC, dI) vwCl (wd_X5_readPoint cI a0 v0_1 u_3.2.1 u_3.2.2 u_1.1 u_3.1 v0_0) H := hP
  have hD : va_D A (wd_X5_readPoint cI a0 v0_1 u_3.2.1 u_3.2.2 u_1.1 u_3.1 v0_0) := hD
  obtain rfl := Option.some.inj hF
  exact W.vret hx hb hr (fun t ht hW => ⟨⟨(), rfl, trivial, by rw [ht]; exact hP, va_K.moved hW.alike hK, hD⟩, hS.F ht⟩) hS.2.2 dX5_readPoint_22

-- StrokeOutliner$PathText.readSubpath(LStrokeOutliner$Drawing;)V
def F_X5_readSubpath_j96 (v0_1 : Int32) (v0_2 : Int32) (v0_3 : Int32) (v0_4 : Int32) (v0_5 : Int32) (v0_0 : Nat → Int32) (v1_0 : Nat → Int32) : Option (Int32 × Int32 × Int32 × Int32 × (Nat → Int32)) :=
  if v0_3 = (-1) then obd (F_X5_next v0_1 v0_2 v0_0) (fun u_2 => if u_2 = 90 then lt (v0_2 + 1) (fun y_4 => obd (F_X1_closeLast v1_0) (fun u_5 => some (y_4, v0_3, v0_4, v0_5, u_5))) else some (v0_2, v0_3, v0_4, v0_5, v1_0)) else some (v0_2, v0_3, v0_4, v0_5, v1_0)
def F_X5_readSubpath_j90 (v0_2 : Int32) (v0_3 : Int32) (v0_4 : Int32) (v0_5 : Int32) (v1_0 : Nat → Int32) (x2 : Int32) : Option (Sum (Int32 × Int32 × Int32 × Int32 × Int32 × (Nat → Int32)) (Int32 × Int32 × Int32 × Int32 × (Nat → Int32))) :=
  lt (x2 + 1) (fun y_6 => some (.inl (y_6, v0_2, v0_3, v0_4, v0_5, v1_0)))
def F_X5_readSubpath_b24 (n : Nat) (v0_1 : Int32) (v0_0 : Nat → Int32) (s24 : Int32 × Int32 × Int32 × Int32 × Int32 × (Nat → Int32)) : Option (Sum (Int32 × Int32 × Int32 × Int32 × Int32 × (Nat → Int32)) (Int32 × Int32 × Int32 × Int32 × (Nat → Int32))) :=
  if 8 < s24.1 then some (.inr (s24.2.1, s24.2.2.1, s24.2.2.2.1, s24.2.2.2.2.1, s24.2.2.2.2.2)) else if s24.2.2.1 = (-1) then obd (F_X5_next v0_1 s24.2.1 v0_0) (fun u_9 => if u_9 = 76 then if 8 ≤ s24.1 then F_X5_readSubpath_j90 s24.2.1 s24.2.1 s24.2.2.2.1 s24.2.2.2.2.1 s24.2.2.2.2.2 s24.1 else lt (s24.2.1 + 1) (fun y_12 => obd (F_X5_readPoint n v0_1 y_12 s24.2.2.1 v0_0) (fun u_13 => obd (F_X1_addPoint s24.2.2.2.2.2 u_13.2.2.1 u_13.2.2.2) (fun u_14 => F_X5_readSubpath_j90 u_13.1 u_13.2.1 u_13.2.2.1 u_13.2.2.2 u_14 s24.1))) else some (.inr (s24.2.1, s24.2.2.1, s24.2.2.2.1, s24.2.2.2.2.1, s24.2.2.2.2.2))) else some (.inr (s24.2.1, s24.2.2.1, s24.2.2.2.1, s24.2.2.2.2.1, s24.2.2.2.2.2))
def F_X5_readSubpath_j24 (n : Nat) (v0_1 : Int32) (v0_2 : Int32) (v0_3 : Int32) (v0_4 : Int32) (v0_5 : Int32) (v0_0 : Nat → Int32) (v1_0 : Nat → Int32) (x2 : Int32) : Option (Int32 × Int32 × Int32 × Int32 × (Nat → Int32)) :=
  obd (lpq (F_X5_readSubpath_b24 n v0_1 v0_0) n (x2, v0_2, v0_3, v0_4, v0_5, v1_0)) (fun x_24 => F_X5_readSubpath_j96 v0_1 x_24.1 x_24.2.1 x_24.2.2.1 x_24.2.2.2.1 v0_0 x_24.2.2.2.2)
def F_X5_readSubpath (n : Nat) (v0_1 : Int32) (v0_2 : Int32) (v0_3 : Int32) (v0_0 : Nat → Int32) (v1_0 : Nat → Int32) : Option (Int32 × Int32 × Int32 × Int32 × (Nat → Int32)) :=
  obd (F_X5_expect v0_1 v0_2 v0_3 v0_0 77) (fun u_15 => obd (F_X5_readPoint n v0_1 u_15.1 u_15.2 v0_0) (fun u_16 => obd (F_X1_startSubpath v1_0 u_16.2.2.1 u_16.2.2.2) (fun u_17 => F_X5_readSubpath_j24 n v0_1 u_16.1 u_16.2.1 u_16.2.2.1 u_16.2.2.2 v0_0 u_17 1)))
abbrev wd_X5_readSubpath (cI : ClassId) (a0 : Nat → Nat) (a1 : Nat → Nat) (v0_1 : Int32) (v0_2 : Int32) (v0_3 : Int32) (v0_4 : Int32) (v0_5 : Int32) (v0_0 : Nat → Int32) (v1_0 : Nat → Int32) : va_W := [(a0 0, .inr (4, [.ref (a0 1), .int v0_1, .int v0_2, .int v0_3, .int v0_4, .int v0_5])), (a0 1, .inl (cI, 150, .inl v0_0)), (a1 0, .inr (1, [.ref (a1 1)])), (a1 1, .inl (cI, 86, .inl v1_0))]
abbrev wz_X5_readSubpath : List Cond := .code yX5_readSubpath cX5_readSubpath 3 none :: wALL
abbrev rm_X5_readSubpath : Room := { frames := 4, cells := 0, slots := 0, locals := 93 }
abbrev Q_X5_readSubpath (dC : Nat → ClassId) (dI : Nat → Nat → Nat) (cI : ClassId) (a0 : Nat → Nat) (a1 : Nat → Nat) (v0_1 : Int32) (v0_0 : Nat → Int32) (u : (Int32 × Int32 × Int32 × Int32 × (Nat → Int32))) (A : Nat → Prop) : Array Value → State → Outcome → State → Prop := va_Qv (fun (_ : Unit) => True) (fun _ => q_at dC dI cI A (wd_X5_readSubpath cI a0 a1 v0_1 u.1 u.2.1 u.2.2.1 u.2.2.2.1 v0_0 u.2.2.2.2)) A
set_option maxHeartbeats 4000000 in
set_option maxRecDepth 100000 in
theorem c_X5_readSubpath (l : Launch) (dC : Nat → ClassId) (dI : Nat → Nat → Nat) (cI : ClassId) (sz : Nat) (a0 : Nat → Nat) (a1 : Nat → Nat) (v0_1 : Int32) (v0_2 : Int32) (v0_3 : Int32) (v0_4 : Int32) (v0_5 : Int32) (v0_0 : Nat → Int32) (v1_0 : Nat → Int32) (n : Nat) (u : (Int32 × Int32 × Int32 × Int32 × (Nat → Int32))) (hF : F_X5_readSubpath n v0_1 v0_2 v0_3 v0_0 v1_0 = some u) : Met l yX5_readSubpath wz_X5_readSubpath rm_X5_readSubpath (va_Pc [.ref (a0 0), .ref (a1 0)] (q_pre dC dI cI (wd_X5_readSubpath cI a0 a1 v0_1 v0_2 v0_3 v0_4 v0_5 v0_0 v1_0) sz)) (Q_X5_readSubpath dC dI cI a0 a1 v0_1 v0_0 u (va_A (wd_X5_readSubpath cI a0 a1 v0_1 v0_2 v0_3 v0_4 v0_5 v0_0 v1_0) sz)) 0 0 (va_A (wd_X5_readSubpath cI a0 a1 v0_1 v0_2 v0_3 v0_4 v0_5 v0_0 v1_0) sz) := by
  refine Met.ofW (cc := cX5_readSubpath) (maxL := 3) (ret := none) (by decide) rfl ?_
  intro p e s m args below meth c s₁ B hml hv
  obtain ⟨rfl, hsz, hP, hK, hD0⟩ := hv
  have hx := B.exec
  have hb := B.bytes
  have hr := B.returns
  have hts := atoms_spec (ws := wz_X5_readSubpath) B.pre
  have hta := wz_tl hts
  have hown : s.vm.findClass RX5 = some m.cls := findClass_of_methodNamed B.named
  have hlocks := B.notSynchronized
  subst hsz
  have hD := hD0.self (sz := s.heap.size)
  generalize hAe : va_A (wd_X5_readSubpath cI a0 a1 v0_1 v0_2 v0_3 v0_4 v0_5 v0_0 v1_0) s.heap.size = A at hD ⊢
  have hA : ∀ q : Nat, s.heap.size ≤ q → A q := fun q h => by rw [← hAe]; exact Or.inr h
  have hS : va_S A s.heap s.heap [] := va_S.rf
  have hP : va_P (dC, dI) vwCl (wd_X5_readSubpath cI a0 a1 v0_1 v0_2 v0_3 v0_4 v0_5 v0_0 v1_0) s.heap := hP
  have hl := lv_entry ([.ref (a0 0), .ref (a1 0)]) (n := 3) (Nat.le_of_ble_eq_true rfl)
  rw [lg_entry_eq]
  generalize (lg_sl ([.ref (a0 0), .ref (a1 0)]) ++ List.replicate (3 - (lg_sl ([.ref (a0 0), .ref (a1 0)])).length) Slot.unset).toArray = ls at hl ⊢
  have hl : lv_has ls 3 [(0, .ref (a0 0)), (1, .ref (a1 0))] := hl
  obtain ⟨H, hHe⟩ : ∃ H, H = s.heap := ⟨_, rfl⟩
  have hS : va_S A s.heap H [] := by rw [hHe]; exact hS
  have hP : va_P (dC, dI) vwCl (wd_X5_readSubpath cI a0 a1 v0_1 v0_2 v0_3 v0_4 v0_5 v0_0 v1_0) H := by rw [hHe]; exact hP
  rw [← hHe]
  unfold F_X5_readSubpath at hF
  have j96 : ∀ (v0_2 : Int32) (v0_3 : Int32) (v0_4 : Int32) (v0_5 : Int32) (v1_0 : Nat → Int32), F_X5_readSubpath_j96 v0_1 v0_2 v0_3 v0_4 v0_5 v0_0 v1_0 = some u → ∀ (H : Heap) (locs : List Loc) (ls : Array Slot), va_P (dC, dI) vwCl (wd_X5_readSubpath cI a0 a1 v0_1 v0_2 v0_3 v0_4 v0_5 v0_0 v1_0) H → va_D A (wd_X5_readSubpath cI a0 a1 v0_1 v0_2 v0_3 v0_4 v0_5 v0_0 v1_0) → va_S A s.heap H locs → lv_has ls 3 [(0, .ref (a0 0)), (1, .ref (a1 0))] → W p l e (headSpec wz_X5_readSubpath rm_X5_readSubpath).room s m [.ref (a0 0), .ref (a1 0)].toArray below meth c H locs 0 0 (MQ below (Q_X5_readSubpath dC dI cI a0 a1 v0_1 v0_0 u A) [.ref (a0 0), .ref (a1 0)].toArray s 0 0 A) (F0 m 96 ls []) := by
    intro v0_2 v0_3 v0_4 v0_5 v1_0 hF H locs ls hP hD hS hl
    unfold F_X5_readSubpath_j96 at hF
    refine lv_aload_n hx hb dX5_readSubpath_96 rfl (lv_at hl 0 rfl) ?_
    refine va_get (D := (dC, dI)) (ci := 4) (v := .int v0_3) (C := RX5) (T := TX5) (N := 6) hx hb hta uw_X5 hown hK hP 0 rfl rfl 3 (by decide) (hta _ mA691) (fun _ h9 => h9) rfl dX5_readSubpath_97 ?_
    refine lv_iconst (v := (-1)) hx hb dX5_readSubpath_100 (by decide) ?_
    refine lv_icmp_ne (tgt := 127) hx hb dX5_readSubpath_101 (by decide) (fun c_1 => ?_) (fun c_1 => ?_)
    · have hF := it_f hF c_1
      obtain rfl := Option.some.inj hF
      exact W.vret hx hb hr (fun t ht hW => ⟨⟨(), rfl, trivial, by rw [ht]; exact hP, va_K.moved hW.alike hK, hD⟩, hS.F ht⟩) hS.2.2 dX5_readSubpath_127
    · have hF := it_t hF c_1
      refine lv_aload_n hx hb dX5_readSubpath_104 rfl (lv_at hl 0 rfl) ?_
      obtain ⟨u_2, hu_2, hF⟩ := obd_some hF
      have hPc := hP.sub (ws' := (wd_X5_next cI a0 v0_1 v0_2 v0_3 v0_4 v0_5 v0_0)) [0, 1] rfl
      have hDc := hD.sub (ws' := (wd_X5_next cI a0 v0_1 v0_2 v0_3 v0_4 v0_5 v0_0)) [0, 1] rfl rfl
      refine q_calli (wc := (wd_X5_next cI a0 v0_1 v0_2 v0_3 v0_4 v0_5 v0_0)) (w1 := (wd_X5_next cI a0 v0_1 v0_2 v0_3 v0_4 v0_5 v0_0)) (ws' := (wd_X5_readSubpath cI a0 a1 v0_1 v0_2 v0_3 v0_4 v0_5 v0_0 v1_0)) hP hD hS hA [0, 1] [2, 3] [2, 3, 0, 1] rfl rfl rfl (by decide) rfl rfl (va_runV (As := []) (rest := []) ⟨hx, hb, hml, hown, hta⟩ (c_X5_next l dC dI cI H.size a0 v0_1 v0_2 v0_3 v0_4 v0_5 v0_0 u_2 hu_2) (cwV 0 hta (ga_V mA706 mA707 mA708 mA15 mA709) rfl rfl rfl (by decide +kernel) ⟨Nat.le_of_ble_eq_true rfl, Nat.le_of_ble_eq_true rfl⟩) ⟨q_fb, va_recv hK hP (ci := 4) (q0 := 0) rfl rfl, q_ps hPc hK hDc⟩ rfl rfl hl.1 rfl (lv_room (Nat.le_of_ble_eq_true rfl)) dX5_readSubpath_105 ⟨Nat.zero_le _, Nat.zero_le _⟩) (fun H locs hP hD hS => ?_)
      refine lv_bipush (v := 90) hx hb dX5_readSubpath_108 (by decide) ?_
      refine lv_icmp_ne (tgt := 127) hx hb dX5_readSubpath_110 (by decide) (fun c_3 => ?_) (fun c_3 => ?_)
      · have hF := it_f hF c_3
        obtain rfl := Option.some.inj hF
        exact W.vret hx hb hr (fun t ht hW => ⟨⟨(), rfl, trivial, by rw [ht]; exact hP, va_K.moved hW.alike hK, hD⟩, hS.F ht⟩) hS.2.2 dX5_readSubpath_127
      · have hF := it_t hF c_3
        refine lv_aload_n hx hb dX5_readSubpath_113 rfl (lv_at hl 0 rfl) ?_
        refine lv_dup hx hb dX5_readSubpath_114 rfl ?_
        refine va_get (D := (dC, dI)) (ci := 4) (v := .int v0_2) (C := RX5) (T := TX5) (N := 6) hx hb hta uw_X5 hown hK hP 0 rfl rfl 2 (by decide) (hta _ mA690) (fun _ h9 => h9) rfl dX5_readSubpath_115 ?_
        refine lv_iconst (v := 1) hx hb dX5_readSubpath_118 (by decide) ?_
        refine lv_iadd hx hb dX5_readSubpath_119 ?_
        obtain ⟨y_4, ey_4, hF⟩ := lt_some hF
        refine lv_eqi ey_4 ?_
        refine va_put (D := (dC, dI)) (ci := 4) (v := .int y_4) (ty := .int) (C := RX5) (T := TX5) (N := 6) hx hb hta uw_X5 tyX5 tyX5_ok nmX5 hown hK hP hD hS 0 rfl rfl 2 (by decide) (hta _ mA690) (fun _ h9 => h9) rfl (by decide +kernel) rfl rfl (Nat.le_of_ble_eq_true rfl) dX5_readSubpath_120 (fun H locs hP hD hS => ?_)
        have hP : va_P (dC, dI) vwCl (wd_X5_readSubpath cI a0 a1 v0_1 y_4 v0_3 v0_4 v0_5 v0_0 v1_0) H := hP
        have hD : va_D A (wd_X5_readSubpath cI a0 a1 v0_1 y_4 v0_3 v0_4 v0_5 v0_0 v1_0) := hD
        refine lv_aload_n hx hb dX5_readSubpath_123 rfl (lv_at hl 1 rfl) ?_
        obtain ⟨u_5, hu_5, hF⟩ := obd_some hF
        have hPc := hP.sub (ws' := (wd_X1_closeLast cI a1 v1_0)) [2, 3] rfl
        have hDc := hD.sub (ws' := (wd_X1_closeLast cI a1 v1_0)) [2, 3] rfl rfl
        refine q_callv (wc := (wd_X1_closeLast cI a1 v1_0)) (w1 := (wd_X1_closeLast cI a1 u_5)) (ws' := (wd_X5_readSubpath cI a0 a1 v0_1 y_4 v0_3 v0_4 v0_5 v0_0 u_5)) hP hD hS hA [2, 3] [0, 1] [0, 1, 2, 3] rfl rfl rfl (by decide) rfl rfl (va_runV (As := []) (rest := []) ⟨hx, hb, hml, hown, hta⟩ (c_X1_closeLast l dC dI cI H.size a1 v1_0 u_5 hu_5) (cwV 0 hta (ga_V mA724 mA189 mA190 mA6 mA191) rfl rfl rfl (by decide +kernel) ⟨Nat.le_of_ble_eq_true rfl, Nat.le_of_ble_eq_true rfl⟩) ⟨q_fb, va_recv hK hP (ci := 1) (q0 := 2) rfl rfl, q_ps hPc hK hDc⟩ rfl rfl hl.1 rfl (lv_room (Nat.le_of_ble_eq_true rfl)) dX5_readSubpath_124 ⟨Nat.zero_le _, Nat.zero_le _⟩) (fun H locs hP hD hS => ?_)
        obtain rfl := Option.some.inj hF
        exact W.vret hx hb hr (fun t ht hW => ⟨⟨(), rfl, trivial, by rw [ht]; exact hP, va_K.moved hW.alike hK, hD⟩, hS.F ht⟩) hS.2.2 dX5_readSubpath_127
  have j24 : ∀ (v0_2 : Int32) (v0_3 : Int32) (v0_4 : Int32) (v0_5 : Int32) (v1_0 : Nat → Int32) (x2 : Int32), F_X5_readSubpath_j24 n v0_1 v0_2 v0_3 v0_4 v0_5 v0_0 v1_0 x2 = some u → ∀ (H : Heap) (locs : List Loc) (ls : Array Slot), va_P (dC, dI) vwCl (wd_X5_readSubpath cI a0 a1 v0_1 v0_2 v0_3 v0_4 v0_5 v0_0 v1_0) H → va_D A (wd_X5_readSubpath cI a0 a1 v0_1 v0_2 v0_3 v0_4 v0_5 v0_0 v1_0) → va_S A s.heap H locs → lv_has ls 3 [(0, .ref (a0 0)), (1, .ref (a1 0)), (2, .int x2)] → W p l e (headSpec wz_X5_readSubpath rm_X5_readSubpath).room s m [.ref (a0 0), .ref (a1 0)].toArray below meth c H locs 0 0 (MQ below (Q_X5_readSubpath dC dI cI a0 a1 v0_1 v0_0 u A) [.ref (a0 0), .ref (a1 0)].toArray s 0 0 A) (F0 m 24 ls []) := by
    intro v0_2 v0_3 v0_4 v0_5 v1_0 x2 hF H locs ls hP hD hS hl
    unfold F_X5_readSubpath_j24 at hF
    obtain ⟨x_24, hL_24, hE_24⟩ := obd_some hF
    have kl_24 : ∀ (k : Nat) (s24 : Int32 × Int32 × Int32 × Int32 × Int32 × (Nat → Int32)), lpq (F_X5_readSubpath_b24 n v0_1 v0_0) k s24 = some x_24 → ∀ (H : Heap) (locs : List Loc) (ls : Array Slot), va_P (dC, dI) vwCl (wd_X5_readSubpath cI a0 a1 v0_1 s24.2.1 s24.2.2.1 s24.2.2.2.1 s24.2.2.2.2.1 v0_0 s24.2.2.2.2.2) H → va_D A (wd_X5_readSubpath cI a0 a1 v0_1 s24.2.1 s24.2.2.1 s24.2.2.2.1 s24.2.2.2.2.1 v0_0 s24.2.2.2.2.2) → va_S A s.heap H locs → lv_has ls 3 [(0, .ref (a0 0)), (1, .ref (a1 0)), (2, .int s24.1)] → W p l e (headSpec wz_X5_readSubpath rm_X5_readSubpath).room s m [.ref (a0 0), .ref (a1 0)].toArray below meth c H locs 0 0 (MQ below (Q_X5_readSubpath dC dI cI a0 a1 v0_1 v0_0 u A) [.ref (a0 0), .ref (a1 0)].toArray s 0 0 A) (F0 m 24 ls []) := by
      intro k
      induction k with
      | zero => intro s24 h; exact absurd h lpq_zero
      | succ k ih_24 =>
        intro s24 h H locs ls hP hD hS hl
        obtain ⟨o_24, hF, hO_24⟩ := lpq_succ h
        unfold F_X5_readSubpath_b24 at hF
        have j90 : ∀ (v0_2 : Int32) (v0_3 : Int32) (v0_4 : Int32) (v0_5 : Int32) (v1_0 : Nat → Int32) (x2 : Int32), F_X5_readSubpath_j90 v0_2 v0_3 v0_4 v0_5 v1_0 x2 = some o_24 → ∀ (H : Heap) (locs : List Loc) (ls : Array Slot), va_P (dC, dI) vwCl (wd_X5_readSubpath cI a0 a1 v0_1 v0_2 v0_3 v0_4 v0_5 v0_0 v1_0) H → va_D A (wd_X5_readSubpath cI a0 a1 v0_1 v0_2 v0_3 v0_4 v0_5 v0_0 v1_0) → va_S A s.heap H locs → lv_has ls 3 [(0, .ref (a0 0)), (1, .ref (a1 0)), (2, .int x2)] → W p l e (headSpec wz_X5_readSubpath rm_X5_readSubpath).room s m [.ref (a0 0), .ref (a1 0)].toArray below meth c H locs 0 0 (MQ below (Q_X5_readSubpath dC dI cI a0 a1 v0_1 v0_0 u A) [.ref (a0 0), .ref (a1 0)].toArray s 0 0 A) (F0 m 90 ls []) := by
          intro v0_2 v0_3 v0_4 v0_5 v1_0 x2 hF H locs ls hP hD hS hl
          unfold F_X5_readSubpath_j90 at hF
          obtain ⟨y_6, ey_6, hF⟩ := lt_some hF
          refine lv_iinc (v := y_6) (lv' := [(2, .int y_6), (0, .ref (a0 0)), (1, .ref (a1 0))]) hx hb dX5_readSubpath_90 hl (k := 2) rfl (by rw [ey_6]; rfl) (by decide) rfl (fun ls hl => ?_)
          refine lv_goto (tgt := 24) hx hb dX5_readSubpath_93 (by decide) ?_
          obtain rfl := Option.some.inj hF
          exact ih_24 _ hO_24 _ _ _ hP hD hS (lv_sub hl [1, 2, 0] rfl)
        refine lv_iload_n hx hb dX5_readSubpath_24 rfl (lv_at hl 2 rfl) ?_
        refine lv_bipush (v := 8) hx hb dX5_readSubpath_25 (by decide) ?_
        refine lv_icmp_gt (tgt := 96) hx hb dX5_readSubpath_27 (by decide) (fun c_7 => ?_) (fun c_7 => ?_)
        · have hF := it_t hF c_7
          obtain rfl := Option.some.inj hF
          obtain rfl := lpq_x hO_24
          have hF := hE_24
          exact j96 s24.2.1 s24.2.2.1 s24.2.2.2.1 s24.2.2.2.2.1 s24.2.2.2.2.2 hF _ _ _ hP hD hS (lv_sub hl [0, 1] rfl)
        · have hF := it_f hF c_7
          refine lv_aload_n hx hb dX5_readSubpath_30 rfl (lv_at hl 0 rfl) ?_
          refine va_get (D := (dC, dI)) (ci := 4) (v := .int s24.2.2.1) (C := RX5) (T := TX5) (N := 6) hx hb hta uw_X5 hown hK hP 0 rfl rfl 3 (by decide) (hta _ mA691) (fun _ h9 => h9) rfl dX5_readSubpath_31 ?_
          refine lv_iconst (v := (-1)) hx hb dX5_readSubpath_34 (by decide) ?_
          refine lv_icmp_ne (tgt := 96) hx hb dX5_readSubpath_35 (by decide) (fun c_8 => ?_) (fun c_8 => ?_)
          · have hF := it_f hF c_8
            obtain rfl := Option.some.inj hF
            obtain rfl := lpq_x hO_24
            have hF := hE_24
            exact j96 s24.2.1 s24.2.2.1 s24.2.2.2.1 s24.2.2.2.2.1 s24.2.2.2.2.2 hF _ _ _ hP hD hS (lv_sub hl [0, 1] rfl)
          · have hF := it_t hF c_8
            refine lv_aload_n hx hb dX5_readSubpath_38 rfl (lv_at hl 0 rfl) ?_
            obtain ⟨u_9, hu_9, hF⟩ := obd_some hF
            have hPc := hP.sub (ws' := (wd_X5_next cI a0 v0_1 s24.2.1 s24.2.2.1 s24.2.2.2.1 s24.2.2.2.2.1 v0_0)) [0, 1] rfl
            have hDc := hD.sub (ws' := (wd_X5_next cI a0 v0_1 s24.2.1 s24.2.2.1 s24.2.2.2.1 s24.2.2.2.2.1 v0_0)) [0, 1] rfl rfl
            refine q_calli (wc := (wd_X5_next cI a0 v0_1 s24.2.1 s24.2.2.1 s24.2.2.2.1 s24.2.2.2.2.1 v0_0)) (w1 := (wd_X5_next cI a0 v0_1 s24.2.1 s24.2.2.1 s24.2.2.2.1 s24.2.2.2.2.1 v0_0)) (ws' := (wd_X5_readSubpath cI a0 a1 v0_1 s24.2.1 s24.2.2.1 s24.2.2.2.1 s24.2.2.2.2.1 v0_0 s24.2.2.2.2.2)) hP hD hS hA [0, 1] [2, 3] [2, 3, 0, 1] rfl rfl rfl (by decide) rfl rfl (va_runV (As := []) (rest := []) ⟨hx, hb, hml, hown, hta⟩ (c_X5_next l dC dI cI H.size a0 v0_1 s24.2.1 s24.2.2.1 s24.2.2.2.1 s24.2.2.2.2.1 v0_0 u_9 hu_9) (cwV 0 hta (ga_V mA706 mA707 mA708 mA15 mA709) rfl rfl rfl (by decide +kernel) ⟨Nat.le_of_ble_eq_true rfl, Nat.le_of_ble_eq_true rfl⟩) ⟨q_fb, va_recv hK hP (ci := 4) (q0 := 0) rfl rfl, q_ps hPc hK hDc⟩ rfl rfl hl.1 rfl (lv_room (Nat.le_of_ble_eq_true rfl)) dX5_readSubpath_39 ⟨Nat.zero_le _, Nat.zero_le _⟩) (fun H locs hP hD hS => ?_)
            refine lv_bipush (v := 76) hx hb dX5_readSubpath_42 (by decide) ?_
            refine lv_icmp_ne (tgt := 96) hx hb dX5_readSubpath_44 (by decide) (fun c_10 => ?_) (fun c_10 => ?_)
            · have hF := it_f hF c_10
              obtain rfl := Option.some.inj hF
              obtain rfl := lpq_x hO_24
              have hF := hE_24
              exact j96 s24.2.1 s24.2.2.1 s24.2.2.2.1 s24.2.2.2.2.1 s24.2.2.2.2.2 hF _ _ _ hP hD hS (lv_sub hl [0, 1] rfl)
            · have hF := it_t hF c_10
              refine lv_iload_n hx hb dX5_readSubpath_47 rfl (lv_at hl 2 rfl) ?_
              refine lv_bipush (v := 8) hx hb dX5_readSubpath_48 (by decide) ?_
              refine lv_icmp_ge (tgt := 82) hx hb dX5_readSubpath_50 (by decide) (fun c_11 => ?_) (fun c_11 => ?_)
              · have hF := it_t hF c_11
                refine lv_aload_n hx hb dX5_readSubpath_82 rfl (lv_at hl 0 rfl) ?_
                refine lv_aload_n hx hb dX5_readSubpath_83 rfl (lv_at hl 0 rfl) ?_
                refine va_get (D := (dC, dI)) (ci := 4) (v := .int s24.2.1) (C := RX5) (T := TX5) (N := 6) hx hb hta uw_X5 hown hK hP 0 rfl rfl 2 (by decide) (hta _ mA690) (fun _ h9 => h9) rfl dX5_readSubpath_84 ?_
                refine va_put (D := (dC, dI)) (ci := 4) (v := .int s24.2.1) (ty := .int) (C := RX5) (T := TX5) (N := 6) hx hb hta uw_X5 tyX5 tyX5_ok nmX5 hown hK hP hD hS 0 rfl rfl 3 (by decide) (hta _ mA691) (fun _ h9 => h9) rfl (by decide +kernel) rfl rfl (Nat.le_of_ble_eq_true rfl) dX5_readSubpath_87 (fun H locs hP hD hS => ?_)
                have hP : va_P (dC, dI) vwCl (wd_X5_readSubpath cI a0 a1 v0_1 s24.2.1 s24.2.1 s24.2.2.2.1 s24.2.2.2.2.1 v0_0 s24.2.2.2.2.2) H := hP
                have hD : va_D A (wd_X5_readSubpath cI a0 a1 v0_1 s24.2.1 s24.2.1 s24.2.2.2.1 s24.2.2.2.2.1 v0_0 s24.2.2.2.2.2) := hD
                exact j90 s24.2.1 s24.2.1 s24.2.2.2.1 s24.2.2.2.2.1 s24.2.2.2.2.2 s24.1 hF _ _ _ hP hD hS (lv_sub hl [0, 1, 2] rfl)
              · have hF := it_f hF c_11
                refine lv_aload_n hx hb dX5_readSubpath_53 rfl (lv_at hl 0 rfl) ?_
                refine lv_dup hx hb dX5_readSubpath_54 rfl ?_
                refine va_get (D := (dC, dI)) (ci := 4) (v := .int s24.2.1) (C := RX5) (T := TX5) (N := 6) hx hb hta uw_X5 hown hK hP 0 rfl rfl 2 (by decide) (hta _ mA690) (fun _ h9 => h9) rfl dX5_readSubpath_55 ?_
                refine lv_iconst (v := 1) hx hb dX5_readSubpath_58 (by decide) ?_
                refine lv_iadd hx hb dX5_readSubpath_59 ?_
                obtain ⟨y_12, ey_12, hF⟩ := lt_some hF
                refine lv_eqi ey_12 ?_
                refine va_put (D := (dC, dI)) (ci := 4) (v := .int y_12) (ty := .int) (C := RX5) (T := TX5) (N := 6) hx hb hta uw_X5 tyX5 tyX5_ok nmX5 hown hK hP hD hS 0 rfl rfl 2 (by decide) (hta _ mA690) (fun _ h9 => h9) rfl (by decide +kernel) rfl rfl (Nat.le_of_ble_eq_true rfl) dX5_readSubpath_60 (fun H locs hP hD hS => ?_)
                have hP : va_P (dC, dI) vwCl (wd_X5_readSubpath cI a0 a1 v0_1 y_12 s24.2.2.1 s24.2.2.2.1 s24.2.2.2.2.1 v0_0 s24.2.2.2.2.2) H := hP
                have hD : va_D A (wd_X5_readSubpath cI a0 a1 v0_1 y_12 s24.2.2.1 s24.2.2.2.1 s24.2.2.2.2.1 v0_0 s24.2.2.2.2.2) := hD
                refine lv_aload_n hx hb dX5_readSubpath_63 rfl (lv_at hl 0 rfl) ?_
                obtain ⟨u_13, hu_13, hF⟩ := obd_some hF
                have hPc := hP.sub (ws' := (wd_X5_readPoint cI a0 v0_1 y_12 s24.2.2.1 s24.2.2.2.1 s24.2.2.2.2.1 v0_0)) [0, 1] rfl
                have hDc := hD.sub (ws' := (wd_X5_readPoint cI a0 v0_1 y_12 s24.2.2.1 s24.2.2.2.1 s24.2.2.2.2.1 v0_0)) [0, 1] rfl rfl
                refine q_callv (wc := (wd_X5_readPoint cI a0 v0_1 y_12 s24.2.2.1 s24.2.2.2.1 s24.2.2.2.2.1 v0_0)) (w1 := (wd_X5_readPoint cI a0 v0_1 u_13.1 u_13.2.1 u_13.2.2.1 u_13.2.2.2 v0_0)) (ws' := (wd_X5_readSubpath cI a0 a1 v0_1 u_13.1 u_13.2.1 u_13.2.2.1 u_13.2.2.2 v0_0 s24.2.2.2.2.2)) hP hD hS hA [0, 1] [2, 3] [2, 3, 0, 1] rfl rfl rfl (by decide) rfl rfl (va_runV (As := []) (rest := []) ⟨hx, hb, hml, hown, hta⟩ (c_X5_readPoint l dC dI cI H.size a0 v0_1 y_12 s24.2.2.1 s24.2.2.2.1 s24.2.2.2.2.1 v0_0 n u_13 hu_13) (cwV 0 hta (ga_V mA711 mA712 mA713 mA15 mA714) rfl rfl rfl (by decide +kernel) ⟨Nat.le_of_ble_eq_true rfl, Nat.le_of_ble_eq_true rfl⟩) ⟨q_fb, va_recv hK hP (ci := 4) (q0 := 0) rfl rfl, q_ps hPc hK hDc⟩ rfl rfl hl.1 rfl (lv_room (Nat.le_of_ble_eq_true rfl)) dX5_readSubpath_64 ⟨Nat.zero_le _, Nat.zero_le _⟩) (fun H locs hP hD hS => ?_)
                refine lv_aload_n hx hb dX5_readSubpath_67 rfl (lv_at hl 1 rfl) ?_
                refine lv_aload_n hx hb dX5_readSubpath_68 rfl (lv_at hl 0 rfl) ?_
                refine va_get (D := (dC, dI)) (ci := 4) (v := .int u_13.2.2.1) (C := RX5) (T := TX5) (N := 6) hx hb hta uw_X5 hown hK hP 0 rfl rfl 4 (by decide) (hta _ mA700) (fun _ h9 => h9) rfl dX5_readSubpath_69 ?_
                refine lv_aload_n hx hb dX5_readSubpath_72 rfl (lv_at hl 0 rfl) ?_
                refine va_get (D := (dC, dI)) (ci := 4) (v := .int u_13.2.2.2) (C := RX5) (T := TX5) (N := 6) hx hb hta uw_X5 hown hK hP 0 rfl rfl 5 (by decide) (hta _ mA701) (fun _ h9 => h9) rfl dX5_readSubpath_73 ?_
                obtain ⟨u_14, hu_14, hF⟩ := obd_some hF
                have hPc := hP.sub (ws' := (wd_X1_addPoint cI a1 s24.2.2.2.2.2)) [2, 3] rfl
                have hDc := hD.sub (ws' := (wd_X1_addPoint cI a1 s24.2.2.2.2.2)) [2, 3] rfl rfl
                refine q_callv (wc := (wd_X1_addPoint cI a1 s24.2.2.2.2.2)) (w1 := (wd_X1_addPoint cI a1 u_14)) (ws' := (wd_X5_readSubpath cI a0 a1 v0_1 u_13.1 u_13.2.1 u_13.2.2.1 u_13.2.2.2 v0_0 u_14)) hP hD hS hA [2, 3] [0, 1] [0, 1, 2, 3] rfl rfl rfl (by decide) rfl rfl (va_runV (As := [.int u_13.2.2.1, .int u_13.2.2.2]) (rest := []) ⟨hx, hb, hml, hown, hta⟩ (c_X1_addPoint l dC dI cI H.size a1 s24.2.2.2.2.2 u_13.2.2.1 u_13.2.2.2 u_14 hu_14) (cwV 2 hta (ga_V mA723 mA161 mA162 mA6 mA163) rfl rfl rfl (by decide +kernel) ⟨Nat.le_of_ble_eq_true rfl, Nat.le_of_ble_eq_true rfl⟩) ⟨q_fb, va_recv hK hP (ci := 1) (q0 := 2) rfl rfl, q_ps hPc hK hDc⟩ rfl rfl hl.1 rfl (lv_room (Nat.le_of_ble_eq_true rfl)) dX5_readSubpath_76 ⟨Nat.zero_le _, Nat.zero_le _⟩) (fun H locs hP hD hS => ?_)
                refine lv_goto (tgt := 90) hx hb dX5_readSubpath_79 (by decide) ?_
                exact j90 u_13.1 u_13.2.1 u_13.2.2.1 u_13.2.2.2 u_14 s24.1 hF _ _ _ hP hD hS (lv_sub hl [0, 1, 2] rfl)
    exact kl_24 n _ hL_24 _ _ _ hP hD hS hl
  refine lv_aload_n hx hb dX5_readSubpath_0 rfl (lv_at hl 0 rfl) ?_
  refine lv_bipush (v := 77) hx hb dX5_readSubpath_1 (by decide) ?_
  obtain ⟨u_15, hu_15, hF⟩ := obd_some hF
  have hPc := hP.sub (ws' := (wd_X5_expect cI a0 v0_1 v0_2 v0_3 v0_4 v0_5 v0_0)) [0, 1] rfl
  have hDc := hD.sub (ws' := (wd_X5_expect cI a0 v0_1 v0_2 v0_3 v0_4 v0_5 v0_0)) [0, 1] rfl rfl
  refine q_callv (wc := (wd_X5_expect cI a0 v0_1 v0_2 v0_3 v0_4 v0_5 v0_0)) (w1 := (wd_X5_expect cI a0 v0_1 u_15.1 u_15.2 v0_4 v0_5 v0_0)) (ws' := (wd_X5_readSubpath cI a0 a1 v0_1 u_15.1 u_15.2 v0_4 v0_5 v0_0 v1_0)) hP hD hS hA [0, 1] [2, 3] [2, 3, 0, 1] rfl rfl rfl (by decide) rfl rfl (va_runV (As := [.int 77]) (rest := []) ⟨hx, hb, hml, hown, hta⟩ (c_X5_expect l dC dI cI H.size a0 v0_1 v0_2 v0_3 v0_4 v0_5 v0_0 77 u_15 hu_15) (cwV 1 hta (ga_V mA702 mA703 mA704 mA15 mA705) rfl rfl rfl (by decide +kernel) ⟨Nat.le_of_ble_eq_true rfl, Nat.le_of_ble_eq_true rfl⟩) ⟨q_fb, va_recv hK hP (ci := 4) (q0 := 0) rfl rfl, q_ps hPc hK hDc⟩ rfl rfl hl.1 rfl (lv_room (Nat.le_of_ble_eq_true rfl)) dX5_readSubpath_3 ⟨Nat.zero_le _, Nat.zero_le _⟩) (fun H locs hP hD hS => ?_)
  refine lv_aload_n hx hb dX5_readSubpath_6 rfl (lv_at hl 0 rfl) ?_
  obtain ⟨u_16, hu_16, hF⟩ := obd_some hF
  have hPc := hP.sub (ws' := (wd_X5_readPoint cI a0 v0_1 u_15.1 u_15.2 v0_4 v0_5 v0_0)) [0, 1] rfl
  have hDc := hD.sub (ws' := (wd_X5_readPoint cI a0 v0_1 u_15.1 u_15.2 v0_4 v0_5 v0_0)) [0, 1] rfl rfl
  refine q_callv (wc := (wd_X5_readPoint cI a0 v0_1 u_15.1 u_15.2 v0_4 v0_5 v0_0)) (w1 := (wd_X5_readPoint cI a0 v0_1 u_16.1 u_16.2.1 u_16.2.2.1 u_16.2.2.2 v0_0)) (ws' := (wd_X5_readSubpath cI a0 a1 v0_1 u_16.1 u_16.2.1 u_16.2.2.1 u_16.2.2.2 v0_0 v1_0)) hP hD hS hA [0, 1] [2, 3] [2, 3, 0, 1] rfl rfl rfl (by decide) rfl rfl (va_runV (As := []) (rest := []) ⟨hx, hb, hml, hown, hta⟩ (c_X5_readPoint l dC dI cI H.size a0 v0_1 u_15.1 u_15.2 v0_4 v0_5 v0_0 n u_16 hu_16) (cwV 0 hta (ga_V mA711 mA712 mA713 mA15 mA714) rfl rfl rfl (by decide +kernel) ⟨Nat.le_of_ble_eq_true rfl, Nat.le_of_ble_eq_true rfl⟩) ⟨q_fb, va_recv hK hP (ci := 4) (q0 := 0) rfl rfl, q_ps hPc hK hDc⟩ rfl rfl hl.1 rfl (lv_room (Nat.le_of_ble_eq_true rfl)) dX5_readSubpath_7 ⟨Nat.zero_le _, Nat.zero_le _⟩) (fun H locs hP hD hS => ?_)
  refine lv_aload_n hx hb dX5_readSubpath_10 rfl (lv_at hl 1 rfl) ?_
  refine lv_aload_n hx hb dX5_readSubpath_11 rfl (lv_at hl 0 rfl) ?_
  refine va_get (D := (dC, dI)) (ci := 4) (v := .int u_16.2.2.1) (C := RX5) (T := TX5) (N := 6) hx hb hta uw_X5 hown hK hP 0 rfl rfl 4 (by decide) (hta _ mA700) (fun _ h9 => h9) rfl dX5_readSubpath_12 ?_
  refine lv_aload_n hx hb dX5_readSubpath_15 rfl (lv_at hl 0 rfl) ?_
  refine va_get (D := (dC, dI)) (ci := 4) (v := .int u_16.2.2.2) (C := RX5) (T := TX5) (N := 6) hx hb hta uw_X5 hown hK hP 0 rfl rfl 5 (by decide) (hta _ mA701) (fun _ h9 => h9) rfl dX5_readSubpath_16 ?_
  obtain ⟨u_17, hu_17, hF⟩ := obd_some hF
  have hPc := hP.sub (ws' := (wd_X1_startSubpath cI a1 v1_0)) [2, 3] rfl
  have hDc := hD.sub (ws' := (wd_X1_startSubpath cI a1 v1_0)) [2, 3] rfl rfl
  refine q_callv (wc := (wd_X1_startSubpath cI a1 v1_0)) (w1 := (wd_X1_startSubpath cI a1 u_17)) (ws' := (wd_X5_readSubpath cI a0 a1 v0_1 u_16.1 u_16.2.1 u_16.2.2.1 u_16.2.2.2 v0_0 u_17)) hP hD hS hA [2, 3] [0, 1] [0, 1, 2, 3] rfl rfl rfl (by decide) rfl rfl (va_runV (As := [.int u_16.2.2.1, .int u_16.2.2.2]) (rest := []) ⟨hx, hb, hml, hown, hta⟩ (c_X1_startSubpath l dC dI cI H.size a1 v1_0 u_16.2.2.1 u_16.2.2.2 u_17 hu_17) (cwV 2 hta (ga_V mA722 mA149 mA150 mA6 mA151) rfl rfl rfl (by decide +kernel) ⟨Nat.le_of_ble_eq_true rfl, Nat.le_of_ble_eq_true rfl⟩) ⟨q_fb, va_recv hK hP (ci := 1) (q0 := 2) rfl rfl, q_ps hPc hK hDc⟩ rfl rfl hl.1 rfl (lv_room (Nat.le_of_ble_eq_true rfl)) dX5_readSubpath_19 ⟨Nat.zero_le _, Nat.zero_le _⟩) (fun H locs hP hD hS => ?_)
  refine lv_iconst (v := 1) hx hb dX5_readSubpath_22 (by decide) ?_
  refine lv_istore_n (lv' := [(2, .int 1), (0, .ref (a0 0)), (1, .ref (a1 0))]) hx hb dX5_readSubpath_23 rfl hl (by decide) rfl (fun ls hl => ?_)
  exact j24 u_16.1 u_16.2.1 u_16.2.2.1 u_16.2.2.2 u_17 1 hF _ _ _ hP hD hS (lv_sub hl [1, 2, 0] rfl)

-- StrokeOutliner$PathText.readPath(LStrokeOutliner$Drawing;)I
def F_X5_readPath_j67 (v0_2 : Int32) (v0_3 : Int32) (v0_4 : Int32) (v0_5 : Int32) (v1_0 : Nat → Int32) : Option (Int32 × Int32 × Int32 × Int32 × Int32 × (Nat → Int32)) :=
  some (v0_3, v0_2, v0_3, v0_4, v0_5, v1_0)
def F_X5_readPath_j61 (v0_2 : Int32) (v0_3 : Int32) (v0_4 : Int32) (v0_5 : Int32) (v1_0 : Nat → Int32) (x2 : Int32) : Option (Sum (Int32 × Int32 × Int32 × Int32 × Int32 × (Nat → Int32)) (Int32 × Int32 × Int32 × Int32 × (Nat → Int32))) :=
  lt (x2 + 1) (fun y_1 => some (.inl (y_1, v0_2, v0_3, v0_4, v0_5, v1_0)))
def F_X5_readPath_b16 (n : Nat) (v0_1 : Int32) (v0_0 : Nat → Int32) (s16 : Int32 × Int32 × Int32 × Int32 × Int32 × (Nat → Int32)) : Option (Sum (Int32 × Int32 × Int32 × Int32 × Int32 × (Nat → Int32)) (Int32 × Int32 × Int32 × Int32 × (Nat → Int32))) :=
  if 4 < s16.1 then some (.inr (s16.2.1, s16.2.2.1, s16.2.2.2.1, s16.2.2.2.2.1, s16.2.2.2.2.2)) else if s16.2.2.1 = (-1) then if v0_1 ≤ s16.2.1 then some (.inr (s16.2.1, s16.2.2.1, s16.2.2.2.1, s16.2.2.2.2.1, s16.2.2.2.2.2)) else if 4 ≤ s16.1 then F_X5_readPath_j61 s16.2.1 s16.2.1 s16.2.2.2.1 s16.2.2.2.2.1 s16.2.2.2.2.2 s16.1 else obd (F_X5_readSubpath n v0_1 s16.2.1 s16.2.2.1 v0_0 s16.2.2.2.2.2) (fun u_6 => F_X5_readPath_j61 u_6.1 u_6.2.1 u_6.2.2.1 u_6.2.2.2.1 u_6.2.2.2.2 s16.1) else some (.inr (s16.2.1, s16.2.2.1, s16.2.2.2.1, s16.2.2.2.2.1, s16.2.2.2.2.2))
def F_X5_readPath_j16 (n : Nat) (v0_1 : Int32) (v0_2 : Int32) (v0_3 : Int32) (v0_4 : Int32) (v0_5 : Int32) (v0_0 : Nat → Int32) (v1_0 : Nat → Int32) (x2 : Int32) : Option (Int32 × Int32 × Int32 × Int32 × Int32 × (Nat → Int32)) :=
  obd (lpq (F_X5_readPath_b16 n v0_1 v0_0) n (x2, v0_2, v0_3, v0_4, v0_5, v1_0)) (fun x_16 => F_X5_readPath_j67 x_16.1 x_16.2.1 x_16.2.2.1 x_16.2.2.2.1 x_16.2.2.2.2)
def F_X5_readPath (n : Nat) (v0_1 : Int32) (v0_4 : Int32) (v0_5 : Int32) (v0_0 : Nat → Int32) (v1_0 : Nat → Int32) : Option (Int32 × Int32 × Int32 × Int32 × Int32 × (Nat → Int32)) :=
  obd (F_X1_clearPath v1_0) (fun u_7 => F_X5_readPath_j16 n v0_1 0 (-1) v0_4 v0_5 v0_0 u_7 0)
abbrev wd_X5_readPath (cI : ClassId) (a0 : Nat → Nat) (a1 : Nat → Nat) (v0_1 : Int32) (v0_2 : Int32) (v0_3 : Int32) (v0_4 : Int32) (v0_5 : Int32) (v0_0 : Nat → Int32) (v1_0 : Nat → Int32) : va_W := [(a0 0, .inr (4, [.ref (a0 1), .int v0_1, .int v0_2, .int v0_3, .int v0_4, .int v0_5])), (a0 1, .inl (cI, 150, .inl v0_0)), (a1 0, .inr (1, [.ref (a1 1)])), (a1 1, .inl (cI, 86, .inl v1_0))]
abbrev wz_X5_readPath : List Cond := .code yX5_readPath cX5_readPath 3 (some .int) :: wALL
abbrev rm_X5_readPath : Room := { frames := 5, cells := 0, slots := 0, locals := 115 }
abbrev Q_X5_readPath (dC : Nat → ClassId) (dI : Nat → Nat → Nat) (cI : ClassId) (a0 : Nat → Nat) (a1 : Nat → Nat) (v0_1 : Int32) (v0_0 : Nat → Int32) (u : (Int32 × Int32 × Int32 × Int32 × Int32 × (Nat → Int32))) (A : Nat → Prop) : Array Value → State → Outcome → State → Prop := va_Qi (fun (r : Int32) (_ : Unit) => r = u.1) (fun _ => q_at dC dI cI A (wd_X5_readPath cI a0 a1 v0_1 u.2.1 u.2.2.1 u.2.2.2.1 u.2.2.2.2.1 v0_0 u.2.2.2.2.2)) A
set_option maxHeartbeats 4000000 in
set_option maxRecDepth 100000 in
theorem c_X5_readPath (l : Launch) (dC : Nat → ClassId) (dI : Nat → Nat → Nat) (cI : ClassId) (sz : Nat) (a0 : Nat → Nat) (a1 : Nat → Nat) (v0_1 : Int32) (v0_2 : Int32) (v0_3 : Int32) (v0_4 : Int32) (v0_5 : Int32) (v0_0 : Nat → Int32) (v1_0 : Nat → Int32) (n : Nat) (u : (Int32 × Int32 × Int32 × Int32 × Int32 × (Nat → Int32))) (hF : F_X5_readPath n v0_1 v0_4 v0_5 v0_0 v1_0 = some u) : Met l yX5_readPath wz_X5_readPath rm_X5_readPath (va_Pc [.ref (a0 0), .ref (a1 0)] (q_pre dC dI cI (wd_X5_readPath cI a0 a1 v0_1 v0_2 v0_3 v0_4 v0_5 v0_0 v1_0) sz)) (Q_X5_readPath dC dI cI a0 a1 v0_1 v0_0 u (va_A (wd_X5_readPath cI a0 a1 v0_1 v0_2 v0_3 v0_4 v0_5 v0_0 v1_0) sz)) 0 0 (va_A (wd_X5_readPath cI a0 a1 v0_1 v0_2 v0_3 v0_4 v0_5 v0_0 v1_0) sz) := by
  refine Met.ofW (cc := cX5_readPath) (maxL := 3) (ret := (some .int)) (by decide) rfl ?_
  intro p e s m args below meth c s₁ B hml hv
  obtain ⟨rfl, hsz, hP, hK, hD0⟩ := hv
  have hx := B.exec
  have hb := B.bytes
  have hr := B.returns
  have hts := atoms_spec (ws := wz_X5_readPath) B.pre
  have hta := wz_tl hts
  have hown : s.vm.findClass RX5 = some m.cls := findClass_of_methodNamed B.named
  have hlocks := B.notSynchronized
  subst hsz
  have hD := hD0.self (sz := s.heap.size)
  generalize hAe : va_A (wd_X5_readPath cI a0 a1 v0_1 v0_2 v0_3 v0_4 v0_5 v0_0 v1_0) s.heap.size = A at hD ⊢
  have hA : ∀ q : Nat, s.heap.size ≤ q → A q := fun q h => by rw [← hAe]; exact Or.inr h
  have hS : va_S A s.heap s.heap [] := va_S.rf
  have hP : va_P (dC, dI) vwCl (wd_X5_readPath cI a0 a1 v0_1 v0_2 v0_3 v0_4 v0_5 v0_0 v1_0) s.heap := hP
  have hl := lv_entry ([.ref (a0 0), .ref (a1 0)]) (n := 3) (Nat.le_of_ble_eq_true rfl)
  rw [lg_entry_eq]
  generalize (lg_sl ([.ref (a0 0), .ref (a1 0)]) ++ List.replicate (3 - (lg_sl ([.ref (a0 0), .ref (a1 0)])).length) Slot.unset).toArray = ls at hl ⊢
  have hl : lv_has ls 3 [(0, .ref (a0 0)), (1, .ref (a1 0))] := hl
  obtain ⟨H, hHe⟩ : ∃ H, H = s.heap := ⟨_, rfl⟩
  have hS : va_S A s.heap H [] := by rw [hHe]; exact hS
  have hP : va_P (dC, dI) vwCl (wd_X5_readPath cI a0 a1 v0_1 v0_2 v0_3 v0_4 v0_5 v0_0 v1_0) H := by rw [hHe]; exact hP
  rw [← hHe]
  unfold F_X5_readPath at hF
  have j67 : ∀ (v0_2 : Int32) (v0_3 : Int32) (v0_4 : Int32) (v0_5 : Int32) (v1_0 : Nat → Int32), F_X5_readPath_j67 v0_2 v0_3 v0_4 v0_5 v1_0 = some u → ∀ (H : Heap) (locs : List Loc) (ls : Array Slot), va_P (dC, dI) vwCl (wd_X5_readPath cI a0 a1 v0_1 v0_2 v0_3 v0_4 v0_5 v0_0 v1_0) H → va_D A (wd_X5_readPath cI a0 a1 v0_1 v0_2 v0_3 v0_4 v0_5 v0_0 v1_0) → va_S A s.heap H locs → lv_has ls 3 [(0, .ref (a0 0))] → W p l e (headSpec wz_X5_readPath rm_X5_readPath).room s m [.ref (a0 0), .ref (a1 0)].toArray below meth c H locs 0 0 (MQ below (Q_X5_readPath dC dI cI a0 a1 v0_1 v0_0 u A) [.ref (a0 0), .ref (a1 0)].toArray s 0 0 A) (F0 m 67 ls []) := by
    intro v0_2 v0_3 v0_4 v0_5 v1_0 hF H locs ls hP hD hS hl
    unfold F_X5_readPath_j67 at hF
    refine lv_aload_n hx hb dX5_readPath_67 rfl (lv_at hl 0 rfl) ?_
    refine va_get (D := (dC, dI)) (ci := 4) (v := .int v0_3) (C := RX5) (T := TX5) (N := 6) hx hb hta uw_X5 hown hK hP 0 rfl rfl 3 (by decide) (hta _ mA691) (fun _ h9 => h9) rfl dX5_readPath_68 ?_
    obtain rfl := Option.some.inj hF
    exact W.iret (v := v0_3) hx hb hr (fun t ht hW => ⟨⟨v0_3, (), rfl, rfl, by rw [ht]; exact hP, va_K.moved hW.alike hK, hD⟩, hS.F ht⟩) hS.2.2 dX5_readPath_71
  have j16 : ∀ (v0_2 : Int32) (v0_3 : Int32) (v0_4 : Int32) (v0_5 : Int32) (v1_0 : Nat → Int32) (x2 : Int32), F_X5_readPath_j16 n v0_1 v0_2 v0_3 v0_4 v0_5 v0_0 v1_0 x2 = some u → ∀ (H : Heap) (locs : List Loc) (ls : Array Slot), va_P (dC, dI) vwCl (wd_X5_readPath cI a0 a1 v0_1 v0_2 v0_3 v0_4 v0_5 v0_0 v1_0) H → va_D A (wd_X5_readPath cI a0 a1 v0_1 v0_2 v0_3 v0_4 v0_5 v0_0 v1_0) → va_S A s.heap H locs → lv_has ls 3 [(0, .ref (a0 0)), (1, .ref (a1 0)), (2, .int x2)] → W p l e (headSpec wz_X5_readPath rm_X5_readPath).room s m [.ref (a0 0), .ref (a1 0)].toArray below meth c H locs 0 0 (MQ below (Q_X5_readPath dC dI cI a0 a1 v0_1 v0_0 u A) [.ref (a0 0), .ref (a1 0)].toArray s 0 0 A) (F0 m 16 ls []) := by
    intro v0_2 v0_3 v0_4 v0_5 v1_0 x2 hF H locs ls hP hD hS hl
    unfold F_X5_readPath_j16 at hF
    obtain ⟨x_16, hL_16, hE_16⟩ := obd_some hF
    have kl_16 : ∀ (k : Nat) (s16 : Int32 × Int32 × Int32 × Int32 × Int32 × (Nat → Int32)), lpq (F_X5_readPath_b16 n v0_1 v0_0) k s16 = some x_16 → ∀ (H : Heap) (locs : List Loc) (ls : Array Slot), va_P (dC, dI) vwCl (wd_X5_readPath cI a0 a1 v0_1 s16.2.1 s16.2.2.1 s16.2.2.2.1 s16.2.2.2.2.1 v0_0 s16.2.2.2.2.2) H → va_D A (wd_X5_readPath cI a0 a1 v0_1 s16.2.1 s16.2.2.1 s16.2.2.2.1 s16.2.2.2.2.1 v0_0 s16.2.2.2.2.2) → va_S A s.heap H locs → lv_has ls 3 [(0, .ref (a0 0)), (1, .ref (a1 0)), (2, .int s16.1)] → W p l e (headSpec wz_X5_readPath rm_X5_readPath).room s m [.ref (a0 0), .ref (a1 0)].toArray below meth c H locs 0 0 (MQ below (Q_X5_readPath dC dI cI a0 a1 v0_1 v0_0 u A) [.ref (a0 0), .ref (a1 0)].toArray s 0 0 A) (F0 m 16 ls []) := by
      intro k
      induction k with
      | zero => intro s16 h; exact absurd h lpq_zero
      | succ k ih_16 =>
        intro s16 h H locs ls hP hD hS hl
        obtain ⟨o_16, hF, hO_16⟩ := lpq_succ h
        unfold F_X5_readPath_b16 at hF
        have j61 : ∀ (v0_2 : Int32) (v0_3 : Int32) (v0_4 : Int32) (v0_5 : Int32) (v1_0 : Nat → Int32) (x2 : Int32), F_X5_readPath_j61 v0_2 v0_3 v0_4 v0_5 v1_0 x2 = some o_16 → ∀ (H : Heap) (locs : List Loc) (ls : Array Slot), va_P (dC, dI) vwCl (wd_X5_readPath cI a0 a1 v0_1 v0_2 v0_3 v0_4 v0_5 v0_0 v1_0) H → va_D A (wd_X5_readPath cI a0 a1 v0_1 v0_2 v0_3 v0_4 v0_5 v0_0 v1_0) → va_S A s.heap H locs → lv_has ls 3 [(0, .ref (a0 0)), (1, .ref (a1 0)), (2, .int x2)] → W p l e (headSpec wz_X5_readPath rm_X5_readPath).room s m [.ref (a0 0), .ref (a1 0)].toArray below meth c H locs 0 0 (MQ below (Q_X5_readPath dC dI cI a0 a1 v0_1 v0_0 u A) [.ref (a0 0), .ref (a1 0)].toArray s 0 0 A) (F0 m 61 ls []) := by
          intro v0_2 v0_3 v0_4 v0_5 v1_0 x2 hF H locs ls hP hD hS hl
          unfold F_X5_readPath_j61 at hF
          obtain ⟨y_1, ey_1, hF⟩ := lt_some hF
          refine lv_iinc (v := y_1) (lv' := [(2, .int y_1), (0, .ref (a0 0)), (1, .ref (a1 0))]) hx hb dX5_readPath_61 hl (k := 2) rfl (by rw [ey_1]; rfl) (by decide) rfl (fun ls hl => ?_)
          refine lv_goto (tgt := 16) hx hb dX5_readPath_64 (by decide) ?_
          obtain rfl := Option.some.inj hF
          exact ih_16 _ hO_16 _ _ _ hP hD hS (lv_sub hl [1, 2, 0] rfl)
        refine lv_iload_n hx hb dX5_readPath_16 rfl (lv_at hl 2 rfl) ?_
        refine lv_iconst (v := 4) hx hb dX5_readPath_17 (by decide) ?_
        refine lv_icmp_gt (tgt := 67) hx hb dX5_readPath_18 (by decide) (fun c_2 => ?_) (fun c_2 => ?_)
        · have hF := it_t hF c_2
          obtain rfl := Option.some.inj hF
          obtain rfl := lpq_x hO_16
          have hF := hE_16
          exact j67 s16.2.1 s16.2.2.1 s16.2.2.2.1 s16.2.2.2.2.1 s16.2.2.2.2.2 hF _ _ _ hP hD hS (lv_sub hl [0] rfl)
        · have hF := it_f hF c_2
          refine lv_aload_n hx hb dX5_readPath_21 rfl (lv_at hl 0 rfl) ?_
          refine va_get (D := (dC, dI)) (ci := 4) (v := .int s16.2.2.1) (C := RX5) (T := TX5) (N := 6) hx hb hta uw_X5 hown hK hP 0 rfl rfl 3 (by decide) (hta _ mA691) (fun _ h9 => h9) rfl dX5_readPath_22 ?_
          refine lv_iconst (v := (-1)) hx hb dX5_readPath_25 (by decide) ?_
          refine lv_icmp_ne (tgt := 67) hx hb dX5_readPath_26 (by decide) (fun c_3 => ?_) (fun c_3 => ?_)
          · have hF := it_f hF c_3
            obtain rfl := Option.some.inj hF
            obtain rfl := lpq_x hO_16
            have hF := hE_16
            exact j67 s16.2.1 s16.2.2.1 s16.2.2.2.1 s16.2.2.2.2.1 s16.2.2.2.2.2 hF _ _ _ hP hD hS (lv_sub hl [0] rfl)
          · have hF := it_t hF c_3
            refine lv_aload_n hx hb dX5_readPath_29 rfl (lv_at hl 0 rfl) ?_
            refine va_get (D := (dC, dI)) (ci := 4) (v := .int s16.2.1) (C := RX5) (T := TX5) (N := 6) hx hb hta uw_X5 hown hK hP 0 rfl rfl 2 (by decide) (hta _ mA690) (fun _ h9 => h9) rfl dX5_readPath_30 ?_
            refine lv_aload_n hx hb dX5_readPath_33 rfl (lv_at hl 0 rfl) ?_
            refine va_get (D := (dC, dI)) (ci := 4) (v := .int v0_1) (C := RX5) (T := TX5) (N := 6) hx hb hta uw_X5 hown hK hP 0 rfl rfl 1 (by decide) (hta _ mA671) (fun _ h9 => h9) rfl dX5_readPath_34 ?_
            refine lv_icmp_ge (tgt := 67) hx hb dX5_readPath_37 (by decide) (fun c_4 => ?_) (fun c_4 => ?_)
            · have hF := it_t hF c_4
              obtain rfl := Option.some.inj hF
              obtain rfl := lpq_x hO_16
              have hF := hE_16
              exact j67 s16.2.1 s16.2.2.1 s16.2.2.2.1 s16.2.2.2.2.1 s16.2.2.2.2.2 hF _ _ _ hP hD hS (lv_sub hl [0] rfl)
            · have hF := it_f hF c_4
              refine lv_iload_n hx hb dX5_readPath_40 rfl (lv_at hl 2 rfl) ?_
              refine lv_iconst (v := 4) hx hb dX5_readPath_41 (by decide) ?_
              refine lv_icmp_ge (tgt := 53) hx hb dX5_readPath_42 (by decide) (fun c_5 => ?_) (fun c_5 => ?_)
              · have hF := it_t hF c_5
                refine lv_aload_n hx hb dX5_readPath_53 rfl (lv_at hl 0 rfl) ?_
                refine lv_aload_n hx hb dX5_readPath_54 rfl (lv_at hl 0 rfl) ?_
                refine va_get (D := (dC, dI)) (ci := 4) (v := .int s16.2.1) (C := RX5) (T := TX5) (N := 6) hx hb hta uw_X5 hown hK hP 0 rfl rfl 2 (by decide) (hta _ mA690) (fun _ h9 => h9) rfl dX5_readPath_55 ?_
                refine va_put (D := (dC, dI)) (ci := 4) (v := .int s16.2.1) (ty := .int) (C := RX5) (T := TX5) (N := 6) hx hb hta uw_X5 tyX5 tyX5_ok nmX5 hown hK hP hD hS 0 rfl rfl 3 (by decide) (hta _ mA691) (fun _ h9 => h9) rfl (by decide +kernel) rfl rfl (Nat.le_of_ble_eq_true rfl) dX5_readPath_58 (fun H locs hP hD hS => ?_)
                have hP : va_P (dC, dI) vwCl (wd_X5_readPath cI a0 a1 v0_1 s16.2.1 s16.2.1 s16.2.2.2.1 s16.2.2.2.2.1 v0_0 s16.2.2.2.2.2) H := hP
                have hD : va_D A (wd_X5_readPath cI a0 a1 v0_1 s16.2.1 s16.2.1 s16.2.2.2.1 s16.2.2.2.2.1 v0_0 s16.2.2.2.2.2) := hD
                exact j61 s16.2.1 s16.2.1 s16.2.2.2.1 s16.2.2.2.2.1 s16.2.2.2.2.2 s16.1 hF _ _ _ hP hD hS (lv_sub hl [0, 1, 2] rfl)
              · have hF := it_f hF c_5
                refine lv_aload_n hx hb dX5_readPath_45 rfl (lv_at hl 0 rfl) ?_
                refine lv_aload_n hx hb dX5_readPath_46 rfl (lv_at hl 1 rfl) ?_
                obtain ⟨u_6, hu_6, hF⟩ := obd_some hF
                have hPc := hP.sub (ws' := (wd_X5_readSubpath cI a0 a1 v0_1 s16.2.1 s16.2.2.1 s16.2.2.2.1 s16.2.2.2.2.1 v0_0 s16.2.2.2.2.2)) [0, 1, 2, 3] rfl
                have hDc := hD.sub (ws' := (wd_X5_readSubpath cI a0 a1 v0_1 s16.2.1 s16.2.2.1 s16.2.2.2.1 s16.2.2.2.2.1 v0_0 s16.2.2.2.2.2)) [0, 1, 2, 3] rfl rfl
                refine q_callv (wc := (wd_X5_readSubpath cI a0 a1 v0_1 s16.2.1 s16.2.2.1 s16.2.2.2.1 s16.2.2.2.2.1 v0_0 s16.2.2.2.2.2)) (w1 := (wd_X5_readSubpath cI a0 a1 v0_1 u_6.1 u_6.2.1 u_6.2.2.1 u_6.2.2.2.1 v0_0 u_6.2.2.2.2)) (ws' := (wd_X5_readPath cI a0 a1 v0_1 u_6.1 u_6.2.1 u_6.2.2.1 u_6.2.2.2.1 v0_0 u_6.2.2.2.2)) hP hD hS hA [0, 1, 2, 3] [] [0, 1, 2, 3] rfl rfl rfl (by decide) rfl rfl (va_runV (As := [.ref (a1 0)]) (rest := []) ⟨hx, hb, hml, hown, hta⟩ (c_X5_readSubpath l dC dI cI H.size a0 a1 v0_1 s16.2.1 s16.2.2.1 s16.2.2.2.1 s16.2.2.2.2.1 v0_0 s16.2.2.2.2.2 n u_6 hu_6) (cwV 1 hta (ga_V mA696 mA697 mA698 mA15 mA699) rfl rfl rfl (by decide +kernel) ⟨Nat.le_of_ble_eq_true rfl, Nat.le_of_ble_eq_true rfl⟩) ⟨q_fb, va_recv hK hP (ci := 4) (q0 := 0) rfl rfl, q_ps hPc hK hDc⟩ rfl rfl hl.1 rfl (lv_room (Nat.le_of_ble_eq_true rfl)) dX5_readPath_47 ⟨Nat.zero_le _, Nat.zero_le _⟩) (fun H locs hP hD hS => ?_)
                refine lv_goto (tgt := 61) hx hb dX5_readPath_50 (by decide) ?_
                exact j61 u_6.1 u_6.2.1 u_6.2.2.1 u_6.2.2.2.1 u_6.2.2.2.2 s16.1 hF _ _ _ hP hD hS (lv_sub hl [0, 1, 2] rfl)
    exact kl_16 n _ hL_16 _ _ _ hP hD hS hl
  refine lv_aload_n hx hb dX5_readPath_0 rfl (lv_at hl 0 rfl) ?_
  refine lv_iconst (v := 0) hx hb dX5_readPath_1 (by decide) ?_
  refine va_put (D := (dC, dI)) (ci := 4) (v := .int 0) (ty := .int) (C := RX5) (T := TX5) (N := 6) hx hb hta uw_X5 tyX5 tyX5_ok nmX5 hown hK hP hD hS 0 rfl rfl 2 (by decide) (hta _ mA690) (fun _ h9 => h9) rfl (by decide +kernel) rfl rfl (Nat.le_of_ble_eq_true rfl) dX5_readPath_2 (fun H locs hP hD hS => ?_)
  have hP : va_P (dC, dI) vwCl (wd_X5_readPath cI a0 a1 v0_1 0 v0_3 v0_4 v0_5 v0_0 v1_0) H := hP
  have hD : va_D A (wd_X5_readPath cI a0 a1 v0_1 0 v0_3 v0_4 v0_5 v0_0 v1_0) := hD
  refine lv_aload_n hx hb dX5_readPath_5 rfl (lv_at hl 0 rfl) ?_
  refine lv_iconst (v := (-1)) hx hb dX5_readPath_6 (by decide) ?_
  refine va_put (D := (dC, dI)) (ci := 4) (v := .int (-1)) (ty := .int) (C := RX5) (T := TX5) (N := 6) hx hb hta uw_X5 tyX5 tyX5_ok nmX5 hown hK hP hD hS 0 rfl rfl 3 (by decide) (hta _ mA691) (fun _ h9 => h9) rfl (by decide +kernel) rfl rfl (Nat.le_of_ble_eq_true rfl) dX5_readPath_7 (fun H locs hP hD hS => ?_)
  have hP : va_P (dC, dI) vwCl (wd_X5_readPath cI a0 a1 v0_1 0 (-1) v0_4 v0_5 v0_0 v1_0) H := hP
  have hD : va_D A (wd_X5_readPath cI a0 a1 v0_1 0 (-1) v0_4 v0_5 v0_0 v1_0) := hD
  refine lv_aload_n hx hb dX5_readPath_10 rfl (lv_at hl 1 rfl) ?_
  obtain ⟨u_7, hu_7, hF⟩ := obd_some hF
  have hPc := hP.sub (ws' := (wd_X1_clearPath cI a1 v1_0)) [2, 3] rfl
  have hDc := hD.sub (ws' := (wd_X1_clearPath cI a1 v1_0)) [2, 3] rfl rfl
  refine q_callv (wc := (wd_X1_clearPath cI a1 v1_0)) (w1 := (wd_X1_clearPath cI a1 u_7)) (ws' := (wd_X5_readPath cI a0 a1 v0_1 0 (-1) v0_4 v0_5 v0_0 u_7)) hP hD hS hA [2, 3] [0, 1] [0, 1, 2, 3] rfl rfl rfl (by decide) rfl rfl (va_runV (As := []) (rest := []) ⟨hx, hb, hml, hown, hta⟩ (c_X1_clearPath l dC dI cI H.size a1 v1_0 u_7 hu_7) (cwV 0 hta (ga_V mA692 mA693 mA694 mA6 mA695) rfl rfl rfl (by decide +kernel) ⟨Nat.le_of_ble_eq_true rfl, Nat.le_of_ble_eq_true rfl⟩) ⟨q_fb, va_recv hK hP (ci := 1) (q0 := 2) rfl rfl, q_ps hPc hK hDc⟩ rfl rfl hl.1 rfl (lv_room (Nat.le_of_ble_eq_true rfl)) dX5_readPath_11 ⟨Nat.zero_le _, Nat.zero_le _⟩) (fun H locs hP hD hS => ?_)
  refine lv_iconst (v := 0) hx hb dX5_readPath_14 (by decide) ?_
  refine lv_istore_n (lv' := [(2, .int 0), (0, .ref (a0 0)), (1, .ref (a1 0))]) hx hb dX5_readPath_15 rfl hl (by decide) rfl (fun ls hl => ?_)
  exact j16 0 (-1) v0_4 v0_5 u_7 0 hF _ _ _ hP hD hS (lv_sub hl [1, 2, 0] rfl)

-- StrokeOutliner$PathWriter.write(I)V
def F_X6_write (v0_1 : Int32) (v0_0 : Nat → Int32) (p1 : Int32) : Option (Int32 × (Nat → Int32)) :=
  if v0_1 < 0 then some (v0_1, v0_0) else if 324 ≤ v0_1 then some (v0_1, v0_0) else gd (decide (vpi v0_1 324)) (lt (upd v0_0 v0_1.toNatClampNeg p1) (fun y_4 => lt (v0_1 + 1) (fun y_5 => some (y_5, y_4))))
abbrev wd_X6_write (cI : ClassId) (a0 : Nat → Nat) (v0_1 : Int32) (v0_0 : Nat → Int32) : va_W := [(a0 0, .inr (5, [.ref (a0 1), .int v0_1])), (a0 1, .inl (cI, 324, .inl v0_0))]
abbrev wz_X6_write : List Cond := .code yX6_write cX6_write 2 none :: wALL
abbrev rm_X6_write : Room := { frames := 0, cells := 0, slots := 0, locals := 0 }
abbrev Q_X6_write (dC : Nat → ClassId) (dI : Nat → Nat → Nat) (cI : ClassId) (a0 : Nat → Nat) (u : (Int32 × (Nat → Int32))) (A : Nat → Prop) : Array Value → State → Outcome → State → Prop := va_Qv (fun (_ : Unit) => True) (fun _ => q_at dC dI cI A (wd_X6_write cI a0 u.1 u.2)) A
set_option maxHeartbeats 4000000 in
set_option maxRecDepth 100000 in
theorem c_X6_write (l : Launch) (dC : Nat → ClassId) (dI : Nat → Nat → Nat) (cI : ClassId) (sz : Nat) (a0 : Nat → Nat) (v0_1 : Int32) (v0_0 : Nat → Int32) (p1 : Int32) (u : (Int32 × (Nat → Int32))) (hF : F_X6_write v0_1 v0_0 p1 = some u) : Met l yX6_write wz_X6_write rm_X6_write (va_Pc [.ref (a0 0), .int p1] (q_pre dC dI cI (wd_X6_write cI a0 v0_1 v0_0) sz)) (Q_X6_write dC dI cI a0 u (va_A (wd_X6_write cI a0 v0_1 v0_0) sz)) 0 0 (va_A (wd_X6_write cI a0 v0_1 v0_0) sz) := by
  refine Met.ofW (cc := cX6_write) (maxL := 2) (ret := none) (by decide) rfl ?_
  intro p e s m args below meth c s₁ B hml hv
  obtain ⟨rfl, hsz, hP, hK, hD0⟩ := hv
  have hx := B.exec
  have hb := B.bytes
  have hr := B.returns
  have hts := atoms_spec (ws := wz_X6_write) B.pre
  have hta := wz_tl hts
  have hown : s.vm.findClass RX6 = some m.cls := findClass_of_methodNamed B.named
  have hlocks := B.notSynchronized
  subst hsz
  have hD := hD0.self (sz := s.heap.size)
  generalize hAe : va_A (wd_X6_write cI a0 v0_1 v0_0) s.heap.size = A at hD ⊢
  have hA : ∀ q : Nat, s.heap.size ≤ q → A q := fun q h => by rw [← hAe]; exact Or.inr h
  have hS : va_S A s.heap s.heap [] := va_S.rf
  have hP : va_P (dC, dI) vwCl (wd_X6_write cI a0 v0_1 v0_0) s.heap := hP
  have hl := lv_entry ([.ref (a0 0), .int p1]) (n := 2) (Nat.le_of_ble_eq_true rfl)
  rw [lg_entry_eq]
  generalize (lg_sl ([.ref (a0 0), .int p1]) ++ List.replicate (2 - (lg_sl ([.ref (a0 0), .int p1])).length) Slot.unset).toArray = ls at hl ⊢
  have hl : lv_has ls 2 [(0, .ref (a0 0)), (1, .int p1)] := hl
  obtain ⟨H, hHe⟩ : ∃ H, H = s.heap := ⟨_, rfl⟩
  have hS : va_S A s.heap H [] := by rw [hHe]; exact hS
  have hP : va_P (dC, dI) vwCl (wd_X6_write cI a0 v0_1 v0_0) H := by rw [hHe]; exact hP
  rw [← hHe]
  unfold F_X6_write at hF
  refine lv_aload_n hx hb dX6_write_0 rfl (lv_at hl 0 rfl) ?_
  refine va_get (D := (dC, dI)) (ci := 5) (v := .int v0_1) (C := RX6) (T := TX6) (N := 2) hx hb hta uw_X6 hown hK hP 0 rfl rfl 1 (by decide) (hta _ mA734) (fun _ h9 => h9) rfl dX6_write_1 ?_
  refine lv_if_lt (tgt := 37) hx hb dX6_write_4 (by decide) (fun c_1 => ?_) (fun c_1 => ?_)
  · have hF := it_t hF c_1
    obtain rfl := Option.some.inj hF
    exact W.vret hx hb hr (fun t ht hW => ⟨⟨(), rfl, trivial, by rw [ht]; exact hP, va_K.moved hW.alike hK, hD⟩, hS.F ht⟩) hS.2.2 dX6_write_37
  · have hF := it_f hF c_1
    refine lv_aload_n hx hb dX6_write_7 rfl (lv_at hl 0 rfl) ?_
    refine va_get (D := (dC, dI)) (ci := 5) (v := .int v0_1) (C := RX6) (T := TX6) (N := 2) hx hb hta uw_X6 hown hK hP 0 rfl rfl 1 (by decide) (hta _ mA734) (fun _ h9 => h9) rfl dX6_write_8 ?_
    refine lv_sipush (v := 324) hx hb dX6_write_11 (by decide) ?_
    refine lv_icmp_ge (tgt := 37) hx hb dX6_write_14 (by decide) (fun c_2 => ?_) (fun c_2 => ?_)
    · have hF := it_t hF c_2
      obtain rfl := Option.some.inj hF
      exact W.vret hx hb hr (fun t ht hW => ⟨⟨(), rfl, trivial, by rw [ht]; exact hP, va_K.moved hW.alike hK, hD⟩, hS.F ht⟩) hS.2.2 dX6_write_37
    · have hF := it_f hF c_2
      refine lv_aload_n hx hb dX6_write_17 rfl (lv_at hl 0 rfl) ?_
      refine va_get (D := (dC, dI)) (ci := 5) (v := .ref (a0 1)) (C := RX6) (T := TX6) (N := 2) hx hb hta uw_X6 hown hK hP 0 rfl rfl 0 (by decide) (hta _ mA46) (fun _ h9 => h9) rfl dX6_write_18 ?_
      refine lv_aload_n hx hb dX6_write_21 rfl (lv_at hl 0 rfl) ?_
      refine va_get (D := (dC, dI)) (ci := 5) (v := .int v0_1) (C := RX6) (T := TX6) (N := 2) hx hb hta uw_X6 hown hK hP 0 rfl rfl 1 (by decide) (hta _ mA734) (fun _ h9 => h9) rfl dX6_write_22 ?_
      refine lv_iload_n hx hb dX6_write_25 rfl (lv_at hl 1 rfl) ?_
      obtain ⟨g_3, hF⟩ := gd_some hF
      refine va_iast hx hb hK hP hD hS 1 0 rfl rfl (vpi_in g_3) dX6_write_26 (fun H locs hP hD hS => ?_)
      obtain ⟨y_4, ey_4, hF⟩ := lt_some hF
      have hP : va_P (dC, dI) vwCl (wd_X6_write cI a0 v0_1 y_4) H := by rw [ey_4]; exact hP
      have hD : va_D A (wd_X6_write cI a0 v0_1 y_4) := by rw [ey_4]; exact hD
      refine lv_aload_n hx hb dX6_write_27 rfl (lv_at hl 0 rfl) ?_
      refine lv_dup hx hb dX6_write_28 rfl ?_
      refine va_get (D := (dC, dI)) (ci := 5) (v := .int v0_1) (C := RX6) (T := TX6) (N := 2) hx hb hta uw_X6 hown hK hP 0 rfl rfl 1 (by decide) (hta _ mA734) (fun _ h9 => h9) rfl dX6_write_29 ?_
      refine lv_iconst (v := 1) hx hb dX6_write_32 (by decide) ?_
      refine lv_iadd hx hb dX6_write_33 ?_
      obtain ⟨y_5, ey_5, hF⟩ := lt_some hF
      refine lv_eqi ey_5 ?_
      refine va_put (D := (dC, dI)) (ci := 5) (v := .int y_5) (ty := .int) (C := RX6) (T := TX6) (N := 2) hx hb hta uw_X6 tyX6 tyX6_ok nmX6 hown hK hP hD hS 0 rfl rfl 1 (by decide) (hta _ mA734) (fun _ h9 => h9) rfl (by decide +kernel) rfl rfl (Nat.le_of_ble_eq_true rfl) dX6_write_34 (fun H locs hP hD hS => ?_)
      have hP : va_P (dC, dI) vwCl (wd_X6_write cI a0 y_5 y_4) H := hP
      have hD : va_D A (wd_X6_write cI a0 y_5 y_4) := hD
      obtain rfl := Option.some.inj hF
      exact W.vret hx hb hr (fun t ht hW => ⟨⟨(), rfl, trivial, by rw [ht]; exact hP, va_K.moved hW.alike hK, hD⟩, hS.F ht⟩) hS.2.2 dX6_write_37

-- StrokeOutliner$PathWriter.writeNumber(I)V
def F_X6_writeNumber_j52 (v0_1 : Int32) (v0_0 : Nat → Int32) (x2 : Int32) : Option (Int32 × (Nat → Int32)) :=
  obd (F_X6_write v0_1 v0_0 (48 + (x2 - x2 / 10 * 10))) (fun u_1 => some (u_1.1, u_1.2))
def F_X6_writeNumber_j32 (v0_1 : Int32) (v0_0 : Nat → Int32) (x2 : Int32) : Option (Int32 × (Nat → Int32)) :=
  if x2 < 10 then F_X6_writeNumber_j52 v0_1 v0_0 x2 else lt (x2 / 10) (fun y_3 => obd (F_X6_write v0_1 v0_0 (48 + (y_3 - y_3 / 10 * 10))) (fun u_4 => F_X6_writeNumber_j52 u_4.1 u_4.2 x2))
def F_X6_writeNumber_j10 (v0_1 : Int32) (v0_0 : Nat → Int32) (x1 : Int32) : Option (Int32 × (Nat → Int32)) :=
  lt (if 0 ≤ x1 then x1 else 0 - x1) (fun y_5 => if y_5 < 100 then F_X6_writeNumber_j32 v0_1 v0_0 y_5 else obd (F_X6_write v0_1 v0_0 (48 + (y_5 / 100))) (fun u_7 => F_X6_writeNumber_j32 u_7.1 u_7.2 y_5))
def F_X6_writeNumber (v0_1 : Int32) (v0_0 : Nat → Int32) (p1 : Int32) : Option (Int32 × (Nat → Int32)) :=
  if 0 ≤ p1 then F_X6_writeNumber_j10 v0_1 v0_0 p1 else obd (F_X6_write v0_1 v0_0 45) (fun u_9 => F_X6_writeNumber_j10 u_9.1 u_9.2 p1)
abbrev wd_X6_writeNumber (cI : ClassId) (a0 : Nat → Nat) (v0_1 : Int32) (v0_0 : Nat → Int32) : va_W := [(a0 0, .inr (5, [.ref (a0 1), .int v0_1])), (a0 1, .inl (cI, 324, .inl v0_0))]
abbrev wz_X6_writeNumber : List Cond := .code yX6_writeNumber cX6_writeNumber 3 none :: wALL
abbrev rm_X6_writeNumber : Room := { frames := 1, cells := 0, slots := 0, locals := 21 }
abbrev Q_X6_writeNumber (dC : Nat → ClassId) (dI : Nat → Nat → Nat) (cI : ClassId) (a0 : Nat → Nat) (u : (Int32 × (Nat → Int32))) (A : Nat → Prop) : Array Value → State → Outcome → State → Prop := va_Qv (fun (_ : Unit) => True) (fun _ => q_at dC dI cI A (wd_X6_writeNumber cI a0 u.1 u.2)) A
set_option maxHeartbeats 4000000 in
set_option maxRecDepth 100000 in
theorem c_X6_writeNumber (l : Launch) (dC : Nat → ClassId) (dI : Nat → Nat → Nat) (cI : ClassId) (sz : Nat) (a0 : Nat → Nat) (v0_1 : Int32) (v0_0 : Nat → Int32) (p1 : Int32) (u : (Int32 × (Nat → Int32))) (hF : F_X6_writeNumber v0_1 v0_0 p1 = some u) : Met l yX6_writeNumber wz_X6_writeNumber rm_X6_writeNumber (va_Pc [.ref (a0 0), .int p1] (q_pre dC dI cI (wd_X6_writeNumber cI a0 v0_1 v0_0) sz)) (Q_X6_writeNumber dC dI cI a0 u (va_A (wd_X6_writeNumber cI a0 v0_1 v0_0) sz)) 0 0 (va_A (wd_X6_writeNumber cI a0 v0_1 v0_0) sz) := by
  refine Met.ofW (cc := cX6_writeNumber) (maxL := 3) (ret := none) (by decide) rfl ?_
  intro p e s m args below meth c s₁ B hml hv
  obtain ⟨rfl, hsz, hP, hK, hD0⟩ := hv
  have hx := B.exec
  have hb := B.bytes
  have hr := B.returns
  have hts := atoms_spec (ws := wz_X6_writeNumber) B.pre
  have hta := wz_tl hts
  have hown : s.vm.findClass RX6 = some m.cls := findClass_of_methodNamed B.named
  have hlocks := B.notSynchronized
  subst hsz
  have hD := hD0.self (sz := s.heap.size)
  generalize hAe : va_A (wd_X6_writeNumber cI a0 v0_1 v0_0) s.heap.size = A at hD ⊢
  have hA : ∀ q : Nat, s.heap.size ≤ q → A q := fun q h => by rw [← hAe]; exact Or.inr h
  have hS : va_S A s.heap s.heap [] := va_S.rf
  have hP : va_P (dC, dI) vwCl (wd_X6_writeNumber cI a0 v0_1 v0_0) s.heap := hP
  have hl := lv_entry ([.ref (a0 0), .int p1]) (n := 3) (Nat.le_of_ble_eq_true rfl)
  rw [lg_entry_eq]
  generalize (lg_sl ([.ref (a0 0), .int p1]) ++ List.replicate (3 - (lg_sl ([.ref (a0 0), .int p1])).length) Slot.unset).toArray = ls at hl ⊢
  have hl : lv_has ls 3 [(0, .ref (a0 0)), (1, .int p1)] := hl
  obtain ⟨H, hHe⟩ : ∃ H, H = s.heap := ⟨_, rfl⟩
  have hS : va_S A s.heap H [] := by rw [hHe]; exact hS
  have hP : va_P (dC, dI) vwCl (wd_X6_writeNumber cI a0 v0_1 v0_0) H := by rw [hHe]; exact hP
  rw [← hHe]
  unfold F_X6_writeNumber at hF
  have j52 : ∀ (v0_1 : Int32) (v0_0 : Nat → Int32) (x2 : Int32), F_X6_writeNumber_j52 v0_1 v0_0 x2 = some u → ∀ (H : Heap) (locs : List Loc) (ls : Array Slot), va_P (dC, dI) vwCl (wd_X6_writeNumber cI a0 v0_1 v0_0) H → va_D A (wd_X6_writeNumber cI a0 v0_1 v0_0) → va_S A s.heap H locs → lv_has ls 3 [(0, .ref (a0 0)), (2, .int x2)] → W p l e (headSpec wz_X6_writeNumber rm_X6_writeNumber).room s m [.ref (a0 0), .int p1].toArray below meth c H locs 0 0 (MQ below (Q_X6_writeNumber dC dI cI a0 u A) [.ref (a0 0), .int p1].toArray s 0 0 A) (F0 m 52 ls []) := by
    intro v0_1 v0_0 x2 hF H locs ls hP hD hS hl
    unfold F_X6_writeNumber_j52 at hF
    refine lv_aload_n hx hb dX6_writeNumber_52 rfl (lv_at hl 0 rfl) ?_
    refine lv_bipush (v := 48) hx hb dX6_writeNumber_53 (by decide) ?_
    refine lv_iload_n hx hb dX6_writeNumber_55 rfl (lv_at hl 1 rfl) ?_
    refine lv_bipush (v := 10) hx hb dX6_writeNumber_56 (by decide) ?_
    refine lv_irem hx hb dX6_writeNumber_58 (by decide) ?_
    refine lv_iadd hx hb dX6_writeNumber_59 ?_
    obtain ⟨u_1, hu_1, hF⟩ := obd_some hF
    have hPc := hP.sub (ws' := (wd_X6_write cI a0 v0_1 v0_0)) [0, 1] rfl
    have hDc := hD.sub (ws' := (wd_X6_write cI a0 v0_1 v0_0)) [0, 1] rfl rfl
    refine q_callv (wc := (wd_X6_write cI a0 v0_1 v0_0)) (w1 := (wd_X6_write cI a0 u_1.1 u_1.2)) (ws' := (wd_X6_writeNumber cI a0 u_1.1 u_1.2)) hP hD hS hA [0, 1] [] [0, 1] rfl rfl rfl (by decide) rfl rfl (va_runV (As := [.int (48 + (x2 - x2 / 10 * 10))]) (rest := []) ⟨hx, hb, hml, hown, hta⟩ (c_X6_write l dC dI cI H.size a0 v0_1 v0_0 (48 + (x2 - x2 / 10 * 10)) u_1 hu_1) (cwV 1 hta (ga_V mA741 mA742 mA743 mA19 mA744) rfl rfl rfl (by decide +kernel) ⟨Nat.le_of_ble_eq_true rfl, Nat.le_of_ble_eq_true rfl⟩) ⟨q_fb, va_recv hK hP (ci := 5) (q0 := 0) rfl rfl, q_ps hPc hK hDc⟩ rfl rfl hl.1 rfl (lv_room (Nat.le_of_ble_eq_true rfl)) dX6_writeNumber_60 ⟨Nat.zero_le _, Nat.zero_le _⟩) (fun H locs hP hD hS => ?_)
    obtain rfl := Option.some.inj hF
    exact W.vret hx hb hr (fun t ht hW => ⟨⟨(), rfl, trivial, by rw [ht]; exact hP, va_K.moved hW.alike hK, hD⟩, hS.F ht⟩) hS.2.2 dX6_writeNumber_63
  have j32 : ∀ (v0_1 : Int32) (v0_0 : Nat → Int32) (x2 : Int32), F_X6_writeNumber_j32 v0_1 v0_0 x2 = some u → ∀ (H : Heap) (locs : List Loc) (ls : Array Slot), va_P (dC, dI) vwCl (wd_X6_writeNumber cI a0 v0_1 v0_0) H → va_D A (wd_X6_writeNumber cI a0 v0_1 v0_0) → va_S A s.heap H locs → lv_has ls 3 [(0, .ref (a0 0)), (2, .int x2)] → W p l e (headSpec wz_X6_writeNumber rm_X6_writeNumber).room s m [.ref (a0 0), .int p1].toArray below meth c H locs 0 0 (MQ below (Q_X6_writeNumber dC dI cI a0 u A) [.ref (a0 0), .int p1].toArray s 0 0 A) (F0 m 32 ls []) := by
    intro v0_1 v0_0 x2 hF H locs ls hP hD hS hl
    unfold F_X6_writeNumber_j32 at hF
    refine lv_iload_n hx hb dX6_writeNumber_32 rfl (lv_at hl 1 rfl) ?_
    refine lv_bipush (v := 10) hx hb dX6_writeNumber_33 (by decide) ?_
    refine lv_icmp_lt (tgt := 52) hx hb dX6_writeNumber_35 (by decide) (fun c_2 => ?_) (fun c_2 => ?_)
    · have hF := it_t hF c_2
      exact j52 v0_1 v0_0 x2 hF _ _ _ hP hD hS (lv_sub hl [0, 1] rfl)
    · have hF := it_f hF c_2
      refine lv_aload_n hx hb dX6_writeNumber_38 rfl (lv_at hl 0 rfl) ?_
      refine lv_bipush (v := 48) hx hb dX6_writeNumber_39 (by decide) ?_
      refine lv_iload_n hx hb dX6_writeNumber_41 rfl (lv_at hl 1 rfl) ?_
      refine lv_bipush (v := 10) hx hb dX6_writeNumber_42 (by decide) ?_
      refine lv_idiv hx hb dX6_writeNumber_44 (by decide) ?_
      refine lv_bipush (v := 10) hx hb dX6_writeNumber_45 (by decide) ?_
      obtain ⟨y_3, ey_3, hF⟩ := lt_some hF
      refine lv_eq2i ey_3 ?_
      refine lv_irem hx hb dX6_writeNumber_47 (by decide) ?_
      refine lv_iadd hx hb dX6_writeNumber_48 ?_
      obtain ⟨u_4, hu_4, hF⟩ := obd_some hF
      have hPc := hP.sub (ws' := (wd_X6_write cI a0 v0_1 v0_0)) [0, 1] rfl
      have hDc := hD.sub (ws' := (wd_X6_write cI a0 v0_1 v0_0)) [0, 1] rfl rfl
      refine q_callv (wc := (wd_X6_write cI a0 v0_1 v0_0)) (w1 := (wd_X6_write cI a0 u_4.1 u_4.2)) (ws' := (wd_X6_writeNumber cI a0 u_4.1 u_4.2)) hP hD hS hA [0, 1] [] [0, 1] rfl rfl rfl (by decide) rfl rfl (va_runV (As := [.int (48 + (y_3 - y_3 / 10 * 10))]) (rest := []) ⟨hx, hb, hml, hown, hta⟩ (c_X6_write l dC dI cI H.size a0 v0_1 v0_0 (48 + (y_3 - y_3 / 10 * 10)) u_4 hu_4) (cwV 1 hta (ga_V mA741 mA742 mA743 mA19 mA744) rfl rfl rfl (by decide +kernel) ⟨Nat.le_of_ble_eq_true rfl, Nat.le_of_ble_eq_true rfl⟩) ⟨q_fb, va_recv hK hP (ci := 5) (q0 := 0) rfl rfl, q_ps hPc hK hDc⟩ rfl rfl hl.1 rfl (lv_room (Nat.le_of_ble_eq_true rfl)) dX6_writeNumber_49 ⟨Nat.zero_le _, Nat.zero_le _⟩) (fun H locs hP hD hS => ?_)
      exact j52 u_4.1 u_4.2 x2 hF _ _ _ hP hD hS (lv_sub hl [0, 1] rfl)
  have j10 : ∀ (v0_1 : Int32) (v0_0 : Nat → Int32) (x1 : Int32), F_X6_writeNumber_j10 v0_1 v0_0 x1 = some u → ∀ (H : Heap) (locs : List Loc) (ls : Array Slot), va_P (dC, dI) vwCl (wd_X6_writeNumber cI a0 v0_1 v0_0) H → va_D A (wd_X6_writeNumber cI a0 v0_1 v0_0) → va_S A s.heap H locs → lv_has ls 3 [(0, .ref (a0 0)), (1, .int x1)] → W p l e (headSpec wz_X6_writeNumber rm_X6_writeNumber).room s m [.ref (a0 0), .int p1].toArray below meth c H locs 0 0 (MQ below (Q_X6_writeNumber dC dI cI a0 u A) [.ref (a0 0), .int p1].toArray s 0 0 A) (F0 m 10 ls []) := by
    intro v0_1 v0_0 x1 hF H locs ls hP hD hS hl
    unfold F_X6_writeNumber_j10 at hF
    refine lv_iload_n hx hb dX6_writeNumber_10 rfl (lv_at hl 1 rfl) ?_
    refine va_mabs hx hb (hml.trans hl.1.symm) hown (hta _ mA750) (hta _ mA295) (hta _ mA280) (hta _ mA296) (Nat.le_of_ble_eq_true rfl) (Nat.le_of_ble_eq_true rfl) (Nat.zero_le _) (Nat.zero_le _) dX6_writeNumber_11 ?_
    obtain ⟨y_5, ey_5, hF⟩ := lt_some hF
    refine lv_eqi ey_5 ?_
    refine lv_istore_n (lv' := [(2, .int y_5), (0, .ref (a0 0)), (1, .int x1)]) hx hb dX6_writeNumber_14 rfl hl (by decide) rfl (fun ls hl => ?_)
    refine lv_iload_n hx hb dX6_writeNumber_15 rfl (lv_at hl 0 rfl) ?_
    refine lv_bipush (v := 100) hx hb dX6_writeNumber_16 (by decide) ?_
    refine lv_icmp_lt (tgt := 32) hx hb dX6_writeNumber_18 (by decide) (fun c_6 => ?_) (fun c_6 => ?_)
    · have hF := it_t hF c_6
      exact j32 v0_1 v0_0 y_5 hF _ _ _ hP hD hS (lv_sub hl [1, 0] rfl)
    · have hF := it_f hF c_6
      refine lv_aload_n hx hb dX6_writeNumber_21 rfl (lv_at hl 1 rfl) ?_
      refine lv_bipush (v := 48) hx hb dX6_writeNumber_22 (by decide) ?_
      refine lv_iload_n hx hb dX6_writeNumber_24 rfl (lv_at hl 0 rfl) ?_
      refine lv_bipush (v := 100) hx hb dX6_writeNumber_25 (by decide) ?_
      refine lv_idiv hx hb dX6_writeNumber_27 (by decide) ?_
      refine lv_iadd hx hb dX6_writeNumber_28 ?_
      obtain ⟨u_7, hu_7, hF⟩ := obd_some hF
      have hPc := hP.sub (ws' := (wd_X6_write cI a0 v0_1 v0_0)) [0, 1] rfl
      have hDc := hD.sub (ws' := (wd_X6_write cI a0 v0_1 v0_0)) [0, 1] rfl rfl
      refine q_callv (wc := (wd_X6_write cI a0 v0_1 v0_0)) (w1 := (wd_X6_write cI a0 u_7.1 u_7.2)) (ws' := (wd_X6_writeNumber cI a0 u_7.1 u_7.2)) hP hD hS hA [0, 1] [] [0, 1] rfl rfl rfl (by decide) rfl rfl (va_runV (As := [.int (48 + (y_5 / 100))]) (rest := []) ⟨hx, hb, hml, hown, hta⟩ (c_X6_write l dC dI cI H.size a0 v0_1 v0_0 (48 + (y_5 / 100)) u_7 hu_7) (cwV 1 hta (ga_V mA741 mA742 mA743 mA19 mA744) rfl rfl rfl (by decide +kernel) ⟨Nat.le_of_ble_eq_true rfl, Nat.le_of_ble_eq_true rfl⟩) ⟨q_fb, va_recv hK hP (ci := 5) (q0 := 0) rfl rfl, q_ps hPc hK hDc⟩ rfl rfl hl.1 rfl (lv_room (Nat.le_of_ble_eq_true rfl)) dX6_writeNumber_29 ⟨Nat.zero_le _, Nat.zero_le _⟩) (fun H locs hP hD hS => ?_)
      exact j32 u_7.1 u_7.2 y_5 hF _ _ _ hP hD hS (lv_sub hl [1, 0] rfl)
  refine lv_iload_n hx hb dX6_writeNumber_0 rfl (lv_at hl 1 rfl) ?_
  refine lv_if_ge (tgt := 10) hx hb dX6_writeNumber_1 (by decide) (fun c_8 => ?_) (fun c_8 => ?_)
  · have hF := it_t hF c_8
    exact j10 v0_1 v0_0 p1 hF _ _ _ hP hD hS (lv_sub hl [0, 1] rfl)
  · have hF := it_f hF c_8
    refine lv_aload_n hx hb dX6_writeNumber_4 rfl (lv_at hl 0 rfl) ?_
    refine lv_bipush (v := 45) hx hb dX6_writeNumber_5 (by decide) ?_
    obtain ⟨u_9, hu_9, hF⟩ := obd_some hF
    have hPc := hP.sub (ws' := (wd_X6_write cI a0 v0_1 v0_0)) [0, 1] rfl
    have hDc := hD.sub (ws' := (wd_X6_write cI a0 v0_1 v0_0)) [0, 1] rfl rfl
    refine q_callv (wc := (wd_X6_write cI a0 v0_1 v0_0)) (w1 := (wd_X6_write cI a0 u_9.1 u_9.2)) (ws' := (wd_X6_writeNumber cI a0 u_9.1 u_9.2)) hP hD hS hA [0, 1] [] [0, 1] rfl rfl rfl (by decide) rfl rfl (va_runV (As := [.int 45]) (rest := []) ⟨hx, hb, hml, hown, hta⟩ (c_X6_write l dC dI cI H.size a0 v0_1 v0_0 45 u_9 hu_9) (cwV 1 hta (ga_V mA741 mA742 mA743 mA19 mA744) rfl rfl rfl (by decide +kernel) ⟨Nat.le_of_ble_eq_true rfl, Nat.le_of_ble_eq_true rfl⟩) ⟨q_fb, va_recv hK hP (ci := 5) (q0 := 0) rfl rfl, q_ps hPc hK hDc⟩ rfl rfl hl.1 rfl (lv_room (Nat.le_of_ble_eq_true rfl)) dX6_writeNumber_7 ⟨Nat.zero_le _, Nat.zero_le _⟩) (fun H locs hP hD hS => ?_)
    exact j10 u_9.1 u_9.2 p1 hF _ _ _ hP hD hS (lv_sub hl [0, 1] rfl)

-- StrokeOutliner$PathWriter.writeSubpath(LStrokeOutliner$Drawing;I)V
def F_X6_writeSubpath_j58 (v0_1 : Int32) (v0_0 : Nat → Int32) (v1_0 : Nat → Int32) (x2 : Int32) : Option (Int32 × (Nat → Int32)) :=
  obd (F_X1_isClosed v1_0 x2) (fun u_1 => if u_1 = 0 then some (v0_1, v0_0) else obd (F_X6_write v0_1 v0_0 90) (fun u_3 => some (u_3.1, u_3.2)))
def F_X6_writeSubpath_j23 (v0_1 : Int32) (v0_0 : Nat → Int32) (v1_0 : Nat → Int32) (x2 : Int32) (x3 : Int32) (t1 : Int32) : Option (Sum (Int32 × Int32 × (Nat → Int32)) (Int32 × (Nat → Int32))) :=
  obd (F_X6_write v0_1 v0_0 t1) (fun u_4 => obd (F_X1_xOf v1_0 x2 x3) (fun u_5 => obd (F_X6_writeNumber u_4.1 u_4.2 u_5) (fun u_6 => obd (F_X6_write u_6.1 u_6.2 44) (fun u_7 => obd (F_X1_yOf v1_0 x2 x3) (fun u_8 => obd (F_X6_writeNumber u_7.1 u_7.2 u_8) (fun u_9 => lt (x3 + 1) (fun y_10 => some (.inl (y_10, u_9.1, u_9.2)))))))))
def F_X6_writeSubpath_b2 (v1_0 : Nat → Int32) (x2 : Int32) (s2 : Int32 × Int32 × (Nat → Int32)) : Option (Sum (Int32 × Int32 × (Nat → Int32)) (Int32 × (Nat → Int32))) :=
  obd (F_X1_pointCount v1_0 x2) (fun u_11 => if u_11 ≤ s2.1 then some (.inr (s2.2.1, s2.2.2)) else if s2.1 = 0 then F_X6_writeSubpath_j23 s2.2.1 s2.2.2 v1_0 x2 s2.1 77 else F_X6_writeSubpath_j23 s2.2.1 s2.2.2 v1_0 x2 s2.1 76)
def F_X6_writeSubpath_j2 (n : Nat) (v0_1 : Int32) (v0_0 : Nat → Int32) (v1_0 : Nat → Int32) (x2 : Int32) (x3 : Int32) : Option (Int32 × (Nat → Int32)) :=
  obd (lpq (F_X6_writeSubpath_b2 v1_0 x2) n (x3, v0_1, v0_0)) (fun x_2 => F_X6_writeSubpath_j58 x_2.1 x_2.2 v1_0 x2)
def F_X6_writeSubpath (n : Nat) (v0_1 : Int32) (v0_0 : Nat → Int32) (v1_0 : Nat → Int32) (p2 : Int32) : Option (Int32 × (Nat → Int32)) :=
  F_X6_writeSubpath_j2 n v0_1 v0_0 v1_0 p2 0
abbrev wd_X6_writeSubpath (cI : ClassId) (a0 : Nat → Nat) (a1 : Nat → Nat) (v0_1 : Int32) (v0_0 : Nat → Int32) (v1_0 : Nat → Int32) : va_W := [(a0 0, .inr (5, [.ref (a0 1), .int v0_1])), (a0 1, .inl (cI, 324, .inl v0_0)), (a1 0, .inr (1, [.ref (a1 1)])), (a1 1, .inl (cI, 86, .inl v1_0))]
abbrev wz_X6_writeSubpath : List Cond := .code yX6_writeSubpath cX6_writeSubpath 4 none :: wALL
abbrev rm_X6_writeSubpath : Room := { frames := 2, cells := 0, slots := 0, locals := 43 }
abbrev Q_X6_writeSubpath (dC : Nat → ClassId) (dI : Nat → Nat → Nat) (cI : ClassId) (a0 : Nat → Nat) (a1 : Nat → Nat) (v1_0 : Nat → Int32) (u : (Int32 × (Nat → Int32))) (A : Nat → Prop) : Array Value → State → Outcome → State → Prop := va_Qv (fun (_ : Unit) => True) (fun _ => q_at dC dI cI A (wd_X6_writeSubpath cI a0 a1 u.1 u.2 v1_0)) A
set_option maxHeartbeats 4000000 in
set_option maxRecDepth 100000 in
theorem c_X6_writeSubpath (l : Launch) (dC : Nat → ClassId) (dI : Nat → Nat → Nat) (cI : ClassId) (sz : Nat) (a0 : Nat → Nat) (a1 : Nat → Nat) (v0_1 : Int32) (v0_0 : Nat → Int32) (v1_0 : Nat → Int32) (p2 : Int32) (n : Nat) (u : (Int32 × (Nat → Int32))) (hF : F_X6_writeSubpath n v0_1 v0_0 v1_0 p2 = some u) : Met l yX6_writeSubpath wz_X6_writeSubpath rm_X6_writeSubpath (va_Pc [.ref (a0 0), .ref (a1 0), .int p2] (q_pre dC dI cI (wd_X6_writeSubpath cI a0 a1 v0_1 v0_0 v1_0) sz)) (Q_X6_writeSubpath dC dI cI a0 a1 v1_0 u (va_A (wd_X6_writeSubpath cI a0 a1 v0_1 v0_0 v1_0) sz)) 0 0 (va_A (wd_X6_writeSubpath cI a0 a1 v0_1 v0_0 v1_0) sz) := by
  refine Met.ofW (cc := cX6_writeSubpath) (maxL := 4) (ret := none) (by decide) rfl ?_
  intro p e s m args below meth c s₁ B hml hv
  obtain ⟨rfl, hsz, hP, hK, hD0⟩ := hv
  have hx := B.exec
  have hb := B.bytes
  have hr := B.returns
  have hts := atoms_spec (ws := wz_X6_writeSubpath) B.pre
  have hta := wz_tl hts
  have hown : s.vm.findClass RX6 = some m.cls := findClass_of_methodNamed B.named
  have hlocks := B.notSynchronized
  subst hsz
  have hD := hD0.self (sz := s.heap.size)
  generalize hAe : va_A (wd_X6_writeSubpath cI a0 a1 v0_1 v0_0 v1_0) s.heap.size = A at hD ⊢
  have hA : ∀ q : Nat, s.heap.size ≤ q → A q := fun q h => by rw [← hAe]; exact Or.inr h
  have hS : va_S A s.heap s.heap [] := va_S.rf
  have hP : va_P (dC, dI) vwCl (wd_X6_writeSubpath cI a0 a1 v0_1 v0_0 v1_0) s.heap := hP
  have hl := lv_entry ([.ref (a0 0), .ref (a1 0), .int p2]) (n := 4) (Nat.le_of_ble_eq_true rfl)
  rw [lg_entry_eq]
  generalize (lg_sl ([.ref (a0 0), .ref (a1 0), .int p2]) ++ List.replicate (4 - (lg_sl ([.ref (a0 0), .ref (a1 0), .int p2])).length) Slot.unset).toArray = ls at hl ⊢
  have hl : lv_has ls 4 [(0, .ref (a0 0)), (1, .ref (a1 0)), (2, .int p2)] := hl
  obtain ⟨H, hHe⟩ : ∃ H, H = s.heap := ⟨_, rfl⟩
  have hS : va_S A s.heap H [] := by rw [hHe]; exact hS
  have hP : va_P (dC, dI) vwCl (wd_X6_writeSubpath cI a0 a1 v0_1 v0_0 v1_0) H := by rw [hHe]; exact hP
  rw [← hHe]
  unfold F_X6_writeSubpath at hF
  have j58 : ∀ (v0_1 : Int32) (v0_0 : Nat → Int32) (x2 : Int32), F_X6_writeSubpath_j58 v0_1 v0_0 v1_0 x2 = some u → ∀ (H : Heap) (locs : List Loc) (ls : Array Slot), va_P (dC, dI) vwCl (wd_X6_writeSubpath cI a0 a1 v0_1 v0_0 v1_0) H → va_D A (wd_X6_writeSubpath cI a0 a1 v0_1 v0_0 v1_0) → va_S A s.heap H locs → lv_has ls 4 [(0, .ref (a0 0)), (1, .ref (a1 0)), (2, .int x2)] → W p l e (headSpec wz_X6_writeSubpath rm_X6_writeSubpath).room s m [.ref (a0 0), .ref (a1 0), .int p2].toArray below meth c H locs 0 0 (MQ below (Q_X6_writeSubpath dC dI cI a0 a1 v1_0 u A) [.ref (a0 0), .ref (a1 0), .int p2].toArray s 0 0 A) (F0 m 58 ls []) := by
    intro v0_1 v0_0 x2 hF H locs ls hP hD hS hl
    unfold F_X6_writeSubpath_j58 at hF
    refine lv_aload_n hx hb dX6_writeSubpath_58 rfl (lv_at hl 1 rfl) ?_
    refine lv_iload_n hx hb dX6_writeSubpath_59 rfl (lv_at hl 2 rfl) ?_
    obtain ⟨u_1, hu_1, hF⟩ := obd_some hF
    have hPc := hP.sub (ws' := (wd_X1_isClosed cI a1 v1_0)) [2, 3] rfl
    have hDc := hD.sub (ws' := (wd_X1_isClosed cI a1 v1_0)) [2, 3] rfl rfl
    refine q_callz (wc := (wd_X1_isClosed cI a1 v1_0)) (w1 := (wd_X1_isClosed cI a1 v1_0)) (ws' := (wd_X6_writeSubpath cI a0 a1 v0_1 v0_0 v1_0)) hP hD hS hA [2, 3] [0, 1] [0, 1, 2, 3] rfl rfl rfl (by decide) rfl rfl (va_runV (As := [.int x2]) (rest := []) ⟨hx, hb, hml, hown, hta⟩ (c_X1_isClosed l dC dI cI H.size a1 v1_0 x2 u_1 hu_1) (cwV 1 hta (ga_V mA752 mA182 mA183 mA6 mA184) rfl rfl rfl (by decide +kernel) ⟨Nat.le_of_ble_eq_true rfl, Nat.le_of_ble_eq_true rfl⟩) ⟨q_fb, va_recv hK hP (ci := 1) (q0 := 2) rfl rfl, q_ps hPc hK hDc⟩ rfl rfl hl.1 rfl (lv_room (Nat.le_of_ble_eq_true rfl)) dX6_writeSubpath_60 ⟨Nat.zero_le _, Nat.zero_le _⟩) (fun hzu_1 H locs hP hD hS => ?_)
    refine lv_if_eq (tgt := 72) hx hb dX6_writeSubpath_63 (by decide) (fun c_2 => ?_) (fun c_2 => ?_)
    · have hF := it_t hF c_2
      obtain rfl := Option.some.inj hF
      exact W.vret hx hb hr (fun t ht hW => ⟨⟨(), rfl, trivial, by rw [ht]; exact hP, va_K.moved hW.alike hK, hD⟩, hS.F ht⟩) hS.2.2 dX6_writeSubpath_72
    · have hF := it_f hF c_2
      refine lv_aload_n hx hb dX6_writeSubpath_66 rfl (lv_at hl 0 rfl) ?_
      refine lv_bipush (v := 90) hx hb dX6_writeSubpath_67 (by decide) ?_
      obtain ⟨u_3, hu_3, hF⟩ := obd_some hF
      have hPc := hP.sub (ws' := (wd_X6_write cI a0 v0_1 v0_0)) [0, 1] rfl
      have hDc := hD.sub (ws' := (wd_X6_write cI a0 v0_1 v0_0)) [0, 1] rfl rfl
      refine q_callv (wc := (wd_X6_write cI a0 v0_1 v0_0)) (w1 := (wd_X6_write cI a0 u_3.1 u_3.2)) (ws' := (wd_X6_writeSubpath cI a0 a1 u_3.1 u_3.2 v1_0)) hP hD hS hA [0, 1] [2, 3] [2, 3, 0, 1] rfl rfl rfl (by decide) rfl rfl (va_runV (As := [.int 90]) (rest := []) ⟨hx, hb, hml, hown, hta⟩ (c_X6_write l dC dI cI H.size a0 v0_1 v0_0 90 u_3 hu_3) (cwV 1 hta (ga_V mA741 mA742 mA743 mA19 mA744) rfl rfl rfl (by decide +kernel) ⟨Nat.le_of_ble_eq_true rfl, Nat.le_of_ble_eq_true rfl⟩) ⟨q_fb, va_recv hK hP (ci := 5) (q0 := 0) rfl rfl, q_ps hPc hK hDc⟩ rfl rfl hl.1 rfl (lv_room (Nat.le_of_ble_eq_true rfl)) dX6_writeSubpath_69 ⟨Nat.zero_le _, Nat.zero_le _⟩) (fun H locs hP hD hS => ?_)
      obtain rfl := Option.some.inj hF
      exact W.vret hx hb hr (fun t ht hW => ⟨⟨(), rfl, trivial, by rw [ht]; exact hP, va_K.moved hW.alike hK, hD⟩, hS.F ht⟩) hS.2.2 dX6_writeSubpath_72
  have j2 : ∀ (v0_1 : Int32) (v0_0 : Nat → Int32) (x2 : Int32) (x3 : Int32), F_X6_writeSubpath_j2 n v0_1 v0_0 v1_0 x2 x3 = some u → ∀ (H : Heap) (locs : List Loc) (ls : Array Slot), va_P (dC, dI) vwCl (wd_X6_writeSubpath cI a0 a1 v0_1 v0_0 v1_0) H → va_D A (wd_X6_writeSubpath cI a0 a1 v0_1 v0_0 v1_0) → va_S A s.heap H locs → lv_has ls 4 [(0, .ref (a0 0)), (1, .ref (a1 0)), (2, .int x2), (3, .int x3)] → W p l e (headSpec wz_X6_writeSubpath rm_X6_writeSubpath).room s m [.ref (a0 0), .ref (a1 0), .int p2].toArray below meth c H locs 0 0 (MQ below (Q_X6_writeSubpath dC dI cI a0 a1 v1_0 u A) [.ref (a0 0), .ref (a1 0), .int p2].toArray s 0 0 A) (F0 m 2 ls []) := by
    intro v0_1 v0_0 x2 x3 hF H locs ls hP hD hS hl
    unfold F_X6_writeSubpath_j2 at hF
    obtain ⟨x_2, hL_2, hE_2⟩ := obd_some hF
    have kl_2 : ∀ (k : Nat) (s2 : Int32 × Int32 × (Nat → Int32)), lpq (F_X6_writeSubpath_b2 v1_0 x2) k s2 = some x_2 → ∀ (H : Heap) (locs : List Loc) (ls : Array Slot), va_P (dC, dI) vwCl (wd_X6_writeSubpath cI a0 a1 s2.2.1 s2.2.2 v1_0) H → va_D A (wd_X6_writeSubpath cI a0 a1 s2.2.1 s2.2.2 v1_0) → va_S A s.heap H locs → lv_has ls 4 [(0, .ref (a0 0)), (1, .ref (a1 0)), (2, .int x2), (3, .int s2.1)] → W p l e (headSpec wz_X6_writeSubpath rm_X6_writeSubpath).room s m [.ref (a0 0), .ref (a1 0), .int p2].toArray below meth c H locs 0 0 (MQ below (Q_X6_writeSubpath dC dI cI a0 a1 v1_0 u A) [.ref (a0 0), .ref (a1 0), .int p2].toArray s 0 0 A) (F0 m 2 ls []) := by
      intro k
      induction k with
      | zero => intro s2 h; exact absurd h lpq_zero
      | succ k ih_2 =>
        intro s2 h H locs ls hP hD hS hl
        obtain ⟨o_2, hF, hO_2⟩ := lpq_succ h
        unfold F_X6_writeSubpath_b2 at hF
        have j23 : ∀ (v0_1 : Int32) (v0_0 : Nat → Int32) (x3 : Int32) (t1 : Int32), F_X6_writeSubpath_j23 v0_1 v0_0 v1_0 x2 x3 t1 = some o_2 → ∀ (H : Heap) (locs : List Loc) (ls : Array Slot), va_P (dC, dI) vwCl (wd_X6_writeSubpath cI a0 a1 v0_1 v0_0 v1_0) H → va_D A (wd_X6_writeSubpath cI a0 a1 v0_1 v0_0 v1_0) → va_S A s.heap H locs → lv_has ls 4 [(0, .ref (a0 0)), (1, .ref (a1 0)), (2, .int x2), (3, .int x3)] → W p l e (headSpec wz_X6_writeSubpath rm_X6_writeSubpath).room s m [.ref (a0 0), .ref (a1 0), .int p2].toArray below meth c H locs 0 0 (MQ below (Q_X6_writeSubpath dC dI cI a0 a1 v1_0 u A) [.ref (a0 0), .ref (a1 0), .int p2].toArray s 0 0 A) (F0 m 23 ls [.int t1, .ref (a0 0)]) := by
          intro v0_1 v0_0 x3 t1 hF H locs ls hP hD hS hl
          unfold F_X6_writeSubpath_j23 at hF
          obtain ⟨u_4, hu_4, hF⟩ := obd_some hF
          have hPc := hP.sub (ws' := (wd_X6_write cI a0 v0_1 v0_0)) [0, 1] rfl
          have hDc := hD.sub (ws' := (wd_X6_write cI a0 v0_1 v0_0)) [0, 1] rfl rfl
          refine q_callv (wc := (wd_X6_write cI a0 v0_1 v0_0)) (w1 := (wd_X6_write cI a0 u_4.1 u_4.2)) (ws' := (wd_X6_writeSubpath cI a0 a1 u_4.1 u_4.2 v1_0)) hP hD hS hA [0, 1] [2, 3] [2, 3, 0, 1] rfl rfl rfl (by decide) rfl rfl (va_runV (As := [.int t1]) (rest := []) ⟨hx, hb, hml, hown, hta⟩ (c_X6_write l dC dI cI H.size a0 v0_1 v0_0 t1 u_4 hu_4) (cwV 1 hta (ga_V mA741 mA742 mA743 mA19 mA744) rfl rfl rfl (by decide +kernel) ⟨Nat.le_of_ble_eq_true rfl, Nat.le_of_ble_eq_true rfl⟩) ⟨q_fb, va_recv hK hP (ci := 5) (q0 := 0) rfl rfl, q_ps hPc hK hDc⟩ rfl rfl hl.1 rfl (lv_room (Nat.le_of_ble_eq_true rfl)) dX6_writeSubpath_23 ⟨Nat.zero_le _, Nat.zero_le _⟩) (fun H locs hP hD hS => ?_)
          refine lv_aload_n hx hb dX6_writeSubpath_26 rfl (lv_at hl 0 rfl) ?_
          refine lv_aload_n hx hb dX6_writeSubpath_27 rfl (lv_at hl 1 rfl) ?_
          refine lv_iload_n hx hb dX6_writeSubpath_28 rfl (lv_at hl 2 rfl) ?_
          refine lv_iload_n hx hb dX6_writeSubpath_29 rfl (lv_at hl 3 rfl) ?_
          obtain ⟨u_5, hu_5, hF⟩ := obd_some hF
          have hPc := hP.sub (ws' := (wd_X1_xOf cI a1 v1_0)) [2, 3] rfl
          have hDc := hD.sub (ws' := (wd_X1_xOf cI a1 v1_0)) [2, 3] rfl rfl
          refine q_calli (wc := (wd_X1_xOf cI a1 v1_0)) (w1 := (wd_X1_xOf cI a1 v1_0)) (ws' := (wd_X6_writeSubpath cI a0 a1 u_4.1 u_4.2 v1_0)) hP hD hS hA [2, 3] [0, 1] [0, 1, 2, 3] rfl rfl rfl (by decide) rfl rfl (va_runV (As := [.int x2, .int x3]) (rest := [.ref (a0 0)]) ⟨hx, hb, hml, hown, hta⟩ (c_X1_xOf l dC dI cI H.size a1 v1_0 x2 x3 u_5 hu_5) (cwV 2 hta (ga_V mA745 mA208 mA209 mA6 mA210) rfl rfl rfl (by decide +kernel) ⟨Nat.le_of_ble_eq_true rfl, Nat.le_of_ble_eq_true rfl⟩) ⟨q_fb, va_recv hK hP (ci := 1) (q0 := 2) rfl rfl, q_ps hPc hK hDc⟩ rfl rfl hl.1 rfl (lv_room (Nat.le_of_ble_eq_true rfl)) dX6_writeSubpath_30 ⟨Nat.zero_le _, Nat.zero_le _⟩) (fun H locs hP hD hS => ?_)
          obtain ⟨u_6, hu_6, hF⟩ := obd_some hF
          have hPc := hP.sub (ws' := (wd_X6_writeNumber cI a0 u_4.1 u_4.2)) [0, 1] rfl
          have hDc := hD.sub (ws' := (wd_X6_writeNumber cI a0 u_4.1 u_4.2)) [0, 1] rfl rfl
          refine q_callv (wc := (wd_X6_writeNumber cI a0 u_4.1 u_4.2)) (w1 := (wd_X6_writeNumber cI a0 u_6.1 u_6.2)) (ws' := (wd_X6_writeSubpath cI a0 a1 u_6.1 u_6.2 v1_0)) hP hD hS hA [0, 1] [2, 3] [2, 3, 0, 1] rfl rfl rfl (by decide) rfl rfl (va_runV (As := [.int u_5]) (rest := []) ⟨hx, hb, hml, hown, hta⟩ (c_X6_writeNumber l dC dI cI H.size a0 u_4.1 u_4.2 u_5 u_6 hu_6) (cwV 1 hta (ga_V mA746 mA747 mA748 mA19 mA749) rfl rfl rfl (by decide +kernel) ⟨Nat.le_of_ble_eq_true rfl, Nat.le_of_ble_eq_true rfl⟩) ⟨q_fb, va_recv hK hP (ci := 5) (q0 := 0) rfl rfl, q_ps hPc hK hDc⟩ rfl rfl hl.1 rfl (lv_room (Nat.le_of_ble_eq_true rfl)) dX6_writeSubpath_33 ⟨Nat.zero_le _, Nat.zero_le _⟩) (fun H locs hP hD hS => ?_)
          refine lv_aload_n hx hb dX6_writeSubpath_36 rfl (lv_at hl 0 rfl) ?_
          refine lv_bipush (v := 44) hx hb dX6_writeSubpath_37 (by decide) ?_
          obtain ⟨u_7, hu_7, hF⟩ := obd_some hF
          have hPc := hP.sub (ws' := (wd_X6_write cI a0 u_6.1 u_6.2)) [0, 1] rfl
          have hDc := hD.sub (ws' := (wd_X6_write cI a0 u_6.1 u_6.2)) [0, 1] rfl rfl
          refine q_callv (wc := (wd_X6_write cI a0 u_6.1 u_6.2)) (w1 := (wd_X6_write cI a0 u_7.1 u_7.2)) (ws' := (wd_X6_writeSubpath cI a0 a1 u_7.1 u_7.2 v1_0)) hP hD hS hA [0, 1] [2, 3] [2, 3, 0, 1] rfl rfl rfl (by decide) rfl rfl (va_runV (As := [.int 44]) (rest := []) ⟨hx, hb, hml, hown, hta⟩ (c_X6_write l dC dI cI H.size a0 u_6.1 u_6.2 44 u_7 hu_7) (cwV 1 hta (ga_V mA741 mA742 mA743 mA19 mA744) rfl rfl rfl (by decide +kernel) ⟨Nat.le_of_ble_eq_true rfl, Nat.le_of_ble_eq_true rfl⟩) ⟨q_fb, va_recv hK hP (ci := 5) (q0 := 0) rfl rfl, q_ps hPc hK hDc⟩ rfl rfl hl.1 rfl (lv_room (Nat.le_of_ble_eq_true rfl)) dX6_writeSubpath_39 ⟨Nat.zero_le _, Nat.zero_le _⟩) (fun H locs hP hD hS => ?_)
          refine lv_aload_n hx hb dX6_writeSubpath_42 rfl (lv_at hl 0 rfl) ?_
          refine lv_aload_n hx hb dX6_writeSubpath_43 rfl (lv_at hl 1 rfl) ?_
          refine lv_iload_n hx hb dX6_writeSubpath_44 rfl (lv_at hl 2 rfl) ?_
          refine lv_iload_n hx hb dX6_writeSubpath_45 rfl (lv_at hl 3 rfl) ?_
          obtain ⟨u_8, hu_8, hF⟩ := obd_some hF
          have hPc := hP.sub (ws' := (wd_X1_yOf cI a1 v1_0)) [2, 3] rfl
          have hDc := hD.sub (ws' := (wd_X1_yOf cI a1 v1_0)) [2, 3] rfl rfl
          refine q_calli (wc := (wd_X1_yOf cI a1 v1_0)) (w1 := (wd_X1_yOf cI a1 v1_0)) (ws' := (wd_X6_writeSubpath cI a0 a1 u_7.1 u_7.2 v1_0)) hP hD hS hA [2, 3] [0, 1] [0, 1, 2, 3] rfl rfl rfl (by decide) rfl rfl (va_runV (As := [.int x2, .int x3]) (rest := [.ref (a0 0)]) ⟨hx, hb, hml, hown, hta⟩ (c_X1_yOf l dC dI cI H.size a1 v1_0 x2 x3 u_8 hu_8) (cwV 2 hta (ga_V mA751 mA212 mA213 mA6 mA214) rfl rfl rfl (by decide +kernel) ⟨Nat.le_of_ble_eq_true rfl, Nat.le_of_ble_eq_true rfl⟩) ⟨q_fb, va_recv hK hP (ci := 1) (q0 := 2) rfl rfl, q_ps hPc hK hDc⟩ rfl rfl hl.1 rfl (lv_room (Nat.le_of_ble_eq_true rfl)) dX6_writeSubpath_46 ⟨Nat.zero_le _, Nat.zero_le _⟩) (fun H locs hP hD hS => ?_)
          obtain ⟨u_9, hu_9, hF⟩ := obd_some hF
          have hPc := hP.sub (ws' := (wd_X6_writeNumber cI a0 u_7.1 u_7.2)) [0, 1] rfl
          have hDc := hD.sub (ws' := (wd_X6_writeNumber cI a0 u_7.1 u_7.2)) [0, 1] rfl rfl
          refine q_callv (wc := (wd_X6_writeNumber cI a0 u_7.1 u_7.2)) (w1 := (wd_X6_writeNumber cI a0 u_9.1 u_9.2)) (ws' := (wd_X6_writeSubpath cI a0 a1 u_9.1 u_9.2 v1_0)) hP hD hS hA [0, 1] [2, 3] [2, 3, 0, 1] rfl rfl rfl (by decide) rfl rfl (va_runV (As := [.int u_8]) (rest := []) ⟨hx, hb, hml, hown, hta⟩ (c_X6_writeNumber l dC dI cI H.size a0 u_7.1 u_7.2 u_8 u_9 hu_9) (cwV 1 hta (ga_V mA746 mA747 mA748 mA19 mA749) rfl rfl rfl (by decide +kernel) ⟨Nat.le_of_ble_eq_true rfl, Nat.le_of_ble_eq_true rfl⟩) ⟨q_fb, va_recv hK hP (ci := 5) (q0 := 0) rfl rfl, q_ps hPc hK hDc⟩ rfl rfl hl.1 rfl (lv_room (Nat.le_of_ble_eq_true rfl)) dX6_writeSubpath_49 ⟨Nat.zero_le _, Nat.zero_le _⟩) (fun H locs hP hD hS => ?_)
          obtain ⟨y_10, ey_10, hF⟩ := lt_some hF
          refine lv_iinc (v := y_10) (lv' := [(3, .int y_10), (0, .ref (a0 0)), (1, .ref (a1 0)), (2, .int x2)]) hx hb dX6_writeSubpath_52 hl (k := 3) rfl (by rw [ey_10]; rfl) (by decide) rfl (fun ls hl => ?_)
          refine lv_goto (tgt := 2) hx hb dX6_writeSubpath_55 (by decide) ?_
          obtain rfl := Option.some.inj hF
          exact ih_2 _ hO_2 _ _ _ hP hD hS (lv_sub hl [1, 2, 3, 0] rfl)
        refine lv_iload_n hx hb dX6_writeSubpath_2 rfl (lv_at hl 3 rfl) ?_
        refine lv_aload_n hx hb dX6_writeSubpath_3 rfl (lv_at hl 1 rfl) ?_
        refine lv_iload_n hx hb dX6_writeSubpath_4 rfl (lv_at hl 2 rfl) ?_
        obtain ⟨u_11, hu_11, hF⟩ := obd_some hF
        have hPc := hP.sub (ws' := (wd_X1_pointCount cI a1 v1_0)) [2, 3] rfl
        have hDc := hD.sub (ws' := (wd_X1_pointCount cI a1 v1_0)) [2, 3] rfl rfl
        refine q_calli (wc := (wd_X1_pointCount cI a1 v1_0)) (w1 := (wd_X1_pointCount cI a1 v1_0)) (ws' := (wd_X6_writeSubpath cI a0 a1 s2.2.1 s2.2.2 v1_0)) hP hD hS hA [2, 3] [0, 1] [0, 1, 2, 3] rfl rfl rfl (by decide) rfl rfl (va_runV (As := [.int x2]) (rest := [.int s2.1]) ⟨hx, hb, hml, hown, hta⟩ (c_X1_pointCount l dC dI cI H.size a1 v1_0 x2 u_11 hu_11) (cwV 1 hta (ga_V mA740 mA169 mA170 mA6 mA171) rfl rfl rfl (by decide +kernel) ⟨Nat.le_of_ble_eq_true rfl, Nat.le_of_ble_eq_true rfl⟩) ⟨q_fb, va_recv hK hP (ci := 1) (q0 := 2) rfl rfl, q_ps hPc hK hDc⟩ rfl rfl hl.1 rfl (lv_room (Nat.le_of_ble_eq_true rfl)) dX6_writeSubpath_5 ⟨Nat.zero_le _, Nat.zero_le _⟩) (fun H locs hP hD hS => ?_)
        refine lv_icmp_ge (tgt := 58) hx hb dX6_writeSubpath_8 (by decide) (fun c_12 => ?_) (fun c_12 => ?_)
        · have hF := it_t hF c_12
          obtain rfl := Option.some.inj hF
          obtain rfl := lpq_x hO_2
          have hF := hE_2
          exact j58 s2.2.1 s2.2.2 x2 hF _ _ _ hP hD hS (lv_sub hl [0, 1, 2] rfl)
        · have hF := it_f hF c_12
          refine lv_aload_n hx hb dX6_writeSubpath_11 rfl (lv_at hl 0 rfl) ?_
          refine lv_iload_n hx hb dX6_writeSubpath_12 rfl (lv_at hl 3 rfl) ?_
          refine lv_if_ne (tgt := 21) hx hb dX6_writeSubpath_13 (by decide) (fun c_13 => ?_) (fun c_13 => ?_)
          · have hF := it_f hF c_13
            refine lv_bipush (v := 76) hx hb dX6_writeSubpath_21 (by decide) ?_
            exact j23 s2.2.1 s2.2.2 s2.1 76 hF _ _ _ hP hD hS (lv_sub hl [0, 1, 2, 3] rfl)
          · have hF := it_t hF c_13
            refine lv_bipush (v := 77) hx hb dX6_writeSubpath_16 (by decide) ?_
            refine lv_goto (tgt := 23) hx hb dX6_writeSubpath_18 (by decide) ?_
            exact j23 s2.2.1 s2.2.2 s2.1 77 hF _ _ _ hP hD hS (lv_sub hl [0, 1, 2, 3] rfl)
    exact kl_2 n _ hL_2 _ _ _ hP hD hS hl
  refine lv_iconst (v := 0) hx hb dX6_writeSubpath_0 (by decide) ?_
  refine lv_istore_n (lv' := [(3, .int 0), (0, .ref (a0 0)), (1, .ref (a1 0)), (2, .int p2)]) hx hb dX6_writeSubpath_1 rfl hl (by decide) rfl (fun ls hl => ?_)
  exact j2 v0_1 v0_0 p2 0 hF _ _ _ hP hD hS (lv_sub hl [1, 2, 3, 0] rfl)

-- StrokeOutliner$PathWriter.byteOf(LStrokeOutliner$Drawing;I)I
def F_X6_byteOf_j50 (v0_1 : Int32) (v0_0 : Nat → Int32) : Option (Int32 × Int32 × (Nat → Int32)) :=
  some ((-1), v0_1, v0_0)
def F_X6_byteOf_j27 (v0_1 : Int32) (v0_0 : Nat → Int32) (x2 : Int32) : Option (Int32 × Int32 × (Nat → Int32)) :=
  if x2 < 0 then F_X6_byteOf_j50 v0_1 v0_0 else if v0_1 ≤ x2 then F_X6_byteOf_j50 v0_1 v0_0 else obd (F_X4_at 324 v0_0 x2) (fun u_3 => some (u_3, v0_1, v0_0))
def F_X6_byteOf_b7 (n : Nat) (v1_0 : Nat → Int32) (s7 : Int32 × Int32 × (Nat → Int32)) : Option (Sum (Int32 × Int32 × (Nat → Int32)) (Int32 × (Nat → Int32))) :=
  obd (F_X1_subpathCount v1_0) (fun u_4 => if u_4 ≤ s7.1 then some (.inr (s7.2.1, s7.2.2)) else obd (F_X6_writeSubpath n s7.2.1 s7.2.2 v1_0 s7.1) (fun u_6 => lt (s7.1 + 1) (fun y_7 => some (.inl (y_7, u_6.1, u_6.2)))))
def F_X6_byteOf_j7 (n : Nat) (v0_1 : Int32) (v0_0 : Nat → Int32) (v1_0 : Nat → Int32) (x2 : Int32) (x3 : Int32) : Option (Int32 × Int32 × (Nat → Int32)) :=
  obd (lpq (F_X6_byteOf_b7 n v1_0) n (x3, v0_1, v0_0)) (fun x_7 => F_X6_byteOf_j27 x_7.1 x_7.2 x2)
def F_X6_byteOf (n : Nat) (v0_0 : Nat → Int32) (v1_0 : Nat → Int32) (p2 : Int32) : Option (Int32 × Int32 × (Nat → Int32)) :=
  F_X6_byteOf_j7 n 0 v0_0 v1_0 p2 0
abbrev wd_X6_byteOf (cI : ClassId) (a0 : Nat → Nat) (a1 : Nat → Nat) (v0_1 : Int32) (v0_0 : Nat → Int32) (v1_0 : Nat → Int32) : va_W := [(a0 0, .inr (5, [.ref (a0 1), .int v0_1])), (a0 1, .inl (cI, 324, .inl v0_0)), (a1 0, .inr (1, [.ref (a1 1)])), (a1 1, .inl (cI, 86, .inl v1_0))]
abbrev wz_X6_byteOf : List Cond := .code yX6_byteOf cX6_byteOf 4 (some .int) :: wALL
abbrev rm_X6_byteOf : Room := { frames := 3, cells := 0, slots := 0, locals := 66 }
abbrev Q_X6_byteOf (dC : Nat → ClassId) (dI : Nat → Nat → Nat) (cI : ClassId) (a0 : Nat → Nat) (a1 : Nat → Nat) (v1_0 : Nat → Int32) (u : (Int32 × Int32 × (Nat → Int32))) (A : Nat → Prop) : Array Value → State → Outcome → State → Prop := va_Qi (fun (r : Int32) (_ : Unit) => r = u.1) (fun _ => q_at dC dI cI A (wd_X6_byteOf cI a0 a1 u.2.1 u.2.2 v1_0)) A
set_option maxHeartbeats 4000000 in
set_option maxRecDepth 100000 in
theorem c_X6_byteOf (l : Launch) (dC : Nat → ClassId) (dI : Nat → Nat → Nat) (cI : ClassId) (sz : Nat) (a0 : Nat → Nat) (a1 : Nat → Nat) (v0_1 : Int32) (v0_0 : Nat → Int32) (v1_0 : Nat → Int32) (p2 : Int32) (n : Nat) (u : (Int32 × Int32 × (Nat → Int32))) (hF : F_X6_byteOf n v0_0 v1_0 p2 = some u) : Met l yX6_byteOf wz_X6_byteOf rm_X6_byteOf (va_Pc [.ref (a0 0), .ref (a1 0), .int p2] (q_pre dC dI cI (wd_X6_byteOf cI a0 a1 v0_1 v0_0 v1_0) sz)) (Q_X6_byteOf dC dI cI a0 a1 v1_0 u (va_A (wd_X6_byteOf cI a0 a1 v0_1 v0_0 v1_0) sz)) 0 0 (va_A (wd_X6_byteOf cI a0 a1 v0_1 v0_0 v1_0) sz) := by
  refine Met.ofW (cc := cX6_byteOf) (maxL := 4) (ret := (some .int)) (by decide) rfl ?_
  intro p e s m args below meth c s₁ B hml hv
  obtain ⟨rfl, hsz, hP, hK, hD0⟩ := hv
  have hx := B.exec
  have hb := B.bytes
  have hr := B.returns
  have hts := atoms_spec (ws := wz_X6_byteOf) B.pre
  have hta := wz_tl hts
  have hown : s.vm.findClass RX6 = some m.cls := findClass_of_methodNamed B.named
  have hlocks := B.notSynchronized
  subst hsz
  have hD := hD0.self (sz := s.heap.size)
  generalize hAe : va_A (wd_X6_byteOf cI a0 a1 v0_1 v0_0 v1_0) s.heap.size = A at hD ⊢
  have hA : ∀ q : Nat, s.heap.size ≤ q → A q := fun q h => by rw [← hAe]; exact Or.inr h
  have hS : va_S A s.heap s.heap [] := va_S.rf
  have hP : va_P (dC, dI) vwCl (wd_X6_byteOf cI a0 a1 v0_1 v0_0 v1_0) s.heap := hP
  have hl := lv_entry ([.ref (a0 0), .ref (a1 0), .int p2]) (n := 4) (Nat.le_of_ble_eq_true rfl)
  rw [lg_entry_eq]
  generalize (lg_sl ([.ref (a0 0), .ref (a1 0), .int p2]) ++ List.replicate (4 - (lg_sl ([.ref (a0 0), .ref (a1 0), .int p2])).length) Slot.unset).toArray = ls at hl ⊢
  have hl : lv_has ls 4 [(0, .ref (a0 0)), (1, .ref (a1 0)), (2, .int p2)] := hl
  obtain ⟨H, hHe⟩ : ∃ H, H = s.heap := ⟨_, rfl⟩
  have hS : va_S A s.heap H [] := by rw [hHe]; exact hS
  have hP : va_P (dC, dI) vwCl (wd_X6_byteOf cI a0 a1 v0_1 v0_0 v1_0) H := by rw [hHe]; exact hP
  rw [← hHe]
  unfold F_X6_byteOf at hF
  have j50 : ∀ (v0_1 : Int32) (v0_0 : Nat → Int32), F_X6_byteOf_j50 v0_1 v0_0 = some u → ∀ (H : Heap) (locs : List Loc) (ls : Array Slot), va_P (dC, dI) vwCl (wd_X6_byteOf cI a0 a1 v0_1 v0_0 v1_0) H → va_D A (wd_X6_byteOf cI a0 a1 v0_1 v0_0 v1_0) → va_S A s.heap H locs → lv_has ls 4 [] → W p l e (headSpec wz_X6_byteOf rm_X6_byteOf).room s m [.ref (a0 0), .ref (a1 0), .int p2].toArray below meth c H locs 0 0 (MQ below (Q_X6_byteOf dC dI cI a0 a1 v1_0 u A) [.ref (a0 0), .ref (a1 0), .int p2].toArray s 0 0 A) (F0 m 50 ls []) := by
    intro v0_1 v0_0 hF H locs ls hP hD hS hl
    unfold F_X6_byteOf_j50 at hF
    refine lv_iconst (v := (-1)) hx hb dX6_byteOf_50 (by decide) ?_
    obtain rfl := Option.some.inj hF
    exact W.iret (v := (-1)) hx hb hr (fun t ht hW => ⟨⟨(-1), (), rfl, rfl, by rw [ht]; exact hP, va_K.moved hW.alike hK, hD⟩, hS.F ht⟩) hS.2.2 dX6_byteOf_51
  have j27 : ∀ (v0_1 : Int32) (v0_0 : Nat → Int32) (x2 : Int32), F_X6_byteOf_j27 v0_1 v0_0 x2 = some u → ∀ (H : Heap) (locs : List Loc) (ls : Array Slot), va_P (dC, dI) vwCl (wd_X6_byteOf cI a0 a1 v0_1 v0_0 v1_0) H → va_D A (wd_X6_byteOf cI a0 a1 v0_1 v0_0 v1_0) → va_S A s.heap H locs → lv_has ls 4 [(0, .ref (a0 0)), (2, .int x2)] → W p l e (headSpec wz_X6_byteOf rm_X6_byteOf).room s m [.ref (a0 0), .ref (a1 0), .int p2].toArray below meth c H locs 0 0 (MQ below (Q_X6_byteOf dC dI cI a0 a1 v1_0 u A) [.ref (a0 0), .ref (a1 0), .int p2].toArray s 0 0 A) (F0 m 27 ls []) := by
    intro v0_1 v0_0 x2 hF H locs ls hP hD hS hl
    unfold F_X6_byteOf_j27 at hF
    refine lv_iload_n hx hb dX6_byteOf_27 rfl (lv_at hl 1 rfl) ?_
    refine lv_if_lt (tgt := 50) hx hb dX6_byteOf_28 (by decide) (fun c_1 => ?_) (fun c_1 => ?_)
    · have hF := it_t hF c_1
      exact j50 v0_1 v0_0 hF _ _ _ hP hD hS (lv_sub hl [] rfl)
    · have hF := it_f hF c_1
      refine lv_iload_n hx hb dX6_byteOf_31 rfl (lv_at hl 1 rfl) ?_
      refine lv_aload_n hx hb dX6_byteOf_32 rfl (lv_at hl 0 rfl) ?_
      refine va_get (D := (dC, dI)) (ci := 5) (v := .int v0_1) (C := RX6) (T := TX6) (N := 2) hx hb hta uw_X6 hown hK hP 0 rfl rfl 1 (by decide) (hta _ mA734) (fun _ h9 => h9) rfl dX6_byteOf_33 ?_
      refine lv_icmp_ge (tgt := 50) hx hb dX6_byteOf_36 (by decide) (fun c_2 => ?_) (fun c_2 => ?_)
      · have hF := it_t hF c_2
        exact j50 v0_1 v0_0 hF _ _ _ hP hD hS (lv_sub hl [] rfl)
      · have hF := it_f hF c_2
        refine lv_aload_n hx hb dX6_byteOf_39 rfl (lv_at hl 0 rfl) ?_
        refine va_get (D := (dC, dI)) (ci := 5) (v := .ref (a0 1)) (C := RX6) (T := TX6) (N := 2) hx hb hta uw_X6 hown hK hP 0 rfl rfl 0 (by decide) (hta _ mA46) (fun _ h9 => h9) rfl dX6_byteOf_40 ?_
        refine lv_iload_n hx hb dX6_byteOf_43 rfl (lv_at hl 1 rfl) ?_
        obtain ⟨u_3, hu_3, hF⟩ := obd_some hF
        have hPc := hP.sub (ws' := (wd_X4_at cI (a0 1) 324 v0_0)) [1] rfl
        have hDc := hD.sub (ws' := (wd_X4_at cI (a0 1) 324 v0_0)) [1] rfl rfl
        refine q_calli (wc := (wd_X4_at cI (a0 1) 324 v0_0)) (w1 := (wd_X4_at cI (a0 1) 324 v0_0)) (ws' := (wd_X6_byteOf cI a0 a1 v0_1 v0_0 v1_0)) hP hD hS hA [1] [0, 2, 3] [0, 3, 1, 2] rfl rfl rfl (by decide) rfl rfl (va_runS (As := [.ref (a0 1), .int x2]) (rest := []) ⟨hx, hb, hml, hown, hta⟩ (c_X4_at l dC dI cI H.size (a0 1) 324 v0_0 x2 u_3 hu_3) (va_cwS 2 hta (ga_S mA753 mA237 mA221 mA238) rfl rfl rfl (by decide +kernel) ⟨Nat.le_of_ble_eq_true rfl, Nat.le_of_ble_eq_true rfl⟩) ⟨q_fb, q_ps hPc hK hDc⟩ rfl rfl hl.1 rfl (lv_room (Nat.le_of_ble_eq_true rfl)) dX6_byteOf_44 ⟨Nat.zero_le _, Nat.zero_le _⟩) (fun H locs hP hD hS => ?_)
        refine lv_goto (tgt := 51) hx hb dX6_byteOf_47 (by decide) ?_
        obtain rfl := Option.some.inj hF
        exact W.iret (v := u_3) hx hb hr (fun t ht hW => ⟨⟨u_3, (), rfl, rfl, by rw [ht]; exact hP, va_K.moved hW.alike hK, hD⟩, hS.F ht⟩) hS.2.2 dX6_byteOf_51
  have j7 : ∀ (v0_1 : Int32) (v0_0 : Nat → Int32) (x2 : Int32) (x3 : Int32), F_X6_byteOf_j7 n v0_1 v0_0 v1_0 x2 x3 = some u → ∀ (H : Heap) (locs : List Loc) (ls : Array Slot), va_P (dC, dI) vwCl (wd_X6_byteOf cI a0 a1 v0_1 v0_0 v1_0) H → va_D A (wd_X6_byteOf cI a0 a1 v0_1 v0_0 v1_0) → va_S A s.heap H locs → lv_has ls 4 [(0, .ref (a0 0)), (1, .ref (a1 0)), (2, .int x2), (3, .int x3)] → W p l e (headSpec wz_X6_byteOf rm_X6_byteOf).room s m [.ref (a0 0), .ref (a1 0), .int p2].toArray below meth c H locs 0 0 (MQ below (Q_X6_byteOf dC dI cI a0 a1 v1_0 u A) [.ref (a0 0), .ref (a1 0), .int p2].toArray s 0 0 A) (F0 m 7 ls []) := by
    intro v0_1 v0_0 x2 x3 hF H locs ls hP hD hS hl
    unfold F_X6_byteOf_j7 at hF
    obtain ⟨x_7, hL_7, hE_7⟩ := obd_some hF
    have kl_7 : ∀ (k : Nat) (s7 : Int32 × Int32 × (Nat → Int32)), lpq (F_X6_byteOf_b7 n v1_0) k s7 = some x_7 → ∀ (H : Heap) (locs : List Loc) (ls : Array Slot), va_P (dC, dI) vwCl (wd_X6_byteOf cI a0 a1 s7.2.1 s7.2.2 v1_0) H → va_D A (wd_X6_byteOf cI a0 a1 s7.2.1 s7.2.2 v1_0) → va_S A s.heap H locs → lv_has ls 4 [(0, .ref (a0 0)), (1, .ref (a1 0)), (2, .int x2), (3, .int s7.1)] → W p l e (headSpec wz_X6_byteOf rm_X6_byteOf).room s m [.ref (a0 0), .ref (a1 0), .int p2].toArray below meth c H locs 0 0 (MQ below (Q_X6_byteOf dC dI cI a0 a1 v1_0 u A) [.ref (a0 0), .ref (a1 0), .int p2].toArray s 0 0 A) (F0 m 7 ls []) := by
      intro k
      induction k with
      | zero => intro s7 h; exact absurd h lpq_zero
      | succ k ih_7 =>
        intro s7 h H locs ls hP hD hS hl
        obtain ⟨o_7, hF, hO_7⟩ := lpq_succ h
        unfold F_X6_byteOf_b7 at hF
        refine lv_iload_n hx hb dX6_byteOf_7 rfl (lv_at hl 3 rfl) ?_
        refine lv_aload_n hx hb dX6_byteOf_8 rfl (lv_at hl 1 rfl) ?_
        obtain ⟨u_4, hu_4, hF⟩ := obd_some hF
        have hPc := hP.sub (ws' := (wd_X1_subpathCount cI a1 v1_0)) [2, 3] rfl
        have hDc := hD.sub (ws' := (wd_X1_subpathCount cI a1 v1_0)) [2, 3] rfl rfl
        refine q_calli (wc := (wd_X1_subpathCount cI a1 v1_0)) (w1 := (wd_X1_subpathCount cI a1 v1_0)) (ws' := (wd_X6_byteOf cI a0 a1 s7.2.1 s7.2.2 v1_0)) hP hD hS hA [2, 3] [0, 1] [0, 1, 2, 3] rfl rfl rfl (by decide) rfl rfl (va_runV (As := []) (rest := [.int s7.1]) ⟨hx, hb, hml, hown, hta⟩ (c_X1_subpathCount l dC dI cI H.size a1 v1_0 u_4 hu_4) (cwV 0 hta (ga_V mA735 mA113 mA114 mA6 mA115) rfl rfl rfl (by decide +kernel) ⟨Nat.le_of_ble_eq_true rfl, Nat.le_of_ble_eq_true rfl⟩) ⟨q_fb, va_recv hK hP (ci := 1) (q0 := 2) rfl rfl, q_ps hPc hK hDc⟩ rfl rfl hl.1 rfl (lv_room (Nat.le_of_ble_eq_true rfl)) dX6_byteOf_9 ⟨Nat.zero_le _, Nat.zero_le _⟩) (fun H locs hP hD hS => ?_)
        refine lv_icmp_ge (tgt := 27) hx hb dX6_byteOf_12 (by decide) (fun c_5 => ?_) (fun c_5 => ?_)
        · have hF := it_t hF c_5
          obtain rfl := Option.some.inj hF
          obtain rfl := lpq_x hO_7
          have hF := hE_7
          exact j27 s7.2.1 s7.2.2 x2 hF _ _ _ hP hD hS (lv_sub hl [0, 2] rfl)
        · have hF := it_f hF c_5
          refine lv_aload_n hx hb dX6_byteOf_15 rfl (lv_at hl 0 rfl) ?_
          refine lv_aload_n hx hb dX6_byteOf_16 rfl (lv_at hl 1 rfl) ?_
          refine lv_iload_n hx hb dX6_byteOf_17 rfl (lv_at hl 3 rfl) ?_
          obtain ⟨u_6, hu_6, hF⟩ := obd_some hF
          have hPc := hP.sub (ws' := (wd_X6_writeSubpath cI a0 a1 s7.2.1 s7.2.2 v1_0)) [0, 1, 2, 3] rfl
          have hDc := hD.sub (ws' := (wd_X6_writeSubpath cI a0 a1 s7.2.1 s7.2.2 v1_0)) [0, 1, 2, 3] rfl rfl
          refine q_callv (wc := (wd_X6_writeSubpath cI a0 a1 s7.2.1 s7.2.2 v1_0)) (w1 := (wd_X6_writeSubpath cI a0 a1 u_6.1 u_6.2 v1_0)) (ws' := (wd_X6_byteOf cI a0 a1 u_6.1 u_6.2 v1_0)) hP hD hS hA [0, 1, 2, 3] [] [0, 1, 2, 3] rfl rfl rfl (by decide) rfl rfl (va_runV (As := [.ref (a1 0), .int s7.1]) (rest := []) ⟨hx, hb, hml, hown, hta⟩ (c_X6_writeSubpath l dC dI cI H.size a0 a1 s7.2.1 s7.2.2 v1_0 s7.1 n u_6 hu_6) (cwV 2 hta (ga_V mA736 mA737 mA738 mA19 mA739) rfl rfl rfl (by decide +kernel) ⟨Nat.le_of_ble_eq_true rfl, Nat.le_of_ble_eq_true rfl⟩) ⟨q_fb, va_recv hK hP (ci := 5) (q0 := 0) rfl rfl, q_ps hPc hK hDc⟩ rfl rfl hl.1 rfl (lv_room (Nat.le_of_ble_eq_true rfl)) dX6_byteOf_18 ⟨Nat.zero_le _, Nat.zero_le _⟩) (fun H locs hP hD hS => ?_)
          obtain ⟨y_7, ey_7, hF⟩ := lt_some hF
          refine lv_iinc (v := y_7) (lv' := [(3, .int y_7), (0, .ref (a0 0)), (1, .ref (a1 0)), (2, .int x2)]) hx hb dX6_byteOf_21 hl (k := 3) rfl (by rw [ey_7]; rfl) (by decide) rfl (fun ls hl => ?_)
          refine lv_goto (tgt := 7) hx hb dX6_byteOf_24 (by decide) ?_
          obtain rfl := Option.some.inj hF
          exact ih_7 _ hO_7 _ _ _ hP hD hS (lv_sub hl [1, 2, 3, 0] rfl)
    exact kl_7 n _ hL_7 _ _ _ hP hD hS hl
  refine lv_aload_n hx hb dX6_byteOf_0 rfl (lv_at hl 0 rfl) ?_
  refine lv_iconst (v := 0) hx hb dX6_byteOf_1 (by decide) ?_
  refine va_put (D := (dC, dI)) (ci := 5) (v := .int 0) (ty := .int) (C := RX6) (T := TX6) (N := 2) hx hb hta uw_X6 tyX6 tyX6_ok nmX6 hown hK hP hD hS 0 rfl rfl 1 (by decide) (hta _ mA734) (fun _ h9 => h9) rfl (by decide +kernel) rfl rfl (Nat.le_of_ble_eq_true rfl) dX6_byteOf_2 (fun H locs hP hD hS => ?_)
  have hP : va_P (dC, dI) vwCl (wd_X6_byteOf cI a0 a1 0 v0_0 v1_0) H := hP
  have hD : va_D A (wd_X6_byteOf cI a0 a1 0 v0_0 v1_0) := hD
  refine lv_iconst (v := 0) hx hb dX6_byteOf_5 (by decide) ?_
  refine lv_istore_n (lv' := [(3, .int 0), (0, .ref (a0 0)), (1, .ref (a1 0)), (2, .int p2)]) hx hb dX6_byteOf_6 rfl hl (by decide) rfl (fun ls hl => ?_)
  exact j7 0 v0_0 p2 0 hF _ _ _ hP hD hS (lv_sub hl [1, 2, 3, 0] rfl)
