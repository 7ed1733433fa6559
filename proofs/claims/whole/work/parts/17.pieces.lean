-- StrokeOutliner$Pieces.clear(I)V
def F_X7_clear (p1 : Int32) : (Int32 × Int32) :=
  (0, p1)
abbrev wd_X7_clear (cI : ClassId) (a0 : Nat → Nat) (v0_3 : Int32) (v0_4 : Int32) (v0_5 : Int32) : va_W := [(a0 0, .inr (6, [.ref (a0 1), .ref (a0 2), .ref (a0 3), .int v0_3, .int v0_4, .int v0_5]))]
abbrev wz_X7_clear : List Cond := .code yX7_clear cX7_clear 2 none :: wALL
abbrev rm_X7_clear : Room := { frames := 0, cells := 0, slots := 0, locals := 0 }
abbrev Q_X7_clear (dC : Nat → ClassId) (dI : Nat → Nat → Nat) (cI : ClassId) (a0 : Nat → Nat) (v0_4 : Int32) (u : (Int32 × Int32)) (A : Nat → Prop) : Array Value → State → Outcome → State → Prop := va_Qv (fun (_ : Unit) => True) (fun _ => q_at dC dI cI A (wd_X7_clear cI a0 u.1 v0_4 u.2)) A
set_option maxHeartbeats 4000000 in
set_option maxRecDepth 100000 in
theorem c_X7_clear (l : Launch) (dC : Nat → ClassId) (dI : Nat → Nat → Nat) (cI : ClassId) (sz : Nat) (a0 : Nat → Nat) (v0_3 : Int32) (v0_4 : Int32) (v0_5 : Int32) (p1 : Int32) (u : (Int32 × Int32)) (hF : F_X7_clear p1 = u) : Met l yX7_clear wz_X7_clear rm_X7_clear (va_Pc [.ref (a0 0), .int p1] (q_pre dC dI cI (wd_X7_clear cI a0 v0_3 v0_4 v0_5) sz)) (Q_X7_clear dC dI cI a0 v0_4 u (va_A (wd_X7_clear cI a0 v0_3 v0_4 v0_5) sz)) 0 0 (va_A (wd_X7_clear cI a0 v0_3 v0_4 v0_5) sz) := by
  refine Met.ofW (cc := cX7_clear) (maxL := 2) (ret := none) (by decide) rfl ?_
  intro p e s m args below meth c s₁ B hml hv
  obtain ⟨rfl, hsz, hP, hK, hD0⟩ := hv
  have hx := B.exec
  have hb := B.bytes
  have hr := B.returns
  have hts := atoms_spec (ws := wz_X7_clear) B.pre
  have hta := wz_tl hts
  have hown : s.vm.findClass RX7 = some m.cls := findClass_of_methodNamed B.named
  have hlocks := B.notSynchronized
  subst hsz
  have hD := hD0.self (sz := s.heap.size)
  generalize hAe : va_A (wd_X7_clear cI a0 v0_3 v0_4 v0_5) s.heap.size = A at hD ⊢
  have hA : ∀ q : Nat, s.heap.size ≤ q → A q := fun q h => by rw [← hAe]; exact Or.inr h
  have hS : va_S A s.heap s.heap [] := va_S.rf
  have hP : va_P (dC, dI) vwCl (wd_X7_clear cI a0 v0_3 v0_4 v0_5) s.heap := hP
  have hl := lv_entry ([.ref (a0 0), .int p1]) (n := 2) (Nat.le_of_ble_eq_true rfl)
  rw [lg_entry_eq]
  generalize (lg_sl ([.ref (a0 0), .int p1]) ++ List.replicate (2 - (lg_sl ([.ref (a0 0), .int p1])).length) Slot.unset).toArray = ls at hl ⊢
  have hl : lv_has ls 2 [(0, .ref (a0 0)), (1, .int p1)] := hl
  obtain ⟨H, hHe⟩ : ∃ H, H = s.heap := ⟨_, rfl⟩
  have hS : va_S A s.heap H [] := by rw [hHe]; exact hS
  have hP : va_P (dC, dI) vwCl (wd_X7_clear cI a0 v0_3 v0_4 v0_5) H := by rw [hHe]; exact hP
  rw [← hHe]
  unfold F_X7_clear at hF
  refine lv_aload_n hx hb dX7_clear_0 rfl (lv_at hl 0 rfl) ?_
  refine lv_iconst (v := 0) hx hb dX7_clear_1 (by decide) ?_
  refine va_put (D := (dC, dI)) (ci := 6) (v := .int 0) (ty := .int) (C := RX7) (T := TX7) (N := 6) hx hb hta uw_X7 tyX7 tyX7_ok nmX7 hown hK hP hD hS 0 rfl rfl 3 (by decide) (hta _ mA475) (fun _ h9 => h9) rfl (by decide +kernel) rfl rfl (Nat.le_of_ble_eq_true rfl) dX7_clear_2 (fun H locs hP hD hS => ?_)
  have hP : va_P (dC, dI) vwCl (wd_X7_clear cI a0 0 v0_4 v0_5) H := hP
  have hD : va_D A (wd_X7_clear cI a0 0 v0_4 v0_5) := hD
  refine lv_aload_n hx hb dX7_clear_5 rfl (lv_at hl 0 rfl) ?_
  refine lv_iload_n hx hb dX7_clear_6 rfl (lv_at hl 1 rfl) ?_
  refine va_put (D := (dC, dI)) (ci := 6) (v := .int p1) (ty := .int) (C := RX7) (T := TX7) (N := 6) hx hb hta uw_X7 tyX7 tyX7_ok nmX7 hown hK hP hD hS 0 rfl rfl 5 (by decide) (hta _ mA476) (fun _ h9 => h9) rfl (by decide +kernel) rfl rfl (Nat.le_of_ble_eq_true rfl) dX7_clear_7 (fun H locs hP hD hS => ?_)
  have hP : va_P (dC, dI) vwCl (wd_X7_clear cI a0 0 v0_4 p1) H := hP
  have hD : va_D A (wd_X7_clear cI a0 0 v0_4 p1) := hD
  subst hF
  exact W.vret hx hb hr (fun t ht hW => ⟨⟨(), rfl, trivial, by rw [ht]; exact hP, va_K.moved hW.alike hK, hD⟩, hS.F ht⟩) hS.2.2 dX7_clear_10

-- StrokeOutliner$Pieces.start(I)V
def F_X7_start (v0_3 : Int32) (v0_4 : Int32) (v0_0 : Nat → Int32) (p1 : Int32) : Option (Int32 × Int32 × (Nat → Int32)) :=
  if v0_3 < 0 then some (v0_3, v0_4, v0_0) else if 2800 ≤ v0_3 then some (v0_3, v0_4, v0_0) else gd (decide (vpi v0_3 2800)) (lt (upd v0_0 v0_3.toNatClampNeg p1) (fun y_4 => lt (v0_3 + 1) (fun y_5 => some (y_5, 0, y_4))))
abbrev wd_X7_start (cI : ClassId) (a0 : Nat → Nat) (v0_3 : Int32) (v0_4 : Int32) (v0_5 : Int32) (v0_0 : Nat → Int32) : va_W := [(a0 0, .inr (6, [.ref (a0 1), .ref (a0 2), .ref (a0 3), .int v0_3, .int v0_4, .int v0_5])), (a0 1, .inl (cI, 2800, .inl v0_0))]
abbrev wz_X7_start : List Cond := .code yX7_start cX7_start 2 none :: wALL
abbrev rm_X7_start : Room := { frames := 0, cells := 0, slots := 0, locals := 0 }
abbrev Q_X7_start (dC : Nat → ClassId) (dI : Nat → Nat → Nat) (cI : ClassId) (a0 : Nat → Nat) (v0_5 : Int32) (u : (Int32 × Int32 × (Nat → Int32))) (A : Nat → Prop) : Array Value → State → Outcome → State → Prop := va_Qv (fun (_ : Unit) => True) (fun _ => q_at dC dI cI A (wd_X7_start cI a0 u.1 u.2.1 v0_5 u.2.2)) A
set_option maxHeartbeats 4000000 in
set_option maxRecDepth 100000 in
theorem c_X7_start (l : Launch) (dC : Nat → ClassId) (dI : Nat → Nat → Nat) (cI : ClassId) (sz : Nat) (a0 : Nat → Nat) (v0_3 : Int32) (v0_4 : Int32) (v0_5 : Int32) (v0_0 : Nat → Int32) (p1 : Int32) (u : (Int32 × Int32 × (Nat → Int32))) (hF : F_X7_start v0_3 v0_4 v0_0 p1 = some u) : Met l yX7_start wz_X7_start rm_X7_start (va_Pc [.ref (a0 0), .int p1] (q_pre dC dI cI (wd_X7_start cI a0 v0_3 v0_4 v0_5 v0_0) sz)) (Q_X7_start dC dI cI a0 v0_5 u (va_A (wd_X7_start cI a0 v0_3 v0_4 v0_5 v0_0) sz)) 0 0 (va_A (wd_X7_start cI a0 v0_3 v0_4 v0_5 v0_0) sz) := by
  refine Met.ofW (cc := cX7_start) (maxL := 2) (ret := none) (by decide) rfl ?_
  intro p e s m args below meth c s₁ B hml hv
  obtain ⟨rfl, hsz, hP, hK, hD0⟩ := hv
  have hx := B.exec
  have hb := B.bytes
  have hr := B.returns
  have hts := atoms_spec (ws := wz_X7_start) B.pre
  have hta := wz_tl hts
  have hown : s.vm.findClass RX7 = some m.cls := findClass_of_methodNamed B.named
  have hlocks := B.notSynchronized
  subst hsz
  have hD := hD0.self (sz := s.heap.size)
  generalize hAe : va_A (wd_X7_start cI a0 v0_3 v0_4 v0_5 v0_0) s.heap.size = A at hD ⊢
  have hA : ∀ q : Nat, s.heap.size ≤ q → A q := fun q h => by rw [← hAe]; exact Or.inr h
  have hS : va_S A s.heap s.heap [] := va_S.rf
  have hP : va_P (dC, dI) vwCl (wd_X7_start cI a0 v0_3 v0_4 v0_5 v0_0) s.heap := hP
  have hl := lv_entry ([.ref (a0 0), .int p1]) (n := 2) (Nat.le_of_ble_eq_true rfl)
  rw [lg_entry_eq]
  generalize (lg_sl ([.ref (a0 0), .int p1]) ++ List.replicate (2 - (lg_sl ([.ref (a0 0), .int p1])).length) Slot.unset).toArray = ls at hl ⊢
  have hl : lv_has ls 2 [(0, .ref (a0 0)), (1, .int p1)] := hl
  obtain ⟨H, hHe⟩ : ∃ H, H = s.heap := ⟨_, rfl⟩
  have hS : va_S A s.heap H [] := by rw [hHe]; exact hS
  have hP : va_P (dC, dI) vwCl (wd_X7_start cI a0 v0_3 v0_4 v0_5 v0_0) H := by rw [hHe]; exact hP
  rw [← hHe]
  unfold F_X7_start at hF
  refine lv_aload_n hx hb dX7_start_0 rfl (lv_at hl 0 rfl) ?_
  refine va_get (D := (dC, dI)) (ci := 6) (v := .int v0_3) (C := RX7) (T := TX7) (N := 6) hx hb hta uw_X7 hown hK hP 0 rfl rfl 3 (by decide) (hta _ mA475) (fun _ h9 => h9) rfl dX7_start_1 ?_
  refine lv_if_lt (tgt := 42) hx hb dX7_start_4 (by decide) (fun c_1 => ?_) (fun c_1 => ?_)
  · have hF := it_t hF c_1
    obtain rfl := Option.some.inj hF
    exact W.vret hx hb hr (fun t ht hW => ⟨⟨(), rfl, trivial, by rw [ht]; exact hP, va_K.moved hW.alike hK, hD⟩, hS.F ht⟩) hS.2.2 dX7_start_42
  · have hF := it_f hF c_1
    refine lv_aload_n hx hb dX7_start_7 rfl (lv_at hl 0 rfl) ?_
    refine va_get (D := (dC, dI)) (ci := 6) (v := .int v0_3) (C := RX7) (T := TX7) (N := 6) hx hb hta uw_X7 hown hK hP 0 rfl rfl 3 (by decide) (hta _ mA475) (fun _ h9 => h9) rfl dX7_start_8 ?_
    refine lv_sipush (v := 2800) hx hb dX7_start_11 (by decide) ?_
    refine lv_icmp_ge (tgt := 42) hx hb dX7_start_14 (by decide) (fun c_2 => ?_) (fun c_2 => ?_)
    · have hF := it_t hF c_2
      obtain rfl := Option.some.inj hF
      exact W.vret hx hb hr (fun t ht hW => ⟨⟨(), rfl, trivial, by rw [ht]; exact hP, va_K.moved hW.alike hK, hD⟩, hS.F ht⟩) hS.2.2 dX7_start_42
    · have hF := it_f hF c_2
      refine lv_aload_n hx hb dX7_start_17 rfl (lv_at hl 0 rfl) ?_
      refine va_get (D := (dC, dI)) (ci := 6) (v := .ref (a0 1)) (C := RX7) (T := TX7) (N := 6) hx hb hta uw_X7 hown hK hP 0 rfl rfl 0 (by decide) (hta _ mA98) (fun _ h9 => h9) rfl dX7_start_18 ?_
      refine lv_aload_n hx hb dX7_start_21 rfl (lv_at hl 0 rfl) ?_
      refine va_get (D := (dC, dI)) (ci := 6) (v := .int v0_3) (C := RX7) (T := TX7) (N := 6) hx hb hta uw_X7 hown hK hP 0 rfl rfl 3 (by decide) (hta _ mA475) (fun _ h9 => h9) rfl dX7_start_22 ?_
      refine lv_iload_n hx hb dX7_start_25 rfl (lv_at hl 1 rfl) ?_
      obtain ⟨g_3, hF⟩ := gd_some hF
      refine va_iast hx hb hK hP hD hS 1 0 rfl rfl (vpi_in g_3) dX7_start_26 (fun H locs hP hD hS => ?_)
      obtain ⟨y_4, ey_4, hF⟩ := lt_some hF
      have hP : va_P (dC, dI) vwCl (wd_X7_start cI a0 v0_3 v0_4 v0_5 y_4) H := by rw [ey_4]; exact hP
      have hD : va_D A (wd_X7_start cI a0 v0_3 v0_4 v0_5 y_4) := by rw [ey_4]; exact hD
      refine lv_aload_n hx hb dX7_start_27 rfl (lv_at hl 0 rfl) ?_
      refine lv_dup hx hb dX7_start_28 rfl ?_
      refine va_get (D := (dC, dI)) (ci := 6) (v := .int v0_3) (C := RX7) (T := TX7) (N := 6) hx hb hta uw_X7 hown hK hP 0 rfl rfl 3 (by decide) (hta _ mA475) (fun _ h9 => h9) rfl dX7_start_29 ?_
      refine lv_iconst (v := 1) hx hb dX7_start_32 (by decide) ?_
      refine lv_iadd hx hb dX7_start_33 ?_
      obtain ⟨y_5, ey_5, hF⟩ := lt_some hF
      refine lv_eqi ey_5 ?_
      refine va_put (D := (dC, dI)) (ci := 6) (v := .int y_5) (ty := .int) (C := RX7) (T := TX7) (N := 6) hx hb hta uw_X7 tyX7 tyX7_ok nmX7 hown hK hP hD hS 0 rfl rfl 3 (by decide) (hta _ mA475) (fun _ h9 => h9) rfl (by decide +kernel) rfl rfl (Nat.le_of_ble_eq_true rfl) dX7_start_34 (fun H locs hP hD hS => ?_)
      have hP : va_P (dC, dI) vwCl (wd_X7_start cI a0 y_5 v0_4 v0_5 y_4) H := hP
      have hD : va_D A (wd_X7_start cI a0 y_5 v0_4 v0_5 y_4) := hD
      refine lv_aload_n hx hb dX7_start_37 rfl (lv_at hl 0 rfl) ?_
      refine lv_iconst (v := 0) hx hb dX7_start_38 (by decide) ?_
      refine va_put (D := (dC, dI)) (ci := 6) (v := .int 0) (ty := .int) (C := RX7) (T := TX7) (N := 6) hx hb hta uw_X7 tyX7 tyX7_ok nmX7 hown hK hP hD hS 0 rfl rfl 4 (by decide) (hta _ mA493) (fun _ h9 => h9) rfl (by decide +kernel) rfl rfl (Nat.le_of_ble_eq_true rfl) dX7_start_39 (fun H locs hP hD hS => ?_)
      have hP : va_P (dC, dI) vwCl (wd_X7_start cI a0 y_5 0 v0_5 y_4) H := hP
      have hD : va_D A (wd_X7_start cI a0 y_5 0 v0_5 y_4) := hD
      obtain rfl := Option.some.inj hF
      exact W.vret hx hb hr (fun t ht hW => ⟨⟨(), rfl, trivial, by rw [ht]; exact hP, va_K.moved hW.alike hK, hD⟩, hS.F ht⟩) hS.2.2 dX7_start_42

-- StrokeOutliner$Pieces.addCorner(II)V
def F_X7_addCorner (v0_3 : Int32) (v0_4 : Int32) (v0_1 : Nat → Int32) (v0_2 : Nat → Int32) (p1 : Int32) (p2 : Int32) : Option (Int32 × (Nat → Int32) × (Nat → Int32)) :=
  lt ((4 * (v0_3 - 1)) + v0_4) (fun y_1 => if 4 ≤ v0_4 then some (v0_4, v0_1, v0_2) else if y_1 < 0 then some (v0_4, v0_1, v0_2) else if 11200 ≤ y_1 then some (v0_4, v0_1, v0_2) else gd (decide (vpi y_1 11200)) (lt (upd v0_1 y_1.toNatClampNeg p1) (fun y_6 => gd (decide (vpi y_1 11200)) (lt (upd v0_2 y_1.toNatClampNeg p2) (fun y_8 => lt (v0_4 + 1) (fun y_9 => some (y_9, y_6, y_8)))))))
abbrev wd_X7_addCorner (cI : ClassId) (a0 : Nat → Nat) (v0_3 : Int32) (v0_4 : Int32) (v0_5 : Int32) (v0_1 : Nat → Int32) (v0_2 : Nat → Int32) : va_W := [(a0 0, .inr (6, [.ref (a0 1), .ref (a0 2), .ref (a0 3), .int v0_3, .int v0_4, .int v0_5])), (a0 2, .inl (cI, 11200, .inl v0_1)), (a0 3, .inl (cI, 11200, .inl v0_2))]
abbrev wz_X7_addCorner : List Cond := .code yX7_addCorner cX7_addCorner 4 none :: wALL
abbrev rm_X7_addCorner : Room := { frames := 0, cells := 0, slots := 0, locals := 0 }
abbrev Q_X7_addCorner (dC : Nat → ClassId) (dI : Nat → Nat → Nat) (cI : ClassId) (a0 : Nat → Nat) (v0_3 : Int32) (v0_5 : Int32) (u : (Int32 × (Nat → Int32) × (Nat → Int32))) (A : Nat → Prop) : Array Value → State → Outcome → State → Prop := va_Qv (fun (_ : Unit) => True) (fun _ => q_at dC dI cI A (wd_X7_addCorner cI a0 v0_3 u.1 v0_5 u.2.1 u.2.2)) A
set_option maxHeartbeats 4000000 in
set_option maxRecDepth 100000 in
theorem c_X7_addCorner (l : Launch) (dC : Nat → ClassId) (dI : Nat → Nat → Nat) (cI : ClassId) (sz : Nat) (a0 : Nat → Nat) (v0_3 : Int32) (v0_4 : Int32) (v0_5 : Int32) (v0_1 : Nat → Int32) (v0_2 : Nat → Int32) (p1 : Int32) (p2 : Int32) (u : (Int32 × (Nat → Int32) × (Nat → Int32))) (hF : F_X7_addCorner v0_3 v0_4 v0_1 v0_2 p1 p2 = some u) : Met l yX7_addCorner wz_X7_addCorner rm_X7_addCorner (va_Pc [.ref (a0 0), .int p1, .int p2] (q_pre dC dI cI (wd_X7_addCorner cI a0 v0_3 v0_4 v0_5 v0_1 v0_2) sz)) (Q_X7_addCorner dC dI cI a0 v0_3 v0_5 u (va_A (wd_X7_addCorner cI a0 v0_3 v0_4 v0_5 v0_1 v0_2) sz)) 0 0 (va_A (wd_X7_addCorner cI a0 v0_3 v0_4 v0_5 v0_1 v0_2) sz) := by
  refine Met.ofW (cc := cX7_addCorner) (maxL := 4) (ret := none) (by decide) rfl ?_
  intro p e s m args below meth c s₁ B hml hv
  obtain ⟨rfl, hsz, hP, hK, hD0⟩ := hv
  have hx := B.exec
  have hb := B.bytes
  have hr := B.returns
  have hts := atoms_spec (ws := wz_X7_addCorner) B.pre
  have hta := wz_tl hts
  have hown : s.vm.findClass RX7 = some m.cls := findClass_of_methodNamed B.named
  have hlocks := B.notSynchronized
  subst hsz
  have hD := hD0.self (sz := s.heap.size)
  generalize hAe : va_A (wd_X7_addCorner cI a0 v0_3 v0_4 v0_5 v0_1 v0_2) s.heap.size = A at hD ⊢
  have hA : ∀ q : Nat, s.heap.size ≤ q → A q := fun q h => by rw [← hAe]; exact Or.inr h
  have hS : va_S A s.heap s.heap [] := va_S.rf
  have hP : va_P (dC, dI) vwCl (wd_X7_addCorner cI a0 v0_3 v0_4 v0_5 v0_1 v0_2) s.heap := hP
  have hl := lv_entry ([.ref (a0 0), .int p1, .int p2]) (n := 4) (Nat.le_of_ble_eq_true rfl)
  rw [lg_entry_eq]
  generalize (lg_sl ([.ref (a0 0), .int p1, .int p2]) ++ List.replicate (4 - (lg_sl ([.ref (a0 0), .int p1, .int p2])).length) Slot.unset).toArray = ls at hl ⊢
  have hl : lv_has ls 4 [(0, .ref (a0 0)), (1, .int p1), (2, .int p2)] := hl
  obtain ⟨H, hHe⟩ : ∃ H, H = s.heap := ⟨_, rfl⟩
  have hS : va_S A s.heap H [] := by rw [hHe]; exact hS
  have hP : va_P (dC, dI) vwCl (wd_X7_addCorner cI a0 v0_3 v0_4 v0_5 v0_1 v0_2) H := by rw [hHe]; exact hP
  rw [← hHe]
  unfold F_X7_addCorner at hF
  refine lv_iconst (v := 4) hx hb dX7_addCorner_0 (by decide) ?_
  refine lv_aload_n hx hb dX7_addCorner_1 rfl (lv_at hl 0 rfl) ?_
  refine va_get (D := (dC, dI)) (ci := 6) (v := .int v0_3) (C := RX7) (T := TX7) (N := 6) hx hb hta uw_X7 hown hK hP 0 rfl rfl 3 (by decide) (hta _ mA475) (fun _ h9 => h9) rfl dX7_addCorner_2 ?_
  refine lv_iconst (v := 1) hx hb dX7_addCorner_5 (by decide) ?_
  refine lv_isub hx hb dX7_addCorner_6 ?_
  refine lv_imul hx hb dX7_addCorner_7 ?_
  refine lv_aload_n hx hb dX7_addCorner_8 rfl (lv_at hl 0 rfl) ?_
  refine va_get (D := (dC, dI)) (ci := 6) (v := .int v0_4) (C := RX7) (T := TX7) (N := 6) hx hb hta uw_X7 hown hK hP 0 rfl rfl 4 (by decide) (hta _ mA493) (fun _ h9 => h9) rfl dX7_addCorner_9 ?_
  refine lv_iadd hx hb dX7_addCorner_12 ?_
  obtain ⟨y_1, ey_1, hF⟩ := lt_some hF
  refine lv_eqi ey_1 ?_
  refine lv_istore_n (lv' := [(3, .int y_1), (0, .ref (a0 0)), (1, .int p1), (2, .int p2)]) hx hb dX7_addCorner_13 rfl hl (by decide) rfl (fun ls hl => ?_)
  refine lv_aload_n hx hb dX7_addCorner_14 rfl (lv_at hl 1 rfl) ?_
  refine va_get (D := (dC, dI)) (ci := 6) (v := .int v0_4) (C := RX7) (T := TX7) (N := 6) hx hb hta uw_X7 hown hK hP 0 rfl rfl 4 (by decide) (hta _ mA493) (fun _ h9 => h9) rfl dX7_addCorner_15 ?_
  refine lv_iconst (v := 4) hx hb dX7_addCorner_18 (by decide) ?_
  refine lv_icmp_ge (tgt := 57) hx hb dX7_addCorner_19 (by decide) (fun c_2 => ?_) (fun c_2 => ?_)
  · have hF := it_t hF c_2
    obtain rfl := Option.some.inj hF
    exact W.vret hx hb hr (fun t ht hW => ⟨⟨(), rfl, trivial, by rw [ht]; exact hP, va_K.moved hW.alike hK, hD⟩, hS.F ht⟩) hS.2.2 dX7_addCorner_57
  · have hF := it_f hF c_2
    refine lv_iload_n hx hb dX7_addCorner_22 rfl (lv_at hl 0 rfl) ?_
    refine lv_if_lt (tgt := 57) hx hb dX7_addCorner_23 (by decide) (fun c_3 => ?_) (fun c_3 => ?_)
    · have hF := it_t hF c_3
      obtain rfl := Option.some.inj hF
      exact W.vret hx hb hr (fun t ht hW => ⟨⟨(), rfl, trivial, by rw [ht]; exact hP, va_K.moved hW.alike hK, hD⟩, hS.F ht⟩) hS.2.2 dX7_addCorner_57
    · have hF := it_f hF c_3
      refine lv_iload_n hx hb dX7_addCorner_26 rfl (lv_at hl 0 rfl) ?_
      refine lv_sipush (v := 11200) hx hb dX7_addCorner_27 (by decide) ?_
      refine lv_icmp_ge (tgt := 57) hx hb dX7_addCorner_30 (by decide) (fun c_4 => ?_) (fun c_4 => ?_)
      · have hF := it_t hF c_4
        obtain rfl := Option.some.inj hF
        exact W.vret hx hb hr (fun t ht hW => ⟨⟨(), rfl, trivial, by rw [ht]; exact hP, va_K.moved hW.alike hK, hD⟩, hS.F ht⟩) hS.2.2 dX7_addCorner_57
      · have hF := it_f hF c_4
        refine lv_aload_n hx hb dX7_addCorner_33 rfl (lv_at hl 1 rfl) ?_
        refine va_get (D := (dC, dI)) (ci := 6) (v := .ref (a0 2)) (C := RX7) (T := TX7) (N := 6) hx hb hta uw_X7 hown hK hP 0 rfl rfl 1 (by decide) (hta _ mA99) (fun _ h9 => h9) rfl dX7_addCorner_34 ?_
        refine lv_iload_n hx hb dX7_addCorner_37 rfl (lv_at hl 0 rfl) ?_
        refine lv_iload_n hx hb dX7_addCorner_38 rfl (lv_at hl 2 rfl) ?_
        obtain ⟨g_5, hF⟩ := gd_some hF
        refine va_iast hx hb hK hP hD hS 1 0 rfl rfl (vpi_in g_5) dX7_addCorner_39 (fun H locs hP hD hS => ?_)
        obtain ⟨y_6, ey_6, hF⟩ := lt_some hF
        have hP : va_P (dC, dI) vwCl (wd_X7_addCorner cI a0 v0_3 v0_4 v0_5 y_6 v0_2) H := by rw [ey_6]; exact hP
        have hD : va_D A (wd_X7_addCorner cI a0 v0_3 v0_4 v0_5 y_6 v0_2) := by rw [ey_6]; exact hD
        refine lv_aload_n hx hb dX7_addCorner_40 rfl (lv_at hl 1 rfl) ?_
        refine va_get (D := (dC, dI)) (ci := 6) (v := .ref (a0 3)) (C := RX7) (T := TX7) (N := 6) hx hb hta uw_X7 hown hK hP 0 rfl rfl 2 (by decide) (hta _ mA100) (fun _ h9 => h9) rfl dX7_addCorner_41 ?_
        refine lv_iload_n hx hb dX7_addCorner_44 rfl (lv_at hl 0 rfl) ?_
        refine lv_iload_n hx hb dX7_addCorner_45 rfl (lv_at hl 3 rfl) ?_
        obtain ⟨g_7, hF⟩ := gd_some hF
        refine va_iast hx hb hK hP hD hS 2 0 rfl rfl (vpi_in g_7) dX7_addCorner_46 (fun H locs hP hD hS => ?_)
        obtain ⟨y_8, ey_8, hF⟩ := lt_some hF
        have hP : va_P (dC, dI) vwCl (wd_X7_addCorner cI a0 v0_3 v0_4 v0_5 y_6 y_8) H := by rw [ey_8]; exact hP
        have hD : va_D A (wd_X7_addCorner cI a0 v0_3 v0_4 v0_5 y_6 y_8) := by rw [ey_8]; exact hD
        refine lv_aload_n hx hb dX7_addCorner_47 rfl (lv_at hl 1 rfl) ?_
        refine lv_dup hx hb dX7_addCorner_48 rfl ?_
        refine va_get (D := (dC, dI)) (ci := 6) (v := .int v0_4) (C := RX7) (T := TX7) (N := 6) hx hb hta uw_X7 hown hK hP 0 rfl rfl 4 (by decide) (hta _ mA493) (fun _ h9 => h9) rfl dX7_addCorner_49 ?_
        refine lv_iconst (v := 1) hx hb dX7_addCorner_52 (by decide) ?_
        refine lv_iadd hx hb dX7_addCorner_53 ?_
        obtain ⟨y_9, ey_9, hF⟩ := lt_some hF
        refine lv_eqi ey_9 ?_
        refine va_put (D := (dC, dI)) (ci := 6) (v := .int y_9) (ty := .int) (C := RX7) (T := TX7) (N := 6) hx hb hta uw_X7 tyX7 tyX7_ok nmX7 hown hK hP hD hS 0 rfl rfl 4 (by decide) (hta _ mA493) (fun _ h9 => h9) rfl (by decide +kernel) rfl rfl (Nat.le_of_ble_eq_true rfl) dX7_addCorner_54 (fun H locs hP hD hS => ?_)
        have hP : va_P (dC, dI) vwCl (wd_X7_addCorner cI a0 v0_3 y_9 v0_5 y_6 y_8) H := hP
        have hD : va_D A (wd_X7_addCorner cI a0 v0_3 y_9 v0_5 y_6 y_8) := hD
        obtain rfl := Option.some.inj hF
        exact W.vret hx hb hr (fun t ht hW => ⟨⟨(), rfl, trivial, by rw [ht]; exact hP, va_K.moved hW.alike hK, hD⟩, hS.F ht⟩) hS.2.2 dX7_addCorner_57

-- StrokeOutliner$Pieces.size()I
def F_X7_size (v0_3 : Int32) : (Int32) :=
  v0_3
abbrev wd_X7_size (cI : ClassId) (a0 : Nat → Nat) (v0_3 : Int32) (v0_4 : Int32) (v0_5 : Int32) : va_W := [(a0 0, .inr (6, [.ref (a0 1), .ref (a0 2), .ref (a0 3), .int v0_3, .int v0_4, .int v0_5]))]
abbrev wz_X7_size : List Cond := .code yX7_size cX7_size 1 (some .int) :: wALL
abbrev rm_X7_size : Room := { frames := 0, cells := 0, slots := 0, locals := 0 }
abbrev Q_X7_size (dC : Nat → ClassId) (dI : Nat → Nat → Nat) (cI : ClassId) (a0 : Nat → Nat) (v0_3 : Int32) (v0_4 : Int32) (v0_5 : Int32) (u : (Int32)) (A : Nat → Prop) : Array Value → State → Outcome → State → Prop := va_Qi (fun (r : Int32) (_ : Unit) => r = u) (fun _ => q_at dC dI cI A (wd_X7_size cI a0 v0_3 v0_4 v0_5)) A
set_option maxHeartbeats 4000000 in
set_option maxRecDepth 100000 in
theorem c_X7_size (l : Launch) (dC : Nat → ClassId) (dI : Nat → Nat → Nat) (cI : ClassId) (sz : Nat) (a0 : Nat → Nat) (v0_3 : Int32) (v0_4 : Int32) (v0_5 : Int32) (u : (Int32)) (hF : F_X7_size v0_3 = u) : Met l yX7_size wz_X7_size rm_X7_size (va_Pc [.ref (a0 0)] (q_pre dC dI cI (wd_X7_size cI a0 v0_3 v0_4 v0_5) sz)) (Q_X7_size dC dI cI a0 v0_3 v0_4 v0_5 u (va_A (wd_X7_size cI a0 v0_3 v0_4 v0_5) sz)) 0 0 (va_A (wd_X7_size cI a0 v0_3 v0_4 v0_5) sz) := by
  refine Met.ofW (cc := cX7_size) (maxL := 1) (ret := (some .int)) (by decide) rfl ?_
  intro p e s m args below meth c s₁ B hml hv
  obtain ⟨rfl, hsz, hP, hK, hD0⟩ := hv
  have hx := B.exec
  have hb := B.bytes
  have hr := B.returns
  have hts := atoms_spec (ws := wz_X7_size) B.pre
  have hta := wz_tl hts
  have hown : s.vm.findClass RX7 = some m.cls := findClass_of_methodNamed B.named
  have hlocks := B.notSynchronized
  subst hsz
  have hD := hD0.self (sz := s.heap.size)
  generalize hAe : va_A (wd_X7_size cI a0 v0_3 v0_4 v0_5) s.heap.size = A at hD ⊢
  have hA : ∀ q : Nat, s.heap.size ≤ q → A q := fun q h => by rw [← hAe]; exact Or.inr h
  have hS : va_S A s.heap s.heap [] := va_S.rf
  have hP : va_P (dC, dI) vwCl (wd_X7_size cI a0 v0_3 v0_4 v0_5) s.heap := hP
  have hl := lv_entry ([.ref (a0 0)]) (n := 1) (Nat.le_of_ble_eq_true rfl)
  rw [lg_entry_eq]
  generalize (lg_sl ([.ref (a0 0)]) ++ List.replicate (1 - (lg_sl ([.ref (a0 0)])).length) Slot.unset).toArray = ls at hl ⊢
  have hl : lv_has ls 1 [(0, .ref (a0 0))] := hl
  obtain ⟨H, hHe⟩ : ∃ H, H = s.heap := ⟨_, rfl⟩
  have hS : va_S A s.heap H [] := by rw [hHe]; exact hS
  have hP : va_P (dC, dI) vwCl (wd_X7_size cI a0 v0_3 v0_4 v0_5) H := by rw [hHe]; exact hP
  rw [← hHe]
  unfold F_X7_size at hF
  refine lv_aload_n hx hb dX7_size_0 rfl (lv_at hl 0 rfl) ?_
  refine va_get (D := (dC, dI)) (ci := 6) (v := .int v0_3) (C := RX7) (T := TX7) (N := 6) hx hb hta uw_X7 hown hK hP 0 rfl rfl 3 (by decide) (hta _ mA475) (fun _ h9 => h9) rfl dX7_size_1 ?_
  subst hF
  exact W.iret (v := v0_3) hx hb hr (fun t ht hW => ⟨⟨v0_3, (), rfl, rfl, by rw [ht]; exact hP, va_K.moved hW.alike hK, hD⟩, hS.F ht⟩) hS.2.2 dX7_size_4

-- StrokeOutliner$Pieces.kindOf(I)I
def F_X7_kindOf (v0_0 : Nat → Int32) (p1 : Int32) : Option (Int32) :=
  obd (F_X4_at 2800 v0_0 p1) (fun u_1 => some u_1)
abbrev wd_X7_kindOf (cI : ClassId) (a0 : Nat → Nat) (v0_3 : Int32) (v0_4 : Int32) (v0_5 : Int32) (v0_0 : Nat → Int32) : va_W := [(a0 0, .inr (6, [.ref (a0 1), .ref (a0 2), .ref (a0 3), .int v0_3, .int v0_4, .int v0_5])), (a0 1, .inl (cI, 2800, .inl v0_0))]
abbrev wz_X7_kindOf : List Cond := .code yX7_kindOf cX7_kindOf 2 (some .int) :: wALL
abbrev rm_X7_kindOf : Room := { frames := 1, cells := 0, slots := 0, locals := 21 }
abbrev Q_X7_kindOf (dC : Nat → ClassId) (dI : Nat → Nat → Nat) (cI : ClassId) (a0 : Nat → Nat) (v0_3 : Int32) (v0_4 : Int32) (v0_5 : Int32) (v0_0 : Nat → Int32) (u : (Int32)) (A : Nat → Prop) : Array Value → State → Outcome → State → Prop := va_Qi (fun (r : Int32) (_ : Unit) => r = u) (fun _ => q_at dC dI cI A (wd_X7_kindOf cI a0 v0_3 v0_4 v0_5 v0_0)) A
set_option maxHeartbeats 4000000 in
set_option maxRecDepth 100000 in
theorem c_X7_kindOf (l : Launch) (dC : Nat → ClassId) (dI : Nat → Nat → Nat) (cI : ClassId) (sz : Nat) (a0 : Nat → Nat) (v0_3 : Int32) (v0_4 : Int32) (v0_5 : Int32) (v0_0 : Nat → Int32) (p1 : Int32) (u : (Int32)) (hF : F_X7_kindOf v0_0 p1 = some u) : Met l yX7_kindOf wz_X7_kindOf rm_X7_kindOf (va_Pc [.ref (a0 0), .int p1] (q_pre dC dI cI (wd_X7_kindOf cI a0 v0_3 v0_4 v0_5 v0_0) sz)) (Q_X7_kindOf dC dI cI a0 v0_3 v0_4 v0_5 v0_0 u (va_A (wd_X7_kindOf cI a0 v0_3 v0_4 v0_5 v0_0) sz)) 0 0 (va_A (wd_X7_kindOf cI a0 v0_3 v0_4 v0_5 v0_0) sz) := by
  refine Met.ofW (cc := cX7_kindOf) (maxL := 2) (ret := (some .int)) (by decide) rfl ?_
  intro p e s m args below meth c s₁ B hml hv
  obtain ⟨rfl, hsz, hP, hK, hD0⟩ := hv
  have hx := B.exec
  have hb := B.bytes
  have hr := B.returns
  have hts := atoms_spec (ws := wz_X7_kindOf) B.pre
  have hta := wz_tl hts
  have hown : s.vm.findClass RX7 = some m.cls := findClass_of_methodNamed B.named
  have hlocks := B.notSynchronized
  subst hsz
  have hD := hD0.self (sz := s.heap.size)
  generalize hAe : va_A (wd_X7_kindOf cI a0 v0_3 v0_4 v0_5 v0_0) s.heap.size = A at hD ⊢
  have hA : ∀ q : Nat, s.heap.size ≤ q → A q := fun q h => by rw [← hAe]; exact Or.inr h
  have hS : va_S A s.heap s.heap [] := va_S.rf
  have hP : va_P (dC, dI) vwCl (wd_X7_kindOf cI a0 v0_3 v0_4 v0_5 v0_0) s.heap := hP
  have hl := lv_entry ([.ref (a0 0), .int p1]) (n := 2) (Nat.le_of_ble_eq_true rfl)
  rw [lg_entry_eq]
  generalize (lg_sl ([.ref (a0 0), .int p1]) ++ List.replicate (2 - (lg_sl ([.ref (a0 0), .int p1])).length) Slot.unset).toArray = ls at hl ⊢
  have hl : lv_has ls 2 [(0, .ref (a0 0)), (1, .int p1)] := hl
  obtain ⟨H, hHe⟩ : ∃ H, H = s.heap := ⟨_, rfl⟩
  have hS : va_S A s.heap H [] := by rw [hHe]; exact hS
  have hP : va_P (dC, dI) vwCl (wd_X7_kindOf cI a0 v0_3 v0_4 v0_5 v0_0) H := by rw [hHe]; exact hP
  rw [← hHe]
  unfold F_X7_kindOf at hF
  refine lv_aload_n hx hb dX7_kindOf_0 rfl (lv_at hl 0 rfl) ?_
  refine va_get (D := (dC, dI)) (ci := 6) (v := .ref (a0 1)) (C := RX7) (T := TX7) (N := 6) hx hb hta uw_X7 hown hK hP 0 rfl rfl 0 (by decide) (hta _ mA98) (fun _ h9 => h9) rfl dX7_kindOf_1 ?_
  refine lv_iload_n hx hb dX7_kindOf_4 rfl (lv_at hl 1 rfl) ?_
  obtain ⟨u_1, hu_1, hF⟩ := obd_some hF
  have hPc := hP.sub (ws' := (wd_X4_at cI (a0 1) 2800 v0_0)) [1] rfl
  have hDc := hD.sub (ws' := (wd_X4_at cI (a0 1) 2800 v0_0)) [1] rfl rfl
  refine q_calli (wc := (wd_X4_at cI (a0 1) 2800 v0_0)) (w1 := (wd_X4_at cI (a0 1) 2800 v0_0)) (ws' := (wd_X7_kindOf cI a0 v0_3 v0_4 v0_5 v0_0)) hP hD hS hA [1] [0] [0, 1] rfl rfl rfl (by decide) rfl rfl (va_runS (As := [.ref (a0 1), .int p1]) (rest := []) ⟨hx, hb, hml, hown, hta⟩ (c_X4_at l dC dI cI H.size (a0 1) 2800 v0_0 p1 u_1 hu_1) (va_cwS 2 hta (ga_S mA576 mA237 mA221 mA238) rfl rfl rfl (by decide +kernel) ⟨Nat.le_of_ble_eq_true rfl, Nat.le_of_ble_eq_true rfl⟩) ⟨q_fb, q_ps hPc hK hDc⟩ rfl rfl hl.1 rfl (lv_room (Nat.le_of_ble_eq_true rfl)) dX7_kindOf_5 ⟨Nat.zero_le _, Nat.zero_le _⟩) (fun H locs hP hD hS => ?_)
  obtain rfl := Option.some.inj hF
  exact W.iret (v := u_1) hx hb hr (fun t ht hW => ⟨⟨u_1, (), rfl, rfl, by rw [ht]; exact hP, va_K.moved hW.alike hK, hD⟩, hS.F ht⟩) hS.2.2 dX7_kindOf_8

-- StrokeOutliner$Pieces.countOf(I)I
def F_X7_countOf_j30 (x2 : Int32) : Option (Int32) :=
  some x2
def F_X7_countOf_j24 (x2 : Int32) (x3 : Int32) : Option (Sum (Int32 × Int32) (Int32)) :=
  lt (x3 + 1) (fun y_1 => some (.inl (x2, y_1)))
def F_X7_countOf_b4 (v0_3 : Int32) (v0_0 : Nat → Int32) (x1 : Int32) (s4 : Int32 × Int32) : Option (Sum (Int32 × Int32) (Int32)) :=
  if v0_3 ≤ s4.2 then some (.inr s4.1) else obd (F_X7_kindOf v0_0 s4.2) (fun u_3 => if u_3 = x1 then lt (s4.1 + 1) (fun y_5 => F_X7_countOf_j24 y_5 s4.2) else F_X7_countOf_j24 s4.1 s4.2)
def F_X7_countOf_j4 (n : Nat) (v0_3 : Int32) (v0_0 : Nat → Int32) (x1 : Int32) (x2 : Int32) (x3 : Int32) : Option (Int32) :=
  obd (lpq (F_X7_countOf_b4 v0_3 v0_0 x1) n (x2, x3)) (fun x_4 => F_X7_countOf_j30 x_4)
def F_X7_countOf (n : Nat) (v0_3 : Int32) (v0_0 : Nat → Int32) (p1 : Int32) : Option (Int32) :=
  F_X7_countOf_j4 n v0_3 v0_0 p1 0 0
abbrev wd_X7_countOf (cI : ClassId) (a0 : Nat → Nat) (v0_3 : Int32) (v0_4 : Int32) (v0_5 : Int32) (v0_0 : Nat → Int32) : va_W := [(a0 0, .inr (6, [.ref (a0 1), .ref (a0 2), .ref (a0 3), .int v0_3, .int v0_4, .int v0_5])), (a0 1, .inl (cI, 2800, .inl v0_0))]
abbrev wz_X7_countOf : List Cond := .code yX7_countOf cX7_countOf 4 (some .int) :: wALL
abbrev rm_X7_countOf : Room := { frames := 2, cells := 0, slots := 0, locals := 42 }
abbrev Q_X7_countOf (dC : Nat → ClassId) (dI : Nat → Nat → Nat) (cI : ClassId) (a0 : Nat → Nat) (v0_3 : Int32) (v0_4 : Int32) (v0_5 : Int32) (v0_0 : Nat → Int32) (u : (Int32)) (A : Nat → Prop) : Array Value → State → Outcome → State → Prop := va_Qi (fun (r : Int32) (_ : Unit) => r = u) (fun _ => q_at dC dI cI A (wd_X7_countOf cI a0 v0_3 v0_4 v0_5 v0_0)) A
set_option maxHeartbeats 4000000 in
set_option maxRecDepth 100000 in
theorem c_X7_countOf (l : Launch) (dC : Nat → ClassId) (dI : Nat → Nat → Nat) (cI : ClassId) (sz : Nat) (a0 : Nat → Nat) (v0_3 : Int32) (v0_4 : Int32) (v0_5 : Int32) (v0_0 : Nat → Int32) (p1 : Int32) (n : Nat) (u : (Int32)) (hF : F_X7_countOf n v0_3 v0_0 p1 = some u) : Met l yX7_countOf wz_X7_countOf rm_X7_countOf (va_Pc [.ref (a0 0), .int p1] (q_pre dC dI cI (wd_X7_countOf cI a0 v0_3 v0_4 v0_5 v0_0) sz)) (Q_X7_countOf dC dI cI a0 v0_3 v0_4 v0_5 v0_0 u (va_A (wd_X7_countOf cI a0 v0_3 v0_4 v0_5 v0_0) sz)) 0 0 (va_A (wd_X7_countOf cI a0 v0_3 v0_4 v0_5 v0_0) sz) := by
  refine Met.ofW (cc := cX7_countOf) (maxL := 4) (ret := (some .int)) (by decide) rfl ?_
  intro p e s m args below meth c s₁ B hml hv
  obtain ⟨rfl, hsz, hP, hK, hD0⟩ := hv
  have hx := B.exec
  have hb := B.bytes
  have hr := B.returns
  have hts := atoms_spec (ws := wz_X7_countOf) B.pre
  have hta := wz_tl hts
  have hown : s.vm.findClass RX7 = some m.cls := findClass_of_methodNamed B.named
  have hlocks := B.notSynchronized
  subst hsz
  have hD := hD0.self (sz := s.heap.size)
  generalize hAe : va_A (wd_X7_countOf cI a0 v0_3 v0_4 v0_5 v0_0) s.heap.size = A at hD ⊢
  have hA : ∀ q : Nat, s.heap.size ≤ q → A q := fun q h => by rw [← hAe]; exact Or.inr h
  have hS : va_S A s.heap s.heap [] := va_S.rf
  have hP : va_P (dC, dI) vwCl (wd_X7_countOf cI a0 v0_3 v0_4 v0_5 v0_0) s.heap := hP
  have hl := lv_entry ([.ref (a0 0), .int p1]) (n := 4) (Nat.le_of_ble_eq_true rfl)
  rw [lg_entry_eq]
  generalize (lg_sl ([.ref (a0 0), .int p1]) ++ List.replicate (4 - (lg_sl ([.ref (a0 0), .int p1])).length) Slot.unset).toArray = ls at hl ⊢
  have hl : lv_has ls 4 [(0, .ref (a0 0)), (1, .int p1)] := hl
  obtain ⟨H, hHe⟩ : ∃ H, H = s.heap := ⟨_, rfl⟩
  have hS : va_S A s.heap H [] := by rw [hHe]; exact hS
  have hP : va_P (dC, dI) vwCl (wd_X7_countOf cI a0 v0_3 v0_4 v0_5 v0_0) H := by rw [hHe]; exact hP
  rw [← hHe]
  unfold F_X7_countOf at hF
  have j30 : ∀ (x2 : Int32), F_X7_countOf_j30 x2 = some u → ∀ (H : Heap) (locs : List Loc) (ls : Array Slot), va_P (dC, dI) vwCl (wd_X7_countOf cI a0 v0_3 v0_4 v0_5 v0_0) H → va_D A (wd_X7_countOf cI a0 v0_3 v0_4 v0_5 v0_0) → va_S A s.heap H locs → lv_has ls 4 [(2, .int x2)] → W p l e (headSpec wz_X7_countOf rm_X7_countOf).room s m [.ref (a0 0), .int p1].toArray below meth c H locs 0 0 (MQ below (Q_X7_countOf dC dI cI a0 v0_3 v0_4 v0_5 v0_0 u A) [.ref (a0 0), .int p1].toArray s 0 0 A) (F0 m 30 ls []) := by
    intro x2 hF H locs ls hP hD hS hl
    unfold F_X7_countOf_j30 at hF
    refine lv_iload_n hx hb dX7_countOf_30 rfl (lv_at hl 0 rfl) ?_
    obtain rfl := Option.some.inj hF
    exact W.iret (v := x2) hx hb hr (fun t ht hW => ⟨⟨x2, (), rfl, rfl, by rw [ht]; exact hP, va_K.moved hW.alike hK, hD⟩, hS.F ht⟩) hS.2.2 dX7_countOf_31
  have j4 : ∀ (x1 : Int32) (x2 : Int32) (x3 : Int32), F_X7_countOf_j4 n v0_3 v0_0 x1 x2 x3 = some u → ∀ (H : Heap) (locs : List Loc) (ls : Array Slot), va_P (dC, dI) vwCl (wd_X7_countOf cI a0 v0_3 v0_4 v0_5 v0_0) H → va_D A (wd_X7_countOf cI a0 v0_3 v0_4 v0_5 v0_0) → va_S A s.heap H locs → lv_has ls 4 [(0, .ref (a0 0)), (1, .int x1), (2, .int x2), (3, .int x3)] → W p l e (headSpec wz_X7_countOf rm_X7_countOf).room s m [.ref (a0 0), .int p1].toArray below meth c H locs 0 0 (MQ below (Q_X7_countOf dC dI cI a0 v0_3 v0_4 v0_5 v0_0 u A) [.ref (a0 0), .int p1].toArray s 0 0 A) (F0 m 4 ls []) := by
    intro x1 x2 x3 hF H locs ls hP hD hS hl
    unfold F_X7_countOf_j4 at hF
    obtain ⟨x_4, hL_4, hE_4⟩ := obd_some hF
    have kl_4 : ∀ (k : Nat) (s4 : Int32 × Int32), lpq (F_X7_countOf_b4 v0_3 v0_0 x1) k s4 = some x_4 → ∀ (H : Heap) (locs : List Loc) (ls : Array Slot), va_P (dC, dI) vwCl (wd_X7_countOf cI a0 v0_3 v0_4 v0_5 v0_0) H → va_D A (wd_X7_countOf cI a0 v0_3 v0_4 v0_5 v0_0) → va_S A s.heap H locs → lv_has ls 4 [(0, .ref (a0 0)), (1, .int x1), (2, .int s4.1), (3, .int s4.2)] → W p l e (headSpec wz_X7_countOf rm_X7_countOf).room s m [.ref (a0 0), .int p1].toArray below meth c H locs 0 0 (MQ below (Q_X7_countOf dC dI cI a0 v0_3 v0_4 v0_5 v0_0 u A) [.ref (a0 0), .int p1].toArray s 0 0 A) (F0 m 4 ls []) := by
      intro k
      induction k with
      | zero => intro s4 h; exact absurd h lpq_zero
      | succ k ih_4 =>
        intro s4 h H locs ls hP hD hS hl
        obtain ⟨o_4, hF, hO_4⟩ := lpq_succ h
        unfold F_X7_countOf_b4 at hF
        have j24 : ∀ (x2 : Int32) (x3 : Int32), F_X7_countOf_j24 x2 x3 = some o_4 → ∀ (H : Heap) (locs : List Loc) (ls : Array Slot), va_P (dC, dI) vwCl (wd_X7_countOf cI a0 v0_3 v0_4 v0_5 v0_0) H → va_D A (wd_X7_countOf cI a0 v0_3 v0_4 v0_5 v0_0) → va_S A s.heap H locs → lv_has ls 4 [(0, .ref (a0 0)), (1, .int x1), (2, .int x2), (3, .int x3)] → W p l e (headSpec wz_X7_countOf rm_X7_countOf).room s m [.ref (a0 0), .int p1].toArray below meth c H locs 0 0 (MQ below (Q_X7_countOf dC dI cI a0 v0_3 v0_4 v0_5 v0_0 u A) [.ref (a0 0), .int p1].toArray s 0 0 A) (F0 m 24 ls []) := by
          intro x2 x3 hF H locs ls hP hD hS hl
          unfold F_X7_countOf_j24 at hF
          obtain ⟨y_1, ey_1, hF⟩ := lt_some hF
          refine lv_iinc (v := y_1) (lv' := [(3, .int y_1), (0, .ref (a0 0)), (1, .int x1), (2, .int x2)]) hx hb dX7_countOf_24 hl (k := 3) rfl (by rw [ey_1]; rfl) (by decide) rfl (fun ls hl => ?_)
          refine lv_goto (tgt := 4) hx hb dX7_countOf_27 (by decide) ?_
          obtain rfl := Option.some.inj hF
          exact ih_4 _ hO_4 _ _ _ hP hD hS (lv_sub hl [1, 2, 3, 0] rfl)
        refine lv_iload_n hx hb dX7_countOf_4 rfl (lv_at hl 3 rfl) ?_
        refine lv_aload_n hx hb dX7_countOf_5 rfl (lv_at hl 0 rfl) ?_
        refine va_get (D := (dC, dI)) (ci := 6) (v := .int v0_3) (C := RX7) (T := TX7) (N := 6) hx hb hta uw_X7 hown hK hP 0 rfl rfl 3 (by decide) (hta _ mA475) (fun _ h9 => h9) rfl dX7_countOf_6 ?_
        refine lv_icmp_ge (tgt := 30) hx hb dX7_countOf_9 (by decide) (fun c_2 => ?_) (fun c_2 => ?_)
        · have hF := it_t hF c_2
          obtain rfl := Option.some.inj hF
          obtain rfl := lpq_x hO_4
          have hF := hE_4
          exact j30 s4.1 hF _ _ _ hP hD hS (lv_sub hl [2] rfl)
        · have hF := it_f hF c_2
          refine lv_aload_n hx hb dX7_countOf_12 rfl (lv_at hl 0 rfl) ?_
          refine lv_iload_n hx hb dX7_countOf_13 rfl (lv_at hl 3 rfl) ?_
          obtain ⟨u_3, hu_3, hF⟩ := obd_some hF
          have hPc := hP.sub (ws' := (wd_X7_kindOf cI a0 v0_3 v0_4 v0_5 v0_0)) [0, 1] rfl
          have hDc := hD.sub (ws' := (wd_X7_kindOf cI a0 v0_3 v0_4 v0_5 v0_0)) [0, 1] rfl rfl
          refine q_calli (wc := (wd_X7_kindOf cI a0 v0_3 v0_4 v0_5 v0_0)) (w1 := (wd_X7_kindOf cI a0 v0_3 v0_4 v0_5 v0_0)) (ws' := (wd_X7_countOf cI a0 v0_3 v0_4 v0_5 v0_0)) hP hD hS hA [0, 1] [] [0, 1] rfl rfl rfl (by decide) rfl rfl (va_runV (As := [.int s4.2]) (rest := []) ⟨hx, hb, hml, hown, hta⟩ (c_X7_kindOf l dC dI cI H.size a0 v0_3 v0_4 v0_5 v0_0 s4.2 u_3 hu_3) (cwV 1 hta (ga_V mA572 mA573 mA574 mA60 mA575) rfl rfl rfl (by decide +kernel) ⟨Nat.le_of_ble_eq_true rfl, Nat.le_of_ble_eq_true rfl⟩) ⟨q_fb, va_recv hK hP (ci := 6) (q0 := 0) rfl rfl, q_ps hPc hK hDc⟩ rfl rfl hl.1 rfl (lv_room (Nat.le_of_ble_eq_true rfl)) dX7_countOf_14 ⟨Nat.zero_le _, Nat.zero_le _⟩) (fun H locs hP hD hS => ?_)
          refine lv_iload_n hx hb dX7_countOf_17 rfl (lv_at hl 1 rfl) ?_
          refine lv_icmp_ne (tgt := 24) hx hb dX7_countOf_18 (by decide) (fun c_4 => ?_) (fun c_4 => ?_)
          · have hF := it_f hF c_4
            exact j24 s4.1 s4.2 hF _ _ _ hP hD hS (lv_sub hl [0, 1, 2, 3] rfl)
          · have hF := it_t hF c_4
            obtain ⟨y_5, ey_5, hF⟩ := lt_some hF
            refine lv_iinc (v := y_5) (lv' := [(2, .int y_5), (0, .ref (a0 0)), (1, .int x1), (3, .int s4.2)]) hx hb dX7_countOf_21 hl (k := 2) rfl (by rw [ey_5]; rfl) (by decide) rfl (fun ls hl => ?_)
            exact j24 y_5 s4.2 hF _ _ _ hP hD hS (lv_sub hl [1, 2, 0, 3] rfl)
    exact kl_4 n _ hL_4 _ _ _ hP hD hS hl
  refine lv_iconst (v := 0) hx hb dX7_countOf_0 (by decide) ?_
  refine lv_istore_n (lv' := [(2, .int 0), (0, .ref (a0 0)), (1, .int p1)]) hx hb dX7_countOf_1 rfl hl (by decide) rfl (fun ls hl => ?_)
  refine lv_iconst (v := 0) hx hb dX7_countOf_2 (by decide) ?_
  refine lv_istore_n (lv' := [(3, .int 0), (2, .int 0), (0, .ref (a0 0)), (1, .int p1)]) hx hb dX7_countOf_3 rfl hl (by decide) rfl (fun ls hl => ?_)
  exact j4 p1 0 0 hF _ _ _ hP hD hS (lv_sub hl [2, 3, 1, 0] rfl)

-- StrokeOutliner$Pieces.cornerCount(I)I
def F_X7_cornerCount (v0_0 : Nat → Int32) (p1 : Int32) : Option (Int32) :=
  obd (F_X4_at 2800 v0_0 p1) (fun u_1 => if u_1 = 2 then some 3 else if u_1 = 3 then some 1 else some 4)
abbrev wd_X7_cornerCount (cI : ClassId) (a0 : Nat → Nat) (v0_3 : Int32) (v0_4 : Int32) (v0_5 : Int32) (v0_0 : Nat → Int32) : va_W := [(a0 0, .inr (6, [.ref (a0 1), .ref (a0 2), .ref (a0 3), .int v0_3, .int v0_4, .int v0_5])), (a0 1, .inl (cI, 2800, .inl v0_0))]
abbrev wz_X7_cornerCount : List Cond := .code yX7_cornerCount cX7_cornerCount 2 (some .int) :: wALL
abbrev rm_X7_cornerCount : Room := { frames := 1, cells := 0, slots := 0, locals := 21 }
abbrev Q_X7_cornerCount (dC : Nat → ClassId) (dI : Nat → Nat → Nat) (cI : ClassId) (a0 : Nat → Nat) (v0_3 : Int32) (v0_4 : Int32) (v0_5 : Int32) (v0_0 : Nat → Int32) (u : (Int32)) (A : Nat → Prop) : Array Value → State → Outcome → State → Prop := va_Qi (fun (r : Int32) (_ : Unit) => r = u) (fun _ => q_at dC dI cI A (wd_X7_cornerCount cI a0 v0_3 v0_4 v0_5 v0_0)) A
set_option maxHeartbeats 4000000 in
set_option maxRecDepth 100000 in
theorem c_X7_cornerCount (l : Launch) (dC : Nat → ClassId) (dI : Nat → Nat → Nat) (cI : ClassId) (sz : Nat) (a0 : Nat → Nat) (v0_3 : Int32) (v0_4 : Int32) (v0_5 : Int32) (v0_0 : Nat → Int32) (p1 : Int32) (u : (Int32)) (hF : F_X7_cornerCount v0_0 p1 = some u) : Met l yX7_cornerCount wz_X7_cornerCount rm_X7_cornerCount (va_Pc [.ref (a0 0), .int p1] (q_pre dC dI cI (wd_X7_cornerCount cI a0 v0_3 v0_4 v0_5 v0_0) sz)) (Q_X7_cornerCount dC dI cI a0 v0_3 v0_4 v0_5 v0_0 u (va_A (wd_X7_cornerCount cI a0 v0_3 v0_4 v0_5 v0_0) sz)) 0 0 (va_A (wd_X7_cornerCount cI a0 v0_3 v0_4 v0_5 v0_0) sz) := by
  refine Met.ofW (cc := cX7_cornerCount) (maxL := 2) (ret := (some .int)) (by decide) rfl ?_
  intro p e s m args below meth c s₁ B hml hv
  obtain ⟨rfl, hsz, hP, hK, hD0⟩ := hv
  have hx := B.exec
  have hb := B.bytes
  have hr := B.returns
  have hts := atoms_spec (ws := wz_X7_cornerCount) B.pre
  have hta := wz_tl hts
  have hown : s.vm.findClass RX7 = some m.cls := findClass_of_methodNamed B.named
  have hlocks := B.notSynchronized
  subst hsz
  have hD := hD0.self (sz := s.heap.size)
  generalize hAe : va_A (wd_X7_cornerCount cI a0 v0_3 v0_4 v0_5 v0_0) s.heap.size = A at hD ⊢
  have hA : ∀ q : Nat, s.heap.size ≤ q → A q := fun q h => by rw [← hAe]; exact Or.inr h
  have hS : va_S A s.heap s.heap [] := va_S.rf
  have hP : va_P (dC, dI) vwCl (wd_X7_cornerCount cI a0 v0_3 v0_4 v0_5 v0_0) s.heap := hP
  have hl := lv_entry ([.ref (a0 0), .int p1]) (n := 2) (Nat.le_of_ble_eq_true rfl)
  rw [lg_entry_eq]
  generalize (lg_sl ([.ref (a0 0), .int p1]) ++ List.replicate (2 - (lg_sl ([.ref (a0 0), .int p1])).length) Slot.unset).toArray = ls at hl ⊢
  have hl : lv_has ls 2 [(0, .ref (a0 0)), (1, .int p1)] := hl
  obtain ⟨H, hHe⟩ : ∃ H, H = s.heap := ⟨_, rfl⟩
  have hS : va_S A s.heap H [] := by rw [hHe]; exact hS
  have hP : va_P (dC, dI) vwCl (wd_X7_cornerCount cI a0 v0_3 v0_4 v0_5 v0_0) H := by rw [hHe]; exact hP
  rw [← hHe]
  unfold F_X7_cornerCount at hF
  refine lv_aload_n hx hb dX7_cornerCount_0 rfl (lv_at hl 0 rfl) ?_
  refine va_get (D := (dC, dI)) (ci := 6) (v := .ref (a0 1)) (C := RX7) (T := TX7) (N := 6) hx hb hta uw_X7 hown hK hP 0 rfl rfl 0 (by decide) (hta _ mA98) (fun _ h9 => h9) rfl dX7_cornerCount_1 ?_
  refine lv_iload_n hx hb dX7_cornerCount_4 rfl (lv_at hl 1 rfl) ?_
  obtain ⟨u_1, hu_1, hF⟩ := obd_some hF
  have hPc := hP.sub (ws' := (wd_X4_at cI (a0 1) 2800 v0_0)) [1] rfl
  have hDc := hD.sub (ws' := (wd_X4_at cI (a0 1) 2800 v0_0)) [1] rfl rfl
  refine q_calli (wc := (wd_X4_at cI (a0 1) 2800 v0_0)) (w1 := (wd_X4_at cI (a0 1) 2800 v0_0)) (ws' := (wd_X7_cornerCount cI a0 v0_3 v0_4 v0_5 v0_0)) hP hD hS hA [1] [0] [0, 1] rfl rfl rfl (by decide) rfl rfl (va_runS (As := [.ref (a0 1), .int p1]) (rest := []) ⟨hx, hb, hml, hown, hta⟩ (c_X4_at l dC dI cI H.size (a0 1) 2800 v0_0 p1 u_1 hu_1) (va_cwS 2 hta (ga_S mA576 mA237 mA221 mA238) rfl rfl rfl (by decide +kernel) ⟨Nat.le_of_ble_eq_true rfl, Nat.le_of_ble_eq_true rfl⟩) ⟨q_fb, q_ps hPc hK hDc⟩ rfl rfl hl.1 rfl (lv_room (Nat.le_of_ble_eq_true rfl)) dX7_cornerCount_5 ⟨Nat.zero_le _, Nat.zero_le _⟩) (fun H locs hP hD hS => ?_)
  by_cases c_2 : u_1 = 2
  · have hF := it_t hF c_2
    refine lv_lookup (off := 30) (tgt := 38) hx hb dX7_cornerCount_8 rfl (by first | (rw [c_2]; done) | (rw [c_2]; rfl)) (by decide) ?_
    refine lv_iconst (v := 3) hx hb dX7_cornerCount_38 (by decide) ?_
    obtain rfl := Option.some.inj hF
    exact W.iret (v := 3) hx hb hr (fun t ht hW => ⟨⟨3, (), rfl, rfl, by rw [ht]; exact hP, va_K.moved hW.alike hK, hD⟩, hS.F ht⟩) hS.2.2 dX7_cornerCount_39
  · have hF := it_f hF c_2
    by_cases c_3 : u_1 = 3
    · have hF := it_t hF c_3
      refine lv_lookup (off := 28) (tgt := 36) hx hb dX7_cornerCount_8 rfl (by first | (rw [c_3]; done) | (rw [c_3]; rfl)) (by decide) ?_
      refine lv_iconst (v := 1) hx hb dX7_cornerCount_36 (by decide) ?_
      obtain rfl := Option.some.inj hF
      exact W.iret (v := 1) hx hb hr (fun t ht hW => ⟨⟨1, (), rfl, rfl, by rw [ht]; exact hP, va_K.moved hW.alike hK, hD⟩, hS.F ht⟩) hS.2.2 dX7_cornerCount_37
    · have hF := it_f hF c_3
      refine lv_lookup (off := 32) (tgt := 40) hx hb dX7_cornerCount_8 rfl (by show Op.lookupswitch.offset [(2, 30), (3, 28)] _ u_1.toInt = _; rw [lv_osw (a := 2) c_2 (by decide), lv_osw (a := 3) c_3 (by decide)]; first | done | rfl) (by decide) ?_
      refine lv_iconst (v := 4) hx hb dX7_cornerCount_40 (by decide) ?_
      obtain rfl := Option.some.inj hF
      exact W.iret (v := 4) hx hb hr (fun t ht hW => ⟨⟨4, (), rfl, rfl, by rw [ht]; exact hP, va_K.moved hW.alike hK, hD⟩, hS.F ht⟩) hS.2.2 dX7_cornerCount_41

-- StrokeOutliner$Pieces.cornerX(II)I
def F_X7_cornerX (v0_1 : Nat → Int32) (p1 : Int32) (p2 : Int32) : Option (Int32) :=
  obd (F_X4_at 11200 v0_1 ((4 * p1) + p2)) (fun u_1 => some u_1)
abbrev wd_X7_cornerX (cI : ClassId) (a0 : Nat → Nat) (v0_3 : Int32) (v0_4 : Int32) (v0_5 : Int32) (v0_1 : Nat → Int32) : va_W := [(a0 0, .inr (6, [.ref (a0 1), .ref (a0 2), .ref (a0 3), .int v0_3, .int v0_4, .int v0_5])), (a0 2, .inl (cI, 11200, .inl v0_1))]
abbrev wz_X7_cornerX : List Cond := .code yX7_cornerX cX7_cornerX 3 (some .int) :: wALL
abbrev rm_X7_cornerX : Room := { frames := 1, cells := 0, slots := 0, locals := 21 }
abbrev Q_X7_cornerX (dC : Nat → ClassId) (dI : Nat → Nat → Nat) (cI : ClassId) (a0 : Nat → Nat) (v0_3 : Int32) (v0_4 : Int32) (v0_5 : Int32) (v0_1 : Nat → Int32) (u : (Int32)) (A : Nat → Prop) : Array Value → State → Outcome → State → Prop := va_Qi (fun (r : Int32) (_ : Unit) => r = u) (fun _ => q_at dC dI cI A (wd_X7_cornerX cI a0 v0_3 v0_4 v0_5 v0_1)) A
set_option maxHeartbeats 4000000 in
set_option maxRecDepth 100000 in
theorem c_X7_cornerX (l : Launch) (dC : Nat → ClassId) (dI : Nat → Nat → Nat) (cI : ClassId) (sz : Nat) (a0 : Nat → Nat) (v0_3 : Int32) (v0_4 : Int32) (v0_5 : Int32) (v0_1 : Nat → Int32) (p1 : Int32) (p2 : Int32) (u : (Int32)) (hF : F_X7_cornerX v0_1 p1 p2 = some u) : Met l yX7_cornerX wz_X7_cornerX rm_X7_cornerX (va_Pc [.ref (a0 0), .int p1, .int p2] (q_pre dC dI cI (wd_X7_cornerX cI a0 v0_3 v0_4 v0_5 v0_1) sz)) (Q_X7_cornerX dC dI cI a0 v0_3 v0_4 v0_5 v0_1 u (va_A (wd_X7_cornerX cI a0 v0_3 v0_4 v0_5 v0_1) sz)) 0 0 (va_A (wd_X7_cornerX cI a0 v0_3 v0_4 v0_5 v0_1) sz) := by
  refine Met.ofW (cc := cX7_cornerX) (maxL := 3) (ret := (some .int)) (by decide) rfl ?_
  intro p e s m args below meth c s₁ B hml hv
  obtain ⟨rfl, hsz, hP, hK, hD0⟩ := hv
  have hx := B.exec
  have hb := B.bytes
  have hr := B.returns
  have hts := atoms_spec (ws := wz_X7_cornerX) B.pre
  have hta := wz_tl hts
  have hown : s.vm.findClass RX7 = some m.cls := findClass_of_methodNamed B.named
  have hlocks := B.notSynchronized
  subst hsz
  have hD := hD0.self (sz := s.heap.size)
  generalize hAe : va_A (wd_X7_cornerX cI a0 v0_3 v0_4 v0_5 v0_1) s.heap.size = A at hD ⊢
  have hA : ∀ q : Nat, s.heap.size ≤ q → A q := fun q h => by rw [← hAe]; exact Or.inr h
  have hS : va_S A s.heap s.heap [] := va_S.rf
  have hP : va_P (dC, dI) vwCl (wd_X7_cornerX cI a0 v0_3 v0_4 v0_5 v0_1) s.heap := hP
  have hl := lv_entry ([.ref (a0 0), .int p1, .int p2]) (n := 3) (Nat.le_of_ble_eq_true rfl)
  rw [lg_entry_eq]
  generalize (lg_sl ([.ref (a0 0), .int p1, .int p2]) ++ List.replicate (3 - (lg_sl ([.ref (a0 0), .int p1, .int p2])).length) Slot.unset).toArray = ls at hl ⊢
  have hl : lv_has ls 3 [(0, .ref (a0 0)), (1, .int p1), (2, .int p2)] := hl
  obtain ⟨H, hHe⟩ : ∃ H, H = s.heap := ⟨_, rfl⟩
  have hS : va_S A s.heap H [] := by rw [hHe]; exact hS
  have hP : va_P (dC, dI) vwCl (wd_X7_cornerX cI a0 v0_3 v0_4 v0_5 v0_1) H := by rw [hHe]; exact hP
  rw [← hHe]
  unfold F_X7_cornerX at hF
  refine lv_aload_n hx hb dX7_cornerX_0 rfl (lv_at hl 0 rfl) ?_
  refine va_get (D := (dC, dI)) (ci := 6) (v := .ref (a0 2)) (C := RX7) (T := TX7) (N := 6) hx hb hta uw_X7 hown hK hP 0 rfl rfl 1 (by decide) (hta _ mA99) (fun _ h9 => h9) rfl dX7_cornerX_1 ?_
  refine lv_iconst (v := 4) hx hb dX7_cornerX_4 (by decide) ?_
  refine lv_iload_n hx hb dX7_cornerX_5 rfl (lv_at hl 1 rfl) ?_
  refine lv_imul hx hb dX7_cornerX_6 ?_
  refine lv_iload_n hx hb dX7_cornerX_7 rfl (lv_at hl 2 rfl) ?_
  refine lv_iadd hx hb dX7_cornerX_8 ?_
  obtain ⟨u_1, hu_1, hF⟩ := obd_some hF
  have hPc := hP.sub (ws' := (wd_X4_at cI (a0 2) 11200 v0_1)) [1] rfl
  have hDc := hD.sub (ws' := (wd_X4_at cI (a0 2) 11200 v0_1)) [1] rfl rfl
  refine q_calli (wc := (wd_X4_at cI (a0 2) 11200 v0_1)) (w1 := (wd_X4_at cI (a0 2) 11200 v0_1)) (ws' := (wd_X7_cornerX cI a0 v0_3 v0_4 v0_5 v0_1)) hP hD hS hA [1] [0] [0, 1] rfl rfl rfl (by decide) rfl rfl (va_runS (As := [.ref (a0 2), .int ((4 * p1) + p2)]) (rest := []) ⟨hx, hb, hml, hown, hta⟩ (c_X4_at l dC dI cI H.size (a0 2) 11200 v0_1 ((4 * p1) + p2) u_1 hu_1) (va_cwS 2 hta (ga_S mA576 mA237 mA221 mA238) rfl rfl rfl (by decide +kernel) ⟨Nat.le_of_ble_eq_true rfl, Nat.le_of_ble_eq_true rfl⟩) ⟨q_fb, q_ps hPc hK hDc⟩ rfl rfl hl.1 rfl (lv_room (Nat.le_of_ble_eq_true rfl)) dX7_cornerX_9 ⟨Nat.zero_le _, Nat.zero_le _⟩) (fun H locs hP hD hS => ?_)
  obtain rfl := Option.some.inj hF
  exact W.iret (v := u_1) hx hb hr (fun t ht hW => ⟨⟨u_1, (), rfl, rfl, by rw [ht]; exact hP, va_K.moved hW.alike hK, hD⟩, hS.F ht⟩) hS.2.2 dX7_cornerX_12

-- StrokeOutliner$Pieces.cornerY(II)I
def F_X7_cornerY (v0_2 : Nat → Int32) (p1 : Int32) (p2 : Int32) : Option (Int32) :=
  obd (F_X4_at 11200 v0_2 ((4 * p1) + p2)) (fun u_1 => some u_1)
abbrev wd_X7_cornerY (cI : ClassId) (a0 : Nat → Nat) (v0_3 : Int32) (v0_4 : Int32) (v0_5 : Int32) (v0_2 : Nat → Int32) : va_W := [(a0 0, .inr (6, [.ref (a0 1), .ref (a0 2), .ref (a0 3), .int v0_3, .int v0_4, .int v0_5])), (a0 3, .inl (cI, 11200, .inl v0_2))]
abbrev wz_X7_cornerY : List Cond := .code yX7_cornerY cX7_cornerY 3 (some .int) :: wALL
abbrev rm_X7_cornerY : Room := { frames := 1, cells := 0, slots := 0, locals := 21 }
abbrev Q_X7_cornerY (dC : Nat → ClassId) (dI : Nat → Nat → Nat) (cI : ClassId) (a0 : Nat → Nat) (v0_3 : Int32) (v0_4 : Int32) (v0_5 : Int32) (v0_2 : Nat → Int32) (u : (Int32)) (A : Nat → Prop) : Array Value → State → Outcome → State → Prop := va_Qi (fun (r : Int32) (_ : Unit) => r = u) (fun _ => q_at dC dI cI A (wd_X7_cornerY cI a0 v0_3 v0_4 v0_5 v0_2)) A
set_option maxHeartbeats 4000000 in
set_option maxRecDepth 100000 in
theorem c_X7_cornerY (l : Launch) (dC : Nat → ClassId) (dI : Nat → Nat → Nat) (cI : ClassId) (sz : Nat) (a0 : Nat → Nat) (v0_3 : Int32) (v0_4 : Int32) (v0_5 : Int32) (v0_2 : Nat → Int32) (p1 : Int32) (p2 : Int32) (u : (Int32)) (hF : F_X7_cornerY v0_2 p1 p2 = some u) : Met l yX7_cornerY wz_X7_cornerY rm_X7_cornerY (va_Pc [.ref (a0 0), .int p1, .int p2] (q_pre dC dI cI (wd_X7_cornerY cI a0 v0_3 v0_4 v0_5 v0_2) sz)) (Q_X7_cornerY dC dI cI a0 v0_3 v0_4 v0_5 v0_2 u (va_A (wd_X7_cornerY cI a0 v0_3 v0_4 v0_5 v0_2) sz)) 0 0 (va_A (wd_X7_cornerY cI a0 v0_3 v0_4 v0_5 v0_2) sz) := by
  refine Met.ofW (cc := cX7_cornerY) (maxL := 3) (ret := (some .int)) (by decide) rfl ?_
  intro p e s m args below meth c s₁ B hml hv
  obtain ⟨rfl, hsz, hP, hK, hD0⟩ := hv
  have hx := B.exec
  have hb := B.bytes
  have hr := B.returns
  have hts := atoms_spec (ws := wz_X7_cornerY) B.pre
  have hta := wz_tl hts
  have hown : s.vm.findClass RX7 = some m.cls := findClass_of_methodNamed B.named
  have hlocks := B.notSynchronized
  subst hsz
  have hD := hD0.self (sz := s.heap.size)
  generalize hAe : va_A (wd_X7_cornerY cI a0 v0_3 v0_4 v0_5 v0_2) s.heap.size = A at hD ⊢
  have hA : ∀ q : Nat, s.heap.size ≤ q → A q := fun q h => by rw [← hAe]; exact Or.inr h
  have hS : va_S A s.heap s.heap [] := va_S.rf
  have hP : va_P (dC, dI) vwCl (wd_X7_cornerY cI a0 v0_3 v0_4 v0_5 v0_2) s.heap := hP
  have hl := lv_entry ([.ref (a0 0), .int p1, .int p2]) (n := 3) (Nat.le_of_ble_eq_true rfl)
  rw [lg_entry_eq]
  generalize (lg_sl ([.ref (a0 0), .int p1, .int p2]) ++ List.replicate (3 - (lg_sl ([.ref (a0 0), .int p1, .int p2])).length) Slot.unset).toArray = ls at hl ⊢
  have hl : lv_has ls 3 [(0, .ref (a0 0)), (1, .int p1), (2, .int p2)] := hl
  obtain ⟨H, hHe⟩ : ∃ H, H = s.heap := ⟨_, rfl⟩
  have hS : va_S A s.heap H [] := by rw [hHe]; exact hS
  have hP : va_P (dC, dI) vwCl (wd_X7_cornerY cI a0 v0_3 v0_4 v0_5 v0_2) H := by rw [hHe]; exact hP
  rw [← hHe]
  unfold F_X7_cornerY at hF
  refine lv_aload_n hx hb dX7_cornerY_0 rfl (lv_at hl 0 rfl) ?_
  refine va_get (D := (dC, dI)) (ci := 6) (v := .ref (a0 3)) (C := RX7) (T := TX7) (N := 6) hx hb hta uw_X7 hown hK hP 0 rfl rfl 2 (by decide) (hta _ mA100) (fun _ h9 => h9) rfl dX7_cornerY_1 ?_
  refine lv_iconst (v := 4) hx hb dX7_cornerY_4 (by decide) ?_
  refine lv_iload_n hx hb dX7_cornerY_5 rfl (lv_at hl 1 rfl) ?_
  refine lv_imul hx hb dX7_cornerY_6 ?_
  refine lv_iload_n hx hb dX7_cornerY_7 rfl (lv_at hl 2 rfl) ?_
  refine lv_iadd hx hb dX7_cornerY_8 ?_
  obtain ⟨u_1, hu_1, hF⟩ := obd_some hF
  have hPc := hP.sub (ws' := (wd_X4_at cI (a0 3) 11200 v0_2)) [1] rfl
  have hDc := hD.sub (ws' := (wd_X4_at cI (a0 3) 11200 v0_2)) [1] rfl rfl
  refine q_calli (wc := (wd_X4_at cI (a0 3) 11200 v0_2)) (w1 := (wd_X4_at cI (a0 3) 11200 v0_2)) (ws' := (wd_X7_cornerY cI a0 v0_3 v0_4 v0_5 v0_2)) hP hD hS hA [1] [0] [0, 1] rfl rfl rfl (by decide) rfl rfl (va_runS (As := [.ref (a0 3), .int ((4 * p1) + p2)]) (rest := []) ⟨hx, hb, hml, hown, hta⟩ (c_X4_at l dC dI cI H.size (a0 3) 11200 v0_2 ((4 * p1) + p2) u_1 hu_1) (va_cwS 2 hta (ga_S mA576 mA237 mA221 mA238) rfl rfl rfl (by decide +kernel) ⟨Nat.le_of_ble_eq_true rfl, Nat.le_of_ble_eq_true rfl⟩) ⟨q_fb, q_ps hPc hK hDc⟩ rfl rfl hl.1 rfl (lv_room (Nat.le_of_ble_eq_true rfl)) dX7_cornerY_9 ⟨Nat.zero_le _, Nat.zero_le _⟩) (fun H locs hP hD hS => ?_)
  obtain rfl := Option.some.inj hF
  exact W.iret (v := u_1) hx hb hr (fun t ht hW => ⟨⟨u_1, (), rfl, rfl, by rw [ht]; exact hP, va_K.moved hW.alike hK, hD⟩, hS.F ht⟩) hS.2.2 dX7_cornerY_12

-- StrokeOutliner$Pieces.doubleArea(I)J
def F_X7_doubleArea_j84 (x2 : Int64) : Option (Int64) :=
  some (if 0 < x2 then x2 else -x2)
def F_X7_doubleArea_j36 (v0_1 : Nat → Int32) (v0_2 : Nat → Int32) (x1 : Int32) (x2 : Int64) (x5 : Int32) (t0 : Int32) : Option (Sum (Int64 × Int32) (Int64)) :=
  obd (F_X7_cornerX v0_1 x1 x5) (fun u_1 => obd (F_X7_cornerY v0_2 x1 t0) (fun u_2 => lt (x2 + (u_1.toInt64 * u_2.toInt64)) (fun y_3 => obd (F_X7_cornerX v0_1 x1 t0) (fun u_4 => obd (F_X7_cornerY v0_2 x1 x5) (fun u_5 => lt (y_3 - (u_4.toInt64 * u_5.toInt64)) (fun y_6 => lt (x5 + 1) (fun y_7 => some (.inl (y_6, y_7)))))))))
def F_X7_doubleArea_b12 (v0_1 : Nat → Int32) (v0_2 : Nat → Int32) (x1 : Int32) (x4 : Int32) (s12 : Int64 × Int32) : Option (Sum (Int64 × Int32) (Int64)) :=
  if x4 ≤ s12.2 then some (.inr s12.1) else if x4 ≤ (s12.2 + 1) then F_X7_doubleArea_j36 v0_1 v0_2 x1 s12.1 s12.2 0 else F_X7_doubleArea_j36 v0_1 v0_2 x1 s12.1 s12.2 (s12.2 + 1)
def F_X7_doubleArea_j12 (n : Nat) (v0_1 : Nat → Int32) (v0_2 : Nat → Int32) (x1 : Int32) (x2 : Int64) (x4 : Int32) (x5 : Int32) : Option (Int64) :=
  obd (lpq (F_X7_doubleArea_b12 v0_1 v0_2 x1 x4) n (x2, x5)) (fun x_12 => F_X7_doubleArea_j84 x_12)
def F_X7_doubleArea (n : Nat) (v0_0 : Nat → Int32) (v0_1 : Nat → Int32) (v0_2 : Nat → Int32) (p1 : Int32) : Option (Int64) :=
  obd (F_X7_cornerCount v0_0 p1) (fun u_10 => F_X7_doubleArea_j12 n v0_1 v0_2 p1 0 u_10 0)
abbrev wd_X7_doubleArea (cI : ClassId) (a0 : Nat → Nat) (v0_3 : Int32) (v0_4 : Int32) (v0_5 : Int32) (v0_0 : Nat → Int32) (v0_1 : Nat → Int32) (v0_2 : Nat → Int32) : va_W := [(a0 0, .inr (6, [.ref (a0 1), .ref (a0 2), .ref (a0 3), .int v0_3, .int v0_4, .int v0_5])), (a0 1, .inl (cI, 2800, .inl v0_0)), (a0 2, .inl (cI, 11200, .inl v0_1)), (a0 3, .inl (cI, 11200, .inl v0_2))]
abbrev wz_X7_doubleArea : List Cond := .code yX7_doubleArea cX7_doubleArea 7 (some .long) :: wALL
abbrev rm_X7_doubleArea : Room := { frames := 2, cells := 0, slots := 0, locals := 43 }
abbrev Q_X7_doubleArea (dC : Nat → ClassId) (dI : Nat → Nat → Nat) (cI : ClassId) (a0 : Nat → Nat) (v0_3 : Int32) (v0_4 : Int32) (v0_5 : Int32) (v0_0 : Nat → Int32) (v0_1 : Nat → Int32) (v0_2 : Nat → Int32) (u : (Int64)) (A : Nat → Prop) : Array Value → State → Outcome → State → Prop := va_Ql (fun (r : Int64) (_ : Unit) => r = u) (fun _ => q_at dC dI cI A (wd_X7_doubleArea cI a0 v0_3 v0_4 v0_5 v0_0 v0_1 v0_2)) A
set_option maxHeartbeats 4000000 in
set_option maxRecDepth 100000 in
theorem c_X7_doubleArea (l : Launch) (dC : Nat → ClassId) (dI : Nat → Nat → Nat) (cI : ClassId) (sz : Nat) (a0 : Nat → Nat) (v0_3 : Int32) (v0_4 : Int32) (v0_5 : Int32) (v0_0 : Nat → Int32) (v0_1 : Nat → Int32) (v0_2 : Nat → Int32) (p1 : Int32) (n : Nat) (u : (Int64)) (hF : F_X7_doubleArea n v0_0 v0_1 v0_2 p1 = some u) : Met l yX7_doubleArea wz_X7_doubleArea rm_X7_doubleArea (va_Pc [.ref (a0 0), .int p1] (q_pre dC dI cI (wd_X7_doubleArea cI a0 v0_3 v0_4 v0_5 v0_0 v0_1 v0_2) sz)) (Q_X7_doubleArea dC dI cI a0 v0_3 v0_4 v0_5 v0_0 v0_1 v0_2 u (va_A (wd_X7_doubleArea cI a0 v0_3 v0_4 v0_5 v0_0 v0_1 v0_2) sz)) 0 0 (va_A (wd_X7_doubleArea cI a0 v0_3 v0_4 v0_5 v0_0 v0_1 v0_2) sz) := by
  refine Met.ofW (cc := cX7_doubleArea) (maxL := 7) (ret := (some .long)) (by decide) rfl ?_
  intro p e s m args below meth c s₁ B hml hv
  obtain ⟨rfl, hsz, hP, hK, hD0⟩ := hv
  have hx := B.exec
  have hb := B.bytes
  have hr := B.returns
  have hts := atoms_spec (ws := wz_X7_doubleArea) B.pre
  have hta := wz_tl hts
  have hown : s.vm.findClass RX7 = some m.cls := findClass_of_methodNamed B.named
  have hlocks := B.notSynchronized
  subst hsz
  have hD := hD0.self (sz := s.heap.size)
  generalize hAe : va_A (wd_X7_doubleArea cI a0 v0_3 v0_4 v0_5 v0_0 v0_1 v0_2) s.heap.size = A at hD ⊢
  have hA : ∀ q : Nat, s.heap.size ≤ q → A q := fun q h => by rw [← hAe]; exact Or.inr h
  have hS : va_S A s.heap s.heap [] := va_S.rf
  have hP : va_P (dC, dI) vwCl (wd_X7_doubleArea cI a0 v0_3 v0_4 v0_5 v0_0 v0_1 v0_2) s.heap := hP
  have hl := lv_entry ([.ref (a0 0), .int p1]) (n := 7) (Nat.le_of_ble_eq_true rfl)
  rw [lg_entry_eq]
  generalize (lg_sl ([.ref (a0 0), .int p1]) ++ List.replicate (7 - (lg_sl ([.ref (a0 0), .int p1])).length) Slot.unset).toArray = ls at hl ⊢
  have hl : lv_has ls 7 [(0, .ref (a0 0)), (1, .int p1)] := hl
  obtain ⟨H, hHe⟩ : ∃ H, H = s.heap := ⟨_, rfl⟩
  have hS : va_S A s.heap H [] := by rw [hHe]; exact hS
  have hP : va_P (dC, dI) vwCl (wd_X7_doubleArea cI a0 v0_3 v0_4 v0_5 v0_0 v0_1 v0_2) H := by rw [hHe]; exact hP
  rw [← hHe]
  unfold F_X7_doubleArea at hF
  have j84 : ∀ (x2 : Int64), F_X7_doubleArea_j84 x2 = some u → ∀ (H : Heap) (locs : List Loc) (ls : Array Slot), va_P (dC, dI) vwCl (wd_X7_doubleArea cI a0 v0_3 v0_4 v0_5 v0_0 v0_1 v0_2) H → va_D A (wd_X7_doubleArea cI a0 v0_3 v0_4 v0_5 v0_0 v0_1 v0_2) → va_S A s.heap H locs → lv_has ls 7 [(2, .long x2)] → W p l e (headSpec wz_X7_doubleArea rm_X7_doubleArea).room s m [.ref (a0 0), .int p1].toArray below meth c H locs 0 0 (MQ below (Q_X7_doubleArea dC dI cI a0 v0_3 v0_4 v0_5 v0_0 v0_1 v0_2 u A) [.ref (a0 0), .int p1].toArray s 0 0 A) (F0 m 84 ls []) := by
    intro x2 hF H locs ls hP hD hS hl
    unfold F_X7_doubleArea_j84 at hF
    refine lv_lload_n hx hb dX7_doubleArea_84 rfl (lv_at hl 0 rfl) ?_
    refine va_mabs_long hx hb (hml.trans hl.1.symm) hown (hta _ mA587) (hta _ mA588) (hta _ mA280) (hta _ mA589) (Nat.le_of_ble_eq_true rfl) (Nat.le_of_ble_eq_true rfl) (Nat.zero_le _) (Nat.zero_le _) dX7_doubleArea_85 ?_
    obtain rfl := Option.some.inj hF
    exact W.lret (v := (if 0 < x2 then x2 else -x2)) hx hb hr (fun t ht hW => ⟨⟨(if 0 < x2 then x2 else -x2), (), rfl, rfl, by rw [ht]; exact hP, va_K.moved hW.alike hK, hD⟩, hS.F ht⟩) hS.2.2 dX7_doubleArea_88
  have j12 : ∀ (x1 : Int32) (x2 : Int64) (x4 : Int32) (x5 : Int32), F_X7_doubleArea_j12 n v0_1 v0_2 x1 x2 x4 x5 = some u → ∀ (H : Heap) (locs : List Loc) (ls : Array Slot), va_P (dC, dI) vwCl (wd_X7_doubleArea cI a0 v0_3 v0_4 v0_5 v0_0 v0_1 v0_2) H → va_D A (wd_X7_doubleArea cI a0 v0_3 v0_4 v0_5 v0_0 v0_1 v0_2) → va_S A s.heap H locs → lv_has ls 7 [(0, .ref (a0 0)), (1, .int x1), (2, .long x2), (4, .int x4), (5, .int x5)] → W p l e (headSpec wz_X7_doubleArea rm_X7_doubleArea).room s m [.ref (a0 0), .int p1].toArray below meth c H locs 0 0 (MQ below (Q_X7_doubleArea dC dI cI a0 v0_3 v0_4 v0_5 v0_0 v0_1 v0_2 u A) [.ref (a0 0), .int p1].toArray s 0 0 A) (F0 m 12 ls []) := by
    intro x1 x2 x4 x5 hF H locs ls hP hD hS hl
    unfold F_X7_doubleArea_j12 at hF
    obtain ⟨x_12, hL_12, hE_12⟩ := obd_some hF
    have kl_12 : ∀ (k : Nat) (s12 : Int64 × Int32), lpq (F_X7_doubleArea_b12 v0_1 v0_2 x1 x4) k s12 = some x_12 → ∀ (H : Heap) (locs : List Loc) (ls : Array Slot), va_P (dC, dI) vwCl (wd_X7_doubleArea cI a0 v0_3 v0_4 v0_5 v0_0 v0_1 v0_2) H → va_D A (wd_X7_doubleArea cI a0 v0_3 v0_4 v0_5 v0_0 v0_1 v0_2) → va_S A s.heap H locs → lv_has ls 7 [(0, .ref (a0 0)), (1, .int x1), (2, .long s12.1), (4, .int x4), (5, .int s12.2)] → W p l e (headSpec wz_X7_doubleArea rm_X7_doubleArea).room s m [.ref (a0 0), .int p1].toArray below meth c H locs 0 0 (MQ below (Q_X7_doubleArea dC dI cI a0 v0_3 v0_4 v0_5 v0_0 v0_1 v0_2 u A) [.ref (a0 0), .int p1].toArray s 0 0 A) (F0 m 12 ls []) := by
      intro k
      induction k with
      | zero => intro s12 h; exact absurd h lpq_zero
      | succ k ih_12 =>
        intro s12 h H locs ls hP hD hS hl
        obtain ⟨o_12, hF, hO_12⟩ := lpq_succ h
        unfold F_X7_doubleArea_b12 at hF
        have j36 : ∀ (x2 : Int64) (x5 : Int32) (t0 : Int32), F_X7_doubleArea_j36 v0_1 v0_2 x1 x2 x5 t0 = some o_12 → ∀ (H : Heap) (locs : List Loc) (ls : Array Slot), va_P (dC, dI) vwCl (wd_X7_doubleArea cI a0 v0_3 v0_4 v0_5 v0_0 v0_1 v0_2) H → va_D A (wd_X7_doubleArea cI a0 v0_3 v0_4 v0_5 v0_0 v0_1 v0_2) → va_S A s.heap H locs → lv_has ls 7 [(0, .ref (a0 0)), (1, .int x1), (2, .long x2), (4, .int x4), (5, .int x5)] → W p l e (headSpec wz_X7_doubleArea rm_X7_doubleArea).room s m [.ref (a0 0), .int p1].toArray below meth c H locs 0 0 (MQ below (Q_X7_doubleArea dC dI cI a0 v0_3 v0_4 v0_5 v0_0 v0_1 v0_2 u A) [.ref (a0 0), .int p1].toArray s 0 0 A) (F0 m 36 ls [.int t0]) := by
          intro x2 x5 t0 hF H locs ls hP hD hS hl
          unfold F_X7_doubleArea_j36 at hF
          refine lv_istore (lv' := [(6, .int t0), (0, .ref (a0 0)), (1, .int x1), (2, .long x2), (4, .int x4), (5, .int x5)]) hx hb dX7_doubleArea_36 hl (by decide) rfl (fun ls hl => ?_)
          refine lv_lload_n hx hb dX7_doubleArea_38 rfl (lv_at hl 3 rfl) ?_
          refine lv_aload_n hx hb dX7_doubleArea_39 rfl (lv_at hl 1 rfl) ?_
          refine lv_iload_n hx hb dX7_doubleArea_40 rfl (lv_at hl 2 rfl) ?_
          refine lv_iload hx hb dX7_doubleArea_41 (lv_at hl 5 rfl) ?_
          obtain ⟨u_1, hu_1, hF⟩ := obd_some hF
          have hPc := hP.sub (ws' := (wd_X7_cornerX cI a0 v0_3 v0_4 v0_5 v0_1)) [0, 2] rfl
          have hDc := hD.sub (ws' := (wd_X7_cornerX cI a0 v0_3 v0_4 v0_5 v0_1)) [0, 2] rfl rfl
          refine q_calli (wc := (wd_X7_cornerX cI a0 v0_3 v0_4 v0_5 v0_1)) (w1 := (wd_X7_cornerX cI a0 v0_3 v0_4 v0_5 v0_1)) (ws' := (wd_X7_doubleArea cI a0 v0_3 v0_4 v0_5 v0_0 v0_1 v0_2)) hP hD hS hA [0, 2] [1, 3] [2, 0, 3, 1] rfl rfl rfl (by decide) rfl rfl (va_runV (As := [.int x1, .int x5]) (rest := [.long x2]) ⟨hx, hb, hml, hown, hta⟩ (c_X7_cornerX l dC dI cI H.size a0 v0_3 v0_4 v0_5 v0_1 x1 x5 u_1 hu_1) (cwV 2 hta (ga_V mA591 mA592 mA593 mA60 mA594) rfl rfl rfl (by decide +kernel) ⟨Nat.le_of_ble_eq_true rfl, Nat.le_of_ble_eq_true rfl⟩) ⟨q_fb, va_recv hK hP (ci := 6) (q0 := 0) rfl rfl, q_ps hPc hK hDc⟩ rfl rfl hl.1 rfl (lv_room (Nat.le_of_ble_eq_true rfl)) dX7_doubleArea_43 ⟨Nat.zero_le _, Nat.zero_le _⟩) (fun H locs hP hD hS => ?_)
          refine lv_i2l hx hb dX7_doubleArea_46 rfl ?_
          refine lv_aload_n hx hb dX7_doubleArea_47 rfl (lv_at hl 1 rfl) ?_
          refine lv_iload_n hx hb dX7_doubleArea_48 rfl (lv_at hl 2 rfl) ?_
          refine lv_iload hx hb dX7_doubleArea_49 (lv_at hl 0 rfl) ?_
          obtain ⟨u_2, hu_2, hF⟩ := obd_some hF
          have hPc := hP.sub (ws' := (wd_X7_cornerY cI a0 v0_3 v0_4 v0_5 v0_2)) [0, 3] rfl
          have hDc := hD.sub (ws' := (wd_X7_cornerY cI a0 v0_3 v0_4 v0_5 v0_2)) [0, 3] rfl rfl
          refine q_calli (wc := (wd_X7_cornerY cI a0 v0_3 v0_4 v0_5 v0_2)) (w1 := (wd_X7_cornerY cI a0 v0_3 v0_4 v0_5 v0_2)) (ws' := (wd_X7_doubleArea cI a0 v0_3 v0_4 v0_5 v0_0 v0_1 v0_2)) hP hD hS hA [0, 3] [1, 2] [2, 0, 1, 3] rfl rfl rfl (by decide) rfl rfl (va_runV (As := [.int x1, .int t0]) (rest := [.long u_1.toInt64, .long x2]) ⟨hx, hb, hml, hown, hta⟩ (c_X7_cornerY l dC dI cI H.size a0 v0_3 v0_4 v0_5 v0_2 x1 t0 u_2 hu_2) (cwV 2 hta (ga_V mA595 mA596 mA597 mA60 mA598) rfl rfl rfl (by decide +kernel) ⟨Nat.le_of_ble_eq_true rfl, Nat.le_of_ble_eq_true rfl⟩) ⟨q_fb, va_recv hK hP (ci := 6) (q0 := 0) rfl rfl, q_ps hPc hK hDc⟩ rfl rfl hl.1 rfl (lv_room (Nat.le_of_ble_eq_true rfl)) dX7_doubleArea_51 ⟨Nat.zero_le _, Nat.zero_le _⟩) (fun H locs hP hD hS => ?_)
          refine lv_i2l hx hb dX7_doubleArea_54 rfl ?_
          refine lv_lmul hx hb dX7_doubleArea_55 ?_
          refine lv_ladd hx hb dX7_doubleArea_56 ?_
          obtain ⟨y_3, ey_3, hF⟩ := lt_some hF
          refine lv_eql ey_3 ?_
          refine lv_lstore_n (lv' := [(2, .long y_3), (6, .int t0), (0, .ref (a0 0)), (1, .int x1), (4, .int x4), (5, .int x5)]) hx hb dX7_doubleArea_57 rfl hl (by decide) rfl (fun ls hl => ?_)
          refine lv_lload_n hx hb dX7_doubleArea_58 rfl (lv_at hl 0 rfl) ?_
          refine lv_aload_n hx hb dX7_doubleArea_59 rfl (lv_at hl 2 rfl) ?_
          refine lv_iload_n hx hb dX7_doubleArea_60 rfl (lv_at hl 3 rfl) ?_
          refine lv_iload hx hb dX7_doubleArea_61 (lv_at hl 1 rfl) ?_
          obtain ⟨u_4, hu_4, hF⟩ := obd_some hF
          have hPc := hP.sub (ws' := (wd_X7_cornerX cI a0 v0_3 v0_4 v0_5 v0_1)) [0, 2] rfl
          have hDc := hD.sub (ws' := (wd_X7_cornerX cI a0 v0_3 v0_4 v0_5 v0_1)) [0, 2] rfl rfl
          refine q_calli (wc := (wd_X7_cornerX cI a0 v0_3 v0_4 v0_5 v0_1)) (w1 := (wd_X7_cornerX cI a0 v0_3 v0_4 v0_5 v0_1)) (ws' := (wd_X7_doubleArea cI a0 v0_3 v0_4 v0_5 v0_0 v0_1 v0_2)) hP hD hS hA [0, 2] [1, 3] [2, 0, 3, 1] rfl rfl rfl (by decide) rfl rfl (va_runV (As := [.int x1, .int t0]) (rest := [.long y_3]) ⟨hx, hb, hml, hown, hta⟩ (c_X7_cornerX l dC dI cI H.size a0 v0_3 v0_4 v0_5 v0_1 x1 t0 u_4 hu_4) (cwV 2 hta (ga_V mA591 mA592 mA593 mA60 mA594) rfl rfl rfl (by decide +kernel) ⟨Nat.le_of_ble_eq_true rfl, Nat.le_of_ble_eq_true rfl⟩) ⟨q_fb, va_recv hK hP (ci := 6) (q0 := 0) rfl rfl, q_ps hPc hK hDc⟩ rfl rfl hl.1 rfl (lv_room (Nat.le_of_ble_eq_true rfl)) dX7_doubleArea_63 ⟨Nat.zero_le _, Nat.zero_le _⟩) (fun H locs hP hD hS => ?_)
          refine lv_i2l hx hb dX7_doubleArea_66 rfl ?_
          refine lv_aload_n hx hb dX7_doubleArea_67 rfl (lv_at hl 2 rfl) ?_
          refine lv_iload_n hx hb dX7_doubleArea_68 rfl (lv_at hl 3 rfl) ?_
          refine lv_iload hx hb dX7_doubleArea_69 (lv_at hl 5 rfl) ?_
          obtain ⟨u_5, hu_5, hF⟩ := obd_some hF
          have hPc := hP.sub (ws' := (wd_X7_cornerY cI a0 v0_3 v0_4 v0_5 v0_2)) [0, 3] rfl
          have hDc := hD.sub (ws' := (wd_X7_cornerY cI a0 v0_3 v0_4 v0_5 v0_2)) [0, 3] rfl rfl
          refine q_calli (wc := (wd_X7_cornerY cI a0 v0_3 v0_4 v0_5 v0_2)) (w1 := (wd_X7_cornerY cI a0 v0_3 v0_4 v0_5 v0_2)) (ws' := (wd_X7_doubleArea cI a0 v0_3 v0_4 v0_5 v0_0 v0_1 v0_2)) hP hD hS hA [0, 3] [1, 2] [2, 0, 1, 3] rfl rfl rfl (by decide) rfl rfl (va_runV (As := [.int x1, .int x5]) (rest := [.long u_4.toInt64, .long y_3]) ⟨hx, hb, hml, hown, hta⟩ (c_X7_cornerY l dC dI cI H.size a0 v0_3 v0_4 v0_5 v0_2 x1 x5 u_5 hu_5) (cwV 2 hta (ga_V mA595 mA596 mA597 mA60 mA598) rfl rfl rfl (by decide +kernel) ⟨Nat.le_of_ble_eq_true rfl, Nat.le_of_ble_eq_true rfl⟩) ⟨q_fb, va_recv hK hP (ci := 6) (q0 := 0) rfl rfl, q_ps hPc hK hDc⟩ rfl rfl hl.1 rfl (lv_room (Nat.le_of_ble_eq_true rfl)) dX7_doubleArea_71 ⟨Nat.zero_le _, Nat.zero_le _⟩) (fun H locs hP hD hS => ?_)
          refine lv_i2l hx hb dX7_doubleArea_74 rfl ?_
          refine lv_lmul hx hb dX7_doubleArea_75 ?_
          refine lv_lsub hx hb dX7_doubleArea_76 ?_
          obtain ⟨y_6, ey_6, hF⟩ := lt_some hF
          refine lv_eql ey_6 ?_
          refine lv_lstore_n (lv' := [(2, .long y_6), (6, .int t0), (0, .ref (a0 0)), (1, .int x1), (4, .int x4), (5, .int x5)]) hx hb dX7_doubleArea_77 rfl hl (by decide) rfl (fun ls hl => ?_)
          obtain ⟨y_7, ey_7, hF⟩ := lt_some hF
          refine lv_iinc (v := y_7) (lv' := [(5, .int y_7), (2, .long y_6), (6, .int t0), (0, .ref (a0 0)), (1, .int x1), (4, .int x4)]) hx hb dX7_doubleArea_78 hl (k := 5) rfl (by rw [ey_7]; rfl) (by decide) rfl (fun ls hl => ?_)
          refine lv_goto (tgt := 12) hx hb dX7_doubleArea_81 (by decide) ?_
          obtain rfl := Option.some.inj hF
          exact ih_12 _ hO_12 _ _ _ hP hD hS (lv_sub hl [3, 4, 1, 5, 0] rfl)
        refine lv_iload hx hb dX7_doubleArea_12 (lv_at hl 4 rfl) ?_
        refine lv_iload hx hb dX7_doubleArea_14 (lv_at hl 3 rfl) ?_
        refine lv_icmp_ge (tgt := 84) hx hb dX7_doubleArea_16 (by decide) (fun c_8 => ?_) (fun c_8 => ?_)
        · have hF := it_t hF c_8
          obtain rfl := Option.some.inj hF
          obtain rfl := lpq_x hO_12
          have hF := hE_12
          exact j84 s12.1 hF _ _ _ hP hD hS (lv_sub hl [2] rfl)
        · have hF := it_f hF c_8
          refine lv_iload hx hb dX7_doubleArea_19 (lv_at hl 4 rfl) ?_
          refine lv_iconst (v := 1) hx hb dX7_doubleArea_21 (by decide) ?_
          refine lv_iadd hx hb dX7_doubleArea_22 ?_
          refine lv_iload hx hb dX7_doubleArea_23 (lv_at hl 3 rfl) ?_
          refine lv_icmp_ge (tgt := 35) hx hb dX7_doubleArea_25 (by decide) (fun c_9 => ?_) (fun c_9 => ?_)
          · have hF := it_t hF c_9
            refine lv_iconst (v := 0) hx hb dX7_doubleArea_35 (by decide) ?_
            exact j36 s12.1 s12.2 0 hF _ _ _ hP hD hS (lv_sub hl [0, 1, 2, 3, 4] rfl)
          · have hF := it_f hF c_9
            refine lv_iload hx hb dX7_doubleArea_28 (lv_at hl 4 rfl) ?_
            refine lv_iconst (v := 1) hx hb dX7_doubleArea_30 (by decide) ?_
            refine lv_iadd hx hb dX7_doubleArea_31 ?_
            refine lv_goto (tgt := 36) hx hb dX7_doubleArea_32 (by decide) ?_
            exact j36 s12.1 s12.2 (s12.2 + 1) hF _ _ _ hP hD hS (lv_sub hl [0, 1, 2, 3, 4] rfl)
    exact kl_12 n _ hL_12 _ _ _ hP hD hS hl
  refine lv_lconst (v := 0) hx hb dX7_doubleArea_0 (by decide) ?_
  refine lv_lstore_n (lv' := [(2, .long 0), (0, .ref (a0 0)), (1, .int p1)]) hx hb dX7_doubleArea_1 rfl hl (by decide) rfl (fun ls hl => ?_)
  refine lv_aload_n hx hb dX7_doubleArea_2 rfl (lv_at hl 1 rfl) ?_
  refine lv_iload_n hx hb dX7_doubleArea_3 rfl (lv_at hl 2 rfl) ?_
  obtain ⟨u_10, hu_10, hF⟩ := obd_some hF
  have hPc := hP.sub (ws' := (wd_X7_cornerCount cI a0 v0_3 v0_4 v0_5 v0_0)) [0, 1] rfl
  have hDc := hD.sub (ws' := (wd_X7_cornerCount cI a0 v0_3 v0_4 v0_5 v0_0)) [0, 1] rfl rfl
  refine q_calli (wc := (wd_X7_cornerCount cI a0 v0_3 v0_4 v0_5 v0_0)) (w1 := (wd_X7_cornerCount cI a0 v0_3 v0_4 v0_5 v0_0)) (ws' := (wd_X7_doubleArea cI a0 v0_3 v0_4 v0_5 v0_0 v0_1 v0_2)) hP hD hS hA [0, 1] [2, 3] [2, 3, 0, 1] rfl rfl rfl (by decide) rfl rfl (va_runV (As := [.int p1]) (rest := []) ⟨hx, hb, hml, hown, hta⟩ (c_X7_cornerCount l dC dI cI H.size a0 v0_3 v0_4 v0_5 v0_0 p1 u_10 hu_10) (cwV 1 hta (ga_V mA590 mA580 mA581 mA60 mA582) rfl rfl rfl (by decide +kernel) ⟨Nat.le_of_ble_eq_true rfl, Nat.le_of_ble_eq_true rfl⟩) ⟨q_fb, va_recv hK hP (ci := 6) (q0 := 0) rfl rfl, q_ps hPc hK hDc⟩ rfl rfl hl.1 rfl (lv_room (Nat.le_of_ble_eq_true rfl)) dX7_doubleArea_4 ⟨Nat.zero_le _, Nat.zero_le _⟩) (fun H locs hP hD hS => ?_)
  refine lv_istore (lv' := [(4, .int u_10), (2, .long 0), (0, .ref (a0 0)), (1, .int p1)]) hx hb dX7_doubleArea_7 hl (by decide) rfl (fun ls hl => ?_)
  refine lv_iconst (v := 0) hx hb dX7_doubleArea_9 (by decide) ?_
  refine lv_istore (lv' := [(5, .int 0), (4, .int u_10), (2, .long 0), (0, .ref (a0 0)), (1, .int p1)]) hx hb dX7_doubleArea_10 hl (by decide) rfl (fun ls hl => ?_)
  exact j12 p1 0 u_10 0 hF _ _ _ hP hD hS (lv_sub hl [3, 4, 2, 1, 0] rfl)

-- StrokeOutliner$Pieces.edgeOf(II)I
def F_X7_edgeOf_j106 (x3 : Int32) (x4 : Int32) (t0 : Int32) : Option (Int32) :=
  if x3 = 0 then some (x4 - t0) else some (x4 + t0)
def F_X7_edgeOf_j89 (v0_5 : Int32) (v0_0 : Nat → Int32) (x1 : Int32) (x3 : Int32) (x4 : Int32) : Option (Int32) :=
  obd (F_X7_kindOf v0_0 x1) (fun u_2 => if u_2 = 3 then F_X7_edgeOf_j106 x3 x4 v0_5 else F_X7_edgeOf_j106 x3 x4 0)
def F_X7_edgeOf_j83 (x4 : Int32) (x5 : Int32) : Option (Sum (Int32 × Int32) (Int32)) :=
  lt (x5 + 1) (fun y_4 => some (.inl (x4, y_4)))
def F_X7_edgeOf_j79 (x5 : Int32) (x6 : Int32) : Option (Sum (Int32 × Int32) (Int32)) :=
  F_X7_edgeOf_j83 x6 x5
def F_X7_edgeOf_j51 (x3 : Int32) (x4 : Int32) (x5 : Int32) (t0 : Int32) : Option (Sum (Int32 × Int32) (Int32)) :=
  if x5 = 0 then F_X7_edgeOf_j79 x5 t0 else if x3 = 0 then if x4 ≤ t0 then F_X7_edgeOf_j83 x4 x5 else F_X7_edgeOf_j79 x5 t0 else if t0 ≤ x4 then F_X7_edgeOf_j83 x4 x5 else F_X7_edgeOf_j79 x5 t0
def F_X7_edgeOf_b19 (v0_0 : Nat → Int32) (v0_1 : Nat → Int32) (v0_2 : Nat → Int32) (x1 : Int32) (x2 : Int32) (x3 : Int32) (s19 : Int32 × Int32) : Option (Sum (Int32 × Int32) (Int32)) :=
  obd (F_X7_cornerCount v0_0 x1) (fun u_9 => if u_9 ≤ s19.2 then some (.inr s19.1) else if x2 < 2 then obd (F_X7_cornerX v0_1 x1 s19.2) (fun u_12 => F_X7_edgeOf_j51 x3 s19.1 s19.2 u_12) else obd (F_X7_cornerY v0_2 x1 s19.2) (fun u_13 => F_X7_edgeOf_j51 x3 s19.1 s19.2 u_13))
def F_X7_edgeOf_j19 (n : Nat) (v0_5 : Int32) (v0_0 : Nat → Int32) (v0_1 : Nat → Int32) (v0_2 : Nat → Int32) (x1 : Int32) (x2 : Int32) (x3 : Int32) (x4 : Int32) (x5 : Int32) : Option (Int32) :=
  obd (lpq (F_X7_edgeOf_b19 v0_0 v0_1 v0_2 x1 x2 x3) n (x4, x5)) (fun x_19 => F_X7_edgeOf_j89 v0_5 v0_0 x1 x3 x_19)
def F_X7_edgeOf_j12 (n : Nat) (v0_5 : Int32) (v0_0 : Nat → Int32) (v0_1 : Nat → Int32) (v0_2 : Nat → Int32) (x1 : Int32) (x2 : Int32) (t0 : Int32) : Option (Int32) :=
  F_X7_edgeOf_j19 n v0_5 v0_0 v0_1 v0_2 x1 x2 t0 0 0
def F_X7_edgeOf (n : Nat) (v0_5 : Int32) (v0_0 : Nat → Int32) (v0_1 : Nat → Int32) (v0_2 : Nat → Int32) (p1 : Int32) (p2 : Int32) : Option (Int32) :=
  if (p2 &&& 1) = 1 then F_X7_edgeOf_j12 n v0_5 v0_0 v0_1 v0_2 p1 p2 1 else F_X7_edgeOf_j12 n v0_5 v0_0 v0_1 v0_2 p1 p2 0
abbrev wd_X7_edgeOf (cI : ClassId) (a0 : Nat → Nat) (v0_3 : Int32) (v0_4 : Int32) (v0_5 : Int32) (v0_0 : Nat → Int32) (v0_1 : Nat → Int32) (v0_2 : Nat → Int32) : va_W := [(a0 0, .inr (6, [.ref (a0 1), .ref (a0 2), .ref (a0 3), .int v0_3, .int v0_4, .int v0_5])), (a0 1, .inl (cI, 2800, .inl v0_0)), (a0 2, .inl (cI, 11200, .inl v0_1)), (a0 3, .inl (cI, 11200, .inl v0_2))]
abbrev wz_X7_edgeOf : List Cond := .code yX7_edgeOf cX7_edgeOf 7 (some .int) :: wALL
abbrev rm_X7_edgeOf : Room := { frames := 2, cells := 0, slots := 0, locals := 43 }
abbrev Q_X7_edgeOf (dC : Nat → ClassId) (dI : Nat → Nat → Nat) (cI : ClassId) (a0 : Nat → Nat) (v0_3 : Int32) (v0_4 : Int32) (v0_5 : Int32) (v0_0 : Nat → Int32) (v0_1 : Nat → Int32) (v0_2 : Nat → Int32) (u : (Int32)) (A : Nat → Prop) : Array Value → State → Outcome → State → Prop := va_Qi (fun (r : Int32) (_ : Unit) => r = u) (fun _ => q_at dC dI cI A (wd_X7_edgeOf cI a0 v0_3 v0_4 v0_5 v0_0 v0_1 v0_2)) A
set_option maxHeartbeats 4000000 in
set_option maxRecDepth 100000 in
theorem c_X7_edgeOf (l : Launch) (dC : Nat → ClassId) (dI : Nat → Nat → Nat) (cI : ClassId) (sz : Nat) (a0 : Nat → Nat) (v0_3 : Int32) (v0_4 : Int32) (v0_5 : Int32) (v0_0 : Nat → Int32) (v0_1 : Nat → Int32) (v0_2 : Nat → Int32) (p1 : Int32) (p2 : Int32) (n : Nat) (u : (Int32)) (hF : F_X7_edgeOf n v0_5 v0_0 v0_1 v0_2 p1 p2 = some u) : Met l yX7_edgeOf wz_X7_edgeOf rm_X7_edgeOf (va_Pc [.ref (a0 0), .int p1, .int p2] (q_pre dC dI cI (wd_X7_edgeOf cI a0 v0_3 v0_4 v0_5 v0_0 v0_1 v0_2) sz)) (Q_X7_edgeOf dC dI cI a0 v0_3 v0_4 v0_5 v0_0 v0_1 v0_2 u (va_A (wd_X7_edgeOf cI a0 v0_3 v0_4 v0_5 v0_0 v0_1 v0_2) sz)) 0 0 (va_A (wd_X7_edgeOf cI a0 v0_3 v0_4 v0_5 v0_0 v0_1 v0_2) sz) := by
  refine Met.ofW (cc := cX7_edgeOf) (maxL := 7) (ret := (some .int)) (by decide) rfl ?_
  intro p e s m args below meth c s₁ B hml hv
  obtain ⟨rfl, hsz, hP, hK, hD0⟩ := hv
  have hx := B.exec
  have hb := B.bytes
  have hr := B.returns
  have hts := atoms_spec (ws := wz_X7_edgeOf) B.pre
  have hta := wz_tl hts
  have hown : s.vm.findClass RX7 = some m.cls := findClass_of_methodNamed B.named
  have hlocks := B.notSynchronized
  subst hsz
  have hD := hD0.self (sz := s.heap.size)
  generalize hAe : va_A (wd_X7_edgeOf cI a0 v0_3 v0_4 v0_5 v0_0 v0_1 v0_2) s.heap.size = A at hD ⊢
  have hA : ∀ q : Nat, s.heap.size ≤ q → A q := fun q h => by rw [← hAe]; exact Or.inr h
  have hS : va_S A s.heap s.heap [] := va_S.rf
  have hP : va_P (dC, dI) vwCl (wd_X7_edgeOf cI a0 v0_3 v0_4 v0_5 v0_0 v0_1 v0_2) s.heap := hP
  have hl := lv_entry ([.ref (a0 0), .int p1, .int p2]) (n := 7) (Nat.le_of_ble_eq_true rfl)
  rw [lg_entry_eq]
  generalize (lg_sl ([.ref (a0 0), .int p1, .int p2]) ++ List.replicate (7 - (lg_sl ([.ref (a0 0), .int p1, .int p2])).length) Slot.unset).toArray = ls at hl ⊢
  have hl : lv_has ls 7 [(0, .ref (a0 0)), (1, .int p1), (2, .int p2)] := hl
  obtain ⟨H, hHe⟩ : ∃ H, H = s.heap := ⟨_, rfl⟩
  have hS : va_S A s.heap H [] := by rw [hHe]; exact hS
  have hP : va_P (dC, dI) vwCl (wd_X7_edgeOf cI a0 v0_3 v0_4 v0_5 v0_0 v0_1 v0_2) H := by rw [hHe]; exact hP
  rw [← hHe]
  unfold F_X7_edgeOf at hF
  have j106 : ∀ (x3 : Int32) (x4 : Int32) (t0 : Int32), F_X7_edgeOf_j106 x3 x4 t0 = some u → ∀ (H : Heap) (locs : List Loc) (ls : Array Slot), va_P (dC, dI) vwCl (wd_X7_edgeOf cI a0 v0_3 v0_4 v0_5 v0_0 v0_1 v0_2) H → va_D A (wd_X7_edgeOf cI a0 v0_3 v0_4 v0_5 v0_0 v0_1 v0_2) → va_S A s.heap H locs → lv_has ls 7 [(3, .int x3), (4, .int x4)] → W p l e (headSpec wz_X7_edgeOf rm_X7_edgeOf).room s m [.ref (a0 0), .int p1, .int p2].toArray below meth c H locs 0 0 (MQ below (Q_X7_edgeOf dC dI cI a0 v0_3 v0_4 v0_5 v0_0 v0_1 v0_2 u A) [.ref (a0 0), .int p1, .int p2].toArray s 0 0 A) (F0 m 106 ls [.int t0]) := by
    intro x3 x4 t0 hF H locs ls hP hD hS hl
    unfold F_X7_edgeOf_j106 at hF
    refine lv_istore (lv' := [(5, .int t0), (3, .int x3), (4, .int x4)]) hx hb dX7_edgeOf_106 hl (by decide) rfl (fun ls hl => ?_)
    refine lv_iload_n hx hb dX7_edgeOf_108 rfl (lv_at hl 1 rfl) ?_
    refine lv_if_eq (tgt := 120) hx hb dX7_edgeOf_109 (by decide) (fun c_1 => ?_) (fun c_1 => ?_)
    · have hF := it_t hF c_1
      refine lv_iload hx hb dX7_edgeOf_120 (lv_at hl 2 rfl) ?_
      refine lv_iload hx hb dX7_edgeOf_122 (lv_at hl 0 rfl) ?_
      refine lv_isub hx hb dX7_edgeOf_124 ?_
      obtain rfl := Option.some.inj hF
      exact W.iret (v := (x4 - t0)) hx hb hr (fun t ht hW => ⟨⟨(x4 - t0), (), rfl, rfl, by rw [ht]; exact hP, va_K.moved hW.alike hK, hD⟩, hS.F ht⟩) hS.2.2 dX7_edgeOf_125
    · have hF := it_f hF c_1
      refine lv_iload hx hb dX7_edgeOf_112 (lv_at hl 2 rfl) ?_
      refine lv_iload hx hb dX7_edgeOf_114 (lv_at hl 0 rfl) ?_
      refine lv_iadd hx hb dX7_edgeOf_116 ?_
      refine lv_goto (tgt := 125) hx hb dX7_edgeOf_117 (by decide) ?_
      obtain rfl := Option.some.inj hF
      exact W.iret (v := (x4 + t0)) hx hb hr (fun t ht hW => ⟨⟨(x4 + t0), (), rfl, rfl, by rw [ht]; exact hP, va_K.moved hW.alike hK, hD⟩, hS.F ht⟩) hS.2.2 dX7_edgeOf_125
  have j89 : ∀ (x1 : Int32) (x3 : Int32) (x4 : Int32), F_X7_edgeOf_j89 v0_5 v0_0 x1 x3 x4 = some u → ∀ (H : Heap) (locs : List Loc) (ls : Array Slot), va_P (dC, dI) vwCl (wd_X7_edgeOf cI a0 v0_3 v0_4 v0_5 v0_0 v0_1 v0_2) H → va_D A (wd_X7_edgeOf cI a0 v0_3 v0_4 v0_5 v0_0 v0_1 v0_2) → va_S A s.heap H locs → lv_has ls 7 [(0, .ref (a0 0)), (1, .int x1), (3, .int x3), (4, .int x4)] → W p l e (headSpec wz_X7_edgeOf rm_X7_edgeOf).room s m [.ref (a0 0), .int p1, .int p2].toArray below meth c H locs 0 0 (MQ below (Q_X7_edgeOf dC dI cI a0 v0_3 v0_4 v0_5 v0_0 v0_1 v0_2 u A) [.ref (a0 0), .int p1, .int p2].toArray s 0 0 A) (F0 m 89 ls []) := by
    intro x1 x3 x4 hF H locs ls hP hD hS hl
    unfold F_X7_edgeOf_j89 at hF
    refine lv_aload_n hx hb dX7_edgeOf_89 rfl (lv_at hl 0 rfl) ?_
    refine lv_iload_n hx hb dX7_edgeOf_90 rfl (lv_at hl 1 rfl) ?_
    obtain ⟨u_2, hu_2, hF⟩ := obd_some hF
    have hPc := hP.sub (ws' := (wd_X7_kindOf cI a0 v0_3 v0_4 v0_5 v0_0)) [0, 1] rfl
    have hDc := hD.sub (ws' := (wd_X7_kindOf cI a0 v0_3 v0_4 v0_5 v0_0)) [0, 1] rfl rfl
    refine q_calli (wc := (wd_X7_kindOf cI a0 v0_3 v0_4 v0_5 v0_0)) (w1 := (wd_X7_kindOf cI a0 v0_3 v0_4 v0_5 v0_0)) (ws' := (wd_X7_edgeOf cI a0 v0_3 v0_4 v0_5 v0_0 v0_1 v0_2)) hP hD hS hA [0, 1] [2, 3] [2, 3, 0, 1] rfl rfl rfl (by decide) rfl rfl (va_runV (As := [.int x1]) (rest := []) ⟨hx, hb, hml, hown, hta⟩ (c_X7_kindOf l dC dI cI H.size a0 v0_3 v0_4 v0_5 v0_0 x1 u_2 hu_2) (cwV 1 hta (ga_V mA572 mA573 mA574 mA60 mA575) rfl rfl rfl (by decide +kernel) ⟨Nat.le_of_ble_eq_true rfl, Nat.le_of_ble_eq_true rfl⟩) ⟨q_fb, va_recv hK hP (ci := 6) (q0 := 0) rfl rfl, q_ps hPc hK hDc⟩ rfl rfl hl.1 rfl (lv_room (Nat.le_of_ble_eq_true rfl)) dX7_edgeOf_91 ⟨Nat.zero_le _, Nat.zero_le _⟩) (fun H locs hP hD hS => ?_)
    refine lv_iconst (v := 3) hx hb dX7_edgeOf_94 (by decide) ?_
    refine lv_icmp_ne (tgt := 105) hx hb dX7_edgeOf_95 (by decide) (fun c_3 => ?_) (fun c_3 => ?_)
    · have hF := it_f hF c_3
      refine lv_iconst (v := 0) hx hb dX7_edgeOf_105 (by decide) ?_
      exact j106 x3 x4 0 hF _ _ _ hP hD hS (lv_sub hl [2, 3] rfl)
    · have hF := it_t hF c_3
      refine lv_aload_n hx hb dX7_edgeOf_98 rfl (lv_at hl 0 rfl) ?_
      refine va_get (D := (dC, dI)) (ci := 6) (v := .int v0_5) (C := RX7) (T := TX7) (N := 6) hx hb hta uw_X7 hown hK hP 0 rfl rfl 5 (by decide) (hta _ mA476) (fun _ h9 => h9) rfl dX7_edgeOf_99 ?_
      refine lv_goto (tgt := 106) hx hb dX7_edgeOf_102 (by decide) ?_
      exact j106 x3 x4 v0_5 hF _ _ _ hP hD hS (lv_sub hl [2, 3] rfl)
  have j19 : ∀ (x1 : Int32) (x2 : Int32) (x3 : Int32) (x4 : Int32) (x5 : Int32), F_X7_edgeOf_j19 n v0_5 v0_0 v0_1 v0_2 x1 x2 x3 x4 x5 = some u → ∀ (H : Heap) (locs : List Loc) (ls : Array Slot), va_P (dC, dI) vwCl (wd_X7_edgeOf cI a0 v0_3 v0_4 v0_5 v0_0 v0_1 v0_2) H → va_D A (wd_X7_edgeOf cI a0 v0_3 v0_4 v0_5 v0_0 v0_1 v0_2) → va_S A s.heap H locs → lv_has ls 7 [(0, .ref (a0 0)), (1, .int x1), (2, .int x2), (3, .int x3), (4, .int x4), (5, .int x5)] → W p l e (headSpec wz_X7_edgeOf rm_X7_edgeOf).room s m [.ref (a0 0), .int p1, .int p2].toArray below meth c H locs 0 0 (MQ below (Q_X7_edgeOf dC dI cI a0 v0_3 v0_4 v0_5 v0_0 v0_1 v0_2 u A) [.ref (a0 0), .int p1, .int p2].toArray s 0 0 A) (F0 m 19 ls []) := by
    intro x1 x2 x3 x4 x5 hF H locs ls hP hD hS hl
    unfold F_X7_edgeOf_j19 at hF
    obtain ⟨x_19, hL_19, hE_19⟩ := obd_some hF
    have kl_19 : ∀ (k : Nat) (s19 : Int32 × Int32), lpq (F_X7_edgeOf_b19 v0_0 v0_1 v0_2 x1 x2 x3) k s19 = some x_19 → ∀ (H : Heap) (locs : List Loc) (ls : Array Slot), va_P (dC, dI) vwCl (wd_X7_edgeOf cI a0 v0_3 v0_4 v0_5 v0_0 v0_1 v0_2) H → va_D A (wd_X7_edgeOf cI a0 v0_3 v0_4 v0_5 v0_0 v0_1 v0_2) → va_S A s.heap H locs → lv_has ls 7 [(0, .ref (a0 0)), (1, .int x1), (2, .int x2), (3, .int x3), (4, .int s19.1), (5, .int s19.2)] → W p l e (headSpec wz_X7_edgeOf rm_X7_edgeOf).room s m [.ref (a0 0), .int p1, .int p2].toArray below meth c H locs 0 0 (MQ below (Q_X7_edgeOf dC dI cI a0 v0_3 v0_4 v0_5 v0_0 v0_1 v0_2 u A) [.ref (a0 0), .int p1, .int p2].toArray s 0 0 A) (F0 m 19 ls []) := by
      intro k
      induction k with
      | zero => intro s19 h; exact absurd h lpq_zero
      | succ k ih_19 =>
        intro s19 h H locs ls hP hD hS hl
        obtain ⟨o_19, hF, hO_19⟩ := lpq_succ h
        unfold F_X7_edgeOf_b19 at hF
        have j83 : ∀ (x4 : Int32) (x5 : Int32), F_X7_edgeOf_j83 x4 x5 = some o_19 → ∀ (H : Heap) (locs : List Loc) (ls : Array Slot), va_P (dC, dI) vwCl (wd_X7_edgeOf cI a0 v0_3 v0_4 v0_5 v0_0 v0_1 v0_2) H → va_D A (wd_X7_edgeOf cI a0 v0_3 v0_4 v0_5 v0_0 v0_1 v0_2) → va_S A s.heap H locs → lv_has ls 7 [(0, .ref (a0 0)), (1, .int x1), (2, .int x2), (3, .int x3), (4, .int x4), (5, .int x5)] → W p l e (headSpec wz_X7_edgeOf rm_X7_edgeOf).room s m [.ref (a0 0), .int p1, .int p2].toArray below meth c H locs 0 0 (MQ below (Q_X7_edgeOf dC dI cI a0 v0_3 v0_4 v0_5 v0_0 v0_1 v0_2 u A) [.ref (a0 0), .int p1, .int p2].toArray s 0 0 A) (F0 m 83 ls []) := by
          intro x4 x5 hF H locs ls hP hD hS hl
          unfold F_X7_edgeOf_j83 at hF
          obtain ⟨y_4, ey_4, hF⟩ := lt_some hF
          refine lv_iinc (v := y_4) (lv' := [(5, .int y_4), (0, .ref (a0 0)), (1, .int x1), (2, .int x2), (3, .int x3), (4, .int x4)]) hx hb dX7_edgeOf_83 hl (k := 5) rfl (by rw [ey_4]; rfl) (by decide) rfl (fun ls hl => ?_)
          refine lv_goto (tgt := 19) hx hb dX7_edgeOf_86 (by decide) ?_
          obtain rfl := Option.some.inj hF
          exact ih_19 _ hO_19 _ _ _ hP hD hS (lv_sub hl [1, 2, 3, 4, 5, 0] rfl)
        have j79 : ∀ (x5 : Int32) (x6 : Int32), F_X7_edgeOf_j79 x5 x6 = some o_19 → ∀ (H : Heap) (locs : List Loc) (ls : Array Slot), va_P (dC, dI) vwCl (wd_X7_edgeOf cI a0 v0_3 v0_4 v0_5 v0_0 v0_1 v0_2) H → va_D A (wd_X7_edgeOf cI a0 v0_3 v0_4 v0_5 v0_0 v0_1 v0_2) → va_S A s.heap H locs → lv_has ls 7 [(0, .ref (a0 0)), (1, .int x1), (2, .int x2), (3, .int x3), (5, .int x5), (6, .int x6)] → W p l e (headSpec wz_X7_edgeOf rm_X7_edgeOf).room s m [.ref (a0 0), .int p1, .int p2].toArray below meth c H locs 0 0 (MQ below (Q_X7_edgeOf dC dI cI a0 v0_3 v0_4 v0_5 v0_0 v0_1 v0_2 u A) [.ref (a0 0), .int p1, .int p2].toArray s 0 0 A) (F0 m 79 ls []) := by
          intro x5 x6 hF H locs ls hP hD hS hl
          unfold F_X7_edgeOf_j79 at hF
          refine lv_iload hx hb dX7_edgeOf_79 (lv_at hl 5 rfl) ?_
          refine lv_istore (lv' := [(4, .int x6), (0, .ref (a0 0)), (1, .int x1), (2, .int x2), (3, .int x3), (5, .int x5), (6, .int x6)]) hx hb dX7_edgeOf_81 hl (by decide) rfl (fun ls hl => ?_)
          exact j83 x6 x5 hF _ _ _ hP hD hS (lv_sub hl [1, 2, 3, 4, 0, 5] rfl)
        have j51 : ∀ (x4 : Int32) (x5 : Int32) (t0 : Int32), F_X7_edgeOf_j51 x3 x4 x5 t0 = some o_19 → ∀ (H : Heap) (locs : List Loc) (ls : Array Slot), va_P (dC, dI) vwCl (wd_X7_edgeOf cI a0 v0_3 v0_4 v0_5 v0_0 v0_1 v0_2) H → va_D A (wd_X7_edgeOf cI a0 v0_3 v0_4 v0_5 v0_0 v0_1 v0_2) → va_S A s.heap H locs → lv_has ls 7 [(0, .ref (a0 0)), (1, .int x1), (2, .int x2), (3, .int x3), (4, .int x4), (5, .int x5)] → W p l e (headSpec wz_X7_edgeOf rm_X7_edgeOf).room s m [.ref (a0 0), .int p1, .int p2].toArray below meth c H locs 0 0 (MQ below (Q_X7_edgeOf dC dI cI a0 v0_3 v0_4 v0_5 v0_0 v0_1 v0_2 u A) [.ref (a0 0), .int p1, .int p2].toArray s 0 0 A) (F0 m 51 ls [.int t0]) := by
          intro x4 x5 t0 hF H locs ls hP hD hS hl
          unfold F_X7_edgeOf_j51 at hF
          refine lv_istore (lv' := [(6, .int t0), (0, .ref (a0 0)), (1, .int x1), (2, .int x2), (3, .int x3), (4, .int x4), (5, .int x5)]) hx hb dX7_edgeOf_51 hl (by decide) rfl (fun ls hl => ?_)
          refine lv_iload hx hb dX7_edgeOf_53 (lv_at hl 6 rfl) ?_
          refine lv_if_eq (tgt := 79) hx hb dX7_edgeOf_55 (by decide) (fun c_5 => ?_) (fun c_5 => ?_)
          · have hF := it_t hF c_5
            exact j79 x5 t0 hF _ _ _ hP hD hS (lv_sub hl [1, 2, 3, 4, 6, 0] rfl)
          · have hF := it_f hF c_5
            refine lv_iload_n hx hb dX7_edgeOf_58 rfl (lv_at hl 4 rfl) ?_
            refine lv_if_eq (tgt := 72) hx hb dX7_edgeOf_59 (by decide) (fun c_6 => ?_) (fun c_6 => ?_)
            · have hF := it_t hF c_6
              refine lv_iload hx hb dX7_edgeOf_72 (lv_at hl 0 rfl) ?_
              refine lv_iload hx hb dX7_edgeOf_74 (lv_at hl 5 rfl) ?_
              refine lv_icmp_ge (tgt := 83) hx hb dX7_edgeOf_76 (by decide) (fun c_7 => ?_) (fun c_7 => ?_)
              · have hF := it_t hF c_7
                exact j83 x4 x5 hF _ _ _ hP hD hS (lv_sub hl [1, 2, 3, 4, 5, 6] rfl)
              · have hF := it_f hF c_7
                exact j79 x5 t0 hF _ _ _ hP hD hS (lv_sub hl [1, 2, 3, 4, 6, 0] rfl)
            · have hF := it_f hF c_6
              refine lv_iload hx hb dX7_edgeOf_62 (lv_at hl 0 rfl) ?_
              refine lv_iload hx hb dX7_edgeOf_64 (lv_at hl 5 rfl) ?_
              refine lv_icmp_le (tgt := 83) hx hb dX7_edgeOf_66 (by decide) (fun c_8 => ?_) (fun c_8 => ?_)
              · have hF := it_t hF c_8
                exact j83 x4 x5 hF _ _ _ hP hD hS (lv_sub hl [1, 2, 3, 4, 5, 6] rfl)
              · have hF := it_f hF c_8
                refine lv_goto (tgt := 79) hx hb dX7_edgeOf_69 (by decide) ?_
                exact j79 x5 t0 hF _ _ _ hP hD hS (lv_sub hl [1, 2, 3, 4, 6, 0] rfl)
        refine lv_iload hx hb dX7_edgeOf_19 (lv_at hl 5 rfl) ?_
        refine lv_aload_n hx hb dX7_edgeOf_21 rfl (lv_at hl 0 rfl) ?_
        refine lv_iload_n hx hb dX7_edgeOf_22 rfl (lv_at hl 1 rfl) ?_
        obtain ⟨u_9, hu_9, hF⟩ := obd_some hF
        have hPc := hP.sub (ws' := (wd_X7_cornerCount cI a0 v0_3 v0_4 v0_5 v0_0)) [0, 1] rfl
        have hDc := hD.sub (ws' := (wd_X7_cornerCount cI a0 v0_3 v0_4 v0_5 v0_0)) [0, 1] rfl rfl
        refine q_calli (wc := (wd_X7_cornerCount cI a0 v0_3 v0_4 v0_5 v0_0)) (w1 := (wd_X7_cornerCount cI a0 v0_3 v0_4 v0_5 v0_0)) (ws' := (wd_X7_edgeOf cI a0 v0_3 v0_4 v0_5 v0_0 v0_1 v0_2)) hP hD hS hA [0, 1] [2, 3] [2, 3, 0, 1] rfl rfl rfl (by decide) rfl rfl (va_runV (As := [.int x1]) (rest := [.int s19.2]) ⟨hx, hb, hml, hown, hta⟩ (c_X7_cornerCount l dC dI cI H.size a0 v0_3 v0_4 v0_5 v0_0 x1 u_9 hu_9) (cwV 1 hta (ga_V mA590 mA580 mA581 mA60 mA582) rfl rfl rfl (by decide +kernel) ⟨Nat.le_of_ble_eq_true rfl, Nat.le_of_ble_eq_true rfl⟩) ⟨q_fb, va_recv hK hP (ci := 6) (q0 := 0) rfl rfl, q_ps hPc hK hDc⟩ rfl rfl hl.1 rfl (lv_room (Nat.le_of_ble_eq_true rfl)) dX7_edgeOf_23 ⟨Nat.zero_le _, Nat.zero_le _⟩) (fun H locs hP hD hS => ?_)
        refine lv_icmp_ge (tgt := 89) hx hb dX7_edgeOf_26 (by decide) (fun c_10 => ?_) (fun c_10 => ?_)
        · have hF := it_t hF c_10
          obtain rfl := Option.some.inj hF
          obtain rfl := lpq_x hO_19
          have hF := hE_19
          exact j89 x1 x3 s19.1 hF _ _ _ hP hD hS (lv_sub hl [0, 1, 3, 4] rfl)
        · have hF := it_f hF c_10
          refine lv_iload_n hx hb dX7_edgeOf_29 rfl (lv_at hl 2 rfl) ?_
          refine lv_iconst (v := 2) hx hb dX7_edgeOf_30 (by decide) ?_
          refine lv_icmp_lt (tgt := 44) hx hb dX7_edgeOf_31 (by decide) (fun c_11 => ?_) (fun c_11 => ?_)
          · have hF := it_t hF c_11
            refine lv_aload_n hx hb dX7_edgeOf_44 rfl (lv_at hl 0 rfl) ?_
            refine lv_iload_n hx hb dX7_edgeOf_45 rfl (lv_at hl 1 rfl) ?_
            refine lv_iload hx hb dX7_edgeOf_46 (lv_at hl 5 rfl) ?_
            obtain ⟨u_12, hu_12, hF⟩ := obd_some hF
            have hPc := hP.sub (ws' := (wd_X7_cornerX cI a0 v0_3 v0_4 v0_5 v0_1)) [0, 2] rfl
            have hDc := hD.sub (ws' := (wd_X7_cornerX cI a0 v0_3 v0_4 v0_5 v0_1)) [0, 2] rfl rfl
            refine q_calli (wc := (wd_X7_cornerX cI a0 v0_3 v0_4 v0_5 v0_1)) (w1 := (wd_X7_cornerX cI a0 v0_3 v0_4 v0_5 v0_1)) (ws' := (wd_X7_edgeOf cI a0 v0_3 v0_4 v0_5 v0_0 v0_1 v0_2)) hP hD hS hA [0, 2] [1, 3] [2, 0, 3, 1] rfl rfl rfl (by decide) rfl rfl (va_runV (As := [.int x1, .int s19.2]) (rest := []) ⟨hx, hb, hml, hown, hta⟩ (c_X7_cornerX l dC dI cI H.size a0 v0_3 v0_4 v0_5 v0_1 x1 s19.2 u_12 hu_12) (cwV 2 hta (ga_V mA591 mA592 mA593 mA60 mA594) rfl rfl rfl (by decide +kernel) ⟨Nat.le_of_ble_eq_true rfl, Nat.le_of_ble_eq_true rfl⟩) ⟨q_fb, va_recv hK hP (ci := 6) (q0 := 0) rfl rfl, q_ps hPc hK hDc⟩ rfl rfl hl.1 rfl (lv_room (Nat.le_of_ble_eq_true rfl)) dX7_edgeOf_48 ⟨Nat.zero_le _, Nat.zero_le _⟩) (fun H locs hP hD hS => ?_)
            exact j51 s19.1 s19.2 u_12 hF _ _ _ hP hD hS (lv_sub hl [0, 1, 2, 3, 4, 5] rfl)
          · have hF := it_f hF c_11
            refine lv_aload_n hx hb dX7_edgeOf_34 rfl (lv_at hl 0 rfl) ?_
            refine lv_iload_n hx hb dX7_edgeOf_35 rfl (lv_at hl 1 rfl) ?_
            refine lv_iload hx hb dX7_edgeOf_36 (lv_at hl 5 rfl) ?_
            obtain ⟨u_13, hu_13, hF⟩ := obd_some hF
            have hPc := hP.sub (ws' := (wd_X7_cornerY cI a0 v0_3 v0_4 v0_5 v0_2)) [0, 3] rfl
            have hDc := hD.sub (ws' := (wd_X7_cornerY cI a0 v0_3 v0_4 v0_5 v0_2)) [0, 3] rfl rfl
            refine q_calli (wc := (wd_X7_cornerY cI a0 v0_3 v0_4 v0_5 v0_2)) (w1 := (wd_X7_cornerY cI a0 v0_3 v0_4 v0_5 v0_2)) (ws' := (wd_X7_edgeOf cI a0 v0_3 v0_4 v0_5 v0_0 v0_1 v0_2)) hP hD hS hA [0, 3] [1, 2] [2, 0, 1, 3] rfl rfl rfl (by decide) rfl rfl (va_runV (As := [.int x1, .int s19.2]) (rest := []) ⟨hx, hb, hml, hown, hta⟩ (c_X7_cornerY l dC dI cI H.size a0 v0_3 v0_4 v0_5 v0_2 x1 s19.2 u_13 hu_13) (cwV 2 hta (ga_V mA595 mA596 mA597 mA60 mA598) rfl rfl rfl (by decide +kernel) ⟨Nat.le_of_ble_eq_true rfl, Nat.le_of_ble_eq_true rfl⟩) ⟨q_fb, va_recv hK hP (ci := 6) (q0 := 0) rfl rfl, q_ps hPc hK hDc⟩ rfl rfl hl.1 rfl (lv_room (Nat.le_of_ble_eq_true rfl)) dX7_edgeOf_38 ⟨Nat.zero_le _, Nat.zero_le _⟩) (fun H locs hP hD hS => ?_)
            refine lv_goto (tgt := 51) hx hb dX7_edgeOf_41 (by decide) ?_
            exact j51 s19.1 s19.2 u_13 hF _ _ _ hP hD hS (lv_sub hl [0, 1, 2, 3, 4, 5] rfl)
    exact kl_19 n _ hL_19 _ _ _ hP hD hS hl
  have j12 : ∀ (x1 : Int32) (x2 : Int32) (t0 : Int32), F_X7_edgeOf_j12 n v0_5 v0_0 v0_1 v0_2 x1 x2 t0 = some u → ∀ (H : Heap) (locs : List Loc) (ls : Array Slot), va_P (dC, dI) vwCl (wd_X7_edgeOf cI a0 v0_3 v0_4 v0_5 v0_0 v0_1 v0_2) H → va_D A (wd_X7_edgeOf cI a0 v0_3 v0_4 v0_5 v0_0 v0_1 v0_2) → va_S A s.heap H locs → lv_has ls 7 [(0, .ref (a0 0)), (1, .int x1), (2, .int x2)] → W p l e (headSpec wz_X7_edgeOf rm_X7_edgeOf).room s m [.ref (a0 0), .int p1, .int p2].toArray below meth c H locs 0 0 (MQ below (Q_X7_edgeOf dC dI cI a0 v0_3 v0_4 v0_5 v0_0 v0_1 v0_2 u A) [.ref (a0 0), .int p1, .int p2].toArray s 0 0 A) (F0 m 12 ls [.int t0]) := by
    intro x1 x2 t0 hF H locs ls hP hD hS hl
    unfold F_X7_edgeOf_j12 at hF
    refine lv_istore_n (lv' := [(3, .int t0), (0, .ref (a0 0)), (1, .int x1), (2, .int x2)]) hx hb dX7_edgeOf_12 rfl hl (by decide) rfl (fun ls hl => ?_)
    refine lv_iconst (v := 0) hx hb dX7_edgeOf_13 (by decide) ?_
    refine lv_istore (lv' := [(4, .int 0), (3, .int t0), (0, .ref (a0 0)), (1, .int x1), (2, .int x2)]) hx hb dX7_edgeOf_14 hl (by decide) rfl (fun ls hl => ?_)
    refine lv_iconst (v := 0) hx hb dX7_edgeOf_16 (by decide) ?_
    refine lv_istore (lv' := [(5, .int 0), (4, .int 0), (3, .int t0), (0, .ref (a0 0)), (1, .int x1), (2, .int x2)]) hx hb dX7_edgeOf_17 hl (by decide) rfl (fun ls hl => ?_)
    exact j19 x1 x2 t0 0 0 hF _ _ _ hP hD hS (lv_sub hl [3, 4, 5, 2, 1, 0] rfl)
  refine lv_iload_n hx hb dX7_edgeOf_0 rfl (lv_at hl 2 rfl) ?_
  refine lv_iconst (v := 1) hx hb dX7_edgeOf_1 (by decide) ?_
  refine lv_iand hx hb dX7_edgeOf_2 ?_
  refine lv_iconst (v := 1) hx hb dX7_edgeOf_3 (by decide) ?_
  refine lv_icmp_ne (tgt := 11) hx hb dX7_edgeOf_4 (by decide) (fun c_14 => ?_) (fun c_14 => ?_)
  · have hF := it_f hF c_14
    refine lv_iconst (v := 0) hx hb dX7_edgeOf_11 (by decide) ?_
    exact j12 p1 p2 0 hF _ _ _ hP hD hS (lv_sub hl [0, 1, 2] rfl)
  · have hF := it_t hF c_14
    refine lv_iconst (v := 1) hx hb dX7_edgeOf_7 (by decide) ?_
    refine lv_goto (tgt := 12) hx hb dX7_edgeOf_8 (by decide) ?_
    exact j12 p1 p2 1 hF _ _ _ hP hD hS (lv_sub hl [0, 1, 2] rfl)

-- StrokeOutliner$Pieces.edgeOfAll(I)I
def F_X7_edgeOfAll_j67 (x3 : Int32) : Option (Int32) :=
  some x3
def F_X7_edgeOfAll_j60 (x4 : Int32) (t0 : Int32) : Option (Sum (Int32 × Int32) (Int32)) :=
  lt (x4 + 1) (fun y_1 => some (.inl (t0, y_1)))
def F_X7_edgeOfAll_b23 (n : Nat) (v0_3 : Int32) (v0_5 : Int32) (v0_0 : Nat → Int32) (v0_1 : Nat → Int32) (v0_2 : Nat → Int32) (x1 : Int32) (x2 : Int32) (s23 : Int32 × Int32) : Option (Sum (Int32 × Int32) (Int32)) :=
  if v0_3 ≤ s23.2 then some (.inr s23.1) else obd (F_X7_edgeOf n v0_5 v0_0 v0_1 v0_2 s23.2 x1) (fun u_3 => if x2 = 0 then F_X7_edgeOfAll_j60 s23.2 (if u_3 < s23.1 then u_3 else s23.1) else F_X7_edgeOfAll_j60 s23.2 (if s23.1 < u_3 then u_3 else s23.1))
def F_X7_edgeOfAll_j23 (n : Nat) (v0_3 : Int32) (v0_5 : Int32) (v0_0 : Nat → Int32) (v0_1 : Nat → Int32) (v0_2 : Nat → Int32) (x1 : Int32) (x2 : Int32) (x3 : Int32) (x4 : Int32) : Option (Int32) :=
  obd (lpq (F_X7_edgeOfAll_b23 n v0_3 v0_5 v0_0 v0_1 v0_2 x1 x2) n (x3, x4)) (fun x_23 => F_X7_edgeOfAll_j67 x_23)
def F_X7_edgeOfAll_j12 (n : Nat) (v0_3 : Int32) (v0_5 : Int32) (v0_0 : Nat → Int32) (v0_1 : Nat → Int32) (v0_2 : Nat → Int32) (x1 : Int32) (t0 : Int32) : Option (Int32) :=
  obd (F_X7_edgeOf n v0_5 v0_0 v0_1 v0_2 0 x1) (fun u_5 => F_X7_edgeOfAll_j23 n v0_3 v0_5 v0_0 v0_1 v0_2 x1 t0 u_5 1)
def F_X7_edgeOfAll (n : Nat) (v0_3 : Int32) (v0_5 : Int32) (v0_0 : Nat → Int32) (v0_1 : Nat → Int32) (v0_2 : Nat → Int32) (p1 : Int32) : Option (Int32) :=
  if (p1 &&& 1) = 1 then F_X7_edgeOfAll_j12 n v0_3 v0_5 v0_0 v0_1 v0_2 p1 1 else F_X7_edgeOfAll_j12 n v0_3 v0_5 v0_0 v0_1 v0_2 p1 0
abbrev wd_X7_edgeOfAll (cI : ClassId) (a0 : Nat → Nat) (v0_3 : Int32) (v0_4 : Int32) (v0_5 : Int32) (v0_0 : Nat → Int32) (v0_1 : Nat → Int32) (v0_2 : Nat → Int32) : va_W := [(a0 0, .inr (6, [.ref (a0 1), .ref (a0 2), .ref (a0 3), .int v0_3, .int v0_4, .int v0_5])), (a0 1, .inl (cI, 2800, .inl v0_0)), (a0 2, .inl (cI, 11200, .inl v0_1)), (a0 3, .inl (cI, 11200, .inl v0_2))]
abbrev wz_X7_edgeOfAll : List Cond := .code yX7_edgeOfAll cX7_edgeOfAll 6 (some .int) :: wALL
abbrev rm_X7_edgeOfAll : Room := { frames := 3, cells := 0, slots := 0, locals := 69 }
abbrev Q_X7_edgeOfAll (dC : Nat → ClassId) (dI : Nat → Nat → Nat) (cI : ClassId) (a0 : Nat → Nat) (v0_3 : Int32) (v0_4 : Int32) (v0_5 : Int32) (v0_0 : Nat → Int32) (v0_1 : Nat → Int32) (v0_2 : Nat → Int32) (u : (Int32)) (A : Nat → Prop) : Array Value → State → Outcome → State → Prop := va_Qi (fun (r : Int32) (_ : Unit) => r = u) (fun _ => q_at dC dI cI A (wd_X7_edgeOfAll cI a0 v0_3 v0_4 v0_5 v0_0 v0_1 v0_2)) A
set_option maxHeartbeats 4000000 in
set_option maxRecDepth 100000 in
theorem c_X7_edgeOfAll (l : Launch) (dC : Nat → ClassId) (dI : Nat → Nat → Nat) (cI : ClassId) (sz : Nat) (a0 : Nat → Nat) (v0_3 : Int32) (v0_4 : Int32) (v0_5 : Int32) (v0_0 : Nat → Int32) (v0_1 : Nat → Int32) (v0_2 : Nat → Int32) (p1 : Int32) (n : Nat) (u : (Int32)) (hF : F_X7_edgeOfAll n v0_3 v0_5 v0_0 v0_1 v0_2 p1 = some u) : Met l yX7_edgeOfAll wz_X7_edgeOfAll rm_X7_edgeOfAll (va_Pc [.ref (a0 0), .int p1] (q_pre dC dI cI (wd_X7_edgeOfAll cI a0 v0_3 v0_4 v0_5 v0_0 v0_1 v0_2) sz)) (Q_X7_edgeOfAll dC dI cI a0 v0_3 v0_4 v0_5 v0_0 v0_1 v0_2 u (va_A (wd_X7_edgeOfAll cI a0 v0_3 v0_4 v0_5 v0_0 v0_1 v0_2) sz)) 0 0 (va_A (wd_X7_edgeOfAll cI a0 v0_3 v0_4 v0_5 v0_0 v0_1 v0_2) sz) := by
  refine Met.ofW (cc := cX7_edgeOfAll) (maxL := 6) (ret := (some .int)) (by decide) rfl ?_
  intro p e s m args below meth c s₁ B hml hv
  obtain ⟨rfl, hsz, hP, hK, hD0⟩ := hv
  have hx := B.exec
  have hb := B.bytes
  have hr := B.returns
  have hts := atoms_spec (ws := wz_X7_edgeOfAll) B.pre
  have hta := wz_tl hts
  have hown : s.vm.findClass RX7 = some m.cls := findClass_of_methodNamed B.named
  have hlocks := B.notSynchronized
  subst hsz
  have hD := hD0.self (sz := s.heap.size)
  generalize hAe : va_A (wd_X7_edgeOfAll cI a0 v0_3 v0_4 v0_5 v0_0 v0_1 v0_2) s.heap.size = A at hD ⊢
  have hA : ∀ q : Nat, s.heap.size ≤ q → A q := fun q h => by rw [← hAe]; exact Or.inr h
  have hS : va_S A s.heap s.heap [] := va_S.rf
  have hP : va_P (dC, dI) vwCl (wd_X7_edgeOfAll cI a0 v0_3 v0_4 v0_5 v0_0 v0_1 v0_2) s.heap := hP
  have hl := lv_entry ([.ref (a0 0), .int p1]) (n := 6) (Nat.le_of_ble_eq_true rfl)
  rw [lg_entry_eq]
  generalize (lg_sl ([.ref (a0 0), .int p1]) ++ List.replicate (6 - (lg_sl ([.ref (a0 0), .int p1])).length) Slot.unset).toArray = ls at hl ⊢
  have hl : lv_has ls 6 [(0, .ref (a0 0)), (1, .int p1)] := hl
  obtain ⟨H, hHe⟩ : ∃ H, H = s.heap := ⟨_, rfl⟩
  have hS : va_S A s.heap H [] := by rw [hHe]; exact hS
  have hP : va_P (dC, dI) vwCl (wd_X7_edgeOfAll cI a0 v0_3 v0_4 v0_5 v0_0 v0_1 v0_2) H := by rw [hHe]; exact hP
  rw [← hHe]
  unfold F_X7_edgeOfAll at hF
  have j67 : ∀ (x3 : Int32), F_X7_edgeOfAll_j67 x3 = some u → ∀ (H : Heap) (locs : List Loc) (ls : Array Slot), va_P (dC, dI) vwCl (wd_X7_edgeOfAll cI a0 v0_3 v0_4 v0_5 v0_0 v0_1 v0_2) H → va_D A (wd_X7_edgeOfAll cI a0 v0_3 v0_4 v0_5 v0_0 v0_1 v0_2) → va_S A s.heap H locs → lv_has ls 6 [(3, .int x3)] → W p l e (headSpec wz_X7_edgeOfAll rm_X7_edgeOfAll).room s m [.ref (a0 0), .int p1].toArray below meth c H locs 0 0 (MQ below (Q_X7_edgeOfAll dC dI cI a0 v0_3 v0_4 v0_5 v0_0 v0_1 v0_2 u A) [.ref (a0 0), .int p1].toArray s 0 0 A) (F0 m 67 ls []) := by
    intro x3 hF H locs ls hP hD hS hl
    unfold F_X7_edgeOfAll_j67 at hF
    refine lv_iload_n hx hb dX7_edgeOfAll_67 rfl (lv_at hl 0 rfl) ?_
    obtain rfl := Option.some.inj hF
    exact W.iret (v := x3) hx hb hr (fun t ht hW => ⟨⟨x3, (), rfl, rfl, by rw [ht]; exact hP, va_K.moved hW.alike hK, hD⟩, hS.F ht⟩) hS.2.2 dX7_edgeOfAll_68
  have j23 : ∀ (x1 : Int32) (x2 : Int32) (x3 : Int32) (x4 : Int32), F_X7_edgeOfAll_j23 n v0_3 v0_5 v0_0 v0_1 v0_2 x1 x2 x3 x4 = some u → ∀ (H : Heap) (locs : List Loc) (ls : Array Slot), va_P (dC, dI) vwCl (wd_X7_edgeOfAll cI a0 v0_3 v0_4 v0_5 v0_0 v0_1 v0_2) H → va_D A (wd_X7_edgeOfAll cI a0 v0_3 v0_4 v0_5 v0_0 v0_1 v0_2) → va_S A s.heap H locs → lv_has ls 6 [(0, .ref (a0 0)), (1, .int x1), (2, .int x2), (3, .int x3), (4, .int x4)] → W p l e (headSpec wz_X7_edgeOfAll rm_X7_edgeOfAll).room s m [.ref (a0 0), .int p1].toArray below meth c H locs 0 0 (MQ below (Q_X7_edgeOfAll dC dI cI a0 v0_3 v0_4 v0_5 v0_0 v0_1 v0_2 u A) [.ref (a0 0), .int p1].toArray s 0 0 A) (F0 m 23 ls []) := by
    intro x1 x2 x3 x4 hF H locs ls hP hD hS hl
    unfold F_X7_edgeOfAll_j23 at hF
    obtain ⟨x_23, hL_23, hE_23⟩ := obd_some hF
    have kl_23 : ∀ (k : Nat) (s23 : Int32 × Int32), lpq (F_X7_edgeOfAll_b23 n v0_3 v0_5 v0_0 v0_1 v0_2 x1 x2) k s23 = some x_23 → ∀ (H : Heap) (locs : List Loc) (ls : Array Slot), va_P (dC, dI) vwCl (wd_X7_edgeOfAll cI a0 v0_3 v0_4 v0_5 v0_0 v0_1 v0_2) H → va_D A (wd_X7_edgeOfAll cI a0 v0_3 v0_4 v0_5 v0_0 v0_1 v0_2) → va_S A s.heap H locs → lv_has ls 6 [(0, .ref (a0 0)), (1, .int x1), (2, .int x2), (3, .int s23.1), (4, .int s23.2)] → W p l e (headSpec wz_X7_edgeOfAll rm_X7_edgeOfAll).room s m [.ref (a0 0), .int p1].toArray below meth c H locs 0 0 (MQ below (Q_X7_edgeOfAll dC dI cI a0 v0_3 v0_4 v0_5 v0_0 v0_1 v0_2 u A) [.ref (a0 0), .int p1].toArray s 0 0 A) (F0 m 23 ls []) := by
      intro k
      induction k with
      | zero => intro s23 h; exact absurd h lpq_zero
      | succ k ih_23 =>
        intro s23 h H locs ls hP hD hS hl
        obtain ⟨o_23, hF, hO_23⟩ := lpq_succ h
        unfold F_X7_edgeOfAll_b23 at hF
        have j60 : ∀ (x4 : Int32) (t0 : Int32), F_X7_edgeOfAll_j60 x4 t0 = some o_23 → ∀ (H : Heap) (locs : List Loc) (ls : Array Slot), va_P (dC, dI) vwCl (wd_X7_edgeOfAll cI a0 v0_3 v0_4 v0_5 v0_0 v0_1 v0_2) H → va_D A (wd_X7_edgeOfAll cI a0 v0_3 v0_4 v0_5 v0_0 v0_1 v0_2) → va_S A s.heap H locs → lv_has ls 6 [(0, .ref (a0 0)), (1, .int x1), (2, .int x2), (4, .int x4)] → W p l e (headSpec wz_X7_edgeOfAll rm_X7_edgeOfAll).room s m [.ref (a0 0), .int p1].toArray below meth c H locs 0 0 (MQ below (Q_X7_edgeOfAll dC dI cI a0 v0_3 v0_4 v0_5 v0_0 v0_1 v0_2 u A) [.ref (a0 0), .int p1].toArray s 0 0 A) (F0 m 60 ls [.int t0]) := by
          intro x4 t0 hF H locs ls hP hD hS hl
          unfold F_X7_edgeOfAll_j60 at hF
          refine lv_istore_n (lv' := [(3, .int t0), (0, .ref (a0 0)), (1, .int x1), (2, .int x2), (4, .int x4)]) hx hb dX7_edgeOfAll_60 rfl hl (by decide) rfl (fun ls hl => ?_)
          obtain ⟨y_1, ey_1, hF⟩ := lt_some hF
          refine lv_iinc (v := y_1) (lv' := [(4, .int y_1), (3, .int t0), (0, .ref (a0 0)), (1, .int x1), (2, .int x2)]) hx hb dX7_edgeOfAll_61 hl (k := 4) rfl (by rw [ey_1]; rfl) (by decide) rfl (fun ls hl => ?_)
          refine lv_goto (tgt := 23) hx hb dX7_edgeOfAll_64 (by decide) ?_
          obtain rfl := Option.some.inj hF
          exact ih_23 _ hO_23 _ _ _ hP hD hS (lv_sub hl [2, 3, 4, 1, 0] rfl)
        refine lv_iload hx hb dX7_edgeOfAll_23 (lv_at hl 4 rfl) ?_
        refine lv_aload_n hx hb dX7_edgeOfAll_25 rfl (lv_at hl 0 rfl) ?_
        refine va_get (D := (dC, dI)) (ci := 6) (v := .int v0_3) (C := RX7) (T := TX7) (N := 6) hx hb hta uw_X7 hown hK hP 0 rfl rfl 3 (by decide) (hta _ mA475) (fun _ h9 => h9) rfl dX7_edgeOfAll_26 ?_
        refine lv_icmp_ge (tgt := 67) hx hb dX7_edgeOfAll_29 (by decide) (fun c_2 => ?_) (fun c_2 => ?_)
        · have hF := it_t hF c_2
          obtain rfl := Option.some.inj hF
          obtain rfl := lpq_x hO_23
          have hF := hE_23
          exact j67 s23.1 hF _ _ _ hP hD hS (lv_sub hl [3] rfl)
        · have hF := it_f hF c_2
          refine lv_aload_n hx hb dX7_edgeOfAll_32 rfl (lv_at hl 0 rfl) ?_
          refine lv_iload hx hb dX7_edgeOfAll_33 (lv_at hl 4 rfl) ?_
          refine lv_iload_n hx hb dX7_edgeOfAll_35 rfl (lv_at hl 1 rfl) ?_
          obtain ⟨u_3, hu_3, hF⟩ := obd_some hF
          have hPc := hP.sub (ws' := (wd_X7_edgeOf cI a0 v0_3 v0_4 v0_5 v0_0 v0_1 v0_2)) [0, 1, 2, 3] rfl
          have hDc := hD.sub (ws' := (wd_X7_edgeOf cI a0 v0_3 v0_4 v0_5 v0_0 v0_1 v0_2)) [0, 1, 2, 3] rfl rfl
          refine q_calli (wc := (wd_X7_edgeOf cI a0 v0_3 v0_4 v0_5 v0_0 v0_1 v0_2)) (w1 := (wd_X7_edgeOf cI a0 v0_3 v0_4 v0_5 v0_0 v0_1 v0_2)) (ws' := (wd_X7_edgeOfAll cI a0 v0_3 v0_4 v0_5 v0_0 v0_1 v0_2)) hP hD hS hA [0, 1, 2, 3] [] [0, 1, 2, 3] rfl rfl rfl (by decide) rfl rfl (va_runV (As := [.int s23.2, .int x1]) (rest := []) ⟨hx, hb, hml, hown, hta⟩ (c_X7_edgeOf l dC dI cI H.size a0 v0_3 v0_4 v0_5 v0_0 v0_1 v0_2 s23.2 x1 n u_3 hu_3) (cwV 2 hta (ga_V mA609 mA610 mA611 mA60 mA612) rfl rfl rfl (by decide +kernel) ⟨Nat.le_of_ble_eq_true rfl, Nat.le_of_ble_eq_true rfl⟩) ⟨q_fb, va_recv hK hP (ci := 6) (q0 := 0) rfl rfl, q_ps hPc hK hDc⟩ rfl rfl hl.1 rfl (lv_room (Nat.le_of_ble_eq_true rfl)) dX7_edgeOfAll_36 ⟨Nat.zero_le _, Nat.zero_le _⟩) (fun H locs hP hD hS => ?_)
          refine lv_istore (lv' := [(5, .int u_3), (0, .ref (a0 0)), (1, .int x1), (2, .int x2), (3, .int s23.1), (4, .int s23.2)]) hx hb dX7_edgeOfAll_39 hl (by decide) rfl (fun ls hl => ?_)
          refine lv_iload_n hx hb dX7_edgeOfAll_41 rfl (lv_at hl 3 rfl) ?_
          refine lv_if_eq (tgt := 54) hx hb dX7_edgeOfAll_42 (by decide) (fun c_4 => ?_) (fun c_4 => ?_)
          · have hF := it_t hF c_4
            refine lv_iload_n hx hb dX7_edgeOfAll_54 rfl (lv_at hl 4 rfl) ?_
            refine lv_iload hx hb dX7_edgeOfAll_55 (lv_at hl 0 rfl) ?_
            refine va_mmin hx hb (hml.trans hl.1.symm) hown (hta _ mA608) (hta _ mA279) (hta _ mA280) (hta _ mA281) (Nat.le_of_ble_eq_true rfl) (Nat.le_of_ble_eq_true rfl) (Nat.zero_le _) (Nat.zero_le _) dX7_edgeOfAll_57 ?_
            exact j60 s23.2 (if u_3 < s23.1 then u_3 else s23.1) hF _ _ _ hP hD hS (lv_sub hl [1, 2, 3, 5] rfl)
          · have hF := it_f hF c_4
            refine lv_iload_n hx hb dX7_edgeOfAll_45 rfl (lv_at hl 4 rfl) ?_
            refine lv_iload hx hb dX7_edgeOfAll_46 (lv_at hl 0 rfl) ?_
            refine va_mmax hx hb (hml.trans hl.1.symm) hown (hta _ mA607) (hta _ mA283) (hta _ mA280) (hta _ mA284) (Nat.le_of_ble_eq_true rfl) (Nat.le_of_ble_eq_true rfl) (Nat.zero_le _) (Nat.zero_le _) dX7_edgeOfAll_48 ?_
            refine lv_goto (tgt := 60) hx hb dX7_edgeOfAll_51 (by decide) ?_
            exact j60 s23.2 (if s23.1 < u_3 then u_3 else s23.1) hF _ _ _ hP hD hS (lv_sub hl [1, 2, 3, 5] rfl)
    exact kl_23 n _ hL_23 _ _ _ hP hD hS hl
  have j12 : ∀ (x1 : Int32) (t0 : Int32), F_X7_edgeOfAll_j12 n v0_3 v0_5 v0_0 v0_1 v0_2 x1 t0 = some u → ∀ (H : Heap) (locs : List Loc) (ls : Array Slot), va_P (dC, dI) vwCl (wd_X7_edgeOfAll cI a0 v0_3 v0_4 v0_5 v0_0 v0_1 v0_2) H → va_D A (wd_X7_edgeOfAll cI a0 v0_3 v0_4 v0_5 v0_0 v0_1 v0_2) → va_S A s.heap H locs → lv_has ls 6 [(0, .ref (a0 0)), (1, .int x1)] → W p l e (headSpec wz_X7_edgeOfAll rm_X7_edgeOfAll).room s m [.ref (a0 0), .int p1].toArray below meth c H locs 0 0 (MQ below (Q_X7_edgeOfAll dC dI cI a0 v0_3 v0_4 v0_5 v0_0 v0_1 v0_2 u A) [.ref (a0 0), .int p1].toArray s 0 0 A) (F0 m 12 ls [.int t0]) := by
    intro x1 t0 hF H locs ls hP hD hS hl
    unfold F_X7_edgeOfAll_j12 at hF
    refine lv_istore_n (lv' := [(2, .int t0), (0, .ref (a0 0)), (1, .int x1)]) hx hb dX7_edgeOfAll_12 rfl hl (by decide) rfl (fun ls hl => ?_)
    refine lv_aload_n hx hb dX7_edgeOfAll_13 rfl (lv_at hl 1 rfl) ?_
    refine lv_iconst (v := 0) hx hb dX7_edgeOfAll_14 (by decide) ?_
    refine lv_iload_n hx hb dX7_edgeOfAll_15 rfl (lv_at hl 2 rfl) ?_
    obtain ⟨u_5, hu_5, hF⟩ := obd_some hF
    have hPc := hP.sub (ws' := (wd_X7_edgeOf cI a0 v0_3 v0_4 v0_5 v0_0 v0_1 v0_2)) [0, 1, 2, 3] rfl
    have hDc := hD.sub (ws' := (wd_X7_edgeOf cI a0 v0_3 v0_4 v0_5 v0_0 v0_1 v0_2)) [0, 1, 2, 3] rfl rfl
    refine q_calli (wc := (wd_X7_edgeOf cI a0 v0_3 v0_4 v0_5 v0_0 v0_1 v0_2)) (w1 := (wd_X7_edgeOf cI a0 v0_3 v0_4 v0_5 v0_0 v0_1 v0_2)) (ws' := (wd_X7_edgeOfAll cI a0 v0_3 v0_4 v0_5 v0_0 v0_1 v0_2)) hP hD hS hA [0, 1, 2, 3] [] [0, 1, 2, 3] rfl rfl rfl (by decide) rfl rfl (va_runV (As := [.int 0, .int x1]) (rest := []) ⟨hx, hb, hml, hown, hta⟩ (c_X7_edgeOf l dC dI cI H.size a0 v0_3 v0_4 v0_5 v0_0 v0_1 v0_2 0 x1 n u_5 hu_5) (cwV 2 hta (ga_V mA609 mA610 mA611 mA60 mA612) rfl rfl rfl (by decide +kernel) ⟨Nat.le_of_ble_eq_true rfl, Nat.le_of_ble_eq_true rfl⟩) ⟨q_fb, va_recv hK hP (ci := 6) (q0 := 0) rfl rfl, q_ps hPc hK hDc⟩ rfl rfl hl.1 rfl (lv_room (Nat.le_of_ble_eq_true rfl)) dX7_edgeOfAll_16 ⟨Nat.zero_le _, Nat.zero_le _⟩) (fun H locs hP hD hS => ?_)
    refine lv_istore_n (lv' := [(3, .int u_5), (2, .int t0), (0, .ref (a0 0)), (1, .int x1)]) hx hb dX7_edgeOfAll_19 rfl hl (by decide) rfl (fun ls hl => ?_)
    refine lv_iconst (v := 1) hx hb dX7_edgeOfAll_20 (by decide) ?_
    refine lv_istore (lv' := [(4, .int 1), (3, .int u_5), (2, .int t0), (0, .ref (a0 0)), (1, .int x1)]) hx hb dX7_edgeOfAll_21 hl (by decide) rfl (fun ls hl => ?_)
    exact j23 x1 t0 u_5 1 hF _ _ _ hP hD hS (lv_sub hl [3, 4, 2, 1, 0] rfl)
  refine lv_iload_n hx hb dX7_edgeOfAll_0 rfl (lv_at hl 1 rfl) ?_
  refine lv_iconst (v := 1) hx hb dX7_edgeOfAll_1 (by decide) ?_
  refine lv_iand hx hb dX7_edgeOfAll_2 ?_
  refine lv_iconst (v := 1) hx hb dX7_edgeOfAll_3 (by decide) ?_
  refine lv_icmp_ne (tgt := 11) hx hb dX7_edgeOfAll_4 (by decide) (fun c_6 => ?_) (fun c_6 => ?_)
  · have hF := it_f hF c_6
    refine lv_iconst (v := 0) hx hb dX7_edgeOfAll_11 (by decide) ?_
    exact j12 p1 0 hF _ _ _ hP hD hS (lv_sub hl [0, 1] rfl)
  · have hF := it_t hF c_6
    refine lv_iconst (v := 1) hx hb dX7_edgeOfAll_7 (by decide) ?_
    refine lv_goto (tgt := 12) hx hb dX7_edgeOfAll_8 (by decide) ?_
    exact j12 p1 1 hF _ _ _ hP hD hS (lv_sub hl [0, 1] rfl)

-- StrokeOutliner$Pieces.isOnOneSide(III)Z
def F_X7_isOnOneSide_j163  : Option (Int32) :=
  some 1
def F_X7_isOnOneSide_j157 (x4 : Int32) (x5 : Int32) (x7 : Int32) : Option (Sum (Int32 × Int32 × Int32) (Sum (Unit) (Unit))) :=
  lt (x7 + 1) (fun y_1 => some (.inl (x4, x5, y_1)))
def F_X7_isOnOneSide_j155  : Option (Int32) :=
  some 0
def F_X7_isOnOneSide_j143 (x4 : Int32) (x7 : Int32) (t0 : Int32) : Option (Sum (Int32 × Int32 × Int32) (Sum (Unit) (Unit))) :=
  if x4 = 0 then F_X7_isOnOneSide_j157 x4 t0 x7 else if t0 = 0 then F_X7_isOnOneSide_j157 x4 t0 x7 else some (.inr (.inl ()))
def F_X7_isOnOneSide_j138 (x4 : Int32) (x7 : Int32) : Option (Sum (Int32 × Int32 × Int32) (Sum (Unit) (Unit))) :=
  F_X7_isOnOneSide_j143 x4 x7 1
def F_X7_isOnOneSide_j124 (x5 : Int32) (x7 : Int32) (x13 : Int64) (t0 : Int32) : Option (Sum (Int32 × Int32 × Int32) (Sum (Unit) (Unit))) :=
  if x5 = 0 then if 0 ≤ (lg_cmp x13 0) then F_X7_isOnOneSide_j143 t0 x7 0 else F_X7_isOnOneSide_j138 t0 x7 else F_X7_isOnOneSide_j138 t0 x7
def F_X7_isOnOneSide_j119 (x5 : Int32) (x7 : Int32) (x13 : Int64) : Option (Sum (Int32 × Int32 × Int32) (Sum (Unit) (Unit))) :=
  F_X7_isOnOneSide_j124 x5 x7 x13 1
def F_X7_isOnOneSide_j40 (v0_1 : Nat → Int32) (v0_2 : Nat → Int32) (x1 : Int32) (x2 : Int32) (x3 : Int32) (x4 : Int32) (x5 : Int32) (x7 : Int32) (t0 : Int32) : Option (Sum (Int32 × Int32 × Int32) (Sum (Unit) (Unit))) :=
  obd (F_X7_cornerX v0_1 x1 t0) (fun u_6 => obd (F_X7_cornerX v0_1 x1 x7) (fun u_7 => lt ((u_6 - u_7).toInt64) (fun y_8 => obd (F_X7_cornerY v0_2 x1 t0) (fun u_9 => obd (F_X7_cornerY v0_2 x1 x7) (fun u_10 => lt ((u_9 - u_10).toInt64) (fun y_11 => obd (F_X7_cornerY v0_2 x1 x7) (fun u_12 => obd (F_X7_cornerX v0_1 x1 x7) (fun u_13 => lt ((y_8 * (x3 - u_12).toInt64) - (y_11 * (x2 - u_13).toInt64)) (fun y_14 => if x4 = 0 then if (lg_cmp y_14 0) ≤ 0 then F_X7_isOnOneSide_j124 x5 x7 y_14 0 else F_X7_isOnOneSide_j119 x5 x7 y_14 else F_X7_isOnOneSide_j119 x5 x7 y_14)))))))))
def F_X7_isOnOneSide_b16 (v0_1 : Nat → Int32) (v0_2 : Nat → Int32) (x1 : Int32) (x2 : Int32) (x3 : Int32) (x6 : Int32) (s16 : Int32 × Int32 × Int32) : Option (Sum (Int32 × Int32 × Int32) (Sum (Unit) (Unit))) :=
  if x6 ≤ s16.2.2 then some (.inr (.inr ())) else if x6 ≤ (s16.2.2 + 1) then F_X7_isOnOneSide_j40 v0_1 v0_2 x1 x2 x3 s16.1 s16.2.1 s16.2.2 0 else F_X7_isOnOneSide_j40 v0_1 v0_2 x1 x2 x3 s16.1 s16.2.1 s16.2.2 (s16.2.2 + 1)
def F_X7_isOnOneSide_j16 (n : Nat) (v0_1 : Nat → Int32) (v0_2 : Nat → Int32) (x1 : Int32) (x2 : Int32) (x3 : Int32) (x4 : Int32) (x5 : Int32) (x6 : Int32) (x7 : Int32) : Option (Int32) :=
  obd (lpq (F_X7_isOnOneSide_b16 v0_1 v0_2 x1 x2 x3 x6) n (x4, x5, x7)) (fun x_16 => Sum.elim (fun x_16 => F_X7_isOnOneSide_j155) (fun x_16 => F_X7_isOnOneSide_j163) x_16)
def F_X7_isOnOneSide (n : Nat) (v0_0 : Nat → Int32) (v0_1 : Nat → Int32) (v0_2 : Nat → Int32) (p1 : Int32) (p2 : Int32) (p3 : Int32) : Option (Int32) :=
  obd (F_X7_cornerCount v0_0 p1) (fun u_19 => F_X7_isOnOneSide_j16 n v0_1 v0_2 p1 p2 p3 0 0 u_19 0)
abbrev wd_X7_isOnOneSide (cI : ClassId) (a0 : Nat → Nat) (v0_3 : Int32) (v0_4 : Int32) (v0_5 : Int32) (v0_0 : Nat → Int32) (v0_1 : Nat → Int32) (v0_2 : Nat → Int32) : va_W := [(a0 0, .inr (6, [.ref (a0 1), .ref (a0 2), .ref (a0 3), .int v0_3, .int v0_4, .int v0_5])), (a0 1, .inl (cI, 2800, .inl v0_0)), (a0 2, .inl (cI, 11200, .inl v0_1)), (a0 3, .inl (cI, 11200, .inl v0_2))]
abbrev wz_X7_isOnOneSide : List Cond := .code yX7_isOnOneSide cX7_isOnOneSide 15 (some .boolean) :: wALL
abbrev rm_X7_isOnOneSide : Room := { frames := 2, cells := 0, slots := 0, locals := 43 }
abbrev Q_X7_isOnOneSide (dC : Nat → ClassId) (dI : Nat → Nat → Nat) (cI : ClassId) (a0 : Nat → Nat) (v0_3 : Int32) (v0_4 : Int32) (v0_5 : Int32) (v0_0 : Nat → Int32) (v0_1 : Nat → Int32) (v0_2 : Nat → Int32) (u : (Int32)) (A : Nat → Prop) : Array Value → State → Outcome → State → Prop := va_Qi (fun (r : Int32) (_ : Unit) => r = u ∧ (u = 0 ∨ u = 1)) (fun _ => q_at dC dI cI A (wd_X7_isOnOneSide cI a0 v0_3 v0_4 v0_5 v0_0 v0_1 v0_2)) A
set_option maxHeartbeats 4000000 in
set_option maxRecDepth 100000 in
theorem c_X7_isOnOneSide (l : Launch) (dC : Nat → ClassId) (dI : Nat → Nat → Nat) (cI : ClassId) (sz : Nat) (a0 : Nat → Nat) (v0_3 : Int32) (v0_4 : Int32) (v0_5 : Int32) (v0_0 : Nat → Int32) (v0_1 : Nat → Int32) (v0_2 : Nat → Int32) (p1 : Int32) (p2 : Int32) (p3 : Int32) (n : Nat) (u : (Int32)) (hF : F_X7_isOnOneSide n v0_0 v0_1 v0_2 p1 p2 p3 = some u) : Met l yX7_isOnOneSide wz_X7_isOnOneSide rm_X7_isOnOneSide (va_Pc [.ref (a0 0), .int p1, .int p2, .int p3] (q_pre dC dI cI (wd_X7_isOnOneSide cI a0 v0_3 v0_4 v0_5 v0_0 v0_1 v0_2) sz)) (Q_X7_isOnOneSide dC dI cI a0 v0_3 v0_4 v0_5 v0_0 v0_1 v0_2 u (va_A (wd_X7_isOnOneSide cI a0 v0_3 v0_4 v0_5 v0_0 v0_1 v0_2) sz)) 0 0 (va_A (wd_X7_isOnOneSide cI a0 v0_3 v0_4 v0_5 v0_0 v0_1 v0_2) sz) := by
  refine Met.ofW (cc := cX7_isOnOneSide) (maxL := 15) (ret := (some .boolean)) (by decide) rfl ?_
  intro p e s m args below meth c s₁ B hml hv
  obtain ⟨rfl, hsz, hP, hK, hD0⟩ := hv
  have hx := B.exec
  have hb := B.bytes
  have hr := B.returns
  have hts := atoms_spec (ws := wz_X7_isOnOneSide) B.pre
  have hta := wz_tl hts
  have hown : s.vm.findClass RX7 = some m.cls := findClass_of_methodNamed B.named
  have hlocks := B.notSynchronized
  subst hsz
  have hD := hD0.self (sz := s.heap.size)
  generalize hAe : va_A (wd_X7_isOnOneSide cI a0 v0_3 v0_4 v0_5 v0_0 v0_1 v0_2) s.heap.size = A at hD ⊢
  have hA : ∀ q : Nat, s.heap.size ≤ q → A q := fun q h => by rw [← hAe]; exact Or.inr h
  have hS : va_S A s.heap s.heap [] := va_S.rf
  have hP : va_P (dC, dI) vwCl (wd_X7_isOnOneSide cI a0 v0_3 v0_4 v0_5 v0_0 v0_1 v0_2) s.heap := hP
  have hl := lv_entry ([.ref (a0 0), .int p1, .int p2, .int p3]) (n := 15) (Nat.le_of_ble_eq_true rfl)
  rw [lg_entry_eq]
  generalize (lg_sl ([.ref (a0 0), .int p1, .int p2, .int p3]) ++ List.replicate (15 - (lg_sl ([.ref (a0 0), .int p1, .int p2, .int p3])).length) Slot.unset).toArray = ls at hl ⊢
  have hl : lv_has ls 15 [(0, .ref (a0 0)), (1, .int p1), (2, .int p2), (3, .int p3)] := hl
  obtain ⟨H, hHe⟩ : ∃ H, H = s.heap := ⟨_, rfl⟩
  have hS : va_S A s.heap H [] := by rw [hHe]; exact hS
  have hP : va_P (dC, dI) vwCl (wd_X7_isOnOneSide cI a0 v0_3 v0_4 v0_5 v0_0 v0_1 v0_2) H := by rw [hHe]; exact hP
  rw [← hHe]
  unfold F_X7_isOnOneSide at hF
  have j163 : ∀ (_ : Unit), F_X7_isOnOneSide_j163 = some u → ∀ (H : Heap) (locs : List Loc) (ls : Array Slot), va_P (dC, dI) vwCl (wd_X7_isOnOneSide cI a0 v0_3 v0_4 v0_5 v0_0 v0_1 v0_2) H → va_D A (wd_X7_isOnOneSide cI a0 v0_3 v0_4 v0_5 v0_0 v0_1 v0_2) → va_S A s.heap H locs → lv_has ls 15 [] → W p l e (headSpec wz_X7_isOnOneSide rm_X7_isOnOneSide).room s m [.ref (a0 0), .int p1, .int p2, .int p3].toArray below meth c H locs 0 0 (MQ below (Q_X7_isOnOneSide dC dI cI a0 v0_3 v0_4 v0_5 v0_0 v0_1 v0_2 u A) [.ref (a0 0), .int p1, .int p2, .int p3].toArray s 0 0 A) (F0 m 163 ls []) := by
    intro _ hF H locs ls hP hD hS hl
    unfold F_X7_isOnOneSide_j163 at hF
    refine lv_iconst (v := 1) hx hb dX7_isOnOneSide_163 (by decide) ?_
    obtain rfl := Option.some.inj hF
    exact W.zret (v := 1) (ty := .boolean) hx hb hr (z_nar (Or.inr rfl)) (fun t ht hW => ⟨⟨1, (), rfl, ⟨rfl, (Or.inr rfl)⟩, by rw [ht]; exact hP, va_K.moved hW.alike hK, hD⟩, hS.F ht⟩) hS.2.2 dX7_isOnOneSide_164
  have j155 : ∀ (_ : Unit), F_X7_isOnOneSide_j155 = some u → ∀ (H : Heap) (locs : List Loc) (ls : Array Slot), va_P (dC, dI) vwCl (wd_X7_isOnOneSide cI a0 v0_3 v0_4 v0_5 v0_0 v0_1 v0_2) H → va_D A (wd_X7_isOnOneSide cI a0 v0_3 v0_4 v0_5 v0_0 v0_1 v0_2) → va_S A s.heap H locs → lv_has ls 15 [] → W p l e (headSpec wz_X7_isOnOneSide rm_X7_isOnOneSide).room s m [.ref (a0 0), .int p1, .int p2, .int p3].toArray below meth c H locs 0 0 (MQ below (Q_X7_isOnOneSide dC dI cI a0 v0_3 v0_4 v0_5 v0_0 v0_1 v0_2 u A) [.ref (a0 0), .int p1, .int p2, .int p3].toArray s 0 0 A) (F0 m 155 ls []) := by
    intro _ hF H locs ls hP hD hS hl
    unfold F_X7_isOnOneSide_j155 at hF
    refine lv_iconst (v := 0) hx hb dX7_isOnOneSide_155 (by decide) ?_
    obtain rfl := Option.some.inj hF
    exact W.zret (v := 0) (ty := .boolean) hx hb hr (z_nar (Or.inl rfl)) (fun t ht hW => ⟨⟨0, (), rfl, ⟨rfl, (Or.inl rfl)⟩, by rw [ht]; exact hP, va_K.moved hW.alike hK, hD⟩, hS.F ht⟩) hS.2.2 dX7_isOnOneSide_156
  have j16 : ∀ (x1 : Int32) (x2 : Int32) (x3 : Int32) (x4 : Int32) (x5 : Int32) (x6 : Int32) (x7 : Int32), F_X7_isOnOneSide_j16 n v0_1 v0_2 x1 x2 x3 x4 x5 x6 x7 = some u → ∀ (H : Heap) (locs : List Loc) (ls : Array Slot), va_P (dC, dI) vwCl (wd_X7_isOnOneSide cI a0 v0_3 v0_4 v0_5 v0_0 v0_1 v0_2) H → va_D A (wd_X7_isOnOneSide cI a0 v0_3 v0_4 v0_5 v0_0 v0_1 v0_2) → va_S A s.heap H locs → lv_has ls 15 [(0, .ref (a0 0)), (1, .int x1), (2, .int x2), (3, .int x3), (4, .int x4), (5, .int x5), (6, .int x6), (7, .int x7)] → W p l e (headSpec wz_X7_isOnOneSide rm_X7_isOnOneSide).room s m [.ref (a0 0), .int p1, .int p2, .int p3].toArray below meth c H locs 0 0 (MQ below (Q_X7_isOnOneSide dC dI cI a0 v0_3 v0_4 v0_5 v0_0 v0_1 v0_2 u A) [.ref (a0 0), .int p1, .int p2, .int p3].toArray s 0 0 A) (F0 m 16 ls []) := by
    intro x1 x2 x3 x4 x5 x6 x7 hF H locs ls hP hD hS hl
    unfold F_X7_isOnOneSide_j16 at hF
    obtain ⟨x_16, hL_16, hE_16⟩ := obd_some hF
    have kl_16 : ∀ (k : Nat) (s16 : Int32 × Int32 × Int32), lpq (F_X7_isOnOneSide_b16 v0_1 v0_2 x1 x2 x3 x6) k s16 = some x_16 → ∀ (H : Heap) (locs : List Loc) (ls : Array Slot), va_P (dC, dI) vwCl (wd_X7_isOnOneSide cI a0 v0_3 v0_4 v0_5 v0_0 v0_1 v0_2) H → va_D A (wd_X7_isOnOneSide cI a0 v0_3 v0_4 v0_5 v0_0 v0_1 v0_2) → va_S A s.heap H locs → lv_has ls 15 [(0, .ref (a0 0)), (1, .int x1), (2, .int x2), (3, .int x3), (4, .int s16.1), (5, .int s16.2.1), (6, .int x6), (7, .int s16.2.2)] → W p l e (headSpec wz_X7_isOnOneSide rm_X7_isOnOneSide).room s m [.ref (a0 0), .int p1, .int p2, .int p3].toArray below meth c H locs 0 0 (MQ below (Q_X7_isOnOneSide dC dI cI a0 v0_3 v0_4 v0_5 v0_0 v0_1 v0_2 u A) [.ref (a0 0), .int p1, .int p2, .int p3].toArray s 0 0 A) (F0 m 16 ls []) := by
      intro k
      induction k with
      | zero => intro s16 h; exact absurd h lpq_zero
      | succ k ih_16 =>
        intro s16 h H locs ls hP hD hS hl
        obtain ⟨o_16, hF, hO_16⟩ := lpq_succ h
        unfold F_X7_isOnOneSide_b16 at hF
        have j157 : ∀ (x4 : Int32) (x5 : Int32) (x7 : Int32), F_X7_isOnOneSide_j157 x4 x5 x7 = some o_16 → ∀ (H : Heap) (locs : List Loc) (ls : Array Slot), va_P (dC, dI) vwCl (wd_X7_isOnOneSide cI a0 v0_3 v0_4 v0_5 v0_0 v0_1 v0_2) H → va_D A (wd_X7_isOnOneSide cI a0 v0_3 v0_4 v0_5 v0_0 v0_1 v0_2) → va_S A s.heap H locs → lv_has ls 15 [(0, .ref (a0 0)), (1, .int x1), (2, .int x2), (3, .int x3), (4, .int x4), (5, .int x5), (6, .int x6), (7, .int x7)] → W p l e (headSpec wz_X7_isOnOneSide rm_X7_isOnOneSide).room s m [.ref (a0 0), .int p1, .int p2, .int p3].toArray below meth c H locs 0 0 (MQ below (Q_X7_isOnOneSide dC dI cI a0 v0_3 v0_4 v0_5 v0_0 v0_1 v0_2 u A) [.ref (a0 0), .int p1, .int p2, .int p3].toArray s 0 0 A) (F0 m 157 ls []) := by
          intro x4 x5 x7 hF H locs ls hP hD hS hl
          unfold F_X7_isOnOneSide_j157 at hF
          obtain ⟨y_1, ey_1, hF⟩ := lt_some hF
          refine lv_iinc (v := y_1) (lv' := [(7, .int y_1), (0, .ref (a0 0)), (1, .int x1), (2, .int x2), (3, .int x3), (4, .int x4), (5, .int x5), (6, .int x6)]) hx hb dX7_isOnOneSide_157 hl (k := 7) rfl (by rw [ey_1]; rfl) (by decide) rfl (fun ls hl => ?_)
          refine lv_goto (tgt := 16) hx hb dX7_isOnOneSide_160 (by decide) ?_
          obtain rfl := Option.some.inj hF
          exact ih_16 _ hO_16 _ _ _ hP hD hS (lv_sub hl [1, 2, 3, 4, 5, 6, 7, 0] rfl)
        have j143 : ∀ (x4 : Int32) (x7 : Int32) (t0 : Int32), F_X7_isOnOneSide_j143 x4 x7 t0 = some o_16 → ∀ (H : Heap) (locs : List Loc) (ls : Array Slot), va_P (dC, dI) vwCl (wd_X7_isOnOneSide cI a0 v0_3 v0_4 v0_5 v0_0 v0_1 v0_2) H → va_D A (wd_X7_isOnOneSide cI a0 v0_3 v0_4 v0_5 v0_0 v0_1 v0_2) → va_S A s.heap H locs → lv_has ls 15 [(0, .ref (a0 0)), (1, .int x1), (2, .int x2), (3, .int x3), (4, .int x4), (6, .int x6), (7, .int x7)] → W p l e (headSpec wz_X7_isOnOneSide rm_X7_isOnOneSide).room s m [.ref (a0 0), .int p1, .int p2, .int p3].toArray below meth c H locs 0 0 (MQ below (Q_X7_isOnOneSide dC dI cI a0 v0_3 v0_4 v0_5 v0_0 v0_1 v0_2 u A) [.ref (a0 0), .int p1, .int p2, .int p3].toArray s 0 0 A) (F0 m 143 ls [.int t0]) := by
          intro x4 x7 t0 hF H locs ls hP hD hS hl
          unfold F_X7_isOnOneSide_j143 at hF
          refine lv_istore (lv' := [(5, .int t0), (0, .ref (a0 0)), (1, .int x1), (2, .int x2), (3, .int x3), (4, .int x4), (6, .int x6), (7, .int x7)]) hx hb dX7_isOnOneSide_143 hl (by decide) rfl (fun ls hl => ?_)
          refine lv_iload hx hb dX7_isOnOneSide_145 (lv_at hl 5 rfl) ?_
          refine lv_if_eq (tgt := 157) hx hb dX7_isOnOneSide_147 (by decide) (fun c_2 => ?_) (fun c_2 => ?_)
          · have hF := it_t hF c_2
            exact j157 x4 t0 x7 hF _ _ _ hP hD hS (lv_sub hl [1, 2, 3, 4, 5, 0, 6, 7] rfl)
          · have hF := it_f hF c_2
            refine lv_iload hx hb dX7_isOnOneSide_150 (lv_at hl 0 rfl) ?_
            refine lv_if_eq (tgt := 157) hx hb dX7_isOnOneSide_152 (by decide) (fun c_3 => ?_) (fun c_3 => ?_)
            · have hF := it_t hF c_3
              exact j157 x4 t0 x7 hF _ _ _ hP hD hS (lv_sub hl [1, 2, 3, 4, 5, 0, 6, 7] rfl)
            · have hF := it_f hF c_3
              obtain rfl := Option.some.inj hF
              obtain rfl := lpq_x hO_16
              have hF := hE_16
              have hF := el_l hF
              exact j155 () hF _ _ _ hP hD hS (lv_sub hl [] rfl)
        have j138 : ∀ (x4 : Int32) (x7 : Int32), F_X7_isOnOneSide_j138 x4 x7 = some o_16 → ∀ (H : Heap) (locs : List Loc) (ls : Array Slot), va_P (dC, dI) vwCl (wd_X7_isOnOneSide cI a0 v0_3 v0_4 v0_5 v0_0 v0_1 v0_2) H → va_D A (wd_X7_isOnOneSide cI a0 v0_3 v0_4 v0_5 v0_0 v0_1 v0_2) → va_S A s.heap H locs → lv_has ls 15 [(0, .ref (a0 0)), (1, .int x1), (2, .int x2), (3, .int x3), (4, .int x4), (6, .int x6), (7, .int x7)] → W p l e (headSpec wz_X7_isOnOneSide rm_X7_isOnOneSide).room s m [.ref (a0 0), .int p1, .int p2, .int p3].toArray below meth c H locs 0 0 (MQ below (Q_X7_isOnOneSide dC dI cI a0 v0_3 v0_4 v0_5 v0_0 v0_1 v0_2 u A) [.ref (a0 0), .int p1, .int p2, .int p3].toArray s 0 0 A) (F0 m 138 ls []) := by
          intro x4 x7 hF H locs ls hP hD hS hl
          unfold F_X7_isOnOneSide_j138 at hF
          refine lv_iconst (v := 1) hx hb dX7_isOnOneSide_138 (by decide) ?_
          refine lv_goto (tgt := 143) hx hb dX7_isOnOneSide_139 (by decide) ?_
          exact j143 x4 x7 1 hF _ _ _ hP hD hS (lv_sub hl [0, 1, 2, 3, 4, 5, 6] rfl)
        have j124 : ∀ (x5 : Int32) (x7 : Int32) (x13 : Int64) (t0 : Int32), F_X7_isOnOneSide_j124 x5 x7 x13 t0 = some o_16 → ∀ (H : Heap) (locs : List Loc) (ls : Array Slot), va_P (dC, dI) vwCl (wd_X7_isOnOneSide cI a0 v0_3 v0_4 v0_5 v0_0 v0_1 v0_2) H → va_D A (wd_X7_isOnOneSide cI a0 v0_3 v0_4 v0_5 v0_0 v0_1 v0_2) → va_S A s.heap H locs → lv_has ls 15 [(0, .ref (a0 0)), (1, .int x1), (2, .int x2), (3, .int x3), (5, .int x5), (6, .int x6), (7, .int x7), (13, .long x13)] → W p l e (headSpec wz_X7_isOnOneSide rm_X7_isOnOneSide).room s m [.ref (a0 0), .int p1, .int p2, .int p3].toArray below meth c H locs 0 0 (MQ below (Q_X7_isOnOneSide dC dI cI a0 v0_3 v0_4 v0_5 v0_0 v0_1 v0_2 u A) [.ref (a0 0), .int p1, .int p2, .int p3].toArray s 0 0 A) (F0 m 124 ls [.int t0]) := by
          intro x5 x7 x13 t0 hF H locs ls hP hD hS hl
          unfold F_X7_isOnOneSide_j124 at hF
          refine lv_istore (lv' := [(4, .int t0), (0, .ref (a0 0)), (1, .int x1), (2, .int x2), (3, .int x3), (5, .int x5), (6, .int x6), (7, .int x7), (13, .long x13)]) hx hb dX7_isOnOneSide_124 hl (by decide) rfl (fun ls hl => ?_)
          refine lv_iload hx hb dX7_isOnOneSide_126 (lv_at hl 5 rfl) ?_
          refine lv_if_ne (tgt := 138) hx hb dX7_isOnOneSide_128 (by decide) (fun c_4 => ?_) (fun c_4 => ?_)
          · have hF := it_f hF c_4
            exact j138 t0 x7 hF _ _ _ hP hD hS (lv_sub hl [1, 2, 3, 4, 0, 6, 7] rfl)
          · have hF := it_t hF c_4
            refine lv_lload hx hb dX7_isOnOneSide_131 (lv_at hl 8 rfl) ?_
            refine lv_lconst (v := 0) hx hb dX7_isOnOneSide_133 (by decide) ?_
            refine W.lcmp hx hb dX7_isOnOneSide_134 ?_
            refine lv_if_ge (tgt := 142) hx hb dX7_isOnOneSide_135 (by decide) (fun c_5 => ?_) (fun c_5 => ?_)
            · have hF := it_t hF c_5
              refine lv_iconst (v := 0) hx hb dX7_isOnOneSide_142 (by decide) ?_
              exact j143 t0 x7 0 hF _ _ _ hP hD hS (lv_sub hl [1, 2, 3, 4, 0, 6, 7] rfl)
            · have hF := it_f hF c_5
              exact j138 t0 x7 hF _ _ _ hP hD hS (lv_sub hl [1, 2, 3, 4, 0, 6, 7] rfl)
        have j119 : ∀ (x5 : Int32) (x7 : Int32) (x13 : Int64), F_X7_isOnOneSide_j119 x5 x7 x13 = some o_16 → ∀ (H : Heap) (locs : List Loc) (ls : Array Slot), va_P (dC, dI) vwCl (wd_X7_isOnOneSide cI a0 v0_3 v0_4 v0_5 v0_0 v0_1 v0_2) H → va_D A (wd_X7_isOnOneSide cI a0 v0_3 v0_4 v0_5 v0_0 v0_1 v0_2) → va_S A s.heap H locs → lv_has ls 15 [(0, .ref (a0 0)), (1, .int x1), (2, .int x2), (3, .int x3), (5, .int x5), (6, .int x6), (7, .int x7), (13, .long x13)] → W p l e (headSpec wz_X7_isOnOneSide rm_X7_isOnOneSide).room s m [.ref (a0 0), .int p1, .int p2, .int p3].toArray below meth c H locs 0 0 (MQ below (Q_X7_isOnOneSide dC dI cI a0 v0_3 v0_4 v0_5 v0_0 v0_1 v0_2 u A) [.ref (a0 0), .int p1, .int p2, .int p3].toArray s 0 0 A) (F0 m 119 ls []) := by
          intro x5 x7 x13 hF H locs ls hP hD hS hl
          unfold F_X7_isOnOneSide_j119 at hF
          refine lv_iconst (v := 1) hx hb dX7_isOnOneSide_119 (by decide) ?_
          refine lv_goto (tgt := 124) hx hb dX7_isOnOneSide_120 (by decide) ?_
          exact j124 x5 x7 x13 1 hF _ _ _ hP hD hS (lv_sub hl [0, 1, 2, 3, 4, 5, 6, 7] rfl)
        have j40 : ∀ (x4 : Int32) (x5 : Int32) (x7 : Int32) (t0 : Int32), F_X7_isOnOneSide_j40 v0_1 v0_2 x1 x2 x3 x4 x5 x7 t0 = some o_16 → ∀ (H : Heap) (locs : List Loc) (ls : Array Slot), va_P (dC, dI) vwCl (wd_X7_isOnOneSide cI a0 v0_3 v0_4 v0_5 v0_0 v0_1 v0_2) H → va_D A (wd_X7_isOnOneSide cI a0 v0_3 v0_4 v0_5 v0_0 v0_1 v0_2) → va_S A s.heap H locs → lv_has ls 15 [(0, .ref (a0 0)), (1, .int x1), (2, .int x2), (3, .int x3), (4, .int x4), (5, .int x5), (6, .int x6), (7, .int x7)] → W p l e (headSpec wz_X7_isOnOneSide rm_X7_isOnOneSide).room s m [.ref (a0 0), .int p1, .int p2, .int p3].toArray below meth c H locs 0 0 (MQ below (Q_X7_isOnOneSide dC dI cI a0 v0_3 v0_4 v0_5 v0_0 v0_1 v0_2 u A) [.ref (a0 0), .int p1, .int p2, .int p3].toArray s 0 0 A) (F0 m 40 ls [.int t0]) := by
          intro x4 x5 x7 t0 hF H locs ls hP hD hS hl
          unfold F_X7_isOnOneSide_j40 at hF
          refine lv_istore (lv' := [(8, .int t0), (0, .ref (a0 0)), (1, .int x1), (2, .int x2), (3, .int x3), (4, .int x4), (5, .int x5), (6, .int x6), (7, .int x7)]) hx hb dX7_isOnOneSide_40 hl (by decide) rfl (fun ls hl => ?_)
          refine lv_aload_n hx hb dX7_isOnOneSide_42 rfl (lv_at hl 1 rfl) ?_
          refine lv_iload_n hx hb dX7_isOnOneSide_43 rfl (lv_at hl 2 rfl) ?_
          refine lv_iload hx hb dX7_isOnOneSide_44 (lv_at hl 0 rfl) ?_
          obtain ⟨u_6, hu_6, hF⟩ := obd_some hF
          have hPc := hP.sub (ws' := (wd_X7_cornerX cI a0 v0_3 v0_4 v0_5 v0_1)) [0, 2] rfl
          have hDc := hD.sub (ws' := (wd_X7_cornerX cI a0 v0_3 v0_4 v0_5 v0_1)) [0, 2] rfl rfl
          refine q_calli (wc := (wd_X7_cornerX cI a0 v0_3 v0_4 v0_5 v0_1)) (w1 := (wd_X7_cornerX cI a0 v0_3 v0_4 v0_5 v0_1)) (ws' := (wd_X7_isOnOneSide cI a0 v0_3 v0_4 v0_5 v0_0 v0_1 v0_2)) hP hD hS hA [0, 2] [1, 3] [2, 0, 3, 1] rfl rfl rfl (by decide) rfl rfl (va_runV (As := [.int x1, .int t0]) (rest := []) ⟨hx, hb, hml, hown, hta⟩ (c_X7_cornerX l dC dI cI H.size a0 v0_3 v0_4 v0_5 v0_1 x1 t0 u_6 hu_6) (cwV 2 hta (ga_V mA591 mA592 mA593 mA60 mA594) rfl rfl rfl (by decide +kernel) ⟨Nat.le_of_ble_eq_true rfl, Nat.le_of_ble_eq_true rfl⟩) ⟨q_fb, va_recv hK hP (ci := 6) (q0 := 0) rfl rfl, q_ps hPc hK hDc⟩ rfl rfl hl.1 rfl (lv_room (Nat.le_of_ble_eq_true rfl)) dX7_isOnOneSide_46 ⟨Nat.zero_le _, Nat.zero_le _⟩) (fun H locs hP hD hS => ?_)
          refine lv_aload_n hx hb dX7_isOnOneSide_49 rfl (lv_at hl 1 rfl) ?_
          refine lv_iload_n hx hb dX7_isOnOneSide_50 rfl (lv_at hl 2 rfl) ?_
          refine lv_iload hx hb dX7_isOnOneSide_51 (lv_at hl 8 rfl) ?_
          obtain ⟨u_7, hu_7, hF⟩ := obd_some hF
          have hPc := hP.sub (ws' := (wd_X7_cornerX cI a0 v0_3 v0_4 v0_5 v0_1)) [0, 2] rfl
          have hDc := hD.sub (ws' := (wd_X7_cornerX cI a0 v0_3 v0_4 v0_5 v0_1)) [0, 2] rfl rfl
          refine q_calli (wc := (wd_X7_cornerX cI a0 v0_3 v0_4 v0_5 v0_1)) (w1 := (wd_X7_cornerX cI a0 v0_3 v0_4 v0_5 v0_1)) (ws' := (wd_X7_isOnOneSide cI a0 v0_3 v0_4 v0_5 v0_0 v0_1 v0_2)) hP hD hS hA [0, 2] [1, 3] [2, 0, 3, 1] rfl rfl rfl (by decide) rfl rfl (va_runV (As := [.int x1, .int x7]) (rest := [.int u_6]) ⟨hx, hb, hml, hown, hta⟩ (c_X7_cornerX l dC dI cI H.size a0 v0_3 v0_4 v0_5 v0_1 x1 x7 u_7 hu_7) (cwV 2 hta (ga_V mA591 mA592 mA593 mA60 mA594) rfl rfl rfl (by decide +kernel) ⟨Nat.le_of_ble_eq_true rfl, Nat.le_of_ble_eq_true rfl⟩) ⟨q_fb, va_recv hK hP (ci := 6) (q0 := 0) rfl rfl, q_ps hPc hK hDc⟩ rfl rfl hl.1 rfl (lv_room (Nat.le_of_ble_eq_true rfl)) dX7_isOnOneSide_53 ⟨Nat.zero_le _, Nat.zero_le _⟩) (fun H locs hP hD hS => ?_)
          refine lv_isub hx hb dX7_isOnOneSide_56 ?_
          refine lv_i2l hx hb dX7_isOnOneSide_57 rfl ?_
          obtain ⟨y_8, ey_8, hF⟩ := lt_some hF
          refine lv_eql ey_8 ?_
          refine lv_lstore (lv' := [(9, .long y_8), (8, .int t0), (0, .ref (a0 0)), (1, .int x1), (2, .int x2), (3, .int x3), (4, .int x4), (5, .int x5), (6, .int x6), (7, .int x7)]) hx hb dX7_isOnOneSide_58 hl (by decide) rfl (fun ls hl => ?_)
          refine lv_aload_n hx hb dX7_isOnOneSide_60 rfl (lv_at hl 2 rfl) ?_
          refine lv_iload_n hx hb dX7_isOnOneSide_61 rfl (lv_at hl 3 rfl) ?_
          refine lv_iload hx hb dX7_isOnOneSide_62 (lv_at hl 1 rfl) ?_
          obtain ⟨u_9, hu_9, hF⟩ := obd_some hF
          have hPc := hP.sub (ws' := (wd_X7_cornerY cI a0 v0_3 v0_4 v0_5 v0_2)) [0, 3] rfl
          have hDc := hD.sub (ws' := (wd_X7_cornerY cI a0 v0_3 v0_4 v0_5 v0_2)) [0, 3] rfl rfl
          refine q_calli (wc := (wd_X7_cornerY cI a0 v0_3 v0_4 v0_5 v0_2)) (w1 := (wd_X7_cornerY cI a0 v0_3 v0_4 v0_5 v0_2)) (ws' := (wd_X7_isOnOneSide cI a0 v0_3 v0_4 v0_5 v0_0 v0_1 v0_2)) hP hD hS hA [0, 3] [1, 2] [2, 0, 1, 3] rfl rfl rfl (by decide) rfl rfl (va_runV (As := [.int x1, .int t0]) (rest := []) ⟨hx, hb, hml, hown, hta⟩ (c_X7_cornerY l dC dI cI H.size a0 v0_3 v0_4 v0_5 v0_2 x1 t0 u_9 hu_9) (cwV 2 hta (ga_V mA595 mA596 mA597 mA60 mA598) rfl rfl rfl (by decide +kernel) ⟨Nat.le_of_ble_eq_true rfl, Nat.le_of_ble_eq_true rfl⟩) ⟨q_fb, va_recv hK hP (ci := 6) (q0 := 0) rfl rfl, q_ps hPc hK hDc⟩ rfl rfl hl.1 rfl (lv_room (Nat.le_of_ble_eq_true rfl)) dX7_isOnOneSide_64 ⟨Nat.zero_le _, Nat.zero_le _⟩) (fun H locs hP hD hS => ?_)
          refine lv_aload_n hx hb dX7_isOnOneSide_67 rfl (lv_at hl 2 rfl) ?_
          refine lv_iload_n hx hb dX7_isOnOneSide_68 rfl (lv_at hl 3 rfl) ?_
          refine lv_iload hx hb dX7_isOnOneSide_69 (lv_at hl 9 rfl) ?_
          obtain ⟨u_10, hu_10, hF⟩ := obd_some hF
          have hPc := hP.sub (ws' := (wd_X7_cornerY cI a0 v0_3 v0_4 v0_5 v0_2)) [0, 3] rfl
          have hDc := hD.sub (ws' := (wd_X7_cornerY cI a0 v0_3 v0_4 v0_5 v0_2)) [0, 3] rfl rfl
          refine q_calli (wc := (wd_X7_cornerY cI a0 v0_3 v0_4 v0_5 v0_2)) (w1 := (wd_X7_cornerY cI a0 v0_3 v0_4 v0_5 v0_2)) (ws' := (wd_X7_isOnOneSide cI a0 v0_3 v0_4 v0_5 v0_0 v0_1 v0_2)) hP hD hS hA [0, 3] [1, 2] [2, 0, 1, 3] rfl rfl rfl (by decide) rfl rfl (va_runV (As := [.int x1, .int x7]) (rest := [.int u_9]) ⟨hx, hb, hml, hown, hta⟩ (c_X7_cornerY l dC dI cI H.size a0 v0_3 v0_4 v0_5 v0_2 x1 x7 u_10 hu_10) (cwV 2 hta (ga_V mA595 mA596 mA597 mA60 mA598) rfl rfl rfl (by decide +kernel) ⟨Nat.le_of_ble_eq_true rfl, Nat.le_of_ble_eq_true rfl⟩) ⟨q_fb, va_recv hK hP (ci := 6) (q0 := 0) rfl rfl, q_ps hPc hK hDc⟩ rfl rfl hl.1 rfl (lv_room (Nat.le_of_ble_eq_true rfl)) dX7_isOnOneSide_71 ⟨Nat.zero_le _, Nat.zero_le _⟩) (fun H locs hP hD hS => ?_)
          refine lv_isub hx hb dX7_isOnOneSide_74 ?_
          refine lv_i2l hx hb dX7_isOnOneSide_75 rfl ?_
          obtain ⟨y_11, ey_11, hF⟩ := lt_some hF
          refine lv_eql ey_11 ?_
          refine lv_lstore (lv' := [(11, .long y_11), (9, .long y_8), (8, .int t0), (0, .ref (a0 0)), (1, .int x1), (2, .int x2), (3, .int x3), (4, .int x4), (5, .int x5), (6, .int x6), (7, .int x7)]) hx hb dX7_isOnOneSide_76 hl (by decide) rfl (fun ls hl => ?_)
          refine lv_lload hx hb dX7_isOnOneSide_78 (lv_at hl 1 rfl) ?_
          refine lv_iload_n hx hb dX7_isOnOneSide_80 rfl (lv_at hl 6 rfl) ?_
          refine lv_aload_n hx hb dX7_isOnOneSide_81 rfl (lv_at hl 3 rfl) ?_
          refine lv_iload_n hx hb dX7_isOnOneSide_82 rfl (lv_at hl 4 rfl) ?_
          refine lv_iload hx hb dX7_isOnOneSide_83 (lv_at hl 10 rfl) ?_
          obtain ⟨u_12, hu_12, hF⟩ := obd_some hF
          have hPc := hP.sub (ws' := (wd_X7_cornerY cI a0 v0_3 v0_4 v0_5 v0_2)) [0, 3] rfl
          have hDc := hD.sub (ws' := (wd_X7_cornerY cI a0 v0_3 v0_4 v0_5 v0_2)) [0, 3] rfl rfl
          refine q_calli (wc := (wd_X7_cornerY cI a0 v0_3 v0_4 v0_5 v0_2)) (w1 := (wd_X7_cornerY cI a0 v0_3 v0_4 v0_5 v0_2)) (ws' := (wd_X7_isOnOneSide cI a0 v0_3 v0_4 v0_5 v0_0 v0_1 v0_2)) hP hD hS hA [0, 3] [1, 2] [2, 0, 1, 3] rfl rfl rfl (by decide) rfl rfl (va_runV (As := [.int x1, .int x7]) (rest := [.int x3, .long y_8]) ⟨hx, hb, hml, hown, hta⟩ (c_X7_cornerY l dC dI cI H.size a0 v0_3 v0_4 v0_5 v0_2 x1 x7 u_12 hu_12) (cwV 2 hta (ga_V mA595 mA596 mA597 mA60 mA598) rfl rfl rfl (by decide +kernel) ⟨Nat.le_of_ble_eq_true rfl, Nat.le_of_ble_eq_true rfl⟩) ⟨q_fb, va_recv hK hP (ci := 6) (q0 := 0) rfl rfl, q_ps hPc hK hDc⟩ rfl rfl hl.1 rfl (lv_room (Nat.le_of_ble_eq_true rfl)) dX7_isOnOneSide_85 ⟨Nat.zero_le _, Nat.zero_le _⟩) (fun H locs hP hD hS => ?_)
          refine lv_isub hx hb dX7_isOnOneSide_88 ?_
          refine lv_i2l hx hb dX7_isOnOneSide_89 rfl ?_
          refine lv_lmul hx hb dX7_isOnOneSide_90 ?_
          refine lv_lload hx hb dX7_isOnOneSide_91 (lv_at hl 0 rfl) ?_
          refine lv_iload_n hx hb dX7_isOnOneSide_93 rfl (lv_at hl 5 rfl) ?_
          refine lv_aload_n hx hb dX7_isOnOneSide_94 rfl (lv_at hl 3 rfl) ?_
          refine lv_iload_n hx hb dX7_isOnOneSide_95 rfl (lv_at hl 4 rfl) ?_
          refine lv_iload hx hb dX7_isOnOneSide_96 (lv_at hl 10 rfl) ?_
          obtain ⟨u_13, hu_13, hF⟩ := obd_some hF
          have hPc := hP.sub (ws' := (wd_X7_cornerX cI a0 v0_3 v0_4 v0_5 v0_1)) [0, 2] rfl
          have hDc := hD.sub (ws' := (wd_X7_cornerX cI a0 v0_3 v0_4 v0_5 v0_1)) [0, 2] rfl rfl
          refine q_calli (wc := (wd_X7_cornerX cI a0 v0_3 v0_4 v0_5 v0_1)) (w1 := (wd_X7_cornerX cI a0 v0_3 v0_4 v0_5 v0_1)) (ws' := (wd_X7_isOnOneSide cI a0 v0_3 v0_4 v0_5 v0_0 v0_1 v0_2)) hP hD hS hA [0, 2] [1, 3] [2, 0, 3, 1] rfl rfl rfl (by decide) rfl rfl (va_runV (As := [.int x1, .int x7]) (rest := [.int x2, .long y_11, .long (y_8 * (x3 - u_12).toInt64)]) ⟨hx, hb, hml, hown, hta⟩ (c_X7_cornerX l dC dI cI H.size a0 v0_3 v0_4 v0_5 v0_1 x1 x7 u_13 hu_13) (cwV 2 hta (ga_V mA591 mA592 mA593 mA60 mA594) rfl rfl rfl (by decide +kernel) ⟨Nat.le_of_ble_eq_true rfl, Nat.le_of_ble_eq_true rfl⟩) ⟨q_fb, va_recv hK hP (ci := 6) (q0 := 0) rfl rfl, q_ps hPc hK hDc⟩ rfl rfl hl.1 rfl (lv_room (Nat.le_of_ble_eq_true rfl)) dX7_isOnOneSide_98 ⟨Nat.zero_le _, Nat.zero_le _⟩) (fun H locs hP hD hS => ?_)
          refine lv_isub hx hb dX7_isOnOneSide_101 ?_
          refine lv_i2l hx hb dX7_isOnOneSide_102 rfl ?_
          refine lv_lmul hx hb dX7_isOnOneSide_103 ?_
          refine lv_lsub hx hb dX7_isOnOneSide_104 ?_
          obtain ⟨y_14, ey_14, hF⟩ := lt_some hF
          refine lv_eql ey_14 ?_
          refine lv_lstore (lv' := [(13, .long y_14), (11, .long y_11), (9, .long y_8), (8, .int t0), (0, .ref (a0 0)), (1, .int x1), (2, .int x2), (3, .int x3), (4, .int x4), (5, .int x5), (6, .int x6), (7, .int x7)]) hx hb dX7_isOnOneSide_105 hl (by decide) rfl (fun ls hl => ?_)
          refine lv_iload hx hb dX7_isOnOneSide_107 (lv_at hl 8 rfl) ?_
          refine lv_if_ne (tgt := 119) hx hb dX7_isOnOneSide_109 (by decide) (fun c_15 => ?_) (fun c_15 => ?_)
          · have hF := it_f hF c_15
            exact j119 x5 x7 y_14 hF _ _ _ hP hD hS (lv_sub hl [4, 5, 6, 7, 9, 10, 11, 0] rfl)
          · have hF := it_t hF c_15
            refine lv_lload hx hb dX7_isOnOneSide_112 (lv_at hl 0 rfl) ?_
            refine lv_lconst (v := 0) hx hb dX7_isOnOneSide_114 (by decide) ?_
            refine W.lcmp hx hb dX7_isOnOneSide_115 ?_
            refine lv_if_le (tgt := 123) hx hb dX7_isOnOneSide_116 (by decide) (fun c_16 => ?_) (fun c_16 => ?_)
            · have hF := it_t hF c_16
              refine lv_iconst (v := 0) hx hb dX7_isOnOneSide_123 (by decide) ?_
              exact j124 x5 x7 y_14 0 hF _ _ _ hP hD hS (lv_sub hl [4, 5, 6, 7, 9, 10, 11, 0] rfl)
            · have hF := it_f hF c_16
              exact j119 x5 x7 y_14 hF _ _ _ hP hD hS (lv_sub hl [4, 5, 6, 7, 9, 10, 11, 0] rfl)
        refine lv_iload hx hb dX7_isOnOneSide_16 (lv_at hl 7 rfl) ?_
        refine lv_iload hx hb dX7_isOnOneSide_18 (lv_at hl 6 rfl) ?_
        refine lv_icmp_ge (tgt := 163) hx hb dX7_isOnOneSide_20 (by decide) (fun c_17 => ?_) (fun c_17 => ?_)
        · have hF := it_t hF c_17
          obtain rfl := Option.some.inj hF
          obtain rfl := lpq_x hO_16
          have hF := hE_16
          have hF := el_r hF
          exact j163 () hF _ _ _ hP hD hS (lv_sub hl [] rfl)
        · have hF := it_f hF c_17
          refine lv_iload hx hb dX7_isOnOneSide_23 (lv_at hl 7 rfl) ?_
          refine lv_iconst (v := 1) hx hb dX7_isOnOneSide_25 (by decide) ?_
          refine lv_iadd hx hb dX7_isOnOneSide_26 ?_
          refine lv_iload hx hb dX7_isOnOneSide_27 (lv_at hl 6 rfl) ?_
          refine lv_icmp_ge (tgt := 39) hx hb dX7_isOnOneSide_29 (by decide) (fun c_18 => ?_) (fun c_18 => ?_)
          · have hF := it_t hF c_18
            refine lv_iconst (v := 0) hx hb dX7_isOnOneSide_39 (by decide) ?_
            exact j40 s16.1 s16.2.1 s16.2.2 0 hF _ _ _ hP hD hS (lv_sub hl [0, 1, 2, 3, 4, 5, 6, 7] rfl)
          · have hF := it_f hF c_18
            refine lv_iload hx hb dX7_isOnOneSide_32 (lv_at hl 7 rfl) ?_
            refine lv_iconst (v := 1) hx hb dX7_isOnOneSide_34 (by decide) ?_
            refine lv_iadd hx hb dX7_isOnOneSide_35 ?_
            refine lv_goto (tgt := 40) hx hb dX7_isOnOneSide_36 (by decide) ?_
            exact j40 s16.1 s16.2.1 s16.2.2 (s16.2.2 + 1) hF _ _ _ hP hD hS (lv_sub hl [0, 1, 2, 3, 4, 5, 6, 7] rfl)
    exact kl_16 n _ hL_16 _ _ _ hP hD hS hl
  refine lv_iconst (v := 0) hx hb dX7_isOnOneSide_0 (by decide) ?_
  refine lv_istore (lv' := [(4, .int 0), (0, .ref (a0 0)), (1, .int p1), (2, .int p2), (3, .int p3)]) hx hb dX7_isOnOneSide_1 hl (by decide) rfl (fun ls hl => ?_)
  refine lv_iconst (v := 0) hx hb dX7_isOnOneSide_3 (by decide) ?_
  refine lv_istore (lv' := [(5, .int 0), (4, .int 0), (0, .ref (a0 0)), (1, .int p1), (2, .int p2), (3, .int p3)]) hx hb dX7_isOnOneSide_4 hl (by decide) rfl (fun ls hl => ?_)
  refine lv_aload_n hx hb dX7_isOnOneSide_6 rfl (lv_at hl 2 rfl) ?_
  refine lv_iload_n hx hb dX7_isOnOneSide_7 rfl (lv_at hl 3 rfl) ?_
  obtain ⟨u_19, hu_19, hF⟩ := obd_some hF
  have hPc := hP.sub (ws' := (wd_X7_cornerCount cI a0 v0_3 v0_4 v0_5 v0_0)) [0, 1] rfl
  have hDc := hD.sub (ws' := (wd_X7_cornerCount cI a0 v0_3 v0_4 v0_5 v0_0)) [0, 1] rfl rfl
  refine q_calli (wc := (wd_X7_cornerCount cI a0 v0_3 v0_4 v0_5 v0_0)) (w1 := (wd_X7_cornerCount cI a0 v0_3 v0_4 v0_5 v0_0)) (ws' := (wd_X7_isOnOneSide cI a0 v0_3 v0_4 v0_5 v0_0 v0_1 v0_2)) hP hD hS hA [0, 1] [2, 3] [2, 3, 0, 1] rfl rfl rfl (by decide) rfl rfl (va_runV (As := [.int p1]) (rest := []) ⟨hx, hb, hml, hown, hta⟩ (c_X7_cornerCount l dC dI cI H.size a0 v0_3 v0_4 v0_5 v0_0 p1 u_19 hu_19) (cwV 1 hta (ga_V mA590 mA580 mA581 mA60 mA582) rfl rfl rfl (by decide +kernel) ⟨Nat.le_of_ble_eq_true rfl, Nat.le_of_ble_eq_true rfl⟩) ⟨q_fb, va_recv hK hP (ci := 6) (q0 := 0) rfl rfl, q_ps hPc hK hDc⟩ rfl rfl hl.1 rfl (lv_room (Nat.le_of_ble_eq_true rfl)) dX7_isOnOneSide_8 ⟨Nat.zero_le _, Nat.zero_le _⟩) (fun H locs hP hD hS => ?_)
  refine lv_istore (lv' := [(6, .int u_19), (5, .int 0), (4, .int 0), (0, .ref (a0 0)), (1, .int p1), (2, .int p2), (3, .int p3)]) hx hb dX7_isOnOneSide_11 hl (by decide) rfl (fun ls hl => ?_)
  refine lv_iconst (v := 0) hx hb dX7_isOnOneSide_13 (by decide) ?_
  refine lv_istore (lv' := [(7, .int 0), (6, .int u_19), (5, .int 0), (4, .int 0), (0, .ref (a0 0)), (1, .int p1), (2, .int p2), (3, .int p3)]) hx hb dX7_isOnOneSide_14 hl (by decide) rfl (fun ls hl => ?_)
  exact j16 p1 p2 p3 0 0 u_19 0 hF _ _ _ hP hD hS (lv_sub hl [4, 5, 6, 7, 3, 2, 1, 0] rfl)

-- StrokeOutliner$Pieces.isInBox(III)Z
def F_X7_isInBox_j44  : Option (Int32) :=
  some 0
def F_X7_isInBox (n : Nat) (v0_5 : Int32) (v0_0 : Nat → Int32) (v0_1 : Nat → Int32) (v0_2 : Nat → Int32) (p1 : Int32) (p2 : Int32) (p3 : Int32) : Option (Int32) :=
  obd (F_X7_edgeOf n v0_5 v0_0 v0_1 v0_2 p1 0) (fun u_1 => if p2 < u_1 then F_X7_isInBox_j44 else obd (F_X7_edgeOf n v0_5 v0_0 v0_1 v0_2 p1 1) (fun u_3 => if u_3 < p2 then F_X7_isInBox_j44 else obd (F_X7_edgeOf n v0_5 v0_0 v0_1 v0_2 p1 2) (fun u_5 => if p3 < u_5 then F_X7_isInBox_j44 else obd (F_X7_edgeOf n v0_5 v0_0 v0_1 v0_2 p1 3) (fun u_7 => if u_7 < p3 then F_X7_isInBox_j44 else some 1))))
abbrev wd_X7_isInBox (cI : ClassId) (a0 : Nat → Nat) (v0_3 : Int32) (v0_4 : Int32) (v0_5 : Int32) (v0_0 : Nat → Int32) (v0_1 : Nat → Int32) (v0_2 : Nat → Int32) : va_W := [(a0 0, .inr (6, [.ref (a0 1), .ref (a0 2), .ref (a0 3), .int v0_3, .int v0_4, .int v0_5])), (a0 1, .inl (cI, 2800, .inl v0_0)), (a0 2, .inl (cI, 11200, .inl v0_1)), (a0 3, .inl (cI, 11200, .inl v0_2))]
abbrev wz_X7_isInBox : List Cond := .code yX7_isInBox cX7_isInBox 4 (some .boolean) :: wALL
abbrev rm_X7_isInBox : Room := { frames := 3, cells := 0, slots := 0, locals := 69 }
abbrev Q_X7_isInBox (dC : Nat → ClassId) (dI : Nat → Nat → Nat) (cI : ClassId) (a0 : Nat → Nat) (v0_3 : Int32) (v0_4 : Int32) (v0_5 : Int32) (v0_0 : Nat → Int32) (v0_1 : Nat → Int32) (v0_2 : Nat → Int32) (u : (Int32)) (A : Nat → Prop) : Array Value → State → Outcome → State → Prop := va_Qi (fun (r : Int32) (_ : Unit) => r = u ∧ (u = 0 ∨ u = 1)) (fun _ => q_at dC dI cI A (wd_X7_isInBox cI a0 v0_3 v0_4 v0_5 v0_0 v0_1 v0_2)) A
set_option maxHeartbeats 4000000 in
set_option maxRecDepth 100000 in
theorem c_X7_isInBox (l : Launch) (dC : Nat → ClassId) (dI : Nat → Nat → Nat) (cI : ClassId) (sz : Nat) (a0 : Nat → Nat) (v0_3 : Int32) (v0_4 : Int32) (v0_5 : Int32) (v0_0 : Nat → Int32) (v0_1 : Nat → Int32) (v0_2 : Nat → Int32) (p1 : Int32) (p2 : Int32) (p3 : Int32) (n : Nat) (u : (Int32)) (hF : F_X7_isInBox n v0_5 v0_0 v0_1 v0_2 p1 p2 p3 = some u) : Met l yX7_isInBox wz_X7_isInBox rm_X7_isInBox (va_Pc [.ref (a0 0), .int p1, .int p2, .int p3] (q_pre dC dI cI (wd_X7_isInBox cI a0 v0_3 v0_4 v0_5 v0_0 v0_1 v0_2) sz)) (Q_X7_isInBox dC dI cI a0 v0_3 v0_4 v0_5 v0_0 v0_1 v0_2 u (va_A (wd_X7_isInBox cI a0 v0_3 v0_4 v0_5 v0_0 v0_1 v0_2) sz)) 0 0 (va_A (wd_X7_isInBox cI a0 v0_3 v0_4 v0_5 v0_0 v0_1 v0_2) sz) := by
  refine Met.ofW (cc := cX7_isInBox) (maxL := 4) (ret := (some .boolean)) (by decide) rfl ?_
  intro p e s m args below meth c s₁ B hml hv
  obtain ⟨rfl, hsz, hP, hK, hD0⟩ := hv
  have hx := B.exec
  have hb := B.bytes
  have hr := B.returns
  have hts := atoms_spec (ws := wz_X7_isInBox) B.pre
  have hta := wz_tl hts
  have hown : s.vm.findClass RX7 = some m.cls := findClass_of_methodNamed B.named
  have hlocks := B.notSynchronized
  subst hsz
  have hD := hD0.self (sz := s.heap.size)
  generalize hAe : va_A (wd_X7_isInBox cI a0 v0_3 v0_4 v0_5 v0_0 v0_1 v0_2) s.heap.size = A at hD ⊢
  have hA : ∀ q : Nat, s.heap.size ≤ q → A q := fun q h => by rw [← hAe]; exact Or.inr h
  have hS : va_S A s.heap s.heap [] := va_S.rf
  have hP : va_P (dC, dI) vwCl (wd_X7_isInBox cI a0 v0_3 v0_4 v0_5 v0_0 v0_1 v0_2) s.heap := hP
  have hl := lv_entry ([.ref (a0 0), .int p1, .int p2, .int p3]) (n := 4) (Nat.le_of_ble_eq_true rfl)
  rw [lg_entry_eq]
  generalize (lg_sl ([.ref (a0 0), .int p1, .int p2, .int p3]) ++ List.replicate (4 - (lg_sl ([.ref (a0 0), .int p1, .int p2, .int p3])).length) Slot.unset).toArray = ls at hl ⊢
  have hl : lv_has ls 4 [(0, .ref (a0 0)), (1, .int p1), (2, .int p2), (3, .int p3)] := hl
  obtain ⟨H, hHe⟩ : ∃ H, H = s.heap := ⟨_, rfl⟩
  have hS : va_S A s.heap H [] := by rw [hHe]; exact hS
  have hP : va_P (dC, dI) vwCl (wd_X7_isInBox cI a0 v0_3 v0_4 v0_5 v0_0 v0_1 v0_2) H := by rw [hHe]; exact hP
  rw [← hHe]
  unfold F_X7_isInBox at hF
  have j44 : ∀ (_ : Unit), F_X7_isInBox_j44 = some u → ∀ (H : Heap) (locs : List Loc) (ls : Array Slot), va_P (dC, dI) vwCl (wd_X7_isInBox cI a0 v0_3 v0_4 v0_5 v0_0 v0_1 v0_2) H → va_D A (wd_X7_isInBox cI a0 v0_3 v0_4 v0_5 v0_0 v0_1 v0_2) → va_S A s.heap H locs → lv_has ls 4 [] → W p l e (headSpec wz_X7_isInBox rm_X7_isInBox).room s m [.ref (a0 0), .int p1, .int p2, .int p3].toArray below meth c H locs 0 0 (MQ below (Q_X7_isInBox dC dI cI a0 v0_3 v0_4 v0_5 v0_0 v0_1 v0_2 u A) [.ref (a0 0), .int p1, .int p2, .int p3].toArray s 0 0 A) (F0 m 44 ls []) := by
    intro _ hF H locs ls hP hD hS hl
    unfold F_X7_isInBox_j44 at hF
    refine lv_iconst (v := 0) hx hb dX7_isInBox_44 (by decide) ?_
    obtain rfl := Option.some.inj hF
    exact W.zret (v := 0) (ty := .boolean) hx hb hr (z_nar (Or.inl rfl)) (fun t ht hW => ⟨⟨0, (), rfl, ⟨rfl, (Or.inl rfl)⟩, by rw [ht]; exact hP, va_K.moved hW.alike hK, hD⟩, hS.F ht⟩) hS.2.2 dX7_isInBox_45
  refine lv_iload_n hx hb dX7_isInBox_0 rfl (lv_at hl 2 rfl) ?_
  refine lv_aload_n hx hb dX7_isInBox_1 rfl (lv_at hl 0 rfl) ?_
  refine lv_iload_n hx hb dX7_isInBox_2 rfl (lv_at hl 1 rfl) ?_
  refine lv_iconst (v := 0) hx hb dX7_isInBox_3 (by decide) ?_
  obtain ⟨u_1, hu_1, hF⟩ := obd_some hF
  have hPc := hP.sub (ws' := (wd_X7_edgeOf cI a0 v0_3 v0_4 v0_5 v0_0 v0_1 v0_2)) [0, 1, 2, 3] rfl
  have hDc := hD.sub (ws' := (wd_X7_edgeOf cI a0 v0_3 v0_4 v0_5 v0_0 v0_1 v0_2)) [0, 1, 2, 3] rfl rfl
  refine q_calli (wc := (wd_X7_edgeOf cI a0 v0_3 v0_4 v0_5 v0_0 v0_1 v0_2)) (w1 := (wd_X7_edgeOf cI a0 v0_3 v0_4 v0_5 v0_0 v0_1 v0_2)) (ws' := (wd_X7_isInBox cI a0 v0_3 v0_4 v0_5 v0_0 v0_1 v0_2)) hP hD hS hA [0, 1, 2, 3] [] [0, 1, 2, 3] rfl rfl rfl (by decide) rfl rfl (va_runV (As := [.int p1, .int 0]) (rest := [.int p2]) ⟨hx, hb, hml, hown, hta⟩ (c_X7_edgeOf l dC dI cI H.size a0 v0_3 v0_4 v0_5 v0_0 v0_1 v0_2 p1 0 n u_1 hu_1) (cwV 2 hta (ga_V mA609 mA610 mA611 mA60 mA612) rfl rfl rfl (by decide +kernel) ⟨Nat.le_of_ble_eq_true rfl, Nat.le_of_ble_eq_true rfl⟩) ⟨q_fb, va_recv hK hP (ci := 6) (q0 := 0) rfl rfl, q_ps hPc hK hDc⟩ rfl rfl hl.1 rfl (lv_room (Nat.le_of_ble_eq_true rfl)) dX7_isInBox_4 ⟨Nat.zero_le _, Nat.zero_le _⟩) (fun H locs hP hD hS => ?_)
  refine lv_icmp_lt (tgt := 44) hx hb dX7_isInBox_7 (by decide) (fun c_2 => ?_) (fun c_2 => ?_)
  · have hF := it_t hF c_2
    exact j44 () hF _ _ _ hP hD hS (lv_sub hl [] rfl)
  · have hF := it_f hF c_2
    refine lv_iload_n hx hb dX7_isInBox_10 rfl (lv_at hl 2 rfl) ?_
    refine lv_aload_n hx hb dX7_isInBox_11 rfl (lv_at hl 0 rfl) ?_
    refine lv_iload_n hx hb dX7_isInBox_12 rfl (lv_at hl 1 rfl) ?_
    refine lv_iconst (v := 1) hx hb dX7_isInBox_13 (by decide) ?_
    obtain ⟨u_3, hu_3, hF⟩ := obd_some hF
    have hPc := hP.sub (ws' := (wd_X7_edgeOf cI a0 v0_3 v0_4 v0_5 v0_0 v0_1 v0_2)) [0, 1, 2, 3] rfl
    have hDc := hD.sub (ws' := (wd_X7_edgeOf cI a0 v0_3 v0_4 v0_5 v0_0 v0_1 v0_2)) [0, 1, 2, 3] rfl rfl
    refine q_calli (wc := (wd_X7_edgeOf cI a0 v0_3 v0_4 v0_5 v0_0 v0_1 v0_2)) (w1 := (wd_X7_edgeOf cI a0 v0_3 v0_4 v0_5 v0_0 v0_1 v0_2)) (ws' := (wd_X7_isInBox cI a0 v0_3 v0_4 v0_5 v0_0 v0_1 v0_2)) hP hD hS hA [0, 1, 2, 3] [] [0, 1, 2, 3] rfl rfl rfl (by decide) rfl rfl (va_runV (As := [.int p1, .int 1]) (rest := [.int p2]) ⟨hx, hb, hml, hown, hta⟩ (c_X7_edgeOf l dC dI cI H.size a0 v0_3 v0_4 v0_5 v0_0 v0_1 v0_2 p1 1 n u_3 hu_3) (cwV 2 hta (ga_V mA609 mA610 mA611 mA60 mA612) rfl rfl rfl (by decide +kernel) ⟨Nat.le_of_ble_eq_true rfl, Nat.le_of_ble_eq_true rfl⟩) ⟨q_fb, va_recv hK hP (ci := 6) (q0 := 0) rfl rfl, q_ps hPc hK hDc⟩ rfl rfl hl.1 rfl (lv_room (Nat.le_of_ble_eq_true rfl)) dX7_isInBox_14 ⟨Nat.zero_le _, Nat.zero_le _⟩) (fun H locs hP hD hS => ?_)
    refine lv_icmp_gt (tgt := 44) hx hb dX7_isInBox_17 (by decide) (fun c_4 => ?_) (fun c_4 => ?_)
    · have hF := it_t hF c_4
      exact j44 () hF _ _ _ hP hD hS (lv_sub hl [] rfl)
    · have hF := it_f hF c_4
      refine lv_iload_n hx hb dX7_isInBox_20 rfl (lv_at hl 3 rfl) ?_
      refine lv_aload_n hx hb dX7_isInBox_21 rfl (lv_at hl 0 rfl) ?_
      refine lv_iload_n hx hb dX7_isInBox_22 rfl (lv_at hl 1 rfl) ?_
      refine lv_iconst (v := 2) hx hb dX7_isInBox_23 (by decide) ?_
      obtain ⟨u_5, hu_5, hF⟩ := obd_some hF
      have hPc := hP.sub (ws' := (wd_X7_edgeOf cI a0 v0_3 v0_4 v0_5 v0_0 v0_1 v0_2)) [0, 1, 2, 3] rfl
      have hDc := hD.sub (ws' := (wd_X7_edgeOf cI a0 v0_3 v0_4 v0_5 v0_0 v0_1 v0_2)) [0, 1, 2, 3] rfl rfl
      refine q_calli (wc := (wd_X7_edgeOf cI a0 v0_3 v0_4 v0_5 v0_0 v0_1 v0_2)) (w1 := (wd_X7_edgeOf cI a0 v0_3 v0_4 v0_5 v0_0 v0_1 v0_2)) (ws' := (wd_X7_isInBox cI a0 v0_3 v0_4 v0_5 v0_0 v0_1 v0_2)) hP hD hS hA [0, 1, 2, 3] [] [0, 1, 2, 3] rfl rfl rfl (by decide) rfl rfl (va_runV (As := [.int p1, .int 2]) (rest := [.int p3]) ⟨hx, hb, hml, hown, hta⟩ (c_X7_edgeOf l dC dI cI H.size a0 v0_3 v0_4 v0_5 v0_0 v0_1 v0_2 p1 2 n u_5 hu_5) (cwV 2 hta (ga_V mA609 mA610 mA611 mA60 mA612) rfl rfl rfl (by decide +kernel) ⟨Nat.le_of_ble_eq_true rfl, Nat.le_of_ble_eq_true rfl⟩) ⟨q_fb, va_recv hK hP (ci := 6) (q0 := 0) rfl rfl, q_ps hPc hK hDc⟩ rfl rfl hl.1 rfl (lv_room (Nat.le_of_ble_eq_true rfl)) dX7_isInBox_24 ⟨Nat.zero_le _, Nat.zero_le _⟩) (fun H locs hP hD hS => ?_)
      refine lv_icmp_lt (tgt := 44) hx hb dX7_isInBox_27 (by decide) (fun c_6 => ?_) (fun c_6 => ?_)
      · have hF := it_t hF c_6
        exact j44 () hF _ _ _ hP hD hS (lv_sub hl [] rfl)
      · have hF := it_f hF c_6
        refine lv_iload_n hx hb dX7_isInBox_30 rfl (lv_at hl 3 rfl) ?_
        refine lv_aload_n hx hb dX7_isInBox_31 rfl (lv_at hl 0 rfl) ?_
        refine lv_iload_n hx hb dX7_isInBox_32 rfl (lv_at hl 1 rfl) ?_
        refine lv_iconst (v := 3) hx hb dX7_isInBox_33 (by decide) ?_
        obtain ⟨u_7, hu_7, hF⟩ := obd_some hF
        have hPc := hP.sub (ws' := (wd_X7_edgeOf cI a0 v0_3 v0_4 v0_5 v0_0 v0_1 v0_2)) [0, 1, 2, 3] rfl
        have hDc := hD.sub (ws' := (wd_X7_edgeOf cI a0 v0_3 v0_4 v0_5 v0_0 v0_1 v0_2)) [0, 1, 2, 3] rfl rfl
        refine q_calli (wc := (wd_X7_edgeOf cI a0 v0_3 v0_4 v0_5 v0_0 v0_1 v0_2)) (w1 := (wd_X7_edgeOf cI a0 v0_3 v0_4 v0_5 v0_0 v0_1 v0_2)) (ws' := (wd_X7_isInBox cI a0 v0_3 v0_4 v0_5 v0_0 v0_1 v0_2)) hP hD hS hA [0, 1, 2, 3] [] [0, 1, 2, 3] rfl rfl rfl (by decide) rfl rfl (va_runV (As := [.int p1, .int 3]) (rest := [.int p3]) ⟨hx, hb, hml, hown, hta⟩ (c_X7_edgeOf l dC dI cI H.size a0 v0_3 v0_4 v0_5 v0_0 v0_1 v0_2 p1 3 n u_7 hu_7) (cwV 2 hta (ga_V mA609 mA610 mA611 mA60 mA612) rfl rfl rfl (by decide +kernel) ⟨Nat.le_of_ble_eq_true rfl, Nat.le_of_ble_eq_true rfl⟩) ⟨q_fb, va_recv hK hP (ci := 6) (q0 := 0) rfl rfl, q_ps hPc hK hDc⟩ rfl rfl hl.1 rfl (lv_room (Nat.le_of_ble_eq_true rfl)) dX7_isInBox_34 ⟨Nat.zero_le _, Nat.zero_le _⟩) (fun H locs hP hD hS => ?_)
        refine lv_icmp_gt (tgt := 44) hx hb dX7_isInBox_37 (by decide) (fun c_8 => ?_) (fun c_8 => ?_)
        · have hF := it_t hF c_8
          exact j44 () hF _ _ _ hP hD hS (lv_sub hl [] rfl)
        · have hF := it_f hF c_8
          refine lv_iconst (v := 1) hx hb dX7_isInBox_40 (by decide) ?_
          refine lv_goto (tgt := 45) hx hb dX7_isInBox_41 (by decide) ?_
          obtain rfl := Option.some.inj hF
          exact W.zret (v := 1) (ty := .boolean) hx hb hr (z_nar (Or.inr rfl)) (fun t ht hW => ⟨⟨1, (), rfl, ⟨rfl, (Or.inr rfl)⟩, by rw [ht]; exact hP, va_K.moved hW.alike hK, hD⟩, hS.F ht⟩) hS.2.2 dX7_isInBox_45

-- StrokeOutliner$Pieces.covers(III)Z
def F_X7_covers_j87  : Option (Int32) :=
  some 0
def F_X7_covers (n : Nat) (v0_5 : Int32) (v0_0 : Nat → Int32) (v0_1 : Nat → Int32) (v0_2 : Nat → Int32) (p1 : Int32) (p2 : Int32) (p3 : Int32) : Option (Int32) :=
  obd (F_X7_kindOf v0_0 p1) (fun u_1 => if u_1 = 3 then obd (F_X7_cornerX v0_1 p1 0) (fun u_7 => lt ((p2 - u_7).toInt64) (fun y_8 => obd (F_X7_cornerY v0_2 p1 0) (fun u_9 => lt ((p3 - u_9).toInt64) (fun y_10 => if 0 < (lg_cmp ((y_8 * y_8) + (y_10 * y_10)) (v0_5.toInt64 * v0_5.toInt64)) then some 0 else some 1)))) else obd (F_X7_isOnOneSide n v0_0 v0_1 v0_2 p1 p2 p3) (fun u_3 => if u_3 = 0 then F_X7_covers_j87 else obd (F_X7_isInBox n v0_5 v0_0 v0_1 v0_2 p1 p2 p3) (fun u_5 => if u_5 = 0 then F_X7_covers_j87 else some 1)))
abbrev wd_X7_covers (cI : ClassId) (a0 : Nat → Nat) (v0_3 : Int32) (v0_4 : Int32) (v0_5 : Int32) (v0_0 : Nat → Int32) (v0_1 : Nat → Int32) (v0_2 : Nat → Int32) : va_W := [(a0 0, .inr (6, [.ref (a0 1), .ref (a0 2), .ref (a0 3), .int v0_3, .int v0_4, .int v0_5])), (a0 1, .inl (cI, 2800, .inl v0_0)), (a0 2, .inl (cI, 11200, .inl v0_1)), (a0 3, .inl (cI, 11200, .inl v0_2))]
abbrev wz_X7_covers : List Cond := .code yX7_covers cX7_covers 8 (some .boolean) :: wALL
abbrev rm_X7_covers : Room := { frames := 4, cells := 0, slots := 0, locals := 92 }
abbrev Q_X7_covers (dC : Nat → ClassId) (dI : Nat → Nat → Nat) (cI : ClassId) (a0 : Nat → Nat) (v0_3 : Int32) (v0_4 : Int32) (v0_5 : Int32) (v0_0 : Nat → Int32) (v0_1 : Nat → Int32) (v0_2 : Nat → Int32) (u : (Int32)) (A : Nat → Prop) : Array Value → State → Outcome → State → Prop := va_Qi (fun (r : Int32) (_ : Unit) => r = u ∧ (u = 0 ∨ u = 1)) (fun _ => q_at dC dI cI A (wd_X7_covers cI a0 v0_3 v0_4 v0_5 v0_0 v0_1 v0_2)) A
set_option maxHeartbeats 4000000 in
set_option maxRecDepth 100000 in
theorem c_X7_covers (l : Launch) (dC : Nat → ClassId) (dI : Nat → Nat → Nat) (cI : ClassId) (sz : Nat) (a0 : Nat → Nat) (v0_3 : Int32) (v0_4 : Int32) (v0_5 : Int32) (v0_0 : Nat → Int32) (v0_1 : Nat → Int32) (v0_2 : Nat → Int32) (p1 : Int32) (p2 : Int32) (p3 : Int32) (n : Nat) (u : (Int32)) (hF : F_X7_covers n v0_5 v0_0 v0_1 v0_2 p1 p2 p3 = some u) : Met l yX7_covers wz_X7_covers rm_X7_covers (va_Pc [.ref (a0 0), .int p1, .int p2, .int p3] (q_pre dC dI cI (wd_X7_covers cI a0 v0_3 v0_4 v0_5 v0_0 v0_1 v0_2) sz)) (Q_X7_covers dC dI cI a0 v0_3 v0_4 v0_5 v0_0 v0_1 v0_2 u (va_A (wd_X7_covers cI a0 v0_3 v0_4 v0_5 v0_0 v0_1 v0_2) sz)) 0 0 (va_A (wd_X7_covers cI a0 v0_3 v0_4 v0_5 v0_0 v0_1 v0_2) sz) := by
  refine Met.ofW (cc := cX7_covers) (maxL := 8) (ret := (some .boolean)) (by decide) rfl ?_
  intro p e s m args below meth c s₁ B hml hv
  obtain ⟨rfl, hsz, hP, hK, hD0⟩ := hv
  have hx := B.exec
  have hb := B.bytes
  have hr := B.returns
  have hts := atoms_spec (ws := wz_X7_covers) B.pre
  have hta := wz_tl hts
  have hown : s.vm.findClass RX7 = some m.cls := findClass_of_methodNamed B.named
  have hlocks := B.notSynchronized
  subst hsz
  have hD := hD0.self (sz := s.heap.size)
  generalize hAe : va_A (wd_X7_covers cI a0 v0_3 v0_4 v0_5 v0_0 v0_1 v0_2) s.heap.size = A at hD ⊢
  have hA : ∀ q : Nat, s.heap.size ≤ q → A q := fun q h => by rw [← hAe]; exact Or.inr h
  have hS : va_S A s.heap s.heap [] := va_S.rf
  have hP : va_P (dC, dI) vwCl (wd_X7_covers cI a0 v0_3 v0_4 v0_5 v0_0 v0_1 v0_2) s.heap := hP
  have hl := lv_entry ([.ref (a0 0), .int p1, .int p2, .int p3]) (n := 8) (Nat.le_of_ble_eq_true rfl)
  rw [lg_entry_eq]
  generalize (lg_sl ([.ref (a0 0), .int p1, .int p2, .int p3]) ++ List.replicate (8 - (lg_sl ([.ref (a0 0), .int p1, .int p2, .int p3])).length) Slot.unset).toArray = ls at hl ⊢
  have hl : lv_has ls 8 [(0, .ref (a0 0)), (1, .int p1), (2, .int p2), (3, .int p3)] := hl
  obtain ⟨H, hHe⟩ : ∃ H, H = s.heap := ⟨_, rfl⟩
  have hS : va_S A s.heap H [] := by rw [hHe]; exact hS
  have hP : va_P (dC, dI) vwCl (wd_X7_covers cI a0 v0_3 v0_4 v0_5 v0_0 v0_1 v0_2) H := by rw [hHe]; exact hP
  rw [← hHe]
  unfold F_X7_covers at hF
  have j87 : ∀ (_ : Unit), F_X7_covers_j87 = some u → ∀ (H : Heap) (locs : List Loc) (ls : Array Slot), va_P (dC, dI) vwCl (wd_X7_covers cI a0 v0_3 v0_4 v0_5 v0_0 v0_1 v0_2) H → va_D A (wd_X7_covers cI a0 v0_3 v0_4 v0_5 v0_0 v0_1 v0_2) → va_S A s.heap H locs → lv_has ls 8 [] → W p l e (headSpec wz_X7_covers rm_X7_covers).room s m [.ref (a0 0), .int p1, .int p2, .int p3].toArray below meth c H locs 0 0 (MQ below (Q_X7_covers dC dI cI a0 v0_3 v0_4 v0_5 v0_0 v0_1 v0_2 u A) [.ref (a0 0), .int p1, .int p2, .int p3].toArray s 0 0 A) (F0 m 87 ls []) := by
    intro _ hF H locs ls hP hD hS hl
    unfold F_X7_covers_j87 at hF
    refine lv_iconst (v := 0) hx hb dX7_covers_87 (by decide) ?_
    obtain rfl := Option.some.inj hF
    exact W.zret (v := 0) (ty := .boolean) hx hb hr (z_nar (Or.inl rfl)) (fun t ht hW => ⟨⟨0, (), rfl, ⟨rfl, (Or.inl rfl)⟩, by rw [ht]; exact hP, va_K.moved hW.alike hK, hD⟩, hS.F ht⟩) hS.2.2 dX7_covers_88
  refine lv_aload_n hx hb dX7_covers_0 rfl (lv_at hl 0 rfl) ?_
  refine lv_iload_n hx hb dX7_covers_1 rfl (lv_at hl 1 rfl) ?_
  obtain ⟨u_1, hu_1, hF⟩ := obd_some hF
  have hPc := hP.sub (ws' := (wd_X7_kindOf cI a0 v0_3 v0_4 v0_5 v0_0)) [0, 1] rfl
  have hDc := hD.sub (ws' := (wd_X7_kindOf cI a0 v0_3 v0_4 v0_5 v0_0)) [0, 1] rfl rfl
  refine q_calli (wc := (wd_X7_kindOf cI a0 v0_3 v0_4 v0_5 v0_0)) (w1 := (wd_X7_kindOf cI a0 v0_3 v0_4 v0_5 v0_0)) (ws' := (wd_X7_covers cI a0 v0_3 v0_4 v0_5 v0_0 v0_1 v0_2)) hP hD hS hA [0, 1] [2, 3] [2, 3, 0, 1] rfl rfl rfl (by decide) rfl rfl (va_runV (As := [.int p1]) (rest := []) ⟨hx, hb, hml, hown, hta⟩ (c_X7_kindOf l dC dI cI H.size a0 v0_3 v0_4 v0_5 v0_0 p1 u_1 hu_1) (cwV 1 hta (ga_V mA572 mA573 mA574 mA60 mA575) rfl rfl rfl (by decide +kernel) ⟨Nat.le_of_ble_eq_true rfl, Nat.le_of_ble_eq_true rfl⟩) ⟨q_fb, va_recv hK hP (ci := 6) (q0 := 0) rfl rfl, q_ps hPc hK hDc⟩ rfl rfl hl.1 rfl (lv_room (Nat.le_of_ble_eq_true rfl)) dX7_covers_2 ⟨Nat.zero_le _, Nat.zero_le _⟩) (fun H locs hP hD hS => ?_)
  refine lv_iconst (v := 3) hx hb dX7_covers_5 (by decide) ?_
  refine lv_icmp_ne (tgt := 63) hx hb dX7_covers_6 (by decide) (fun c_2 => ?_) (fun c_2 => ?_)
  · have hF := it_f hF c_2
    refine lv_aload_n hx hb dX7_covers_63 rfl (lv_at hl 0 rfl) ?_
    refine lv_iload_n hx hb dX7_covers_64 rfl (lv_at hl 1 rfl) ?_
    refine lv_iload_n hx hb dX7_covers_65 rfl (lv_at hl 2 rfl) ?_
    refine lv_iload_n hx hb dX7_covers_66 rfl (lv_at hl 3 rfl) ?_
    obtain ⟨u_3, hu_3, hF⟩ := obd_some hF
    have hPc := hP.sub (ws' := (wd_X7_isOnOneSide cI a0 v0_3 v0_4 v0_5 v0_0 v0_1 v0_2)) [0, 1, 2, 3] rfl
    have hDc := hD.sub (ws' := (wd_X7_isOnOneSide cI a0 v0_3 v0_4 v0_5 v0_0 v0_1 v0_2)) [0, 1, 2, 3] rfl rfl
    refine q_callz (wc := (wd_X7_isOnOneSide cI a0 v0_3 v0_4 v0_5 v0_0 v0_1 v0_2)) (w1 := (wd_X7_isOnOneSide cI a0 v0_3 v0_4 v0_5 v0_0 v0_1 v0_2)) (ws' := (wd_X7_covers cI a0 v0_3 v0_4 v0_5 v0_0 v0_1 v0_2)) hP hD hS hA [0, 1, 2, 3] [] [0, 1, 2, 3] rfl rfl rfl (by decide) rfl rfl (va_runV (As := [.int p1, .int p2, .int p3]) (rest := []) ⟨hx, hb, hml, hown, hta⟩ (c_X7_isOnOneSide l dC dI cI H.size a0 v0_3 v0_4 v0_5 v0_0 v0_1 v0_2 p1 p2 p3 n u_3 hu_3) (cwV 3 hta (ga_V mA622 mA623 mA624 mA60 mA625) rfl rfl rfl (by decide +kernel) ⟨Nat.le_of_ble_eq_true rfl, Nat.le_of_ble_eq_true rfl⟩) ⟨q_fb, va_recv hK hP (ci := 6) (q0 := 0) rfl rfl, q_ps hPc hK hDc⟩ rfl rfl hl.1 rfl (lv_room (Nat.le_of_ble_eq_true rfl)) dX7_covers_67 ⟨Nat.zero_le _, Nat.zero_le _⟩) (fun hzu_3 H locs hP hD hS => ?_)
    refine lv_if_eq (tgt := 87) hx hb dX7_covers_70 (by decide) (fun c_4 => ?_) (fun c_4 => ?_)
    · have hF := it_t hF c_4
      exact j87 () hF _ _ _ hP hD hS (lv_sub hl [] rfl)
    · have hF := it_f hF c_4
      refine lv_aload_n hx hb dX7_covers_73 rfl (lv_at hl 0 rfl) ?_
      refine lv_iload_n hx hb dX7_covers_74 rfl (lv_at hl 1 rfl) ?_
      refine lv_iload_n hx hb dX7_covers_75 rfl (lv_at hl 2 rfl) ?_
      refine lv_iload_n hx hb dX7_covers_76 rfl (lv_at hl 3 rfl) ?_
      obtain ⟨u_5, hu_5, hF⟩ := obd_some hF
      have hPc := hP.sub (ws' := (wd_X7_isInBox cI a0 v0_3 v0_4 v0_5 v0_0 v0_1 v0_2)) [0, 1, 2, 3] rfl
      have hDc := hD.sub (ws' := (wd_X7_isInBox cI a0 v0_3 v0_4 v0_5 v0_0 v0_1 v0_2)) [0, 1, 2, 3] rfl rfl
      refine q_callz (wc := (wd_X7_isInBox cI a0 v0_3 v0_4 v0_5 v0_0 v0_1 v0_2)) (w1 := (wd_X7_isInBox cI a0 v0_3 v0_4 v0_5 v0_0 v0_1 v0_2)) (ws' := (wd_X7_covers cI a0 v0_3 v0_4 v0_5 v0_0 v0_1 v0_2)) hP hD hS hA [0, 1, 2, 3] [] [0, 1, 2, 3] rfl rfl rfl (by decide) rfl rfl (va_runV (As := [.int p1, .int p2, .int p3]) (rest := []) ⟨hx, hb, hml, hown, hta⟩ (c_X7_isInBox l dC dI cI H.size a0 v0_3 v0_4 v0_5 v0_0 v0_1 v0_2 p1 p2 p3 n u_5 hu_5) (cwV 3 hta (ga_V mA626 mA627 mA628 mA60 mA629) rfl rfl rfl (by decide +kernel) ⟨Nat.le_of_ble_eq_true rfl, Nat.le_of_ble_eq_true rfl⟩) ⟨q_fb, va_recv hK hP (ci := 6) (q0 := 0) rfl rfl, q_ps hPc hK hDc⟩ rfl rfl hl.1 rfl (lv_room (Nat.le_of_ble_eq_true rfl)) dX7_covers_77 ⟨Nat.zero_le _, Nat.zero_le _⟩) (fun hzu_5 H locs hP hD hS => ?_)
      refine lv_if_eq (tgt := 87) hx hb dX7_covers_80 (by decide) (fun c_6 => ?_) (fun c_6 => ?_)
      · have hF := it_t hF c_6
        exact j87 () hF _ _ _ hP hD hS (lv_sub hl [] rfl)
      · have hF := it_f hF c_6
        refine lv_iconst (v := 1) hx hb dX7_covers_83 (by decide) ?_
        refine lv_goto (tgt := 88) hx hb dX7_covers_84 (by decide) ?_
        obtain rfl := Option.some.inj hF
        exact W.zret (v := 1) (ty := .boolean) hx hb hr (z_nar (Or.inr rfl)) (fun t ht hW => ⟨⟨1, (), rfl, ⟨rfl, (Or.inr rfl)⟩, by rw [ht]; exact hP, va_K.moved hW.alike hK, hD⟩, hS.F ht⟩) hS.2.2 dX7_covers_88
  · have hF := it_t hF c_2
    refine lv_iload_n hx hb dX7_covers_9 rfl (lv_at hl 2 rfl) ?_
    refine lv_aload_n hx hb dX7_covers_10 rfl (lv_at hl 0 rfl) ?_
    refine lv_iload_n hx hb dX7_covers_11 rfl (lv_at hl 1 rfl) ?_
    refine lv_iconst (v := 0) hx hb dX7_covers_12 (by decide) ?_
    obtain ⟨u_7, hu_7, hF⟩ := obd_some hF
    have hPc := hP.sub (ws' := (wd_X7_cornerX cI a0 v0_3 v0_4 v0_5 v0_1)) [0, 2] rfl
    have hDc := hD.sub (ws' := (wd_X7_cornerX cI a0 v0_3 v0_4 v0_5 v0_1)) [0, 2] rfl rfl
    refine q_calli (wc := (wd_X7_cornerX cI a0 v0_3 v0_4 v0_5 v0_1)) (w1 := (wd_X7_cornerX cI a0 v0_3 v0_4 v0_5 v0_1)) (ws' := (wd_X7_covers cI a0 v0_3 v0_4 v0_5 v0_0 v0_1 v0_2)) hP hD hS hA [0, 2] [1, 3] [2, 0, 3, 1] rfl rfl rfl (by decide) rfl rfl (va_runV (As := [.int p1, .int 0]) (rest := [.int p2]) ⟨hx, hb, hml, hown, hta⟩ (c_X7_cornerX l dC dI cI H.size a0 v0_3 v0_4 v0_5 v0_1 p1 0 u_7 hu_7) (cwV 2 hta (ga_V mA591 mA592 mA593 mA60 mA594) rfl rfl rfl (by decide +kernel) ⟨Nat.le_of_ble_eq_true rfl, Nat.le_of_ble_eq_true rfl⟩) ⟨q_fb, va_recv hK hP (ci := 6) (q0 := 0) rfl rfl, q_ps hPc hK hDc⟩ rfl rfl hl.1 rfl (lv_room (Nat.le_of_ble_eq_true rfl)) dX7_covers_13 ⟨Nat.zero_le _, Nat.zero_le _⟩) (fun H locs hP hD hS => ?_)
    refine lv_isub hx hb dX7_covers_16 ?_
    refine lv_i2l hx hb dX7_covers_17 rfl ?_
    obtain ⟨y_8, ey_8, hF⟩ := lt_some hF
    refine lv_eql ey_8 ?_
    refine lv_lstore (lv' := [(4, .long y_8), (0, .ref (a0 0)), (1, .int p1), (2, .int p2), (3, .int p3)]) hx hb dX7_covers_18 hl (by decide) rfl (fun ls hl => ?_)
    refine lv_iload_n hx hb dX7_covers_20 rfl (lv_at hl 4 rfl) ?_
    refine lv_aload_n hx hb dX7_covers_21 rfl (lv_at hl 1 rfl) ?_
    refine lv_iload_n hx hb dX7_covers_22 rfl (lv_at hl 2 rfl) ?_
    refine lv_iconst (v := 0) hx hb dX7_covers_23 (by decide) ?_
    obtain ⟨u_9, hu_9, hF⟩ := obd_some hF
    have hPc := hP.sub (ws' := (wd_X7_cornerY cI a0 v0_3 v0_4 v0_5 v0_2)) [0, 3] rfl
    have hDc := hD.sub (ws' := (wd_X7_cornerY cI a0 v0_3 v0_4 v0_5 v0_2)) [0, 3] rfl rfl
    refine q_calli (wc := (wd_X7_cornerY cI a0 v0_3 v0_4 v0_5 v0_2)) (w1 := (wd_X7_cornerY cI a0 v0_3 v0_4 v0_5 v0_2)) (ws' := (wd_X7_covers cI a0 v0_3 v0_4 v0_5 v0_0 v0_1 v0_2)) hP hD hS hA [0, 3] [1, 2] [2, 0, 1, 3] rfl rfl rfl (by decide) rfl rfl (va_runV (As := [.int p1, .int 0]) (rest := [.int p3]) ⟨hx, hb, hml, hown, hta⟩ (c_X7_cornerY l dC dI cI H.size a0 v0_3 v0_4 v0_5 v0_2 p1 0 u_9 hu_9) (cwV 2 hta (ga_V mA595 mA596 mA597 mA60 mA598) rfl rfl rfl (by decide +kernel) ⟨Nat.le_of_ble_eq_true rfl, Nat.le_of_ble_eq_true rfl⟩) ⟨q_fb, va_recv hK hP (ci := 6) (q0 := 0) rfl rfl, q_ps hPc hK hDc⟩ rfl rfl hl.1 rfl (lv_room (Nat.le_of_ble_eq_true rfl)) dX7_covers_24 ⟨Nat.zero_le _, Nat.zero_le _⟩) (fun H locs hP hD hS => ?_)
    refine lv_isub hx hb dX7_covers_27 ?_
    refine lv_i2l hx hb dX7_covers_28 rfl ?_
    obtain ⟨y_10, ey_10, hF⟩ := lt_some hF
    refine lv_eql ey_10 ?_
    refine lv_lstore (lv' := [(6, .long y_10), (4, .long y_8), (0, .ref (a0 0)), (1, .int p1), (2, .int p2), (3, .int p3)]) hx hb dX7_covers_29 hl (by decide) rfl (fun ls hl => ?_)
    refine lv_lload hx hb dX7_covers_31 (lv_at hl 1 rfl) ?_
    refine lv_lload hx hb dX7_covers_33 (lv_at hl 1 rfl) ?_
    refine lv_lmul hx hb dX7_covers_35 ?_
    refine lv_lload hx hb dX7_covers_36 (lv_at hl 0 rfl) ?_
    refine lv_lload hx hb dX7_covers_38 (lv_at hl 0 rfl) ?_
    refine lv_lmul hx hb dX7_covers_40 ?_
    refine lv_ladd hx hb dX7_covers_41 ?_
    refine lv_aload_n hx hb dX7_covers_42 rfl (lv_at hl 2 rfl) ?_
    refine va_get (D := (dC, dI)) (ci := 6) (v := .int v0_5) (C := RX7) (T := TX7) (N := 6) hx hb hta uw_X7 hown hK hP 0 rfl rfl 5 (by decide) (hta _ mA476) (fun _ h9 => h9) rfl dX7_covers_43 ?_
    refine lv_i2l hx hb dX7_covers_46 rfl ?_
    refine lv_aload_n hx hb dX7_covers_47 rfl (lv_at hl 2 rfl) ?_
    refine va_get (D := (dC, dI)) (ci := 6) (v := .int v0_5) (C := RX7) (T := TX7) (N := 6) hx hb hta uw_X7 hown hK hP 0 rfl rfl 5 (by decide) (hta _ mA476) (fun _ h9 => h9) rfl dX7_covers_48 ?_
    refine lv_i2l hx hb dX7_covers_51 rfl ?_
    refine lv_lmul hx hb dX7_covers_52 ?_
    refine W.lcmp hx hb dX7_covers_53 ?_
    refine lv_if_gt (tgt := 61) hx hb dX7_covers_54 (by decide) (fun c_11 => ?_) (fun c_11 => ?_)
    · have hF := it_t hF c_11
      refine lv_iconst (v := 0) hx hb dX7_covers_61 (by decide) ?_
      obtain rfl := Option.some.inj hF
      exact W.zret (v := 0) (ty := .boolean) hx hb hr (z_nar (Or.inl rfl)) (fun t ht hW => ⟨⟨0, (), rfl, ⟨rfl, (Or.inl rfl)⟩, by rw [ht]; exact hP, va_K.moved hW.alike hK, hD⟩, hS.F ht⟩) hS.2.2 dX7_covers_62
    · have hF := it_f hF c_11
      refine lv_iconst (v := 1) hx hb dX7_covers_57 (by decide) ?_
      refine lv_goto (tgt := 62) hx hb dX7_covers_58 (by decide) ?_
      obtain rfl := Option.some.inj hF
      exact W.zret (v := 1) (ty := .boolean) hx hb hr (z_nar (Or.inr rfl)) (fun t ht hW => ⟨⟨1, (), rfl, ⟨rfl, (Or.inr rfl)⟩, by rw [ht]; exact hP, va_K.moved hW.alike hK, hD⟩, hS.F ht⟩) hS.2.2 dX7_covers_62

-- StrokeOutliner$Pieces.countAround(II)I
def F_X7_countAround_j34 (x3 : Int32) : Option (Int32) :=
  some x3
def F_X7_countAround_j28 (x3 : Int32) (x4 : Int32) : Option (Sum (Int32 × Int32) (Int32)) :=
  lt (x4 + 1) (fun y_1 => some (.inl (x3, y_1)))
def F_X7_countAround_b5 (n : Nat) (v0_3 : Int32) (v0_5 : Int32) (v0_0 : Nat → Int32) (v0_1 : Nat → Int32) (v0_2 : Nat → Int32) (x1 : Int32) (x2 : Int32) (s5 : Int32 × Int32) : Option (Sum (Int32 × Int32) (Int32)) :=
  if v0_3 ≤ s5.2 then some (.inr s5.1) else obd (F_X7_covers n v0_5 v0_0 v0_1 v0_2 s5.2 x1 x2) (fun u_3 => if u_3 = 0 then F_X7_countAround_j28 s5.1 s5.2 else lt (s5.1 + 1) (fun y_5 => F_X7_countAround_j28 y_5 s5.2))
def F_X7_countAround_j5 (n : Nat) (v0_3 : Int32) (v0_5 : Int32) (v0_0 : Nat → Int32) (v0_1 : Nat → Int32) (v0_2 : Nat → Int32) (x1 : Int32) (x2 : Int32) (x3 : Int32) (x4 : Int32) : Option (Int32) :=
  obd (lpq (F_X7_countAround_b5 n v0_3 v0_5 v0_0 v0_1 v0_2 x1 x2) n (x3, x4)) (fun x_5 => F_X7_countAround_j34 x_5)
def F_X7_countAround (n : Nat) (v0_3 : Int32) (v0_5 : Int32) (v0_0 : Nat → Int32) (v0_1 : Nat → Int32) (v0_2 : Nat → Int32) (p1 : Int32) (p2 : Int32) : Option (Int32) :=
  F_X7_countAround_j5 n v0_3 v0_5 v0_0 v0_1 v0_2 p1 p2 0 0
abbrev wd_X7_countAround (cI : ClassId) (a0 : Nat → Nat) (v0_3 : Int32) (v0_4 : Int32) (v0_5 : Int32) (v0_0 : Nat → Int32) (v0_1 : Nat → Int32) (v0_2 : Nat → Int32) : va_W := [(a0 0, .inr (6, [.ref (a0 1), .ref (a0 2), .ref (a0 3), .int v0_3, .int v0_4, .int v0_5])), (a0 1, .inl (cI, 2800, .inl v0_0)), (a0 2, .inl (cI, 11200, .inl v0_1)), (a0 3, .inl (cI, 11200, .inl v0_2))]
abbrev wz_X7_countAround : List Cond := .code yX7_countAround cX7_countAround 5 (some .int) :: wALL
abbrev rm_X7_countAround : Room := { frames := 5, cells := 0, slots := 0, locals := 119 }
abbrev Q_X7_countAround (dC : Nat → ClassId) (dI : Nat → Nat → Nat) (cI : ClassId) (a0 : Nat → Nat) (v0_3 : Int32) (v0_4 : Int32) (v0_5 : Int32) (v0_0 : Nat → Int32) (v0_1 : Nat → Int32) (v0_2 : Nat → Int32) (u : (Int32)) (A : Nat → Prop) : Array Value → State → Outcome → State → Prop := va_Qi (fun (r : Int32) (_ : Unit) => r = u) (fun _ => q_at dC dI cI A (wd_X7_countAround cI a0 v0_3 v0_4 v0_5 v0_0 v0_1 v0_2)) A
set_option maxHeartbeats 4000000 in
set_option maxRecDepth 100000 in
theorem c_X7_countAround (l : Launch) (dC : Nat → ClassId) (dI : Nat → Nat → Nat) (cI : ClassId) (sz : Nat) (a0 : Nat → Nat) (v0_3 : Int32) (v0_4 : Int32) (v0_5 : Int32) (v0_0 : Nat → Int32) (v0_1 : Nat → Int32) (v0_2 : Nat → Int32) (p1 : Int32) (p2 : Int32) (n : Nat) (u : (Int32)) (hF : F_X7_countAround n v0_3 v0_5 v0_0 v0_1 v0_2 p1 p2 = some u) : Met l yX7_countAround wz_X7_countAround rm_X7_countAround (va_Pc [.ref (a0 0), .int p1, .int p2] (q_pre dC dI cI (wd_X7_countAround cI a0 v0_3 v0_4 v0_5 v0_0 v0_1 v0_2) sz)) (Q_X7_countAround dC dI cI a0 v0_3 v0_4 v0_5 v0_0 v0_1 v0_2 u (va_A (wd_X7_countAround cI a0 v0_3 v0_4 v0_5 v0_0 v0_1 v0_2) sz)) 0 0 (va_A (wd_X7_countAround cI a0 v0_3 v0_4 v0_5 v0_0 v0_1 v0_2) sz) := by
  refine Met.ofW (cc := cX7_countAround) (maxL := 5) (ret := (some .int)) (by decide) rfl ?_
  intro p e s m args below meth c s₁ B hml hv
  obtain ⟨rfl, hsz, hP, hK, hD0⟩ := hv
  have hx := B.exec
  have hb := B.bytes
  have hr := B.returns
  have hts := atoms_spec (ws := wz_X7_countAround) B.pre
  have hta := wz_tl hts
  have hown : s.vm.findClass RX7 = some m.cls := findClass_of_methodNamed B.named
  have hlocks := B.notSynchronized
  subst hsz
  have hD := hD0.self (sz := s.heap.size)
  generalize hAe : va_A (wd_X7_countAround cI a0 v0_3 v0_4 v0_5 v0_0 v0_1 v0_2) s.heap.size = A at hD ⊢
  have hA : ∀ q : Nat, s.heap.size ≤ q → A q := fun q h => by rw [← hAe]; exact Or.inr h
  have hS : va_S A s.heap s.heap [] := va_S.rf
  have hP : va_P (dC, dI) vwCl (wd_X7_countAround cI a0 v0_3 v0_4 v0_5 v0_0 v0_1 v0_2) s.heap := hP
  have hl := lv_entry ([.ref (a0 0), .int p1, .int p2]) (n := 5) (Nat.le_of_ble_eq_true rfl)
  rw [lg_entry_eq]
  generalize (lg_sl ([.ref (a0 0), .int p1, .int p2]) ++ List.replicate (5 - (lg_sl ([.ref (a0 0), .int p1, .int p2])).length) Slot.unset).toArray = ls at hl ⊢
  have hl : lv_has ls 5 [(0, .ref (a0 0)), (1, .int p1), (2, .int p2)] := hl
  obtain ⟨H, hHe⟩ : ∃ H, H = s.heap := ⟨_, rfl⟩
  have hS : va_S A s.heap H [] := by rw [hHe]; exact hS
  have hP : va_P (dC, dI) vwCl (wd_X7_countAround cI a0 v0_3 v0_4 v0_5 v0_0 v0_1 v0_2) H := by rw [hHe]; exact hP
  rw [← hHe]
  unfold F_X7_countAround at hF
  have j34 : ∀ (x3 : Int32), F_X7_countAround_j34 x3 = some u → ∀ (H : Heap) (locs : List Loc) (ls : Array Slot), va_P (dC, dI) vwCl (wd_X7_countAround cI a0 v0_3 v0_4 v0_5 v0_0 v0_1 v0_2) H → va_D A (wd_X7_countAround cI a0 v0_3 v0_4 v0_5 v0_0 v0_1 v0_2) → va_S A s.heap H locs → lv_has ls 5 [(3, .int x3)] → W p l e (headSpec wz_X7_countAround rm_X7_countAround).room s m [.ref (a0 0), .int p1, .int p2].toArray below meth c H locs 0 0 (MQ below (Q_X7_countAround dC dI cI a0 v0_3 v0_4 v0_5 v0_0 v0_1 v0_2 u A) [.ref (a0 0), .int p1, .int p2].toArray s 0 0 A) (F0 m 34 ls []) := by
    intro x3 hF H locs ls hP hD hS hl
    unfold F_X7_countAround_j34 at hF
    refine lv_iload_n hx hb dX7_countAround_34 rfl (lv_at hl 0 rfl) ?_
    obtain rfl := Option.some.inj hF
    exact W.iret (v := x3) hx hb hr (fun t ht hW => ⟨⟨x3, (), rfl, rfl, by rw [ht]; exact hP, va_K.moved hW.alike hK, hD⟩, hS.F ht⟩) hS.2.2 dX7_countAround_35
  have j5 : ∀ (x1 : Int32) (x2 : Int32) (x3 : Int32) (x4 : Int32), F_X7_countAround_j5 n v0_3 v0_5 v0_0 v0_1 v0_2 x1 x2 x3 x4 = some u → ∀ (H : Heap) (locs : List Loc) (ls : Array Slot), va_P (dC, dI) vwCl (wd_X7_countAround cI a0 v0_3 v0_4 v0_5 v0_0 v0_1 v0_2) H → va_D A (wd_X7_countAround cI a0 v0_3 v0_4 v0_5 v0_0 v0_1 v0_2) → va_S A s.heap H locs → lv_has ls 5 [(0, .ref (a0 0)), (1, .int x1), (2, .int x2), (3, .int x3), (4, .int x4)] → W p l e (headSpec wz_X7_countAround rm_X7_countAround).room s m [.ref (a0 0), .int p1, .int p2].toArray below meth c H locs 0 0 (MQ below (Q_X7_countAround dC dI cI a0 v0_3 v0_4 v0_5 v0_0 v0_1 v0_2 u A) [.ref (a0 0), .int p1, .int p2].toArray s 0 0 A) (F0 m 5 ls []) := by
    intro x1 x2 x3 x4 hF H locs ls hP hD hS hl
    unfold F_X7_countAround_j5 at hF
    obtain ⟨x_5, hL_5, hE_5⟩ := obd_some hF
    have kl_5 : ∀ (k : Nat) (s5 : Int32 × Int32), lpq (F_X7_countAround_b5 n v0_3 v0_5 v0_0 v0_1 v0_2 x1 x2) k s5 = some x_5 → ∀ (H : Heap) (locs : List Loc) (ls : Array Slot), va_P (dC, dI) vwCl (wd_X7_countAround cI a0 v0_3 v0_4 v0_5 v0_0 v0_1 v0_2) H → va_D A (wd_X7_countAround cI a0 v0_3 v0_4 v0_5 v0_0 v0_1 v0_2) → va_S A s.heap H locs → lv_has ls 5 [(0, .ref (a0 0)), (1, .int x1), (2, .int x2), (3, .int s5.1), (4, .int s5.2)] → W p l e (headSpec wz_X7_countAround rm_X7_countAround).room s m [.ref (a0 0), .int p1, .int p2].toArray below meth c H locs 0 0 (MQ below (Q_X7_countAround dC dI cI a0 v0_3 v0_4 v0_5 v0_0 v0_1 v0_2 u A) [.ref (a0 0), .int p1, .int p2].toArray s 0 0 A) (F0 m 5 ls []) := by
      intro k
      induction k with
      | zero => intro s5 h; exact absurd h lpq_zero
      | succ k ih_5 =>
        intro s5 h H locs ls hP hD hS hl
        obtain ⟨o_5, hF, hO_5⟩ := lpq_succ h
        unfold F_X7_countAround_b5 at hF
        have j28 : ∀ (x3 : Int32) (x4 : Int32), F_X7_countAround_j28 x3 x4 = some o_5 → ∀ (H : Heap) (locs : List Loc) (ls : Array Slot), va_P (dC, dI) vwCl (wd_X7_countAround cI a0 v0_3 v0_4 v0_5 v0_0 v0_1 v0_2) H → va_D A (wd_X7_countAround cI a0 v0_3 v0_4 v0_5 v0_0 v0_1 v0_2) → va_S A s.heap H locs → lv_has ls 5 [(0, .ref (a0 0)), (1, .int x1), (2, .int x2), (3, .int x3), (4, .int x4)] → W p l e (headSpec wz_X7_countAround rm_X7_countAround).room s m [.ref (a0 0), .int p1, .int p2].toArray below meth c H locs 0 0 (MQ below (Q_X7_countAround dC dI cI a0 v0_3 v0_4 v0_5 v0_0 v0_1 v0_2 u A) [.ref (a0 0), .int p1, .int p2].toArray s 0 0 A) (F0 m 28 ls []) := by
          intro x3 x4 hF H locs ls hP hD hS hl
          unfold F_X7_countAround_j28 at hF
          obtain ⟨y_1, ey_1, hF⟩ := lt_some hF
          refine lv_iinc (v := y_1) (lv' := [(4, .int y_1), (0, .ref (a0 0)), (1, .int x1), (2, .int x2), (3, .int x3)]) hx hb dX7_countAround_28 hl (k := 4) rfl (by rw [ey_1]; rfl) (by decide) rfl (fun ls hl => ?_)
          refine lv_goto (tgt := 5) hx hb dX7_countAround_31 (by decide) ?_
          obtain rfl := Option.some.inj hF
          exact ih_5 _ hO_5 _ _ _ hP hD hS (lv_sub hl [1, 2, 3, 4, 0] rfl)
        refine lv_iload hx hb dX7_countAround_5 (lv_at hl 4 rfl) ?_
        refine lv_aload_n hx hb dX7_countAround_7 rfl (lv_at hl 0 rfl) ?_
        refine va_get (D := (dC, dI)) (ci := 6) (v := .int v0_3) (C := RX7) (T := TX7) (N := 6) hx hb hta uw_X7 hown hK hP 0 rfl rfl 3 (by decide) (hta _ mA475) (fun _ h9 => h9) rfl dX7_countAround_8 ?_
        refine lv_icmp_ge (tgt := 34) hx hb dX7_countAround_11 (by decide) (fun c_2 => ?_) (fun c_2 => ?_)
        · have hF := it_t hF c_2
          obtain rfl := Option.some.inj hF
          obtain rfl := lpq_x hO_5
          have hF := hE_5
          exact j34 s5.1 hF _ _ _ hP hD hS (lv_sub hl [3] rfl)
        · have hF := it_f hF c_2
          refine lv_aload_n hx hb dX7_countAround_14 rfl (lv_at hl 0 rfl) ?_
          refine lv_iload hx hb dX7_countAround_15 (lv_at hl 4 rfl) ?_
          refine lv_iload_n hx hb dX7_countAround_17 rfl (lv_at hl 1 rfl) ?_
          refine lv_iload_n hx hb dX7_countAround_18 rfl (lv_at hl 2 rfl) ?_
          obtain ⟨u_3, hu_3, hF⟩ := obd_some hF
          have hPc := hP.sub (ws' := (wd_X7_covers cI a0 v0_3 v0_4 v0_5 v0_0 v0_1 v0_2)) [0, 1, 2, 3] rfl
          have hDc := hD.sub (ws' := (wd_X7_covers cI a0 v0_3 v0_4 v0_5 v0_0 v0_1 v0_2)) [0, 1, 2, 3] rfl rfl
          refine q_callz (wc := (wd_X7_covers cI a0 v0_3 v0_4 v0_5 v0_0 v0_1 v0_2)) (w1 := (wd_X7_covers cI a0 v0_3 v0_4 v0_5 v0_0 v0_1 v0_2)) (ws' := (wd_X7_countAround cI a0 v0_3 v0_4 v0_5 v0_0 v0_1 v0_2)) hP hD hS hA [0, 1, 2, 3] [] [0, 1, 2, 3] rfl rfl rfl (by decide) rfl rfl (va_runV (As := [.int s5.2, .int x1, .int x2]) (rest := []) ⟨hx, hb, hml, hown, hta⟩ (c_X7_covers l dC dI cI H.size a0 v0_3 v0_4 v0_5 v0_0 v0_1 v0_2 s5.2 x1 x2 n u_3 hu_3) (cwV 3 hta (ga_V mA618 mA619 mA620 mA60 mA621) rfl rfl rfl (by decide +kernel) ⟨Nat.le_of_ble_eq_true rfl, Nat.le_of_ble_eq_true rfl⟩) ⟨q_fb, va_recv hK hP (ci := 6) (q0 := 0) rfl rfl, q_ps hPc hK hDc⟩ rfl rfl hl.1 rfl (lv_room (Nat.le_of_ble_eq_true rfl)) dX7_countAround_19 ⟨Nat.zero_le _, Nat.zero_le _⟩) (fun hzu_3 H locs hP hD hS => ?_)
          refine lv_if_eq (tgt := 28) hx hb dX7_countAround_22 (by decide) (fun c_4 => ?_) (fun c_4 => ?_)
          · have hF := it_t hF c_4
            exact j28 s5.1 s5.2 hF _ _ _ hP hD hS (lv_sub hl [0, 1, 2, 3, 4] rfl)
          · have hF := it_f hF c_4
            obtain ⟨y_5, ey_5, hF⟩ := lt_some hF
            refine lv_iinc (v := y_5) (lv' := [(3, .int y_5), (0, .ref (a0 0)), (1, .int x1), (2, .int x2), (4, .int s5.2)]) hx hb dX7_countAround_25 hl (k := 3) rfl (by rw [ey_5]; rfl) (by decide) rfl (fun ls hl => ?_)
            exact j28 y_5 s5.2 hF _ _ _ hP hD hS (lv_sub hl [1, 2, 3, 0, 4] rfl)
    exact kl_5 n _ hL_5 _ _ _ hP hD hS hl
  refine lv_iconst (v := 0) hx hb dX7_countAround_0 (by decide) ?_
  refine lv_istore_n (lv' := [(3, .int 0), (0, .ref (a0 0)), (1, .int p1), (2, .int p2)]) hx hb dX7_countAround_1 rfl hl (by decide) rfl (fun ls hl => ?_)
  refine lv_iconst (v := 0) hx hb dX7_countAround_2 (by decide) ?_
  refine lv_istore (lv' := [(4, .int 0), (3, .int 0), (0, .ref (a0 0)), (1, .int p1), (2, .int p2)]) hx hb dX7_countAround_3 hl (by decide) rfl (fun ls hl => ?_)
  exact j5 p1 p2 0 0 hF _ _ _ hP hD hS (lv_sub hl [2, 3, 4, 1, 0] rfl)

-- StrokeOutliner$Grid.upToUnit(I)I
def F_X2_upToUnit (p0 : Int32) : Option (Int32) :=
  obd (F_J9_floorDiv_7cf53 ((p0 + 64) - 1) 64) (fun u_1 => some u_1)
abbrev wz_X2_upToUnit : List Cond := .code yX2_upToUnit cX2_upToUnit 1 (some .int) :: wALL
abbrev rm_X2_upToUnit : Room := { frames := 1, cells := 0, slots := 0, locals := 22 }
abbrev Q_X2_upToUnit (dC : Nat → ClassId) (dI : Nat → Nat → Nat) (cI : ClassId) (u : (Int32)) (A : Nat → Prop) : Array Value → State → Outcome → State → Prop := va_Qi (fun (r : Int32) (_ : Unit) => r = u) (fun _ => q_at dC dI cI A ([] : va_W)) A
set_option maxHeartbeats 4000000 in
set_option maxRecDepth 100000 in
theorem c_X2_upToUnit (l : Launch) (dC : Nat → ClassId) (dI : Nat → Nat → Nat) (cI : ClassId) (sz : Nat) (p0 : Int32) (u : (Int32)) (hF : F_X2_upToUnit p0 = some u) : Met l yX2_upToUnit wz_X2_upToUnit rm_X2_upToUnit (va_Pc [.int p0] (q_pre dC dI cI ([] : va_W) sz)) (Q_X2_upToUnit dC dI cI u (va_A ([] : va_W) sz)) 0 0 (va_A ([] : va_W) sz) := by
  refine Met.ofW (cc := cX2_upToUnit) (maxL := 1) (ret := (some .int)) (by decide) rfl ?_
  intro p e s m args below meth c s₁ B hml hv
  obtain ⟨rfl, hsz, hP, hK, hD0⟩ := hv
  have hx := B.exec
  have hb := B.bytes
  have hr := B.returns
  have hts := atoms_spec (ws := wz_X2_upToUnit) B.pre
  have hta := wz_tl hts
  have hown : s.vm.findClass RX2 = some m.cls := findClass_of_methodNamed B.named
  have hlocks := B.notSynchronized
  subst hsz
  have hD := hD0.self (sz := s.heap.size)
  generalize hAe : va_A ([] : va_W) s.heap.size = A at hD ⊢
  have hA : ∀ q : Nat, s.heap.size ≤ q → A q := fun q h => by rw [← hAe]; exact Or.inr h
  have hS : va_S A s.heap s.heap [] := va_S.rf
  have hP : va_P (dC, dI) vwCl ([] : va_W) s.heap := hP
  have hl := lv_entry ([.int p0]) (n := 1) (Nat.le_of_ble_eq_true rfl)
  rw [lg_entry_eq]
  generalize (lg_sl ([.int p0]) ++ List.replicate (1 - (lg_sl ([.int p0])).length) Slot.unset).toArray = ls at hl ⊢
  have hl : lv_has ls 1 [(0, .int p0)] := hl
  obtain ⟨H, hHe⟩ : ∃ H, H = s.heap := ⟨_, rfl⟩
  have hS : va_S A s.heap H [] := by rw [hHe]; exact hS
  have hP : va_P (dC, dI) vwCl ([] : va_W) H := by rw [hHe]; exact hP
  rw [← hHe]
  unfold F_X2_upToUnit at hF
  refine lv_iload_n hx hb dX2_upToUnit_0 rfl (lv_at hl 0 rfl) ?_
  refine lv_bipush (v := 64) hx hb dX2_upToUnit_1 (by decide) ?_
  refine lv_iadd hx hb dX2_upToUnit_3 ?_
  refine lv_iconst (v := 1) hx hb dX2_upToUnit_4 (by decide) ?_
  refine lv_isub hx hb dX2_upToUnit_5 ?_
  refine lv_bipush (v := 64) hx hb dX2_upToUnit_6 (by decide) ?_
  obtain ⟨u_1, hu_1, hF⟩ := obd_some hF
  have hPc := hP.sub (ws' := ([] : va_W)) [] rfl
  have hDc := hD.sub (ws' := ([] : va_W)) [] rfl rfl
  refine q_calli (wc := ([] : va_W)) (w1 := ([] : va_W)) (ws' := ([] : va_W)) hP hD hS hA [] [] [] rfl rfl rfl (by decide) rfl rfl (va_runS (As := [.int ((p0 + 64) - 1), .int 64]) (rest := []) ⟨hx, hb, hml, hown, hta⟩ (c_J9_floorDiv_7cf53 l dC dI cI H.size ((p0 + 64) - 1) 64 u_1 hu_1) (va_cwS 2 hta (ga_S mA646 mA647 mA648 mA649) rfl rfl rfl (by decide +kernel) ⟨Nat.le_of_ble_eq_true rfl, Nat.le_of_ble_eq_true rfl⟩) ⟨q_fb, q_ps hPc hK hDc⟩ rfl rfl hl.1 rfl (lv_room (Nat.le_of_ble_eq_true rfl)) dX2_upToUnit_8 ⟨Nat.zero_le _, Nat.zero_le _⟩) (fun H locs hP hD hS => ?_)
  obtain rfl := Option.some.inj hF
  exact W.iret (v := u_1) hx hb hr (fun t ht hW => ⟨⟨u_1, (), rfl, rfl, by rw [ht]; exact hP, va_K.moved hW.alike hK, hD⟩, hS.F ht⟩) hS.2.2 dX2_upToUnit_11

-- StrokeOutliner$Grid.downToUnit(I)I
def F_X2_downToUnit (p0 : Int32) : Option (Int32) :=
  obd (F_J9_floorDiv_7cf53 p0 64) (fun u_1 => some u_1)
abbrev wz_X2_downToUnit : List Cond := .code yX2_downToUnit cX2_downToUnit 1 (some .int) :: wALL
abbrev rm_X2_downToUnit : Room := { frames := 1, cells := 0, slots := 0, locals := 22 }
abbrev Q_X2_downToUnit (dC : Nat → ClassId) (dI : Nat → Nat → Nat) (cI : ClassId) (u : (Int32)) (A : Nat → Prop) : Array Value → State → Outcome → State → Prop := va_Qi (fun (r : Int32) (_ : Unit) => r = u) (fun _ => q_at dC dI cI A ([] : va_W)) A
set_option maxHeartbeats 4000000 in
set_option maxRecDepth 100000 in
theorem c_X2_downToUnit (l : Launch) (dC : Nat → ClassId) (dI : Nat → Nat → Nat) (cI : ClassId) (sz : Nat) (p0 : Int32) (u : (Int32)) (hF : F_X2_downToUnit p0 = some u) : Met l yX2_downToUnit wz_X2_downToUnit rm_X2_downToUnit (va_Pc [.int p0] (q_pre dC dI cI ([] : va_W) sz)) (Q_X2_downToUnit dC dI cI u (va_A ([] : va_W) sz)) 0 0 (va_A ([] : va_W) sz) := by
  refine Met.ofW (cc := cX2_downToUnit) (maxL := 1) (ret := (some .int)) (by decide) rfl ?_
  intro p e s m args below meth c s₁ B hml hv
  obtain ⟨rfl, hsz, hP, hK, hD0⟩ := hv
  have hx := B.exec
  have hb := B.bytes
  have hr := B.returns
  have hts := atoms_spec (ws := wz_X2_downToUnit) B.pre
  have hta := wz_tl hts
  have hown : s.vm.findClass RX2 = some m.cls := findClass_of_methodNamed B.named
  have hlocks := B.notSynchronized
  subst hsz
  have hD := hD0.self (sz := s.heap.size)
  generalize hAe : va_A ([] : va_W) s.heap.size = A at hD ⊢
  have hA : ∀ q : Nat, s.heap.size ≤ q → A q := fun q h => by rw [← hAe]; exact Or.inr h
  have hS : va_S A s.heap s.heap [] := va_S.rf
  have hP : va_P (dC, dI) vwCl ([] : va_W) s.heap := hP
  have hl := lv_entry ([.int p0]) (n := 1) (Nat.le_of_ble_eq_true rfl)
  rw [lg_entry_eq]
  generalize (lg_sl ([.int p0]) ++ List.replicate (1 - (lg_sl ([.int p0])).length) Slot.unset).toArray = ls at hl ⊢
  have hl : lv_has ls 1 [(0, .int p0)] := hl
  obtain ⟨H, hHe⟩ : ∃ H, H = s.heap := ⟨_, rfl⟩
  have hS : va_S A s.heap H [] := by rw [hHe]; exact hS
  have hP : va_P (dC, dI) vwCl ([] : va_W) H := by rw [hHe]; exact hP
  rw [← hHe]
  unfold F_X2_downToUnit at hF
  refine lv_iload_n hx hb dX2_downToUnit_0 rfl (lv_at hl 0 rfl) ?_
  refine lv_bipush (v := 64) hx hb dX2_downToUnit_1 (by decide) ?_
  obtain ⟨u_1, hu_1, hF⟩ := obd_some hF
  have hPc := hP.sub (ws' := ([] : va_W)) [] rfl
  have hDc := hD.sub (ws' := ([] : va_W)) [] rfl rfl
  refine q_calli (wc := ([] : va_W)) (w1 := ([] : va_W)) (ws' := ([] : va_W)) hP hD hS hA [] [] [] rfl rfl rfl (by decide) rfl rfl (va_runS (As := [.int p0, .int 64]) (rest := []) ⟨hx, hb, hml, hown, hta⟩ (c_J9_floorDiv_7cf53 l dC dI cI H.size p0 64 u_1 hu_1) (va_cwS 2 hta (ga_S mA646 mA647 mA648 mA649) rfl rfl rfl (by decide +kernel) ⟨Nat.le_of_ble_eq_true rfl, Nat.le_of_ble_eq_true rfl⟩) ⟨q_fb, q_ps hPc hK hDc⟩ rfl rfl hl.1 rfl (lv_room (Nat.le_of_ble_eq_true rfl)) dX2_downToUnit_3 ⟨Nat.zero_le _, Nat.zero_le _⟩) (fun H locs hP hD hS => ?_)
  obtain rfl := Option.some.inj hF
  exact W.iret (v := u_1) hx hb hr (fun t ht hW => ⟨⟨u_1, (), rfl, rfl, by rw [ht]; exact hP, va_K.moved hW.alike hK, hD⟩, hS.F ht⟩) hS.2.2 dX2_downToUnit_6

-- StrokeOutliner$Grid.markCovered(LStrokeOutliner$Pieces;IIIII)V
def F_X2_markCovered_j164 (v0_0 : Nat → Int32) (x11 : Int32) : Option (Sum (Int32 × (Nat → Int32)) ((Nat → Int32))) :=
  lt (x11 + 1) (fun y_1 => some (.inl (y_1, v0_0)))
def F_X2_markCovered_j158 (v0_0 : Nat → Int32) (x12 : Int32) : Option (Sum (Int32 × (Nat → Int32)) ((Nat → Int32))) :=
  lt (x12 + 1) (fun y_2 => some (.inl (y_2, v0_0)))
def F_X2_markCovered_b97 (n : Nat) (v1_5 : Int32) (v1_0 : Nat → Int32) (v1_1 : Nat → Int32) (v1_2 : Nat → Int32) (x2 : Int32) (x3 : Int32) (x4 : Int32) (x8 : Int32) (x11 : Int32) (s97 : Int32 × (Nat → Int32)) : Option (Sum (Int32 × (Nat → Int32)) ((Nat → Int32))) :=
  if x8 < s97.1 then some (.inr s97.2) else lt (1 <<< (s97.1 &&& 31)) (fun y_4 => gd (decide (vpi x11 21)) (if ((s97.2 x11.toNatClampNeg) &&& y_4) = 0 then obd (F_X7_covers n v1_5 v1_0 v1_1 v1_2 x2 (64 * (x3 + s97.1)) (64 * (x4 + x11))) (fun u_7 => if u_7 = 0 then F_X2_markCovered_j158 s97.2 s97.1 else gd (decide (vpi x11 21)) (lt ((s97.2 x11.toNatClampNeg) ||| y_4) (fun y_10 => gd (decide (vpi x11 21)) (lt (upd s97.2 x11.toNatClampNeg y_10) (fun y_12 => F_X2_markCovered_j158 y_12 s97.1))))) else F_X2_markCovered_j158 s97.2 s97.1))
def F_X2_markCovered_j97 (n : Nat) (v0_0 : Nat → Int32) (v1_5 : Int32) (v1_0 : Nat → Int32) (v1_1 : Nat → Int32) (v1_2 : Nat → Int32) (x2 : Int32) (x3 : Int32) (x4 : Int32) (x8 : Int32) (x11 : Int32) (x12 : Int32) : Option (Sum (Int32 × (Nat → Int32)) ((Nat → Int32))) :=
  obd (lpq (F_X2_markCovered_b97 n v1_5 v1_0 v1_1 v1_2 x2 x3 x4 x8 x11) n (x12, v0_0)) (fun x_97 => F_X2_markCovered_j164 x_97 x11)
def F_X2_markCovered_b86 (n : Nat) (v1_5 : Int32) (v1_0 : Nat → Int32) (v1_1 : Nat → Int32) (v1_2 : Nat → Int32) (x2 : Int32) (x3 : Int32) (x4 : Int32) (x7 : Int32) (x8 : Int32) (x10 : Int32) (s86 : Int32 × (Nat → Int32)) : Option (Sum (Int32 × (Nat → Int32)) ((Nat → Int32))) :=
  if x10 < s86.1 then some (.inr s86.2) else F_X2_markCovered_j97 n s86.2 v1_5 v1_0 v1_1 v1_2 x2 x3 x4 x8 s86.1 x7
def F_X2_markCovered_j86 (n : Nat) (v0_0 : Nat → Int32) (v1_5 : Int32) (v1_0 : Nat → Int32) (v1_1 : Nat → Int32) (v1_2 : Nat → Int32) (x2 : Int32) (x3 : Int32) (x4 : Int32) (x7 : Int32) (x8 : Int32) (x10 : Int32) (x11 : Int32) : Option ((Nat → Int32)) :=
  obd (lpq (F_X2_markCovered_b86 n v1_5 v1_0 v1_1 v1_2 x2 x3 x4 x7 x8 x10) n (x11, v0_0)) (fun x_86 => some x_86)
def F_X2_markCovered (n : Nat) (v0_0 : Nat → Int32) (v1_5 : Int32) (v1_0 : Nat → Int32) (v1_1 : Nat → Int32) (v1_2 : Nat → Int32) (p2 : Int32) (p3 : Int32) (p4 : Int32) (p5 : Int32) (p6 : Int32) : Option ((Nat → Int32)) :=
  obd (F_X7_edgeOf n v1_5 v1_0 v1_1 v1_2 p2 0) (fun u_14 => obd (F_X2_upToUnit u_14) (fun u_15 => lt (u_15 - p3) (fun y_16 => lt (if 0 < y_16 then y_16 else 0) (fun y_17 => obd (F_X7_edgeOf n v1_5 v1_0 v1_1 v1_2 p2 1) (fun u_18 => obd (F_X2_downToUnit u_18) (fun u_19 => lt (u_19 - p3) (fun y_20 => lt (if 20 < p5 then 20 else p5) (fun y_21 => lt (if y_20 < y_21 then y_20 else y_21) (fun y_22 => obd (F_X7_edgeOf n v1_5 v1_0 v1_1 v1_2 p2 2) (fun u_23 => obd (F_X2_upToUnit u_23) (fun u_24 => lt (u_24 - p4) (fun y_25 => lt (if 0 < y_25 then y_25 else 0) (fun y_26 => obd (F_X7_edgeOf n v1_5 v1_0 v1_1 v1_2 p2 3) (fun u_27 => obd (F_X2_downToUnit u_27) (fun u_28 => lt (u_28 - p4) (fun y_29 => lt (if 20 < p6 then 20 else p6) (fun y_30 => lt (if y_29 < y_30 then y_29 else y_30) (fun y_31 => F_X2_markCovered_j86 n v0_0 v1_5 v1_0 v1_1 v1_2 p2 p3 p4 y_17 y_22 y_31 y_26))))))))))))))))))
abbrev wd_X2_markCovered (cI : ClassId) (a0 : Nat → Nat) (a1 : Nat → Nat) (v0_0 : Nat → Int32) (v1_3 : Int32) (v1_4 : Int32) (v1_5 : Int32) (v1_0 : Nat → Int32) (v1_1 : Nat → Int32) (v1_2 : Nat → Int32) : va_W := [(a0 0, .inr (2, [.ref (a0 1)])), (a0 1, .inl (cI, 21, .inl v0_0)), (a1 0, .inr (6, [.ref (a1 1), .ref (a1 2), .ref (a1 3), .int v1_3, .int v1_4, .int v1_5])), (a1 1, .inl (cI, 2800, .inl v1_0)), (a1 2, .inl (cI, 11200, .inl v1_1)), (a1 3, .inl (cI, 11200, .inl v1_2))]
abbrev wz_X2_markCovered : List Cond := .code yX2_markCovered cX2_markCovered 14 none :: wALL
abbrev rm_X2_markCovered : Room := { frames := 5, cells := 0, slots := 0, locals := 119 }
abbrev Q_X2_markCovered (dC : Nat → ClassId) (dI : Nat → Nat → Nat) (cI : ClassId) (a0 : Nat → Nat) (a1 : Nat → Nat) (v1_3 : Int32) (v1_4 : Int32) (v1_5 : Int32) (v1_0 : Nat → Int32) (v1_1 : Nat → Int32) (v1_2 : Nat → Int32) (u : ((Nat → Int32))) (A : Nat → Prop) : Array Value → State → Outcome → State → Prop := va_Qv (fun (_ : Unit) => True) (fun _ => q_at dC dI cI A (wd_X2_markCovered cI a0 a1 u v1_3 v1_4 v1_5 v1_0 v1_1 v1_2)) A
set_option maxHeartbeats 4000000 in
set_option maxRecDepth 100000 in
theorem c_X2_markCovered (l : Launch) (dC : Nat → ClassId) (dI : Nat → Nat → Nat) (cI : ClassId) (sz : Nat) (a0 : Nat → Nat) (a1 : Nat → Nat) (v0_0 : Nat → Int32) (v1_3 : Int32) (v1_4 : Int32) (v1_5 : Int32) (v1_0 : Nat → Int32) (v1_1 : Nat → Int32) (v1_2 : Nat → Int32) (p2 : Int32) (p3 : Int32) (p4 : Int32) (p5 : Int32) (p6 : Int32) (n : Nat) (u : ((Nat → Int32))) (hF : F_X2_markCovered n v0_0 v1_5 v1_0 v1_1 v1_2 p2 p3 p4 p5 p6 = some u) : Met l yX2_markCovered wz_X2_markCovered rm_X2_markCovered (va_Pc [.ref (a0 0), .ref (a1 0), .int p2, .int p3, .int p4, .int p5, .int p6] (q_pre dC dI cI (wd_X2_markCovered cI a0 a1 v0_0 v1_3 v1_4 v1_5 v1_0 v1_1 v1_2) sz)) (Q_X2_markCovered dC dI cI a0 a1 v1_3 v1_4 v1_5 v1_0 v1_1 v1_2 u (va_A (wd_X2_markCovered cI a0 a1 v0_0 v1_3 v1_4 v1_5 v1_0 v1_1 v1_2) sz)) 0 0 (va_A (wd_X2_markCovered cI a0 a1 v0_0 v1_3 v1_4 v1_5 v1_0 v1_1 v1_2) sz) := by
  refine Met.ofW (cc := cX2_markCovered) (maxL := 14) (ret := none) (by decide) rfl ?_
  intro p e s m args below meth c s₁ B hml hv
  obtain ⟨rfl, hsz, hP, hK, hD0⟩ := hv
  have hx := B.exec
  have hb := B.bytes
  have hr := B.returns
  have hts := atoms_spec (ws := wz_X2_markCovered) B.pre
  have hta := wz_tl hts
  have hown : s.vm.findClass RX2 = some m.cls := findClass_of_methodNamed B.named
  have hlocks := B.notSynchronized
  subst hsz
  have hD := hD0.self (sz := s.heap.size)
  generalize hAe : va_A (wd_X2_markCovered cI a0 a1 v0_0 v1_3 v1_4 v1_5 v1_0 v1_1 v1_2) s.heap.size = A at hD ⊢
  have hA : ∀ q : Nat, s.heap.size ≤ q → A q := fun q h => by rw [← hAe]; exact Or.inr h
  have hS : va_S A s.heap s.heap [] := va_S.rf
  have hP : va_P (dC, dI) vwCl (wd_X2_markCovered cI a0 a1 v0_0 v1_3 v1_4 v1_5 v1_0 v1_1 v1_2) s.heap := hP
  have hl := lv_entry ([.ref (a0 0), .ref (a1 0), .int p2, .int p3, .int p4, .int p5, .int p6]) (n := 14) (Nat.le_of_ble_eq_true rfl)
  rw [lg_entry_eq]
  generalize (lg_sl ([.ref (a0 0), .ref (a1 0), .int p2, .int p3, .int p4, .int p5, .int p6]) ++ List.replicate (14 - (lg_sl ([.ref (a0 0), .ref (a1 0), .int p2, .int p3, .int p4, .int p5, .int p6])).length) Slot.unset).toArray = ls at hl ⊢
  have hl : lv_has ls 14 [(0, .ref (a0 0)), (1, .ref (a1 0)), (2, .int p2), (3, .int p3), (4, .int p4), (5, .int p5), (6, .int p6)] := hl
  obtain ⟨H, hHe⟩ : ∃ H, H = s.heap := ⟨_, rfl⟩
  have hS : va_S A s.heap H [] := by rw [hHe]; exact hS
  have hP : va_P (dC, dI) vwCl (wd_X2_markCovered cI a0 a1 v0_0 v1_3 v1_4 v1_5 v1_0 v1_1 v1_2) H := by rw [hHe]; exact hP
  rw [← hHe]
  unfold F_X2_markCovered at hF
  have j86 : ∀ (v0_0 : Nat → Int32) (x2 : Int32) (x3 : Int32) (x4 : Int32) (x7 : Int32) (x8 : Int32) (x10 : Int32) (x11 : Int32), F_X2_markCovered_j86 n v0_0 v1_5 v1_0 v1_1 v1_2 x2 x3 x4 x7 x8 x10 x11 = some u → ∀ (H : Heap) (locs : List Loc) (ls : Array Slot), va_P (dC, dI) vwCl (wd_X2_markCovered cI a0 a1 v0_0 v1_3 v1_4 v1_5 v1_0 v1_1 v1_2) H → va_D A (wd_X2_markCovered cI a0 a1 v0_0 v1_3 v1_4 v1_5 v1_0 v1_1 v1_2) → va_S A s.heap H locs → lv_has ls 14 [(0, .ref (a0 0)), (1, .ref (a1 0)), (2, .int x2), (3, .int x3), (4, .int x4), (7, .int x7), (8, .int x8), (10, .int x10), (11, .int x11)] → W p l e (headSpec wz_X2_markCovered rm_X2_markCovered).room s m [.ref (a0 0), .ref (a1 0), .int p2, .int p3, .int p4, .int p5, .int p6].toArray below meth c H locs 0 0 (MQ below (Q_X2_markCovered dC dI cI a0 a1 v1_3 v1_4 v1_5 v1_0 v1_1 v1_2 u A) [.ref (a0 0), .ref (a1 0), .int p2, .int p3, .int p4, .int p5, .int p6].toArray s 0 0 A) (F0 m 86 ls []) := by
    intro v0_0 x2 x3 x4 x7 x8 x10 x11 hF H locs ls hP hD hS hl
    unfold F_X2_markCovered_j86 at hF
    obtain ⟨x_86, hL_86, hE_86⟩ := obd_some hF
    have kl_86 : ∀ (k : Nat) (s86 : Int32 × (Nat → Int32)), lpq (F_X2_markCovered_b86 n v1_5 v1_0 v1_1 v1_2 x2 x3 x4 x7 x8 x10) k s86 = some x_86 → ∀ (H : Heap) (locs : List Loc) (ls : Array Slot), va_P (dC, dI) vwCl (wd_X2_markCovered cI a0 a1 s86.2 v1_3 v1_4 v1_5 v1_0 v1_1 v1_2) H → va_D A (wd_X2_markCovered cI a0 a1 s86.2 v1_3 v1_4 v1_5 v1_0 v1_1 v1_2) → va_S A s.heap H locs → lv_has ls 14 [(0, .ref (a0 0)), (1, .ref (a1 0)), (2, .int x2), (3, .int x3), (4, .int x4), (7, .int x7), (8, .int x8), (10, .int x10), (11, .int s86.1)] → W p l e (headSpec wz_X2_markCovered rm_X2_markCovered).room s m [.ref (a0 0), .ref (a1 0), .int p2, .int p3, .int p4, .int p5, .int p6].toArray below meth c H locs 0 0 (MQ below (Q_X2_markCovered dC dI cI a0 a1 v1_3 v1_4 v1_5 v1_0 v1_1 v1_2 u A) [.ref (a0 0), .ref (a1 0), .int p2, .int p3, .int p4, .int p5, .int p6].toArray s 0 0 A) (F0 m 86 ls []) := by
      intro k
      induction k with
      | zero => intro s86 h; exact absurd h lpq_zero
      | succ k ih_86 =>
        intro s86 h H locs ls hP hD hS hl
        obtain ⟨o_86, hF, hO_86⟩ := lpq_succ h
        unfold F_X2_markCovered_b86 at hF
        have j164 : ∀ (v0_0 : Nat → Int32) (x11 : Int32), F_X2_markCovered_j164 v0_0 x11 = some o_86 → ∀ (H : Heap) (locs : List Loc) (ls : Array Slot), va_P (dC, dI) vwCl (wd_X2_markCovered cI a0 a1 v0_0 v1_3 v1_4 v1_5 v1_0 v1_1 v1_2) H → va_D A (wd_X2_markCovered cI a0 a1 v0_0 v1_3 v1_4 v1_5 v1_0 v1_1 v1_2) → va_S A s.heap H locs → lv_has ls 14 [(0, .ref (a0 0)), (1, .ref (a1 0)), (2, .int x2), (3, .int x3), (4, .int x4), (7, .int x7), (8, .int x8), (10, .int x10), (11, .int x11)] → W p l e (headSpec wz_X2_markCovered rm_X2_markCovered).room s m [.ref (a0 0), .ref (a1 0), .int p2, .int p3, .int p4, .int p5, .int p6].toArray below meth c H locs 0 0 (MQ below (Q_X2_markCovered dC dI cI a0 a1 v1_3 v1_4 v1_5 v1_0 v1_1 v1_2 u A) [.ref (a0 0), .ref (a1 0), .int p2, .int p3, .int p4, .int p5, .int p6].toArray s 0 0 A) (F0 m 164 ls []) := by
          intro v0_0 x11 hF H locs ls hP hD hS hl
          unfold F_X2_markCovered_j164 at hF
          obtain ⟨y_1, ey_1, hF⟩ := lt_some hF
          refine lv_iinc (v := y_1) (lv' := [(11, .int y_1), (0, .ref (a0 0)), (1, .ref (a1 0)), (2, .int x2), (3, .int x3), (4, .int x4), (7, .int x7), (8, .int x8), (10, .int x10)]) hx hb dX2_markCovered_164 hl (k := 8) rfl (by rw [ey_1]; rfl) (by decide) rfl (fun ls hl => ?_)
          refine lv_goto (tgt := 86) hx hb dX2_markCovered_167 (by decide) ?_
          obtain rfl := Option.some.inj hF
          exact ih_86 _ hO_86 _ _ _ hP hD hS (lv_sub hl [1, 2, 3, 4, 5, 6, 7, 8, 0] rfl)
        have j97 : ∀ (v0_0 : Nat → Int32) (x11 : Int32) (x12 : Int32), F_X2_markCovered_j97 n v0_0 v1_5 v1_0 v1_1 v1_2 x2 x3 x4 x8 x11 x12 = some o_86 → ∀ (H : Heap) (locs : List Loc) (ls : Array Slot), va_P (dC, dI) vwCl (wd_X2_markCovered cI a0 a1 v0_0 v1_3 v1_4 v1_5 v1_0 v1_1 v1_2) H → va_D A (wd_X2_markCovered cI a0 a1 v0_0 v1_3 v1_4 v1_5 v1_0 v1_1 v1_2) → va_S A s.heap H locs → lv_has ls 14 [(0, .ref (a0 0)), (1, .ref (a1 0)), (2, .int x2), (3, .int x3), (4, .int x4), (7, .int x7), (8, .int x8), (10, .int x10), (11, .int x11), (12, .int x12)] → W p l e (headSpec wz_X2_markCovered rm_X2_markCovered).room s m [.ref (a0 0), .ref (a1 0), .int p2, .int p3, .int p4, .int p5, .int p6].toArray below meth c H locs 0 0 (MQ below (Q_X2_markCovered dC dI cI a0 a1 v1_3 v1_4 v1_5 v1_0 v1_1 v1_2 u A) [.ref (a0 0), .ref (a1 0), .int p2, .int p3, .int p4, .int p5, .int p6].toArray s 0 0 A) (F0 m 97 ls []) := by
          intro v0_0 x11 x12 hF H locs ls hP hD hS hl
          unfold F_X2_markCovered_j97 at hF
          obtain ⟨x_97, hL_97, hE_97⟩ := obd_some hF
          have kl_97 : ∀ (k : Nat) (s97 : Int32 × (Nat → Int32)), lpq (F_X2_markCovered_b97 n v1_5 v1_0 v1_1 v1_2 x2 x3 x4 x8 x11) k s97 = some x_97 → ∀ (H : Heap) (locs : List Loc) (ls : Array Slot), va_P (dC, dI) vwCl (wd_X2_markCovered cI a0 a1 s97.2 v1_3 v1_4 v1_5 v1_0 v1_1 v1_2) H → va_D A (wd_X2_markCovered cI a0 a1 s97.2 v1_3 v1_4 v1_5 v1_0 v1_1 v1_2) → va_S A s.heap H locs → lv_has ls 14 [(0, .ref (a0 0)), (1, .ref (a1 0)), (2, .int x2), (3, .int x3), (4, .int x4), (7, .int x7), (8, .int x8), (10, .int x10), (11, .int x11), (12, .int s97.1)] → W p l e (headSpec wz_X2_markCovered rm_X2_markCovered).room s m [.ref (a0 0), .ref (a1 0), .int p2, .int p3, .int p4, .int p5, .int p6].toArray below meth c H locs 0 0 (MQ below (Q_X2_markCovered dC dI cI a0 a1 v1_3 v1_4 v1_5 v1_0 v1_1 v1_2 u A) [.ref (a0 0), .ref (a1 0), .int p2, .int p3, .int p4, .int p5, .int p6].toArray s 0 0 A) (F0 m 97 ls []) := by
            intro k
            induction k with
            | zero => intro s97 h; exact absurd h lpq_zero
            | succ k ih_97 =>
              intro s97 h H locs ls hP hD hS hl
              obtain ⟨o_97, hF, hO_97⟩ := lpq_succ h
              unfold F_X2_markCovered_b97 at hF
              have j158 : ∀ (v0_0 : Nat → Int32) (x12 : Int32), F_X2_markCovered_j158 v0_0 x12 = some o_97 → ∀ (H : Heap) (locs : List Loc) (ls : Array Slot), va_P (dC, dI) vwCl (wd_X2_markCovered cI a0 a1 v0_0 v1_3 v1_4 v1_5 v1_0 v1_1 v1_2) H → va_D A (wd_X2_markCovered cI a0 a1 v0_0 v1_3 v1_4 v1_5 v1_0 v1_1 v1_2) → va_S A s.heap H locs → lv_has ls 14 [(0, .ref (a0 0)), (1, .ref (a1 0)), (2, .int x2), (3, .int x3), (4, .int x4), (7, .int x7), (8, .int x8), (10, .int x10), (11, .int x11), (12, .int x12)] → W p l e (headSpec wz_X2_markCovered rm_X2_markCovered).room s m [.ref (a0 0), .ref (a1 0), .int p2, .int p3, .int p4, .int p5, .int p6].toArray below meth c H locs 0 0 (MQ below (Q_X2_markCovered dC dI cI a0 a1 v1_3 v1_4 v1_5 v1_0 v1_1 v1_2 u A) [.ref (a0 0), .ref (a1 0), .int p2, .int p3, .int p4, .int p5, .int p6].toArray s 0 0 A) (F0 m 158 ls []) := by
                intro v0_0 x12 hF H locs ls hP hD hS hl
                unfold F_X2_markCovered_j158 at hF
                obtain ⟨y_2, ey_2, hF⟩ := lt_some hF
                refine lv_iinc (v := y_2) (lv' := [(12, .int y_2), (0, .ref (a0 0)), (1, .ref (a1 0)), (2, .int x2), (3, .int x3), (4, .int x4), (7, .int x7), (8, .int x8), (10, .int x10), (11, .int x11)]) hx hb dX2_markCovered_158 hl (k := 9) rfl (by rw [ey_2]; rfl) (by decide) rfl (fun ls hl => ?_)
                refine lv_goto (tgt := 97) hx hb dX2_markCovered_161 (by decide) ?_
                obtain rfl := Option.some.inj hF
                exact ih_97 _ hO_97 _ _ _ hP hD hS (lv_sub hl [1, 2, 3, 4, 5, 6, 7, 8, 9, 0] rfl)
              refine lv_iload hx hb dX2_markCovered_97 (lv_at hl 9 rfl) ?_
              refine lv_iload hx hb dX2_markCovered_99 (lv_at hl 6 rfl) ?_
              refine lv_icmp_gt (tgt := 164) hx hb dX2_markCovered_101 (by decide) (fun c_3 => ?_) (fun c_3 => ?_)
              · have hF := it_t hF c_3
                obtain rfl := Option.some.inj hF
                obtain rfl := lpq_x hO_97
                have hF := hE_97
                exact j164 s97.2 x11 hF _ _ _ hP hD hS (lv_sub hl [0, 1, 2, 3, 4, 5, 6, 7, 8] rfl)
              · have hF := it_f hF c_3
                refine lv_iconst (v := 1) hx hb dX2_markCovered_104 (by decide) ?_
                refine lv_iload hx hb dX2_markCovered_105 (lv_at hl 9 rfl) ?_
                refine lv_ishl hx hb dX2_markCovered_107 ?_
                obtain ⟨y_4, ey_4, hF⟩ := lt_some hF
                refine lv_eqi ey_4 ?_
                refine lv_istore (lv' := [(13, .int y_4), (0, .ref (a0 0)), (1, .ref (a1 0)), (2, .int x2), (3, .int x3), (4, .int x4), (7, .int x7), (8, .int x8), (10, .int x10), (11, .int x11), (12, .int s97.1)]) hx hb dX2_markCovered_108 hl (by decide) rfl (fun ls hl => ?_)
                refine lv_aload_n hx hb dX2_markCovered_110 rfl (lv_at hl 1 rfl) ?_
                refine va_get (D := (dC, dI)) (ci := 2) (v := .ref (a0 1)) (C := RX2) (T := TX2) (N := 1) hx hb hta uw_X2 hown hK hP 0 rfl rfl 0 (by decide) (hta _ mA104) (fun _ h9 => h9) rfl dX2_markCovered_111 ?_
                refine lv_iload hx hb dX2_markCovered_114 (lv_at hl 9 rfl) ?_
                obtain ⟨g_5, hF⟩ := gd_some hF
                refine va_iald hx hb hK hP 1 0 rfl rfl (vpi_in g_5) dX2_markCovered_116 ?_
                refine lv_iload hx hb dX2_markCovered_117 (lv_at hl 0 rfl) ?_
                refine lv_iand hx hb dX2_markCovered_119 ?_
                refine lv_if_ne (tgt := 158) hx hb dX2_markCovered_120 (by decide) (fun c_6 => ?_) (fun c_6 => ?_)
                · have hF := it_f hF c_6
                  exact j158 s97.2 s97.1 hF _ _ _ hP hD hS (lv_sub hl [1, 2, 3, 4, 5, 6, 7, 8, 9, 10] rfl)
                · have hF := it_t hF c_6
                  refine lv_aload_n hx hb dX2_markCovered_123 rfl (lv_at hl 2 rfl) ?_
                  refine lv_iload_n hx hb dX2_markCovered_124 rfl (lv_at hl 3 rfl) ?_
                  refine lv_bipush (v := 64) hx hb dX2_markCovered_125 (by decide) ?_
                  refine lv_iload_n hx hb dX2_markCovered_127 rfl (lv_at hl 4 rfl) ?_
                  refine lv_iload hx hb dX2_markCovered_128 (lv_at hl 10 rfl) ?_
                  refine lv_iadd hx hb dX2_markCovered_130 ?_
                  refine lv_imul hx hb dX2_markCovered_131 ?_
                  refine lv_bipush (v := 64) hx hb dX2_markCovered_132 (by decide) ?_
                  refine lv_iload hx hb dX2_markCovered_134 (lv_at hl 5 rfl) ?_
                  refine lv_iload hx hb dX2_markCovered_136 (lv_at hl 9 rfl) ?_
                  refine lv_iadd hx hb dX2_markCovered_138 ?_
                  refine lv_imul hx hb dX2_markCovered_139 ?_
                  obtain ⟨u_7, hu_7, hF⟩ := obd_some hF
                  have hPc := hP.sub (ws' := (wd_X7_covers cI a1 v1_3 v1_4 v1_5 v1_0 v1_1 v1_2)) [2, 3, 4, 5] rfl
                  have hDc := hD.sub (ws' := (wd_X7_covers cI a1 v1_3 v1_4 v1_5 v1_0 v1_1 v1_2)) [2, 3, 4, 5] rfl rfl
                  refine q_callz (wc := (wd_X7_covers cI a1 v1_3 v1_4 v1_5 v1_0 v1_1 v1_2)) (w1 := (wd_X7_covers cI a1 v1_3 v1_4 v1_5 v1_0 v1_1 v1_2)) (ws' := (wd_X2_markCovered cI a0 a1 s97.2 v1_3 v1_4 v1_5 v1_0 v1_1 v1_2)) hP hD hS hA [2, 3, 4, 5] [0, 1] [0, 1, 2, 3, 4, 5] rfl rfl rfl (by decide) rfl rfl (va_runV (As := [.int x2, .int (64 * (x3 + s97.1)), .int (64 * (x4 + x11))]) (rest := []) ⟨hx, hb, hml, hown, hta⟩ (c_X7_covers l dC dI cI H.size a1 v1_3 v1_4 v1_5 v1_0 v1_1 v1_2 x2 (64 * (x3 + s97.1)) (64 * (x4 + x11)) n u_7 hu_7) (cwV 3 hta (ga_V mA653 mA619 mA620 mA60 mA621) rfl rfl rfl (by decide +kernel) ⟨Nat.le_of_ble_eq_true rfl, Nat.le_of_ble_eq_true rfl⟩) ⟨q_fb, va_recv hK hP (ci := 6) (q0 := 2) rfl rfl, q_ps hPc hK hDc⟩ rfl rfl hl.1 rfl (lv_room (Nat.le_of_ble_eq_true rfl)) dX2_markCovered_140 ⟨Nat.zero_le _, Nat.zero_le _⟩) (fun hzu_7 H locs hP hD hS => ?_)
                  refine lv_if_eq (tgt := 158) hx hb dX2_markCovered_143 (by decide) (fun c_8 => ?_) (fun c_8 => ?_)
                  · have hF := it_t hF c_8
                    exact j158 s97.2 s97.1 hF _ _ _ hP hD hS (lv_sub hl [1, 2, 3, 4, 5, 6, 7, 8, 9, 10] rfl)
                  · have hF := it_f hF c_8
                    refine lv_aload_n hx hb dX2_markCovered_146 rfl (lv_at hl 1 rfl) ?_
                    refine va_get (D := (dC, dI)) (ci := 2) (v := .ref (a0 1)) (C := RX2) (T := TX2) (N := 1) hx hb hta uw_X2 hown hK hP 0 rfl rfl 0 (by decide) (hta _ mA104) (fun _ h9 => h9) rfl dX2_markCovered_147 ?_
                    refine lv_iload hx hb dX2_markCovered_150 (lv_at hl 9 rfl) ?_
                    refine lv_dup2_11 hx hb dX2_markCovered_152 rfl rfl ?_
                    obtain ⟨g_9, hF⟩ := gd_some hF
                    refine va_iald hx hb hK hP 1 0 rfl rfl (vpi_in g_9) dX2_markCovered_153 ?_
                    refine lv_iload hx hb dX2_markCovered_154 (lv_at hl 0 rfl) ?_
                    refine lv_ior hx hb dX2_markCovered_156 ?_
                    obtain ⟨y_10, ey_10, hF⟩ := lt_some hF
                    refine lv_eqi ey_10 ?_
                    obtain ⟨g_11, hF⟩ := gd_some hF
                    refine va_iast hx hb hK hP hD hS 1 0 rfl rfl (vpi_in g_11) dX2_markCovered_157 (fun H locs hP hD hS => ?_)
                    obtain ⟨y_12, ey_12, hF⟩ := lt_some hF
                    have hP : va_P (dC, dI) vwCl (wd_X2_markCovered cI a0 a1 y_12 v1_3 v1_4 v1_5 v1_0 v1_1 v1_2) H := by rw [ey_12]; exact hP
                    have hD : va_D A (wd_X2_markCovered cI a0 a1 y_12 v1_3 v1_4 v1_5 v1_0 v1_1 v1_2) := by rw [ey_12]; exact hD
                    exact j158 y_12 s97.1 hF _ _ _ hP hD hS (lv_sub hl [1, 2, 3, 4, 5, 6, 7, 8, 9, 10] rfl)
          exact kl_97 n _ hL_97 _ _ _ hP hD hS hl
        refine lv_iload hx hb dX2_markCovered_86 (lv_at hl 8 rfl) ?_
        refine lv_iload hx hb dX2_markCovered_88 (lv_at hl 7 rfl) ?_
        refine lv_icmp_gt (tgt := 170) hx hb dX2_markCovered_90 (by decide) (fun c_13 => ?_) (fun c_13 => ?_)
        · have hF := it_t hF c_13
          obtain rfl := Option.some.inj hF
          obtain rfl := lpq_x hO_86
          have hF := hE_86
          obtain rfl := Option.some.inj hF
          exact W.vret hx hb hr (fun t ht hW => ⟨⟨(), rfl, trivial, by rw [ht]; exact hP, va_K.moved hW.alike hK, hD⟩, hS.F ht⟩) hS.2.2 dX2_markCovered_170
        · have hF := it_f hF c_13
          refine lv_iload hx hb dX2_markCovered_93 (lv_at hl 5 rfl) ?_
          refine lv_istore (lv' := [(12, .int x7), (0, .ref (a0 0)), (1, .ref (a1 0)), (2, .int x2), (3, .int x3), (4, .int x4), (7, .int x7), (8, .int x8), (10, .int x10), (11, .int s86.1)]) hx hb dX2_markCovered_95 hl (by decide) rfl (fun ls hl => ?_)
          exact j97 s86.2 s86.1 x7 hF _ _ _ hP hD hS (lv_sub hl [1, 2, 3, 4, 5, 6, 7, 8, 9, 0] rfl)
    exact kl_86 n _ hL_86 _ _ _ hP hD hS hl
  refine lv_iconst (v := 0) hx hb dX2_markCovered_0 (by decide) ?_
  refine lv_aload_n hx hb dX2_markCovered_1 rfl (lv_at hl 1 rfl) ?_
  refine lv_iload_n hx hb dX2_markCovered_2 rfl (lv_at hl 2 rfl) ?_
  refine lv_iconst (v := 0) hx hb dX2_markCovered_3 (by decide) ?_
  obtain ⟨u_14, hu_14, hF⟩ := obd_some hF
  have hPc := hP.sub (ws' := (wd_X7_edgeOf cI a1 v1_3 v1_4 v1_5 v1_0 v1_1 v1_2)) [2, 3, 4, 5] rfl
  have hDc := hD.sub (ws' := (wd_X7_edgeOf cI a1 v1_3 v1_4 v1_5 v1_0 v1_1 v1_2)) [2, 3, 4, 5] rfl rfl
  refine q_calli (wc := (wd_X7_edgeOf cI a1 v1_3 v1_4 v1_5 v1_0 v1_1 v1_2)) (w1 := (wd_X7_edgeOf cI a1 v1_3 v1_4 v1_5 v1_0 v1_1 v1_2)) (ws' := (wd_X2_markCovered cI a0 a1 v0_0 v1_3 v1_4 v1_5 v1_0 v1_1 v1_2)) hP hD hS hA [2, 3, 4, 5] [0, 1] [0, 1, 2, 3, 4, 5] rfl rfl rfl (by decide) rfl rfl (va_runV (As := [.int p2, .int 0]) (rest := [.int 0]) ⟨hx, hb, hml, hown, hta⟩ (c_X7_edgeOf l dC dI cI H.size a1 v1_3 v1_4 v1_5 v1_0 v1_1 v1_2 p2 0 n u_14 hu_14) (cwV 2 hta (ga_V mA642 mA610 mA611 mA60 mA612) rfl rfl rfl (by decide +kernel) ⟨Nat.le_of_ble_eq_true rfl, Nat.le_of_ble_eq_true rfl⟩) ⟨q_fb, va_recv hK hP (ci := 6) (q0 := 2) rfl rfl, q_ps hPc hK hDc⟩ rfl rfl hl.1 rfl (lv_room (Nat.le_of_ble_eq_true rfl)) dX2_markCovered_4 ⟨Nat.zero_le _, Nat.zero_le _⟩) (fun H locs hP hD hS => ?_)
  obtain ⟨u_15, hu_15, hF⟩ := obd_some hF
  have hPc := hP.sub (ws' := ([] : va_W)) [] rfl
  have hDc := hD.sub (ws' := ([] : va_W)) [] rfl rfl
  refine q_calli (wc := ([] : va_W)) (w1 := ([] : va_W)) (ws' := (wd_X2_markCovered cI a0 a1 v0_0 v1_3 v1_4 v1_5 v1_0 v1_1 v1_2)) hP hD hS hA [] [0, 1, 2, 3, 4, 5] [0, 1, 2, 3, 4, 5] rfl rfl rfl (by decide) rfl rfl (va_runS (As := [.int u_14]) (rest := [.int 0]) ⟨hx, hb, hml, hown, hta⟩ (c_X2_upToUnit l dC dI cI H.size u_14 u_15 hu_15) (va_cwS 1 hta (ga_S mA643 mA644 mA27 mA645) rfl rfl rfl (by decide +kernel) ⟨Nat.le_of_ble_eq_true rfl, Nat.le_of_ble_eq_true rfl⟩) ⟨q_fb, q_ps hPc hK hDc⟩ rfl rfl hl.1 rfl (lv_room (Nat.le_of_ble_eq_true rfl)) dX2_markCovered_7 ⟨Nat.zero_le _, Nat.zero_le _⟩) (fun H locs hP hD hS => ?_)
  refine lv_iload_n hx hb dX2_markCovered_10 rfl (lv_at hl 3 rfl) ?_
  refine lv_isub hx hb dX2_markCovered_11 ?_
  obtain ⟨y_16, ey_16, hF⟩ := lt_some hF
  refine lv_eqi ey_16 ?_
  refine va_mmax hx hb (hml.trans hl.1.symm) hown (hta _ mA640) (hta _ mA283) (hta _ mA280) (hta _ mA284) (Nat.le_of_ble_eq_true rfl) (Nat.le_of_ble_eq_true rfl) (Nat.zero_le _) (Nat.zero_le _) dX2_markCovered_12 ?_
  obtain ⟨y_17, ey_17, hF⟩ := lt_some hF
  refine lv_eqi ey_17 ?_
  refine lv_istore (lv' := [(7, .int y_17), (0, .ref (a0 0)), (1, .ref (a1 0)), (2, .int p2), (3, .int p3), (4, .int p4), (5, .int p5), (6, .int p6)]) hx hb dX2_markCovered_15 hl (by decide) rfl (fun ls hl => ?_)
  refine lv_iload hx hb dX2_markCovered_17 (lv_at hl 6 rfl) ?_
  refine lv_bipush (v := 20) hx hb dX2_markCovered_19 (by decide) ?_
  refine va_mmin hx hb (hml.trans hl.1.symm) hown (hta _ mA641) (hta _ mA279) (hta _ mA280) (hta _ mA281) (Nat.le_of_ble_eq_true rfl) (Nat.le_of_ble_eq_true rfl) (Nat.zero_le _) (Nat.zero_le _) dX2_markCovered_21 ?_
  refine lv_aload_n hx hb dX2_markCovered_24 rfl (lv_at hl 2 rfl) ?_
  refine lv_iload_n hx hb dX2_markCovered_25 rfl (lv_at hl 3 rfl) ?_
  refine lv_iconst (v := 1) hx hb dX2_markCovered_26 (by decide) ?_
  obtain ⟨u_18, hu_18, hF⟩ := obd_some hF
  have hPc := hP.sub (ws' := (wd_X7_edgeOf cI a1 v1_3 v1_4 v1_5 v1_0 v1_1 v1_2)) [2, 3, 4, 5] rfl
  have hDc := hD.sub (ws' := (wd_X7_edgeOf cI a1 v1_3 v1_4 v1_5 v1_0 v1_1 v1_2)) [2, 3, 4, 5] rfl rfl
  refine q_calli (wc := (wd_X7_edgeOf cI a1 v1_3 v1_4 v1_5 v1_0 v1_1 v1_2)) (w1 := (wd_X7_edgeOf cI a1 v1_3 v1_4 v1_5 v1_0 v1_1 v1_2)) (ws' := (wd_X2_markCovered cI a0 a1 v0_0 v1_3 v1_4 v1_5 v1_0 v1_1 v1_2)) hP hD hS hA [2, 3, 4, 5] [0, 1] [0, 1, 2, 3, 4, 5] rfl rfl rfl (by decide) rfl rfl (va_runV (As := [.int p2, .int 1]) (rest := [.int (if 20 < p5 then 20 else p5)]) ⟨hx, hb, hml, hown, hta⟩ (c_X7_edgeOf l dC dI cI H.size a1 v1_3 v1_4 v1_5 v1_0 v1_1 v1_2 p2 1 n u_18 hu_18) (cwV 2 hta (ga_V mA642 mA610 mA611 mA60 mA612) rfl rfl rfl (by decide +kernel) ⟨Nat.le_of_ble_eq_true rfl, Nat.le_of_ble_eq_true rfl⟩) ⟨q_fb, va_recv hK hP (ci := 6) (q0 := 2) rfl rfl, q_ps hPc hK hDc⟩ rfl rfl hl.1 rfl (lv_room (Nat.le_of_ble_eq_true rfl)) dX2_markCovered_27 ⟨Nat.zero_le _, Nat.zero_le _⟩) (fun H locs hP hD hS => ?_)
  obtain ⟨u_19, hu_19, hF⟩ := obd_some hF
  have hPc := hP.sub (ws' := ([] : va_W)) [] rfl
  have hDc := hD.sub (ws' := ([] : va_W)) [] rfl rfl
  refine q_calli (wc := ([] : va_W)) (w1 := ([] : va_W)) (ws' := (wd_X2_markCovered cI a0 a1 v0_0 v1_3 v1_4 v1_5 v1_0 v1_1 v1_2)) hP hD hS hA [] [0, 1, 2, 3, 4, 5] [0, 1, 2, 3, 4, 5] rfl rfl rfl (by decide) rfl rfl (va_runS (As := [.int u_18]) (rest := [.int (if 20 < p5 then 20 else p5)]) ⟨hx, hb, hml, hown, hta⟩ (c_X2_downToUnit l dC dI cI H.size u_18 u_19 hu_19) (va_cwS 1 hta (ga_S mA650 mA651 mA27 mA652) rfl rfl rfl (by decide +kernel) ⟨Nat.le_of_ble_eq_true rfl, Nat.le_of_ble_eq_true rfl⟩) ⟨q_fb, q_ps hPc hK hDc⟩ rfl rfl hl.1 rfl (lv_room (Nat.le_of_ble_eq_true rfl)) dX2_markCovered_30 ⟨Nat.zero_le _, Nat.zero_le _⟩) (fun H locs hP hD hS => ?_)
  refine lv_iload_n hx hb dX2_markCovered_33 rfl (lv_at hl 4 rfl) ?_
  refine lv_isub hx hb dX2_markCovered_34 ?_
  obtain ⟨y_20, ey_20, hF⟩ := lt_some hF
  refine lv_eqi ey_20 ?_
  obtain ⟨y_21, ey_21, hF⟩ := lt_some hF
  refine lv_eq2i ey_21 ?_
  refine va_mmin hx hb (hml.trans hl.1.symm) hown (hta _ mA641) (hta _ mA279) (hta _ mA280) (hta _ mA281) (Nat.le_of_ble_eq_true rfl) (Nat.le_of_ble_eq_true rfl) (Nat.zero_le _) (Nat.zero_le _) dX2_markCovered_35 ?_
  obtain ⟨y_22, ey_22, hF⟩ := lt_some hF
  refine lv_eqi ey_22 ?_
  refine lv_istore (lv' := [(8, .int y_22), (7, .int y_17), (0, .ref (a0 0)), (1, .ref (a1 0)), (2, .int p2), (3, .int p3), (4, .int p4), (5, .int p5), (6, .int p6)]) hx hb dX2_markCovered_38 hl (by decide) rfl (fun ls hl => ?_)
  refine lv_iconst (v := 0) hx hb dX2_markCovered_40 (by decide) ?_
  refine lv_aload_n hx hb dX2_markCovered_41 rfl (lv_at hl 3 rfl) ?_
  refine lv_iload_n hx hb dX2_markCovered_42 rfl (lv_at hl 4 rfl) ?_
  refine lv_iconst (v := 2) hx hb dX2_markCovered_43 (by decide) ?_
  obtain ⟨u_23, hu_23, hF⟩ := obd_some hF
  have hPc := hP.sub (ws' := (wd_X7_edgeOf cI a1 v1_3 v1_4 v1_5 v1_0 v1_1 v1_2)) [2, 3, 4, 5] rfl
  have hDc := hD.sub (ws' := (wd_X7_edgeOf cI a1 v1_3 v1_4 v1_5 v1_0 v1_1 v1_2)) [2, 3, 4, 5] rfl rfl
  refine q_calli (wc := (wd_X7_edgeOf cI a1 v1_3 v1_4 v1_5 v1_0 v1_1 v1_2)) (w1 := (wd_X7_edgeOf cI a1 v1_3 v1_4 v1_5 v1_0 v1_1 v1_2)) (ws' := (wd_X2_markCovered cI a0 a1 v0_0 v1_3 v1_4 v1_5 v1_0 v1_1 v1_2)) hP hD hS hA [2, 3, 4, 5] [0, 1] [0, 1, 2, 3, 4, 5] rfl rfl rfl (by decide) rfl rfl (va_runV (As := [.int p2, .int 2]) (rest := [.int 0]) ⟨hx, hb, hml, hown, hta⟩ (c_X7_edgeOf l dC dI cI H.size a1 v1_3 v1_4 v1_5 v1_0 v1_1 v1_2 p2 2 n u_23 hu_23) (cwV 2 hta (ga_V mA642 mA610 mA611 mA60 mA612) rfl rfl rfl (by decide +kernel) ⟨Nat.le_of_ble_eq_true rfl, Nat.le_of_ble_eq_true rfl⟩) ⟨q_fb, va_recv hK hP (ci := 6) (q0 := 2) rfl rfl, q_ps hPc hK hDc⟩ rfl rfl hl.1 rfl (lv_room (Nat.le_of_ble_eq_true rfl)) dX2_markCovered_44 ⟨Nat.zero_le _, Nat.zero_le _⟩) (fun H locs hP hD hS => ?_)
  obtain ⟨u_24, hu_24, hF⟩ := obd_some hF
  have hPc := hP.sub (ws' := ([] : va_W)) [] rfl
  have hDc := hD.sub (ws' := ([] : va_W)) [] rfl rfl
  refine q_calli (wc := ([] : va_W)) (w1 := ([] : va_W)) (ws' := (wd_X2_markCovered cI a0 a1 v0_0 v1_3 v1_4 v1_5 v1_0 v1_1 v1_2)) hP hD hS hA [] [0, 1, 2, 3, 4, 5] [0, 1, 2, 3, 4, 5] rfl rfl rfl (by decide) rfl rfl (va_runS (As := [.int u_23]) (rest := [.int 0]) ⟨hx, hb, hml, hown, hta⟩ (c_X2_upToUnit l dC dI cI H.size u_23 u_24 hu_24) (va_cwS 1 hta (ga_S mA643 mA644 mA27 mA645) rfl rfl rfl (by decide +kernel) ⟨Nat.le_of_ble_eq_true rfl, Nat.le_of_ble_eq_true rfl⟩) ⟨q_fb, q_ps hPc hK hDc⟩ rfl rfl hl.1 rfl (lv_room (Nat.le_of_ble_eq_true rfl)) dX2_markCovered_47 ⟨Nat.zero_le _, Nat.zero_le _⟩) (fun H locs hP hD hS => ?_)
  refine lv_iload hx hb dX2_markCovered_50 (lv_at hl 6 rfl) ?_
  refine lv_isub hx hb dX2_markCovered_52 ?_
  obtain ⟨y_25, ey_25, hF⟩ := lt_some hF
  refine lv_eqi ey_25 ?_
  refine va_mmax hx hb (hml.trans hl.1.symm) hown (hta _ mA640) (hta _ mA283) (hta _ mA280) (hta _ mA284) (Nat.le_of_ble_eq_true rfl) (Nat.le_of_ble_eq_true rfl) (Nat.zero_le _) (Nat.zero_le _) dX2_markCovered_53 ?_
  obtain ⟨y_26, ey_26, hF⟩ := lt_some hF
  refine lv_eqi ey_26 ?_
  refine lv_istore (lv' := [(9, .int y_26), (8, .int y_22), (7, .int y_17), (0, .ref (a0 0)), (1, .ref (a1 0)), (2, .int p2), (3, .int p3), (4, .int p4), (5, .int p5), (6, .int p6)]) hx hb dX2_markCovered_56 hl (by decide) rfl (fun ls hl => ?_)
  refine lv_iload hx hb dX2_markCovered_58 (lv_at hl 9 rfl) ?_
  refine lv_bipush (v := 20) hx hb dX2_markCovered_60 (by decide) ?_
  refine va_mmin hx hb (hml.trans hl.1.symm) hown (hta _ mA641) (hta _ mA279) (hta _ mA280) (hta _ mA281) (Nat.le_of_ble_eq_true rfl) (Nat.le_of_ble_eq_true rfl) (Nat.zero_le _) (Nat.zero_le _) dX2_markCovered_62 ?_
  refine lv_aload_n hx hb dX2_markCovered_65 rfl (lv_at hl 4 rfl) ?_
  refine lv_iload_n hx hb dX2_markCovered_66 rfl (lv_at hl 5 rfl) ?_
  refine lv_iconst (v := 3) hx hb dX2_markCovered_67 (by decide) ?_
  obtain ⟨u_27, hu_27, hF⟩ := obd_some hF
  have hPc := hP.sub (ws' := (wd_X7_edgeOf cI a1 v1_3 v1_4 v1_5 v1_0 v1_1 v1_2)) [2, 3, 4, 5] rfl
  have hDc := hD.sub (ws' := (wd_X7_edgeOf cI a1 v1_3 v1_4 v1_5 v1_0 v1_1 v1_2)) [2, 3, 4, 5] rfl rfl
  refine q_calli (wc := (wd_X7_edgeOf cI a1 v1_3 v1_4 v1_5 v1_0 v1_1 v1_2)) (w1 := (wd_X7_edgeOf cI a1 v1_3 v1_4 v1_5 v1_0 v1_1 v1_2)) (ws' := (wd_X2_markCovered cI a0 a1 v0_0 v1_3 v1_4 v1_5 v1_0 v1_1 v1_2)) hP hD hS hA [2, 3, 4, 5] [0, 1] [0, 1, 2, 3, 4, 5] rfl rfl rfl (by decide) rfl rfl (va_runV (As := [.int p2, .int 3]) (rest := [.int (if 20 < p6 then 20 else p6)]) ⟨hx, hb, hml, hown, hta⟩ (c_X7_edgeOf l dC dI cI H.size a1 v1_3 v1_4 v1_5 v1_0 v1_1 v1_2 p2 3 n u_27 hu_27) (cwV 2 hta (ga_V mA642 mA610 mA611 mA60 mA612) rfl rfl rfl (by decide +kernel) ⟨Nat.le_of_ble_eq_true rfl, Nat.le_of_ble_eq_true rfl⟩) ⟨q_fb, va_recv hK hP (ci := 6) (q0 := 2) rfl rfl, q_ps hPc hK hDc⟩ rfl rfl hl.1 rfl (lv_room (Nat.le_of_ble_eq_true rfl)) dX2_markCovered_68 ⟨Nat.zero_le _, Nat.zero_le _⟩) (fun H locs hP hD hS => ?_)
  obtain ⟨u_28, hu_28, hF⟩ := obd_some hF
  have hPc := hP.sub (ws' := ([] : va_W)) [] rfl
  have hDc := hD.sub (ws' := ([] : va_W)) [] rfl rfl
  refine q_calli (wc := ([] : va_W)) (w1 := ([] : va_W)) (ws' := (wd_X2_markCovered cI a0 a1 v0_0 v1_3 v1_4 v1_5 v1_0 v1_1 v1_2)) hP hD hS hA [] [0, 1, 2, 3, 4, 5] [0, 1, 2, 3, 4, 5] rfl rfl rfl (by decide) rfl rfl (va_runS (As := [.int u_27]) (rest := [.int (if 20 < p6 then 20 else p6)]) ⟨hx, hb, hml, hown, hta⟩ (c_X2_downToUnit l dC dI cI H.size u_27 u_28 hu_28) (va_cwS 1 hta (ga_S mA650 mA651 mA27 mA652) rfl rfl rfl (by decide +kernel) ⟨Nat.le_of_ble_eq_true rfl, Nat.le_of_ble_eq_true rfl⟩) ⟨q_fb, q_ps hPc hK hDc⟩ rfl rfl hl.1 rfl (lv_room (Nat.le_of_ble_eq_true rfl)) dX2_markCovered_71 ⟨Nat.zero_le _, Nat.zero_le _⟩) (fun H locs hP hD hS => ?_)
  refine lv_iload hx hb dX2_markCovered_74 (lv_at hl 7 rfl) ?_
  refine lv_isub hx hb dX2_markCovered_76 ?_
  obtain ⟨y_29, ey_29, hF⟩ := lt_some hF
  refine lv_eqi ey_29 ?_
  obtain ⟨y_30, ey_30, hF⟩ := lt_some hF
  refine lv_eq2i ey_30 ?_
  refine va_mmin hx hb (hml.trans hl.1.symm) hown (hta _ mA641) (hta _ mA279) (hta _ mA280) (hta _ mA281) (Nat.le_of_ble_eq_true rfl) (Nat.le_of_ble_eq_true rfl) (Nat.zero_le _) (Nat.zero_le _) dX2_markCovered_77 ?_
  obtain ⟨y_31, ey_31, hF⟩ := lt_some hF
  refine lv_eqi ey_31 ?_
  refine lv_istore (lv' := [(10, .int y_31), (9, .int y_26), (8, .int y_22), (7, .int y_17), (0, .ref (a0 0)), (1, .ref (a1 0)), (2, .int p2), (3, .int p3), (4, .int p4), (5, .int p5), (6, .int p6)]) hx hb dX2_markCovered_80 hl (by decide) rfl (fun ls hl => ?_)
  refine lv_iload hx hb dX2_markCovered_82 (lv_at hl 1 rfl) ?_
  refine lv_istore (lv' := [(11, .int y_26), (10, .int y_31), (9, .int y_26), (8, .int y_22), (7, .int y_17), (0, .ref (a0 0)), (1, .ref (a1 0)), (2, .int p2), (3, .int p3), (4, .int p4), (5, .int p5), (6, .int p6)]) hx hb dX2_markCovered_84 hl (by decide) rfl (fun ls hl => ?_)
  exact j86 v0_0 p2 p3 p4 y_17 y_22 y_31 y_26 hF _ _ _ hP hD hS (lv_sub hl [5, 6, 7, 8, 9, 4, 3, 1, 0] rfl)

-- StrokeOutliner$Grid.countMarked(LStrokeOutliner$Pieces;IIII)I
def F_X2_countMarked_j89 (v0_0 : Nat → Int32) (x6 : Int32) : Option (Int32 × (Nat → Int32)) :=
  some (x6, v0_0)
def F_X2_countMarked_b61 (v0_0 : Nat → Int32) (s61 : Int32 × Int32) : Option (Sum (Int32 × Int32) (Int32)) :=
  if 20 < s61.2 then some (.inr s61.1) else gd (decide (vpi s61.2 21)) (lt (F_J6_bitCount_0f7a4 (v0_0 s61.2.toNatClampNeg)) (fun u_3 => lt (s61.1 + u_3) (fun y_4 => lt (s61.2 + 1) (fun y_5 => some (.inl (y_4, y_5))))))
def F_X2_countMarked_j61 (n : Nat) (v0_0 : Nat → Int32) (x6 : Int32) (x7 : Int32) : Option (Int32 × (Nat → Int32)) :=
  obd (lpq (F_X2_countMarked_b61 v0_0) n (x6, x7)) (fun x_61 => F_X2_countMarked_j89 v0_0 x_61)
def F_X2_countMarked_j55 (n : Nat) (v0_0 : Nat → Int32) : Option (Int32 × (Nat → Int32)) :=
  F_X2_countMarked_j61 n v0_0 0 0
def F_X2_countMarked_b27 (n : Nat) (v1_3 : Int32) (v1_5 : Int32) (v1_0 : Nat → Int32) (v1_1 : Nat → Int32) (v1_2 : Nat → Int32) (x2 : Int32) (x3 : Int32) (x4 : Int32) (x5 : Int32) (s27 : Int32 × (Nat → Int32)) : Option (Sum (Int32 × (Nat → Int32)) ((Nat → Int32))) :=
  lt (F_X7_size v1_3) (fun u_6 => if u_6 ≤ s27.1 then some (.inr s27.2) else obd (F_X2_markCovered n s27.2 v1_5 v1_0 v1_1 v1_2 s27.1 x2 x3 x4 x5) (fun u_8 => lt (s27.1 + 1) (fun y_9 => some (.inl (y_9, u_8)))))
def F_X2_countMarked_j27 (n : Nat) (v0_0 : Nat → Int32) (v1_3 : Int32) (v1_5 : Int32) (v1_0 : Nat → Int32) (v1_1 : Nat → Int32) (v1_2 : Nat → Int32) (x2 : Int32) (x3 : Int32) (x4 : Int32) (x5 : Int32) (x6 : Int32) : Option (Int32 × (Nat → Int32)) :=
  obd (lpq (F_X2_countMarked_b27 n v1_3 v1_5 v1_0 v1_1 v1_2 x2 x3 x4 x5) n (x6, v0_0)) (fun x_27 => F_X2_countMarked_j55 n x_27)
def F_X2_countMarked_j24 (n : Nat) (v0_0 : Nat → Int32) (v1_3 : Int32) (v1_5 : Int32) (v1_0 : Nat → Int32) (v1_1 : Nat → Int32) (v1_2 : Nat → Int32) (x2 : Int32) (x3 : Int32) (x4 : Int32) (x5 : Int32) : Option (Int32 × (Nat → Int32)) :=
  F_X2_countMarked_j27 n v0_0 v1_3 v1_5 v1_0 v1_1 v1_2 x2 x3 x4 x5 0
def F_X2_countMarked_b3 (s3 : Int32 × (Nat → Int32)) : Option (Sum (Int32 × (Nat → Int32)) ((Nat → Int32))) :=
  if 20 < s3.1 then some (.inr s3.2) else gd (decide (vpi s3.1 21)) (lt (upd s3.2 s3.1.toNatClampNeg 0) (fun y_12 => lt (s3.1 + 1) (fun y_13 => some (.inl (y_13, y_12)))))
def F_X2_countMarked_j3 (n : Nat) (v0_0 : Nat → Int32) (v1_3 : Int32) (v1_5 : Int32) (v1_0 : Nat → Int32) (v1_1 : Nat → Int32) (v1_2 : Nat → Int32) (x2 : Int32) (x3 : Int32) (x4 : Int32) (x5 : Int32) (x6 : Int32) : Option (Int32 × (Nat → Int32)) :=
  obd (lpq F_X2_countMarked_b3 n (x6, v0_0)) (fun x_3 => F_X2_countMarked_j24 n x_3 v1_3 v1_5 v1_0 v1_1 v1_2 x2 x3 x4 x5)
def F_X2_countMarked (n : Nat) (v0_0 : Nat → Int32) (v1_3 : Int32) (v1_5 : Int32) (v1_0 : Nat → Int32) (v1_1 : Nat → Int32) (v1_2 : Nat → Int32) (p2 : Int32) (p3 : Int32) (p4 : Int32) (p5 : Int32) : Option (Int32 × (Nat → Int32)) :=
  F_X2_countMarked_j3 n v0_0 v1_3 v1_5 v1_0 v1_1 v1_2 p2 p3 p4 p5 0
abbrev wd_X2_countMarked (cI : ClassId) (a0 : Nat → Nat) (a1 : Nat → Nat) (v0_0 : Nat → Int32) (v1_3 : Int32) (v1_4 : Int32) (v1_5 : Int32) (v1_0 : Nat → Int32) (v1_1 : Nat → Int32) (v1_2 : Nat → Int32) : va_W := [(a0 0, .inr (2, [.ref (a0 1)])), (a0 1, .inl (cI, 21, .inl v0_0)), (a1 0, .inr (6, [.ref (a1 1), .ref (a1 2), .ref (a1 3), .int v1_3, .int v1_4, .int v1_5])), (a1 1, .inl (cI, 2800, .inl v1_0)), (a1 2, .inl (cI, 11200, .inl v1_1)), (a1 3, .inl (cI, 11200, .inl v1_2))]
abbrev wz_X2_countMarked : List Cond := .code yX2_countMarked cX2_countMarked 8 (some .int) :: wALL
abbrev rm_X2_countMarked : Room := { frames := 6, cells := 0, slots := 0, locals := 152 }
abbrev Q_X2_countMarked (dC : Nat → ClassId) (dI : Nat → Nat → Nat) (cI : ClassId) (a0 : Nat → Nat) (a1 : Nat → Nat) (v1_3 : Int32) (v1_4 : Int32) (v1_5 : Int32) (v1_0 : Nat → Int32) (v1_1 : Nat → Int32) (v1_2 : Nat → Int32) (u : (Int32 × (Nat → Int32))) (A : Nat → Prop) : Array Value → State → Outcome → State → Prop := va_Qi (fun (r : Int32) (_ : Unit) => r = u.1) (fun _ => q_at dC dI cI A (wd_X2_countMarked cI a0 a1 u.2 v1_3 v1_4 v1_5 v1_0 v1_1 v1_2)) A
set_option maxHeartbeats 4000000 in
set_option maxRecDepth 100000 in
theorem c_X2_countMarked (l : Launch) (dC : Nat → ClassId) (dI : Nat → Nat → Nat) (cI : ClassId) (sz : Nat) (a0 : Nat → Nat) (a1 : Nat → Nat) (v0_0 : Nat → Int32) (v1_3 : Int32) (v1_4 : Int32) (v1_5 : Int32) (v1_0 : Nat → Int32) (v1_1 : Nat → Int32) (v1_2 : Nat → Int32) (p2 : Int32) (p3 : Int32) (p4 : Int32) (p5 : Int32) (n : Nat) (u : (Int32 × (Nat → Int32))) (hF : F_X2_countMarked n v0_0 v1_3 v1_5 v1_0 v1_1 v1_2 p2 p3 p4 p5 = some u) : Met l yX2_countMarked wz_X2_countMarked rm_X2_countMarked (va_Pc [.ref (a0 0), .ref (a1 0), .int p2, .int p3, .int p4, .int p5] (q_pre dC dI cI (wd_X2_countMarked cI a0 a1 v0_0 v1_3 v1_4 v1_5 v1_0 v1_1 v1_2) sz)) (Q_X2_countMarked dC dI cI a0 a1 v1_3 v1_4 v1_5 v1_0 v1_1 v1_2 u (va_A (wd_X2_countMarked cI a0 a1 v0_0 v1_3 v1_4 v1_5 v1_0 v1_1 v1_2) sz)) 0 0 (va_A (wd_X2_countMarked cI a0 a1 v0_0 v1_3 v1_4 v1_5 v1_0 v1_1 v1_2) sz) := by
  refine Met.ofW (cc := cX2_countMarked) (maxL := 8) (ret := (some .int)) (by decide) rfl ?_
  intro p e s m args below meth c s₁ B hml hv
  obtain ⟨rfl, hsz, hP, hK, hD0⟩ := hv
  have hx := B.exec
  have hb := B.bytes
  have hr := B.returns
  have hts := atoms_spec (ws := wz_X2_countMarked) B.pre
  have hta := wz_tl hts
  have hown : s.vm.findClass RX2 = some m.cls := findClass_of_methodNamed B.named
  have hlocks := B.notSynchronized
  subst hsz
  have hD := hD0.self (sz := s.heap.size)
  generalize hAe : va_A (wd_X2_countMarked cI a0 a1 v0_0 v1_3 v1_4 v1_5 v1_0 v1_1 v1_2) s.heap.size = A at hD ⊢
  have hA : ∀ q : Nat, s.heap.size ≤ q → A q := fun q h => by rw [← hAe]; exact Or.inr h
  have hS : va_S A s.heap s.heap [] := va_S.rf
  have hP : va_P (dC, dI) vwCl (wd_X2_countMarked cI a0 a1 v0_0 v1_3 v1_4 v1_5 v1_0 v1_1 v1_2) s.heap := hP
  have hl := lv_entry ([.ref (a0 0), .ref (a1 0), .int p2, .int p3, .int p4, .int p5]) (n := 8) (Nat.le_of_ble_eq_true rfl)
  rw [lg_entry_eq]
  generalize (lg_sl ([.ref (a0 0), .ref (a1 0), .int p2, .int p3, .int p4, .int p5]) ++ List.replicate (8 - (lg_sl ([.ref (a0 0), .ref (a1 0), .int p2, .int p3, .int p4, .int p5])).length) Slot.unset).toArray = ls at hl ⊢
  have hl : lv_has ls 8 [(0, .ref (a0 0)), (1, .ref (a1 0)), (2, .int p2), (3, .int p3), (4, .int p4), (5, .int p5)] := hl
  obtain ⟨H, hHe⟩ : ∃ H, H = s.heap := ⟨_, rfl⟩
  have hS : va_S A s.heap H [] := by rw [hHe]; exact hS
  have hP : va_P (dC, dI) vwCl (wd_X2_countMarked cI a0 a1 v0_0 v1_3 v1_4 v1_5 v1_0 v1_1 v1_2) H := by rw [hHe]; exact hP
  rw [← hHe]
  unfold F_X2_countMarked at hF
  have j89 : ∀ (v0_0 : Nat → Int32) (x6 : Int32), F_X2_countMarked_j89 v0_0 x6 = some u → ∀ (H : Heap) (locs : List Loc) (ls : Array Slot), va_P (dC, dI) vwCl (wd_X2_countMarked cI a0 a1 v0_0 v1_3 v1_4 v1_5 v1_0 v1_1 v1_2) H → va_D A (wd_X2_countMarked cI a0 a1 v0_0 v1_3 v1_4 v1_5 v1_0 v1_1 v1_2) → va_S A s.heap H locs → lv_has ls 8 [(6, .int x6)] → W p l e (headSpec wz_X2_countMarked rm_X2_countMarked).room s m [.ref (a0 0), .ref (a1 0), .int p2, .int p3, .int p4, .int p5].toArray below meth c H locs 0 0 (MQ below (Q_X2_countMarked dC dI cI a0 a1 v1_3 v1_4 v1_5 v1_0 v1_1 v1_2 u A) [.ref (a0 0), .ref (a1 0), .int p2, .int p3, .int p4, .int p5].toArray s 0 0 A) (F0 m 89 ls []) := by
    intro v0_0 x6 hF H locs ls hP hD hS hl
    unfold F_X2_countMarked_j89 at hF
    refine lv_iload hx hb dX2_countMarked_89 (lv_at hl 0 rfl) ?_
    obtain rfl := Option.some.inj hF
    exact W.iret (v := x6) hx hb hr (fun t ht hW => ⟨⟨x6, (), rfl, rfl, by rw [ht]; exact hP, va_K.moved hW.alike hK, hD⟩, hS.F ht⟩) hS.2.2 dX2_countMarked_91
  have j61 : ∀ (v0_0 : Nat → Int32) (x6 : Int32) (x7 : Int32), F_X2_countMarked_j61 n v0_0 x6 x7 = some u → ∀ (H : Heap) (locs : List Loc) (ls : Array Slot), va_P (dC, dI) vwCl (wd_X2_countMarked cI a0 a1 v0_0 v1_3 v1_4 v1_5 v1_0 v1_1 v1_2) H → va_D A (wd_X2_countMarked cI a0 a1 v0_0 v1_3 v1_4 v1_5 v1_0 v1_1 v1_2) → va_S A s.heap H locs → lv_has ls 8 [(0, .ref (a0 0)), (6, .int x6), (7, .int x7)] → W p l e (headSpec wz_X2_countMarked rm_X2_countMarked).room s m [.ref (a0 0), .ref (a1 0), .int p2, .int p3, .int p4, .int p5].toArray below meth c H locs 0 0 (MQ below (Q_X2_countMarked dC dI cI a0 a1 v1_3 v1_4 v1_5 v1_0 v1_1 v1_2 u A) [.ref (a0 0), .ref (a1 0), .int p2, .int p3, .int p4, .int p5].toArray s 0 0 A) (F0 m 61 ls []) := by
    intro v0_0 x6 x7 hF H locs ls hP hD hS hl
    unfold F_X2_countMarked_j61 at hF
    obtain ⟨x_61, hL_61, hE_61⟩ := obd_some hF
    have kl_61 : ∀ (k : Nat) (s61 : Int32 × Int32), lpq (F_X2_countMarked_b61 v0_0) k s61 = some x_61 → ∀ (H : Heap) (locs : List Loc) (ls : Array Slot), va_P (dC, dI) vwCl (wd_X2_countMarked cI a0 a1 v0_0 v1_3 v1_4 v1_5 v1_0 v1_1 v1_2) H → va_D A (wd_X2_countMarked cI a0 a1 v0_0 v1_3 v1_4 v1_5 v1_0 v1_1 v1_2) → va_S A s.heap H locs → lv_has ls 8 [(0, .ref (a0 0)), (6, .int s61.1), (7, .int s61.2)] → W p l e (headSpec wz_X2_countMarked rm_X2_countMarked).room s m [.ref (a0 0), .ref (a1 0), .int p2, .int p3, .int p4, .int p5].toArray below meth c H locs 0 0 (MQ below (Q_X2_countMarked dC dI cI a0 a1 v1_3 v1_4 v1_5 v1_0 v1_1 v1_2 u A) [.ref (a0 0), .ref (a1 0), .int p2, .int p3, .int p4, .int p5].toArray s 0 0 A) (F0 m 61 ls []) := by
      intro k
      induction k with
      | zero => intro s61 h; exact absurd h lpq_zero
      | succ k ih_61 =>
        intro s61 h H locs ls hP hD hS hl
        obtain ⟨o_61, hF, hO_61⟩ := lpq_succ h
        unfold F_X2_countMarked_b61 at hF
        refine lv_iload hx hb dX2_countMarked_61 (lv_at hl 2 rfl) ?_
        refine lv_bipush (v := 20) hx hb dX2_countMarked_63 (by decide) ?_
        refine lv_icmp_gt (tgt := 89) hx hb dX2_countMarked_65 (by decide) (fun c_1 => ?_) (fun c_1 => ?_)
        · have hF := it_t hF c_1
          obtain rfl := Option.some.inj hF
          obtain rfl := lpq_x hO_61
          have hF := hE_61
          exact j89 v0_0 s61.1 hF _ _ _ hP hD hS (lv_sub hl [1] rfl)
        · have hF := it_f hF c_1
          refine lv_iload hx hb dX2_countMarked_68 (lv_at hl 1 rfl) ?_
          refine lv_aload_n hx hb dX2_countMarked_70 rfl (lv_at hl 0 rfl) ?_
          refine va_get (D := (dC, dI)) (ci := 2) (v := .ref (a0 1)) (C := RX2) (T := TX2) (N := 1) hx hb hta uw_X2 hown hK hP 0 rfl rfl 0 (by decide) (hta _ mA104) (fun _ h9 => h9) rfl dX2_countMarked_71 ?_
          refine lv_iload hx hb dX2_countMarked_74 (lv_at hl 2 rfl) ?_
          obtain ⟨g_2, hF⟩ := gd_some hF
          refine va_iald hx hb hK hP 1 0 rfl rfl (vpi_in g_2) dX2_countMarked_76 ?_
          obtain ⟨u_3, hu_3, hF⟩ := lt_some hF
          have hPc := hP.sub (ws' := ([] : va_W)) [] rfl
          have hDc := hD.sub (ws' := ([] : va_W)) [] rfl rfl
          refine q_calli (wc := ([] : va_W)) (w1 := ([] : va_W)) (ws' := (wd_X2_countMarked cI a0 a1 v0_0 v1_3 v1_4 v1_5 v1_0 v1_1 v1_2)) hP hD hS hA [] [0, 1, 2, 3, 4, 5] [0, 1, 2, 3, 4, 5] rfl rfl rfl (by decide) rfl rfl (va_runS (As := [.int (v0_0 s61.2.toNatClampNeg)]) (rest := [.int s61.1]) ⟨hx, hb, hml, hown, hta⟩ (c_J6_bitCount_0f7a4 l dC dI cI H.size (v0_0 s61.2.toNatClampNeg) u_3 hu_3.symm) (va_cwS 1 hta (ga_S mA654 mA655 mA656 mA657) rfl rfl rfl (by decide +kernel) ⟨Nat.le_of_ble_eq_true rfl, Nat.le_of_ble_eq_true rfl⟩) ⟨q_fb, q_ps hPc hK hDc⟩ rfl rfl hl.1 rfl (lv_room (Nat.le_of_ble_eq_true rfl)) dX2_countMarked_77 ⟨Nat.zero_le _, Nat.zero_le _⟩) (fun H locs hP hD hS => ?_)
          refine lv_iadd hx hb dX2_countMarked_80 ?_
          obtain ⟨y_4, ey_4, hF⟩ := lt_some hF
          refine lv_eqi ey_4 ?_
          refine lv_istore (lv' := [(6, .int y_4), (0, .ref (a0 0)), (7, .int s61.2)]) hx hb dX2_countMarked_81 hl (by decide) rfl (fun ls hl => ?_)
          obtain ⟨y_5, ey_5, hF⟩ := lt_some hF
          refine lv_iinc (v := y_5) (lv' := [(7, .int y_5), (6, .int y_4), (0, .ref (a0 0))]) hx hb dX2_countMarked_83 hl (k := 2) rfl (by rw [ey_5]; rfl) (by decide) rfl (fun ls hl => ?_)
          refine lv_goto (tgt := 61) hx hb dX2_countMarked_86 (by decide) ?_
          obtain rfl := Option.some.inj hF
          exact ih_61 _ hO_61 _ _ _ hP hD hS (lv_sub hl [2, 1, 0] rfl)
    exact kl_61 n _ hL_61 _ _ _ hP hD hS hl
  have j55 : ∀ (v0_0 : Nat → Int32), F_X2_countMarked_j55 n v0_0 = some u → ∀ (H : Heap) (locs : List Loc) (ls : Array Slot), va_P (dC, dI) vwCl (wd_X2_countMarked cI a0 a1 v0_0 v1_3 v1_4 v1_5 v1_0 v1_1 v1_2) H → va_D A (wd_X2_countMarked cI a0 a1 v0_0 v1_3 v1_4 v1_5 v1_0 v1_1 v1_2) → va_S A s.heap H locs → lv_has ls 8 [(0, .ref (a0 0))] → W p l e (headSpec wz_X2_countMarked rm_X2_countMarked).room s m [.ref (a0 0), .ref (a1 0), .int p2, .int p3, .int p4, .int p5].toArray below meth c H locs 0 0 (MQ below (Q_X2_countMarked dC dI cI a0 a1 v1_3 v1_4 v1_5 v1_0 v1_1 v1_2 u A) [.ref (a0 0), .ref (a1 0), .int p2, .int p3, .int p4, .int p5].toArray s 0 0 A) (F0 m 55 ls []) := by
    intro v0_0 hF H locs ls hP hD hS hl
    unfold F_X2_countMarked_j55 at hF
    refine lv_iconst (v := 0) hx hb dX2_countMarked_55 (by decide) ?_
    refine lv_istore (lv' := [(6, .int 0), (0, .ref (a0 0))]) hx hb dX2_countMarked_56 hl (by decide) rfl (fun ls hl => ?_)
    refine lv_iconst (v := 0) hx hb dX2_countMarked_58 (by decide) ?_
    refine lv_istore (lv' := [(7, .int 0), (6, .int 0), (0, .ref (a0 0))]) hx hb dX2_countMarked_59 hl (by decide) rfl (fun ls hl => ?_)
    exact j61 v0_0 0 0 hF _ _ _ hP hD hS (lv_sub hl [2, 1, 0] rfl)
  have j27 : ∀ (v0_0 : Nat → Int32) (x2 : Int32) (x3 : Int32) (x4 : Int32) (x5 : Int32) (x6 : Int32), F_X2_countMarked_j27 n v0_0 v1_3 v1_5 v1_0 v1_1 v1_2 x2 x3 x4 x5 x6 = some u → ∀ (H : Heap) (locs : List Loc) (ls : Array Slot), va_P (dC, dI) vwCl (wd_X2_countMarked cI a0 a1 v0_0 v1_3 v1_4 v1_5 v1_0 v1_1 v1_2) H → va_D A (wd_X2_countMarked cI a0 a1 v0_0 v1_3 v1_4 v1_5 v1_0 v1_1 v1_2) → va_S A s.heap H locs → lv_has ls 8 [(0, .ref (a0 0)), (1, .ref (a1 0)), (2, .int x2), (3, .int x3), (4, .int x4), (5, .int x5), (6, .int x6)] → W p l e (headSpec wz_X2_countMarked rm_X2_countMarked).room s m [.ref (a0 0), .ref (a1 0), .int p2, .int p3, .int p4, .int p5].toArray below meth c H locs 0 0 (MQ below (Q_X2_countMarked dC dI cI a0 a1 v1_3 v1_4 v1_5 v1_0 v1_1 v1_2 u A) [.ref (a0 0), .ref (a1 0), .int p2, .int p3, .int p4, .int p5].toArray s 0 0 A) (F0 m 27 ls []) := by
    intro v0_0 x2 x3 x4 x5 x6 hF H locs ls hP hD hS hl
    unfold F_X2_countMarked_j27 at hF
    obtain ⟨x_27, hL_27, hE_27⟩ := obd_some hF
    have kl_27 : ∀ (k : Nat) (s27 : Int32 × (Nat → Int32)), lpq (F_X2_countMarked_b27 n v1_3 v1_5 v1_0 v1_1 v1_2 x2 x3 x4 x5) k s27 = some x_27 → ∀ (H : Heap) (locs : List Loc) (ls : Array Slot), va_P (dC, dI) vwCl (wd_X2_countMarked cI a0 a1 s27.2 v1_3 v1_4 v1_5 v1_0 v1_1 v1_2) H → va_D A (wd_X2_countMarked cI a0 a1 s27.2 v1_3 v1_4 v1_5 v1_0 v1_1 v1_2) → va_S A s.heap H locs → lv_has ls 8 [(0, .ref (a0 0)), (1, .ref (a1 0)), (2, .int x2), (3, .int x3), (4, .int x4), (5, .int x5), (6, .int s27.1)] → W p l e (headSpec wz_X2_countMarked rm_X2_countMarked).room s m [.ref (a0 0), .ref (a1 0), .int p2, .int p3, .int p4, .int p5].toArray below meth c H locs 0 0 (MQ below (Q_X2_countMarked dC dI cI a0 a1 v1_3 v1_4 v1_5 v1_0 v1_1 v1_2 u A) [.ref (a0 0), .ref (a1 0), .int p2, .int p3, .int p4, .int p5].toArray s 0 0 A) (F0 m 27 ls []) := by
      intro k
      induction k with
      | zero => intro s27 h; exact absurd h lpq_zero
      | succ k ih_27 =>
        intro s27 h H locs ls hP hD hS hl
        obtain ⟨o_27, hF, hO_27⟩ := lpq_succ h
        unfold F_X2_countMarked_b27 at hF
        refine lv_iload hx hb dX2_countMarked_27 (lv_at hl 6 rfl) ?_
        refine lv_aload_n hx hb dX2_countMarked_29 rfl (lv_at hl 1 rfl) ?_
        obtain ⟨u_6, hu_6, hF⟩ := lt_some hF
        have hPc := hP.sub (ws' := (wd_X7_size cI a1 v1_3 v1_4 v1_5)) [2] rfl
        have hDc := hD.sub (ws' := (wd_X7_size cI a1 v1_3 v1_4 v1_5)) [2] rfl rfl
        refine q_calli (wc := (wd_X7_size cI a1 v1_3 v1_4 v1_5)) (w1 := (wd_X7_size cI a1 v1_3 v1_4 v1_5)) (ws' := (wd_X2_countMarked cI a0 a1 s27.2 v1_3 v1_4 v1_5 v1_0 v1_1 v1_2)) hP hD hS hA [2] [0, 1, 3, 4, 5] [0, 1, 5, 2, 3, 4] rfl rfl rfl (by decide) rfl rfl (va_runV (As := []) (rest := [.int s27.1]) ⟨hx, hb, hml, hown, hta⟩ (c_X7_size l dC dI cI H.size a1 v1_3 v1_4 v1_5 u_6 hu_6.symm) (cwV 0 hta (ga_V mA635 mA565 mA566 mA60 mA567) rfl rfl rfl (by decide +kernel) ⟨Nat.le_of_ble_eq_true rfl, Nat.le_of_ble_eq_true rfl⟩) ⟨q_fb, va_recv hK hP (ci := 6) (q0 := 2) rfl rfl, q_ps hPc hK hDc⟩ rfl rfl hl.1 rfl (lv_room (Nat.le_of_ble_eq_true rfl)) dX2_countMarked_30 ⟨Nat.zero_le _, Nat.zero_le _⟩) (fun H locs hP hD hS => ?_)
        refine lv_icmp_ge (tgt := 55) hx hb dX2_countMarked_33 (by decide) (fun c_7 => ?_) (fun c_7 => ?_)
        · have hF := it_t hF c_7
          obtain rfl := Option.some.inj hF
          obtain rfl := lpq_x hO_27
          have hF := hE_27
          exact j55 s27.2 hF _ _ _ hP hD hS (lv_sub hl [0] rfl)
        · have hF := it_f hF c_7
          refine lv_aload_n hx hb dX2_countMarked_36 rfl (lv_at hl 0 rfl) ?_
          refine lv_aload_n hx hb dX2_countMarked_37 rfl (lv_at hl 1 rfl) ?_
          refine lv_iload hx hb dX2_countMarked_38 (lv_at hl 6 rfl) ?_
          refine lv_iload_n hx hb dX2_countMarked_40 rfl (lv_at hl 2 rfl) ?_
          refine lv_iload_n hx hb dX2_countMarked_41 rfl (lv_at hl 3 rfl) ?_
          refine lv_iload hx hb dX2_countMarked_42 (lv_at hl 4 rfl) ?_
          refine lv_iload hx hb dX2_countMarked_44 (lv_at hl 5 rfl) ?_
          obtain ⟨u_8, hu_8, hF⟩ := obd_some hF
          have hPc := hP.sub (ws' := (wd_X2_markCovered cI a0 a1 s27.2 v1_3 v1_4 v1_5 v1_0 v1_1 v1_2)) [0, 1, 2, 3, 4, 5] rfl
          have hDc := hD.sub (ws' := (wd_X2_markCovered cI a0 a1 s27.2 v1_3 v1_4 v1_5 v1_0 v1_1 v1_2)) [0, 1, 2, 3, 4, 5] rfl rfl
          refine q_callv (wc := (wd_X2_markCovered cI a0 a1 s27.2 v1_3 v1_4 v1_5 v1_0 v1_1 v1_2)) (w1 := (wd_X2_markCovered cI a0 a1 u_8 v1_3 v1_4 v1_5 v1_0 v1_1 v1_2)) (ws' := (wd_X2_countMarked cI a0 a1 u_8 v1_3 v1_4 v1_5 v1_0 v1_1 v1_2)) hP hD hS hA [0, 1, 2, 3, 4, 5] [] [0, 1, 2, 3, 4, 5] rfl rfl rfl (by decide) rfl rfl (va_runV (As := [.ref (a1 0), .int s27.1, .int x2, .int x3, .int x4, .int x5]) (rest := []) ⟨hx, hb, hml, hown, hta⟩ (c_X2_markCovered l dC dI cI H.size a0 a1 s27.2 v1_3 v1_4 v1_5 v1_0 v1_1 v1_2 s27.1 x2 x3 x4 x5 n u_8 hu_8) (cwV 6 hta (ga_V mA636 mA637 mA638 mA27 mA639) rfl rfl rfl (by decide +kernel) ⟨Nat.le_of_ble_eq_true rfl, Nat.le_of_ble_eq_true rfl⟩) ⟨q_fb, va_recv hK hP (ci := 2) (q0 := 0) rfl rfl, q_ps hPc hK hDc⟩ rfl rfl hl.1 rfl (lv_room (Nat.le_of_ble_eq_true rfl)) dX2_countMarked_46 ⟨Nat.zero_le _, Nat.zero_le _⟩) (fun H locs hP hD hS => ?_)
          obtain ⟨y_9, ey_9, hF⟩ := lt_some hF
          refine lv_iinc (v := y_9) (lv' := [(6, .int y_9), (0, .ref (a0 0)), (1, .ref (a1 0)), (2, .int x2), (3, .int x3), (4, .int x4), (5, .int x5)]) hx hb dX2_countMarked_49 hl (k := 6) rfl (by rw [ey_9]; rfl) (by decide) rfl (fun ls hl => ?_)
          refine lv_goto (tgt := 27) hx hb dX2_countMarked_52 (by decide) ?_
          obtain rfl := Option.some.inj hF
          exact ih_27 _ hO_27 _ _ _ hP hD hS (lv_sub hl [1, 2, 3, 4, 5, 6, 0] rfl)
    exact kl_27 n _ hL_27 _ _ _ hP hD hS hl
  have j24 : ∀ (v0_0 : Nat → Int32) (x2 : Int32) (x3 : Int32) (x4 : Int32) (x5 : Int32), F_X2_countMarked_j24 n v0_0 v1_3 v1_5 v1_0 v1_1 v1_2 x2 x3 x4 x5 = some u → ∀ (H : Heap) (locs : List Loc) (ls : Array Slot), va_P (dC, dI) vwCl (wd_X2_countMarked cI a0 a1 v0_0 v1_3 v1_4 v1_5 v1_0 v1_1 v1_2) H → va_D A (wd_X2_countMarked cI a0 a1 v0_0 v1_3 v1_4 v1_5 v1_0 v1_1 v1_2) → va_S A s.heap H locs → lv_has ls 8 [(0, .ref (a0 0)), (1, .ref (a1 0)), (2, .int x2), (3, .int x3), (4, .int x4), (5, .int x5)] → W p l e (headSpec wz_X2_countMarked rm_X2_countMarked).room s m [.ref (a0 0), .ref (a1 0), .int p2, .int p3, .int p4, .int p5].toArray below meth c H locs 0 0 (MQ below (Q_X2_countMarked dC dI cI a0 a1 v1_3 v1_4 v1_5 v1_0 v1_1 v1_2 u A) [.ref (a0 0), .ref (a1 0), .int p2, .int p3, .int p4, .int p5].toArray s 0 0 A) (F0 m 24 ls []) := by
    intro v0_0 x2 x3 x4 x5 hF H locs ls hP hD hS hl
    unfold F_X2_countMarked_j24 at hF
    refine lv_iconst (v := 0) hx hb dX2_countMarked_24 (by decide) ?_
    refine lv_istore (lv' := [(6, .int 0), (0, .ref (a0 0)), (1, .ref (a1 0)), (2, .int x2), (3, .int x3), (4, .int x4), (5, .int x5)]) hx hb dX2_countMarked_25 hl (by decide) rfl (fun ls hl => ?_)
    exact j27 v0_0 x2 x3 x4 x5 0 hF _ _ _ hP hD hS (lv_sub hl [1, 2, 3, 4, 5, 6, 0] rfl)
  have j3 : ∀ (v0_0 : Nat → Int32) (x2 : Int32) (x3 : Int32) (x4 : Int32) (x5 : Int32) (x6 : Int32), F_X2_countMarked_j3 n v0_0 v1_3 v1_5 v1_0 v1_1 v1_2 x2 x3 x4 x5 x6 = some u → ∀ (H : Heap) (locs : List Loc) (ls : Array Slot), va_P (dC, dI) vwCl (wd_X2_countMarked cI a0 a1 v0_0 v1_3 v1_4 v1_5 v1_0 v1_1 v1_2) H → va_D A (wd_X2_countMarked cI a0 a1 v0_0 v1_3 v1_4 v1_5 v1_0 v1_1 v1_2) → va_S A s.heap H locs → lv_has ls 8 [(0, .ref (a0 0)), (1, .ref (a1 0)), (2, .int x2), (3, .int x3), (4, .int x4), (5, .int x5), (6, .int x6)] → W p l e (headSpec wz_X2_countMarked rm_X2_countMarked).room s m [.ref (a0 0), .ref (a1 0), .int p2, .int p3, .int p4, .int p5].toArray below meth c H locs 0 0 (MQ below (Q_X2_countMarked dC dI cI a0 a1 v1_3 v1_4 v1_5 v1_0 v1_1 v1_2 u A) [.ref (a0 0), .ref (a1 0), .int p2, .int p3, .int p4, .int p5].toArray s 0 0 A) (F0 m 3 ls []) := by
    intro v0_0 x2 x3 x4 x5 x6 hF H locs ls hP hD hS hl
    unfold F_X2_countMarked_j3 at hF
    obtain ⟨x_3, hL_3, hE_3⟩ := obd_some hF
    have kl_3 : ∀ (k : Nat) (s3 : Int32 × (Nat → Int32)), lpq F_X2_countMarked_b3 k s3 = some x_3 → ∀ (H : Heap) (locs : List Loc) (ls : Array Slot), va_P (dC, dI) vwCl (wd_X2_countMarked cI a0 a1 s3.2 v1_3 v1_4 v1_5 v1_0 v1_1 v1_2) H → va_D A (wd_X2_countMarked cI a0 a1 s3.2 v1_3 v1_4 v1_5 v1_0 v1_1 v1_2) → va_S A s.heap H locs → lv_has ls 8 [(0, .ref (a0 0)), (1, .ref (a1 0)), (2, .int x2), (3, .int x3), (4, .int x4), (5, .int x5), (6, .int s3.1)] → W p l e (headSpec wz_X2_countMarked rm_X2_countMarked).room s m [.ref (a0 0), .ref (a1 0), .int p2, .int p3, .int p4, .int p5].toArray below meth c H locs 0 0 (MQ below (Q_X2_countMarked dC dI cI a0 a1 v1_3 v1_4 v1_5 v1_0 v1_1 v1_2 u A) [.ref (a0 0), .ref (a1 0), .int p2, .int p3, .int p4, .int p5].toArray s 0 0 A) (F0 m 3 ls []) := by
      intro k
      induction k with
      | zero => intro s3 h; exact absurd h lpq_zero
      | succ k ih_3 =>
        intro s3 h H locs ls hP hD hS hl
        obtain ⟨o_3, hF, hO_3⟩ := lpq_succ h
        unfold F_X2_countMarked_b3 at hF
        refine lv_iload hx hb dX2_countMarked_3 (lv_at hl 6 rfl) ?_
        refine lv_bipush (v := 20) hx hb dX2_countMarked_5 (by decide) ?_
        refine lv_icmp_gt (tgt := 24) hx hb dX2_countMarked_7 (by decide) (fun c_10 => ?_) (fun c_10 => ?_)
        · have hF := it_t hF c_10
          obtain rfl := Option.some.inj hF
          obtain rfl := lpq_x hO_3
          have hF := hE_3
          exact j24 s3.2 x2 x3 x4 x5 hF _ _ _ hP hD hS (lv_sub hl [0, 1, 2, 3, 4, 5] rfl)
        · have hF := it_f hF c_10
          refine lv_aload_n hx hb dX2_countMarked_10 rfl (lv_at hl 0 rfl) ?_
          refine va_get (D := (dC, dI)) (ci := 2) (v := .ref (a0 1)) (C := RX2) (T := TX2) (N := 1) hx hb hta uw_X2 hown hK hP 0 rfl rfl 0 (by decide) (hta _ mA104) (fun _ h9 => h9) rfl dX2_countMarked_11 ?_
          refine lv_iload hx hb dX2_countMarked_14 (lv_at hl 6 rfl) ?_
          refine lv_iconst (v := 0) hx hb dX2_countMarked_16 (by decide) ?_
          obtain ⟨g_11, hF⟩ := gd_some hF
          refine va_iast hx hb hK hP hD hS 1 0 rfl rfl (vpi_in g_11) dX2_countMarked_17 (fun H locs hP hD hS => ?_)
          obtain ⟨y_12, ey_12, hF⟩ := lt_some hF
          have hP : va_P (dC, dI) vwCl (wd_X2_countMarked cI a0 a1 y_12 v1_3 v1_4 v1_5 v1_0 v1_1 v1_2) H := by rw [ey_12]; exact hP
          have hD : va_D A (wd_X2_countMarked cI a0 a1 y_12 v1_3 v1_4 v1_5 v1_0 v1_1 v1_2) := by rw [ey_12]; exact hD
          obtain ⟨y_13, ey_13, hF⟩ := lt_some hF
          refine lv_iinc (v := y_13) (lv' := [(6, .int y_13), (0, .ref (a0 0)), (1, .ref (a1 0)), (2, .int x2), (3, .int x3), (4, .int x4), (5, .int x5)]) hx hb dX2_countMarked_18 hl (k := 6) rfl (by rw [ey_13]; rfl) (by decide) rfl (fun ls hl => ?_)
          refine lv_goto (tgt := 3) hx hb dX2_countMarked_21 (by decide) ?_
          obtain rfl := Option.some.inj hF
          exact ih_3 _ hO_3 _ _ _ hP hD hS (lv_sub hl [1, 2, 3, 4, 5, 6, 0] rfl)
    exact kl_3 n _ hL_3 _ _ _ hP hD hS hl
  refine lv_iconst (v := 0) hx hb dX2_countMarked_0 (by decide) ?_
  refine lv_istore (lv' := [(6, .int 0), (0, .ref (a0 0)), (1, .ref (a1 0)), (2, .int p2), (3, .int p3), (4, .int p4), (5, .int p5)]) hx hb dX2_countMarked_1 hl (by decide) rfl (fun ls hl => ?_)
  exact j3 v0_0 p2 p3 p4 p5 0 hF _ _ _ hP hD hS (lv_sub hl [1, 2, 3, 4, 5, 6, 0] rfl)
