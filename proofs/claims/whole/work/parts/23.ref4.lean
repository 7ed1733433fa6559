-- StrokeOutlinerModel.kindOf(I)I
def F_X12_kindOf (v0_22 : Nat → Int32) (p1 : Int32) : Option (Int32) :=
  lt (9 * p1) (fun y_1 => gd (decide (vpi y_1 27000)) (some (v0_22 y_1.toNatClampNeg)))
abbrev wd_X12_kindOf (cI : ClassId) (a0 : Nat → Nat) (v0_2 : Int32) (v0_3 : Int32) (v0_5 : Int32) (v0_12 : Int32) (v0_13 : Int32) (v0_16 : Int32) (v0_17 : Int32) (v0_21 : Int32) (v0_23 : Int32) (v0_24 : Int32) (v0_25 : Int32) (v0_26 : Int32) (v0_29 : Int32) (v0_30 : Int64) (v0_22 : Nat → Int32) : va_W := [(a0 0, .inr (11, [.ref (a0 1), .ref (a0 2), .int v0_2, .int v0_3, .ref (a0 5), .int v0_5, .ref (a0 7), .ref (a0 8), .ref (a0 9), .ref (a0 10), .ref (a0 11), .ref (a0 12), .int v0_12, .int v0_13, .ref (a0 15), .ref (a0 16), .int v0_16, .int v0_17, .ref (a0 19), .ref (a0 20), .ref (a0 21), .int v0_21, .ref (a0 23), .int v0_23, .int v0_24, .int v0_25, .int v0_26, .ref (a0 28), .ref (a0 29), .int v0_29, .long v0_30])), (a0 23, .inl (cI, 27000, .inl v0_22))]
abbrev wz_X12_kindOf : List Cond := .code yX12_kindOf cX12_kindOf 2 (some .int) :: wALL
abbrev rm_X12_kindOf : Room := { frames := 0, cells := 0, slots := 0, locals := 0 }
abbrev Q_X12_kindOf (dC : Nat → ClassId) (dI : Nat → Nat → Nat) (cI : ClassId) (a0 : Nat → Nat) (v0_2 : Int32) (v0_3 : Int32) (v0_5 : Int32) (v0_12 : Int32) (v0_13 : Int32) (v0_16 : Int32) (v0_17 : Int32) (v0_21 : Int32) (v0_23 : Int32) (v0_24 : Int32) (v0_25 : Int32) (v0_26 : Int32) (v0_29 : Int32) (v0_30 : Int64) (v0_22 : Nat → Int32) (u : (Int32)) (A : Nat → Prop) : Array Value → State → Outcome → State → Prop := va_Qi (fun (r : Int32) (_ : Unit) => r = u) (fun _ => q_at dC dI cI A (wd_X12_kindOf cI a0 v0_2 v0_3 v0_5 v0_12 v0_13 v0_16 v0_17 v0_21 v0_23 v0_24 v0_25 v0_26 v0_29 v0_30 v0_22)) A
set_option maxHeartbeats 4000000 in
set_option maxRecDepth 100000 in
theorem c_X12_kindOf (l : Launch) (dC : Nat → ClassId) (dI : Nat → Nat → Nat) (cI : ClassId) (sz : Nat) (a0 : Nat → Nat) (v0_2 : Int32) (v0_3 : Int32) (v0_5 : Int32) (v0_12 : Int32) (v0_13 : Int32) (v0_16 : Int32) (v0_17 : Int32) (v0_21 : Int32) (v0_23 : Int32) (v0_24 : Int32) (v0_25 : Int32) (v0_26 : Int32) (v0_29 : Int32) (v0_30 : Int64) (v0_22 : Nat → Int32) (p1 : Int32) (u : (Int32)) (hF : F_X12_kindOf v0_22 p1 = some u) : Met l yX12_kindOf wz_X12_kindOf rm_X12_kindOf (va_Pc [.ref (a0 0), .int p1] (q_pre dC dI cI (wd_X12_kindOf cI a0 v0_2 v0_3 v0_5 v0_12 v0_13 v0_16 v0_17 v0_21 v0_23 v0_24 v0_25 v0_26 v0_29 v0_30 v0_22) sz)) (Q_X12_kindOf dC dI cI a0 v0_2 v0_3 v0_5 v0_12 v0_13 v0_16 v0_17 v0_21 v0_23 v0_24 v0_25 v0_26 v0_29 v0_30 v0_22 u (va_A (wd_X12_kindOf cI a0 v0_2 v0_3 v0_5 v0_12 v0_13 v0_16 v0_17 v0_21 v0_23 v0_24 v0_25 v0_26 v0_29 v0_30 v0_22) sz)) 0 0 (va_A (wd_X12_kindOf cI a0 v0_2 v0_3 v0_5 v0_12 v0_13 v0_16 v0_17 v0_21 v0_23 v0_24 v0_25 v0_26 v0_29 v0_30 v0_22) sz) := by
  refine Met.ofW (cc := cX12_kindOf) (maxL := 2) (ret := (some .int)) (by decide) rfl ?_
  intro p e s m args below meth c s₁ B hml hv
  obtain ⟨rfl, hsz, hP, hK, hD0⟩ := hv
  have hx := B.exec
  have hb := B.bytes
  have hr := B.returns
  have hts := atoms_spec (ws := wz_X12_kindOf) B.pre
  have hta := wz_tl hts
  have hown : s.vm.findClass RX12 = some m.cls := findClass_of_methodNamed B.named
  have hlocks := B.notSynchronized
  subst hsz
  have hD := hD0.self (sz := s.heap.size)
  generalize hAe : va_A (wd_X12_kindOf cI a0 v0_2 v0_3 v0_5 v0_12 v0_13 v0_16 v0_17 v0_21 v0_23 v0_24 v0_25 v0_26 v0_29 v0_30 v0_22) s.heap.size = A at hD ⊢
  have hA : ∀ q : Nat, s.heap.size ≤ q → A q := fun q h => by rw [← hAe]; exact Or.inr h
  have hS : va_S A s.heap s.heap [] := va_S.rf
  have hP : va_P (dC, dI) vwCl (wd_X12_kindOf cI a0 v0_2 v0_3 v0_5 v0_12 v0_13 v0_16 v0_17 v0_21 v0_23 v0_24 v0_25 v0_26 v0_29 v0_30 v0_22) s.heap := hP
  have hl := lv_entry ([.ref (a0 0), .int p1]) (n := 2) (Nat.le_of_ble_eq_true rfl)
  rw [lg_entry_eq]
  generalize (lg_sl ([.ref (a0 0), .int p1]) ++ List.replicate (2 - (lg_sl ([.ref (a0 0), .int p1])).length) Slot.unset).toArray = ls at hl ⊢
  have hl : lv_has ls 2 [(0, .ref (a0 0)), (1, .int p1)] := hl
  obtain ⟨H, hHe⟩ : ∃ H, H = s.heap := ⟨_, rfl⟩
  have hS : va_S A s.heap H [] := by rw [hHe]; exact hS
  have hP : va_P (dC, dI) vwCl (wd_X12_kindOf cI a0 v0_2 v0_3 v0_5 v0_12 v0_13 v0_16 v0_17 v0_21 v0_23 v0_24 v0_25 v0_26 v0_29 v0_30 v0_22) H := by rw [hHe]; exact hP
  rw [← hHe]
  unfold F_X12_kindOf at hF
  refine lv_aload_n hx hb dX12_kindOf_0 rfl (lv_at hl 0 rfl) ?_
  refine va_get (D := (dC, dI)) (ci := 11) (v := .ref (a0 23)) (C := RX12) (T := TX12) (N := 31) hx hb hta uw_X12 hown hK hP 0 rfl rfl 22 (by decide) (hta _ mA804) (fun _ h9 => h9) rfl dX12_kindOf_1 ?_
  refine lv_bipush (v := 9) hx hb dX12_kindOf_4 (by decide) ?_
  refine lv_iload_n hx hb dX12_kindOf_6 rfl (lv_at hl 1 rfl) ?_
  refine lv_imul hx hb dX12_kindOf_7 ?_
  obtain ⟨y_1, ey_1, hF⟩ := lt_some hF
  refine lv_eqi ey_1 ?_
  obtain ⟨g_2, hF⟩ := gd_some hF
  refine va_iald hx hb hK hP 1 0 rfl rfl (vpi_in g_2) dX12_kindOf_8 ?_
  obtain rfl := Option.some.inj hF
  exact W.iret (v := (v0_22 y_1.toNatClampNeg)) hx hb hr (fun t ht hW => ⟨⟨(v0_22 y_1.toNatClampNeg), (), rfl, rfl, by rw [ht]; exact hP, va_K.moved hW.alike hK, hD⟩, hS.F ht⟩) hS.2.2 dX12_kindOf_9

-- StrokeOutlinerModel.cornersOf(I)I
def F_X12_cornersOf (v0_22 : Nat → Int32) (p1 : Int32) : Option (Int32) :=
  obd (F_X12_kindOf v0_22 p1) (fun u_1 => if u_1 = 3 then some 1 else if u_1 = 2 then some 3 else some 4)
abbrev wd_X12_cornersOf (cI : ClassId) (a0 : Nat → Nat) (v0_2 : Int32) (v0_3 : Int32) (v0_5 : Int32) (v0_12 : Int32) (v0_13 : Int32) (v0_16 : Int32) (v0_17 : Int32) (v0_21 : Int32) (v0_23 : Int32) (v0_24 : Int32) (v0_25 : Int32) (v0_26 : Int32) (v0_29 : Int32) (v0_30 : Int64) (v0_22 : Nat → Int32) : va_W := [(a0 0, .inr (11, [.ref (a0 1), .ref (a0 2), .int v0_2, .int v0_3, .ref (a0 5), .int v0_5, .ref (a0 7), .ref (a0 8), .ref (a0 9), .ref (a0 10), .ref (a0 11), .ref (a0 12), .int v0_12, .int v0_13, .ref (a0 15), .ref (a0 16), .int v0_16, .int v0_17, .ref (a0 19), .ref (a0 20), .ref (a0 21), .int v0_21, .ref (a0 23), .int v0_23, .int v0_24, .int v0_25, .int v0_26, .ref (a0 28), .ref (a0 29), .int v0_29, .long v0_30])), (a0 23, .inl (cI, 27000, .inl v0_22))]
abbrev wz_X12_cornersOf : List Cond := .code yX12_cornersOf cX12_cornersOf 3 (some .int) :: wALL
abbrev rm_X12_cornersOf : Room := { frames := 1, cells := 0, slots := 0, locals := 21 }
abbrev Q_X12_cornersOf (dC : Nat → ClassId) (dI : Nat → Nat → Nat) (cI : ClassId) (a0 : Nat → Nat) (v0_2 : Int32) (v0_3 : Int32) (v0_5 : Int32) (v0_12 : Int32) (v0_13 : Int32) (v0_16 : Int32) (v0_17 : Int32) (v0_21 : Int32) (v0_23 : Int32) (v0_24 : Int32) (v0_25 : Int32) (v0_26 : Int32) (v0_29 : Int32) (v0_30 : Int64) (v0_22 : Nat → Int32) (u : (Int32)) (A : Nat → Prop) : Array Value → State → Outcome → State → Prop := va_Qi (fun (r : Int32) (_ : Unit) => r = u) (fun _ => q_at dC dI cI A (wd_X12_cornersOf cI a0 v0_2 v0_3 v0_5 v0_12 v0_13 v0_16 v0_17 v0_21 v0_23 v0_24 v0_25 v0_26 v0_29 v0_30 v0_22)) A
set_option maxHeartbeats 4000000 in
set_option maxRecDepth 100000 in
theorem c_X12_cornersOf (l : Launch) (dC : Nat → ClassId) (dI : Nat → Nat → Nat) (cI : ClassId) (sz : Nat) (a0 : Nat → Nat) (v0_2 : Int32) (v0_3 : Int32) (v0_5 : Int32) (v0_12 : Int32) (v0_13 : Int32) (v0_16 : Int32) (v0_17 : Int32) (v0_21 : Int32) (v0_23 : Int32) (v0_24 : Int32) (v0_25 : Int32) (v0_26 : Int32) (v0_29 : Int32) (v0_30 : Int64) (v0_22 : Nat → Int32) (p1 : Int32) (u : (Int32)) (hF : F_X12_cornersOf v0_22 p1 = some u) : Met l yX12_cornersOf wz_X12_cornersOf rm_X12_cornersOf (va_Pc [.ref (a0 0), .int p1] (q_pre dC dI cI (wd_X12_cornersOf cI a0 v0_2 v0_3 v0_5 v0_12 v0_13 v0_16 v0_17 v0_21 v0_23 v0_24 v0_25 v0_26 v0_29 v0_30 v0_22) sz)) (Q_X12_cornersOf dC dI cI a0 v0_2 v0_3 v0_5 v0_12 v0_13 v0_16 v0_17 v0_21 v0_23 v0_24 v0_25 v0_26 v0_29 v0_30 v0_22 u (va_A (wd_X12_cornersOf cI a0 v0_2 v0_3 v0_5 v0_12 v0_13 v0_16 v0_17 v0_21 v0_23 v0_24 v0_25 v0_26 v0_29 v0_30 v0_22) sz)) 0 0 (va_A (wd_X12_cornersOf cI a0 v0_2 v0_3 v0_5 v0_12 v0_13 v0_16 v0_17 v0_21 v0_23 v0_24 v0_25 v0_26 v0_29 v0_30 v0_22) sz) := by
  refine Met.ofW (cc := cX12_cornersOf) (maxL := 3) (ret := (some .int)) (by decide) rfl ?_
  intro p e s m args below meth c s₁ B hml hv
  obtain ⟨rfl, hsz, hP, hK, hD0⟩ := hv
  have hx := B.exec
  have hb := B.bytes
  have hr := B.returns
  have hts := atoms_spec (ws := wz_X12_cornersOf) B.pre
  have hta := wz_tl hts
  have hown : s.vm.findClass RX12 = some m.cls := findClass_of_methodNamed B.named
  have hlocks := B.notSynchronized
  subst hsz
  have hD := hD0.self (sz := s.heap.size)
  generalize hAe : va_A (wd_X12_cornersOf cI a0 v0_2 v0_3 v0_5 v0_12 v0_13 v0_16 v0_17 v0_21 v0_23 v0_24 v0_25 v0_26 v0_29 v0_30 v0_22) s.heap.size = A at hD ⊢
  have hA : ∀ q : Nat, s.heap.size ≤ q → A q := fun q h => by rw [← hAe]; exact Or.inr h
  have hS : va_S A s.heap s.heap [] := va_S.rf
  have hP : va_P (dC, dI) vwCl (wd_X12_cornersOf cI a0 v0_2 v0_3 v0_5 v0_12 v0_13 v0_16 v0_17 v0_21 v0_23 v0_24 v0_25 v0_26 v0_29 v0_30 v0_22) s.heap := hP
  have hl := lv_entry ([.ref (a0 0), .int p1]) (n := 3) (Nat.le_of_ble_eq_true rfl)
  rw [lg_entry_eq]
  generalize (lg_sl ([.ref (a0 0), .int p1]) ++ List.replicate (3 - (lg_sl ([.ref (a0 0), .int p1])).length) Slot.unset).toArray = ls at hl ⊢
  have hl : lv_has ls 3 [(0, .ref (a0 0)), (1, .int p1)] := hl
  obtain ⟨H, hHe⟩ : ∃ H, H = s.heap := ⟨_, rfl⟩
  have hS : va_S A s.heap H [] := by rw [hHe]; exact hS
  have hP : va_P (dC, dI) vwCl (wd_X12_cornersOf cI a0 v0_2 v0_3 v0_5 v0_12 v0_13 v0_16 v0_17 v0_21 v0_23 v0_24 v0_25 v0_26 v0_29 v0_30 v0_22) H := by rw [hHe]; exact hP
  rw [← hHe]
  unfold F_X12_cornersOf at hF
  refine lv_aload_n hx hb dX12_cornersOf_0 rfl (lv_at hl 0 rfl) ?_
  refine lv_iload_n hx hb dX12_cornersOf_1 rfl (lv_at hl 1 rfl) ?_
  obtain ⟨u_1, hu_1, hF⟩ := obd_some hF
  have hPc := hP.sub (ws' := (wd_X12_kindOf cI a0 v0_2 v0_3 v0_5 v0_12 v0_13 v0_16 v0_17 v0_21 v0_23 v0_24 v0_25 v0_26 v0_29 v0_30 v0_22)) [0, 1] rfl
  have hDc := hD.sub (ws' := (wd_X12_kindOf cI a0 v0_2 v0_3 v0_5 v0_12 v0_13 v0_16 v0_17 v0_21 v0_23 v0_24 v0_25 v0_26 v0_29 v0_30 v0_22)) [0, 1] rfl rfl
  refine q_calli (wc := (wd_X12_kindOf cI a0 v0_2 v0_3 v0_5 v0_12 v0_13 v0_16 v0_17 v0_21 v0_23 v0_24 v0_25 v0_26 v0_29 v0_30 v0_22)) (w1 := (wd_X12_kindOf cI a0 v0_2 v0_3 v0_5 v0_12 v0_13 v0_16 v0_17 v0_21 v0_23 v0_24 v0_25 v0_26 v0_29 v0_30 v0_22)) (ws' := (wd_X12_cornersOf cI a0 v0_2 v0_3 v0_5 v0_12 v0_13 v0_16 v0_17 v0_21 v0_23 v0_24 v0_25 v0_26 v0_29 v0_30 v0_22)) hP hD hS hA [0, 1] [] [0, 1] rfl rfl rfl (by decide) rfl rfl (va_runV (As := [.int p1]) (rest := []) ⟨hx, hb, hml, hown, hta⟩ (c_X12_kindOf l dC dI cI H.size a0 v0_2 v0_3 v0_5 v0_12 v0_13 v0_16 v0_17 v0_21 v0_23 v0_24 v0_25 v0_26 v0_29 v0_30 v0_22 p1 u_1 hu_1) (cwV 1 hta (ga_V mA1015 mA1016 mA1017 mA814 mA1013) rfl rfl rfl (by decide +kernel) ⟨Nat.le_of_ble_eq_true rfl, Nat.le_of_ble_eq_true rfl⟩) ⟨q_fb, va_recv hK hP (ci := 11) (q0 := 0) rfl rfl, q_ps hPc hK hDc⟩ rfl rfl hl.1 rfl (lv_room (Nat.le_of_ble_eq_true rfl)) dX12_cornersOf_2 ⟨Nat.zero_le _, Nat.zero_le _⟩) (fun H locs hP hD hS => ?_)
  refine lv_istore_n (lv' := [(2, .int u_1), (0, .ref (a0 0)), (1, .int p1)]) hx hb dX12_cornersOf_5 rfl hl (by decide) rfl (fun ls hl => ?_)
  refine lv_iload_n hx hb dX12_cornersOf_6 rfl (lv_at hl 0 rfl) ?_
  refine lv_iconst (v := 3) hx hb dX12_cornersOf_7 (by decide) ?_
  refine lv_icmp_ne (tgt := 15) hx hb dX12_cornersOf_8 (by decide) (fun c_2 => ?_) (fun c_2 => ?_)
  · have hF := it_f hF c_2
    refine lv_iload_n hx hb dX12_cornersOf_15 rfl (lv_at hl 0 rfl) ?_
    refine lv_iconst (v := 2) hx hb dX12_cornersOf_16 (by decide) ?_
    refine lv_icmp_ne (tgt := 24) hx hb dX12_cornersOf_17 (by decide) (fun c_3 => ?_) (fun c_3 => ?_)
    · have hF := it_f hF c_3
      refine lv_iconst (v := 4) hx hb dX12_cornersOf_24 (by decide) ?_
      obtain rfl := Option.some.inj hF
      exact W.iret (v := 4) hx hb hr (fun t ht hW => ⟨⟨4, (), rfl, rfl, by rw [ht]; exact hP, va_K.moved hW.alike hK, hD⟩, hS.F ht⟩) hS.2.2 dX12_cornersOf_25
    · have hF := it_t hF c_3
      refine lv_iconst (v := 3) hx hb dX12_cornersOf_20 (by decide) ?_
      refine lv_goto (tgt := 25) hx hb dX12_cornersOf_21 (by decide) ?_
      obtain rfl := Option.some.inj hF
      exact W.iret (v := 3) hx hb hr (fun t ht hW => ⟨⟨3, (), rfl, rfl, by rw [ht]; exact hP, va_K.moved hW.alike hK, hD⟩, hS.F ht⟩) hS.2.2 dX12_cornersOf_25
  · have hF := it_t hF c_2
    refine lv_iconst (v := 1) hx hb dX12_cornersOf_11 (by decide) ?_
    refine lv_goto (tgt := 25) hx hb dX12_cornersOf_12 (by decide) ?_
    obtain rfl := Option.some.inj hF
    exact W.iret (v := 1) hx hb hr (fun t ht hW => ⟨⟨1, (), rfl, rfl, by rw [ht]; exact hP, va_K.moved hW.alike hK, hD⟩, hS.F ht⟩) hS.2.2 dX12_cornersOf_25

-- StrokeOutlinerModel.cornerX(II)I
def F_X12_cornerX (v0_22 : Nat → Int32) (p1 : Int32) (p2 : Int32) : Option (Int32) :=
  obd (F_X12_cornersOf v0_22 p1) (fun u_1 => gd (decide (¬ (u_1 : Int32) = 0)) (lt (((9 * p1) + 1) + (2 * (p2 - p2 / u_1 * u_1))) (fun y_3 => gd (decide (vpi y_3 27000)) (some (v0_22 y_3.toNatClampNeg)))))
abbrev wd_X12_cornerX (cI : ClassId) (a0 : Nat → Nat) (v0_2 : Int32) (v0_3 : Int32) (v0_5 : Int32) (v0_12 : Int32) (v0_13 : Int32) (v0_16 : Int32) (v0_17 : Int32) (v0_21 : Int32) (v0_23 : Int32) (v0_24 : Int32) (v0_25 : Int32) (v0_26 : Int32) (v0_29 : Int32) (v0_30 : Int64) (v0_22 : Nat → Int32) : va_W := [(a0 0, .inr (11, [.ref (a0 1), .ref (a0 2), .int v0_2, .int v0_3, .ref (a0 5), .int v0_5, .ref (a0 7), .ref (a0 8), .ref (a0 9), .ref (a0 10), .ref (a0 11), .ref (a0 12), .int v0_12, .int v0_13, .ref (a0 15), .ref (a0 16), .int v0_16, .int v0_17, .ref (a0 19), .ref (a0 20), .ref (a0 21), .int v0_21, .ref (a0 23), .int v0_23, .int v0_24, .int v0_25, .int v0_26, .ref (a0 28), .ref (a0 29), .int v0_29, .long v0_30])), (a0 23, .inl (cI, 27000, .inl v0_22))]
abbrev wz_X12_cornerX : List Cond := .code yX12_cornerX cX12_cornerX 3 (some .int) :: wALL
abbrev rm_X12_cornerX : Room := { frames := 2, cells := 0, slots := 0, locals := 43 }
abbrev Q_X12_cornerX (dC : Nat → ClassId) (dI : Nat → Nat → Nat) (cI : ClassId) (a0 : Nat → Nat) (v0_2 : Int32) (v0_3 : Int32) (v0_5 : Int32) (v0_12 : Int32) (v0_13 : Int32) (v0_16 : Int32) (v0_17 : Int32) (v0_21 : Int32) (v0_23 : Int32) (v0_24 : Int32) (v0_25 : Int32) (v0_26 : Int32) (v0_29 : Int32) (v0_30 : Int64) (v0_22 : Nat → Int32) (u : (Int32)) (A : Nat → Prop) : Array Value → State → Outcome → State → Prop := va_Qi (fun (r : Int32) (_ : Unit) => r = u) (fun _ => q_at dC dI cI A (wd_X12_cornerX cI a0 v0_2 v0_3 v0_5 v0_12 v0_13 v0_16 v0_17 v0_21 v0_23 v0_24 v0_25 v0_26 v0_29 v0_30 v0_22)) A
set_option maxHeartbeats 4000000 in
set_option maxRecDepth 100000 in
theorem c_X12_cornerX (l : Launch) (dC : Nat → ClassId) (dI : Nat → Nat → Nat) (cI : ClassId) (sz : Nat) (a0 : Nat → Nat) (v0_2 : Int32) (v0_3 : Int32) (v0_5 : Int32) (v0_12 : Int32) (v0_13 : Int32) (v0_16 : Int32) (v0_17 : Int32) (v0_21 : Int32) (v0_23 : Int32) (v0_24 : Int32) (v0_25 : Int32) (v0_26 : Int32) (v0_29 : Int32) (v0_30 : Int64) (v0_22 : Nat → Int32) (p1 : Int32) (p2 : Int32) (u : (Int32)) (hF : F_X12_cornerX v0_22 p1 p2 = some u) : Met l yX12_cornerX wz_X12_cornerX rm_X12_cornerX (va_Pc [.ref (a0 0), .int p1, .int p2] (q_pre dC dI cI (wd_X12_cornerX cI a0 v0_2 v0_3 v0_5 v0_12 v0_13 v0_16 v0_17 v0_21 v0_23 v0_24 v0_25 v0_26 v0_29 v0_30 v0_22) sz)) (Q_X12_cornerX dC dI cI a0 v0_2 v0_3 v0_5 v0_12 v0_13 v0_16 v0_17 v0_21 v0_23 v0_24 v0_25 v0_26 v0_29 v0_30 v0_22 u (va_A (wd_X12_cornerX cI a0 v0_2 v0_3 v0_5 v0_12 v0_13 v0_16 v0_17 v0_21 v0_23 v0_24 v0_25 v0_26 v0_29 v0_30 v0_22) sz)) 0 0 (va_A (wd_X12_cornerX cI a0 v0_2 v0_3 v0_5 v0_12 v0_13 v0_16 v0_17 v0_21 v0_23 v0_24 v0_25 v0_26 v0_29 v0_30 v0_22) sz) := by
  refine Met.ofW (cc := cX12_cornerX) (maxL := 3) (ret := (some .int)) (by decide) rfl ?_
  intro p e s m args below meth c s₁ B hml hv
  obtain ⟨rfl, hsz, hP, hK, hD0⟩ := hv
  have hx := B.exec
  have hb := B.bytes
  have hr := B.returns
  have hts := atoms_spec (ws := wz_X12_cornerX) B.pre
  have hta := wz_tl hts
  have hown : s.vm.findClass RX12 = some m.cls := findClass_of_methodNamed B.named
  have hlocks := B.notSynchronized
  subst hsz
  have hD := hD0.self (sz := s.heap.size)
  generalize hAe : va_A (wd_X12_cornerX cI a0 v0_2 v0_3 v0_5 v0_12 v0_13 v0_16 v0_17 v0_21 v0_23 v0_24 v0_25 v0_26 v0_29 v0_30 v0_22) s.heap.size = A at hD ⊢
  have hA : ∀ q : Nat, s.heap.size ≤ q → A q := fun q h => by rw [← hAe]; exact Or.inr h
  have hS : va_S A s.heap s.heap [] := va_S.rf
  have hP : va_P (dC, dI) vwCl (wd_X12_cornerX cI a0 v0_2 v0_3 v0_5 v0_12 v0_13 v0_16 v0_17 v0_21 v0_23 v0_24 v0_25 v0_26 v0_29 v0_30 v0_22) s.heap := hP
  have hl := lv_entry ([.ref (a0 0), .int p1, .int p2]) (n := 3) (Nat.le_of_ble_eq_true rfl)
  rw [lg_entry_eq]
  generalize (lg_sl ([.ref (a0 0), .int p1, .int p2]) ++ List.replicate (3 - (lg_sl ([.ref (a0 0), .int p1, .int p2])).length) Slot.unset).toArray = ls at hl ⊢
  have hl : lv_has ls 3 [(0, .ref (a0 0)), (1, .int p1), (2, .int p2)] := hl
  obtain ⟨H, hHe⟩ : ∃ H, H = s.heap := ⟨_, rfl⟩
  have hS : va_S A s.heap H [] := by rw [hHe]; exact hS
  have hP : va_P (dC, dI) vwCl (wd_X12_cornerX cI a0 v0_2 v0_3 v0_5 v0_12 v0_13 v0_16 v0_17 v0_21 v0_23 v0_24 v0_25 v0_26 v0_29 v0_30 v0_22) H := by rw [hHe]; exact hP
  rw [← hHe]
  unfold F_X12_cornerX at hF
  refine lv_aload_n hx hb dX12_cornerX_0 rfl (lv_at hl 0 rfl) ?_
  refine va_get (D := (dC, dI)) (ci := 11) (v := .ref (a0 23)) (C := RX12) (T := TX12) (N := 31) hx hb hta uw_X12 hown hK hP 0 rfl rfl 22 (by decide) (hta _ mA804) (fun _ h9 => h9) rfl dX12_cornerX_1 ?_
  refine lv_bipush (v := 9) hx hb dX12_cornerX_4 (by decide) ?_
  refine lv_iload_n hx hb dX12_cornerX_6 rfl (lv_at hl 1 rfl) ?_
  refine lv_imul hx hb dX12_cornerX_7 ?_
  refine lv_iconst (v := 1) hx hb dX12_cornerX_8 (by decide) ?_
  refine lv_iadd hx hb dX12_cornerX_9 ?_
  refine lv_iconst (v := 2) hx hb dX12_cornerX_10 (by decide) ?_
  refine lv_iload_n hx hb dX12_cornerX_11 rfl (lv_at hl 2 rfl) ?_
  refine lv_aload_n hx hb dX12_cornerX_12 rfl (lv_at hl 0 rfl) ?_
  refine lv_iload_n hx hb dX12_cornerX_13 rfl (lv_at hl 1 rfl) ?_
  obtain ⟨u_1, hu_1, hF⟩ := obd_some hF
  have hPc := hP.sub (ws' := (wd_X12_cornersOf cI a0 v0_2 v0_3 v0_5 v0_12 v0_13 v0_16 v0_17 v0_21 v0_23 v0_24 v0_25 v0_26 v0_29 v0_30 v0_22)) [0, 1] rfl
  have hDc := hD.sub (ws' := (wd_X12_cornersOf cI a0 v0_2 v0_3 v0_5 v0_12 v0_13 v0_16 v0_17 v0_21 v0_23 v0_24 v0_25 v0_26 v0_29 v0_30 v0_22)) [0, 1] rfl rfl
  refine q_calli (wc := (wd_X12_cornersOf cI a0 v0_2 v0_3 v0_5 v0_12 v0_13 v0_16 v0_17 v0_21 v0_23 v0_24 v0_25 v0_26 v0_29 v0_30 v0_22)) (w1 := (wd_X12_cornersOf cI a0 v0_2 v0_3 v0_5 v0_12 v0_13 v0_16 v0_17 v0_21 v0_23 v0_24 v0_25 v0_26 v0_29 v0_30 v0_22)) (ws' := (wd_X12_cornerX cI a0 v0_2 v0_3 v0_5 v0_12 v0_13 v0_16 v0_17 v0_21 v0_23 v0_24 v0_25 v0_26 v0_29 v0_30 v0_22)) hP hD hS hA [0, 1] [] [0, 1] rfl rfl rfl (by decide) rfl rfl (va_runV (As := [.int p1]) (rest := [.int p2, .int 2, .int ((9 * p1) + 1), .ref (a0 23)]) ⟨hx, hb, hml, hown, hta⟩ (c_X12_cornersOf l dC dI cI H.size a0 v0_2 v0_3 v0_5 v0_12 v0_13 v0_16 v0_17 v0_21 v0_23 v0_24 v0_25 v0_26 v0_29 v0_30 v0_22 p1 u_1 hu_1) (cwV 1 hta (ga_V mA1019 mA1020 mA1021 mA814 mA1014) rfl rfl rfl (by decide +kernel) ⟨Nat.le_of_ble_eq_true rfl, Nat.le_of_ble_eq_true rfl⟩) ⟨q_fb, va_recv hK hP (ci := 11) (q0 := 0) rfl rfl, q_ps hPc hK hDc⟩ rfl rfl hl.1 rfl (lv_room (Nat.le_of_ble_eq_true rfl)) dX12_cornerX_14 ⟨Nat.zero_le _, Nat.zero_le _⟩) (fun H locs hP hD hS => ?_)
  obtain ⟨g_2, hF⟩ := gd_some hF
  refine lv_irem hx hb dX12_cornerX_17 g_2 ?_
  refine lv_imul hx hb dX12_cornerX_18 ?_
  refine lv_iadd hx hb dX12_cornerX_19 ?_
  obtain ⟨y_3, ey_3, hF⟩ := lt_some hF
  refine lv_eqi ey_3 ?_
  obtain ⟨g_4, hF⟩ := gd_some hF
  refine va_iald hx hb hK hP 1 0 rfl rfl (vpi_in g_4) dX12_cornerX_20 ?_
  obtain rfl := Option.some.inj hF
  exact W.iret (v := (v0_22 y_3.toNatClampNeg)) hx hb hr (fun t ht hW => ⟨⟨(v0_22 y_3.toNatClampNeg), (), rfl, rfl, by rw [ht]; exact hP, va_K.moved hW.alike hK, hD⟩, hS.F ht⟩) hS.2.2 dX12_cornerX_21

-- StrokeOutlinerModel.cornerY(II)I
def F_X12_cornerY (v0_22 : Nat → Int32) (p1 : Int32) (p2 : Int32) : Option (Int32) :=
  obd (F_X12_cornersOf v0_22 p1) (fun u_1 => gd (decide (¬ (u_1 : Int32) = 0)) (lt (((9 * p1) + 2) + (2 * (p2 - p2 / u_1 * u_1))) (fun y_3 => gd (decide (vpi y_3 27000)) (some (v0_22 y_3.toNatClampNeg)))))
abbrev wd_X12_cornerY (cI : ClassId) (a0 : Nat → Nat) (v0_2 : Int32) (v0_3 : Int32) (v0_5 : Int32) (v0_12 : Int32) (v0_13 : Int32) (v0_16 : Int32) (v0_17 : Int32) (v0_21 : Int32) (v0_23 : Int32) (v0_24 : Int32) (v0_25 : Int32) (v0_26 : Int32) (v0_29 : Int32) (v0_30 : Int64) (v0_22 : Nat → Int32) : va_W := [(a0 0, .inr (11, [.ref (a0 1), .ref (a0 2), .int v0_2, .int v0_3, .ref (a0 5), .int v0_5, .ref (a0 7), .ref (a0 8), .ref (a0 9), .ref (a0 10), .ref (a0 11), .ref (a0 12), .int v0_12, .int v0_13, .ref (a0 15), .ref (a0 16), .int v0_16, .int v0_17, .ref (a0 19), .ref (a0 20), .ref (a0 21), .int v0_21, .ref (a0 23), .int v0_23, .int v0_24, .int v0_25, .int v0_26, .ref (a0 28), .ref (a0 29), .int v0_29, .long v0_30])), (a0 23, .inl (cI, 27000, .inl v0_22))]
abbrev wz_X12_cornerY : List Cond := .code yX12_cornerY cX12_cornerY 3 (some .int) :: wALL
abbrev rm_X12_cornerY : Room := { frames := 2, cells := 0, slots := 0, locals := 43 }
abbrev Q_X12_cornerY (dC : Nat → ClassId) (dI : Nat → Nat → Nat) (cI : ClassId) (a0 : Nat → Nat) (v0_2 : Int32) (v0_3 : Int32) (v0_5 : Int32) (v0_12 : Int32) (v0_13 : Int32) (v0_16 : Int32) (v0_17 : Int32) (v0_21 : Int32) (v0_23 : Int32) (v0_24 : Int32) (v0_25 : Int32) (v0_26 : Int32) (v0_29 : Int32) (v0_30 : Int64) (v0_22 : Nat → Int32) (u : (Int32)) (A : Nat → Prop) : Array Value → State → Outcome → State → Prop := va_Qi (fun (r : Int32) (_ : Unit) => r = u) (fun _ => q_at dC dI cI A (wd_X12_cornerY cI a0 v0_2 v0_3 v0_5 v0_12 v0_13 v0_16 v0_17 v0_21 v0_23 v0_24 v0_25 v0_26 v0_29 v0_30 v0_22)) A
set_option maxHeartbeats 4000000 in
set_option maxRecDepth 100000 in
theorem c_X12_cornerY (l : Launch) (dC : Nat → ClassId) (dI : Nat → Nat → Nat) (cI : ClassId) (sz : Nat) (a0 : Nat → Nat) (v0_2 : Int32) (v0_3 : Int32) (v0_5 : Int32) (v0_12 : Int32) (v0_13 : Int32) (v0_16 : Int32) (v0_17 : Int32) (v0_21 : Int32) (v0_23 : Int32) (v0_24 : Int32) (v0_25 : Int32) (v0_26 : Int32) (v0_29 : Int32) (v0_30 : Int64) (v0_22 : Nat → Int32) (p1 : Int32) (p2 : Int32) (u : (Int32)) (hF : F_X12_cornerY v0_22 p1 p2 = some u) : Met l yX12_cornerY wz_X12_cornerY rm_X12_cornerY (va_Pc [.ref (a0 0), .int p1, .int p2] (q_pre dC dI cI (wd_X12_cornerY cI a0 v0_2 v0_3 v0_5 v0_12 v0_13 v0_16 v0_17 v0_21 v0_23 v0_24 v0_25 v0_26 v0_29 v0_30 v0_22) sz)) (Q_X12_cornerY dC dI cI a0 v0_2 v0_3 v0_5 v0_12 v0_13 v0_16 v0_17 v0_21 v0_23 v0_24 v0_25 v0_26 v0_29 v0_30 v0_22 u (va_A (wd_X12_cornerY cI a0 v0_2 v0_3 v0_5 v0_12 v0_13 v0_16 v0_17 v0_21 v0_23 v0_24 v0_25 v0_26 v0_29 v0_30 v0_22) sz)) 0 0 (va_A (wd_X12_cornerY cI a0 v0_2 v0_3 v0_5 v0_12 v0_13 v0_16 v0_17 v0_21 v0_23 v0_24 v0_25 v0_26 v0_29 v0_30 v0_22) sz) := by
  refine Met.ofW (cc := cX12_cornerY) (maxL := 3) (ret := (some .int)) (by decide) rfl ?_
  intro p e s m args below meth c s₁ B hml hv
  obtain ⟨rfl, hsz, hP, hK, hD0⟩ := hv
  have hx := B.exec
  have hb := B.bytes
  have hr := B.returns
  have hts := atoms_spec (ws := wz_X12_cornerY) B.pre
  have hta := wz_tl hts
  have hown : s.vm.findClass RX12 = some m.cls := findClass_of_methodNamed B.named
  have hlocks := B.notSynchronized
  subst hsz
  have hD := hD0.self (sz := s.heap.size)
  generalize hAe : va_A (wd_X12_cornerY cI a0 v0_2 v0_3 v0_5 v0_12 v0_13 v0_16 v0_17 v0_21 v0_23 v0_24 v0_25 v0_26 v0_29 v0_30 v0_22) s.heap.size = A at hD ⊢
  have hA : ∀ q : Nat, s.heap.size ≤ q → A q := fun q h => by rw [← hAe]; exact Or.inr h
  have hS : va_S A s.heap s.heap [] := va_S.rf
  have hP : va_P (dC, dI) vwCl (wd_X12_cornerY cI a0 v0_2 v0_3 v0_5 v0_12 v0_13 v0_16 v0_17 v0_21 v0_23 v0_24 v0_25 v0_26 v0_29 v0_30 v0_22) s.heap := hP
  have hl := lv_entry ([.ref (a0 0), .int p1, .int p2]) (n := 3) (Nat.le_of_ble_eq_true rfl)
  rw [lg_entry_eq]
  generalize (lg_sl ([.ref (a0 0), .int p1, .int p2]) ++ List.replicate (3 - (lg_sl ([.ref (a0 0), .int p1, .int p2])).length) Slot.unset).toArray = ls at hl ⊢
  have hl : lv_has ls 3 [(0, .ref (a0 0)), (1, .int p1), (2, .int p2)] := hl
  obtain ⟨H, hHe⟩ : ∃ H, H = s.heap := ⟨_, rfl⟩
  have hS : va_S A s.heap H [] := by rw [hHe]; exact hS
  have hP : va_P (dC, dI) vwCl (wd_X12_cornerY cI a0 v0_2 v0_3 v0_5 v0_12 v0_13 v0_16 v0_17 v0_21 v0_23 v0_24 v0_25 v0_26 v0_29 v0_30 v0_22) H := by rw [hHe]; exact hP
  rw [← hHe]
  unfold F_X12_cornerY at hF
  refine lv_aload_n hx hb dX12_cornerY_0 rfl (lv_at hl 0 rfl) ?_
  refine va_get (D := (dC, dI)) (ci := 11) (v := .ref (a0 23)) (C := RX12) (T := TX12) (N := 31) hx hb hta uw_X12 hown hK hP 0 rfl rfl 22 (by decide) (hta _ mA804) (fun _ h9 => h9) rfl dX12_cornerY_1 ?_
  refine lv_bipush (v := 9) hx hb dX12_cornerY_4 (by decide) ?_
  refine lv_iload_n hx hb dX12_cornerY_6 rfl (lv_at hl 1 rfl) ?_
  refine lv_imul hx hb dX12_cornerY_7 ?_
  refine lv_iconst (v := 2) hx hb dX12_cornerY_8 (by decide) ?_
  refine lv_iadd hx hb dX12_cornerY_9 ?_
  refine lv_iconst (v := 2) hx hb dX12_cornerY_10 (by decide) ?_
  refine lv_iload_n hx hb dX12_cornerY_11 rfl (lv_at hl 2 rfl) ?_
  refine lv_aload_n hx hb dX12_cornerY_12 rfl (lv_at hl 0 rfl) ?_
  refine lv_iload_n hx hb dX12_cornerY_13 rfl (lv_at hl 1 rfl) ?_
  obtain ⟨u_1, hu_1, hF⟩ := obd_some hF
  have hPc := hP.sub (ws' := (wd_X12_cornersOf cI a0 v0_2 v0_3 v0_5 v0_12 v0_13 v0_16 v0_17 v0_21 v0_23 v0_24 v0_25 v0_26 v0_29 v0_30 v0_22)) [0, 1] rfl
  have hDc := hD.sub (ws' := (wd_X12_cornersOf cI a0 v0_2 v0_3 v0_5 v0_12 v0_13 v0_16 v0_17 v0_21 v0_23 v0_24 v0_25 v0_26 v0_29 v0_30 v0_22)) [0, 1] rfl rfl
  refine q_calli (wc := (wd_X12_cornersOf cI a0 v0_2 v0_3 v0_5 v0_12 v0_13 v0_16 v0_17 v0_21 v0_23 v0_24 v0_25 v0_26 v0_29 v0_30 v0_22)) (w1 := (wd_X12_cornersOf cI a0 v0_2 v0_3 v0_5 v0_12 v0_13 v0_16 v0_17 v0_21 v0_23 v0_24 v0_25 v0_26 v0_29 v0_30 v0_22)) (ws' := (wd_X12_cornerY cI a0 v0_2 v0_3 v0_5 v0_12 v0_13 v0_16 v0_17 v0_21 v0_23 v0_24 v0_25 v0_26 v0_29 v0_30 v0_22)) hP hD hS hA [0, 1] [] [0, 1] rfl rfl rfl (by decide) rfl rfl (va_runV (As := [.int p1]) (rest := [.int p2, .int 2, .int ((9 * p1) + 2), .ref (a0 23)]) ⟨hx, hb, hml, hown, hta⟩ (c_X12_cornersOf l dC dI cI H.size a0 v0_2 v0_3 v0_5 v0_12 v0_13 v0_16 v0_17 v0_21 v0_23 v0_24 v0_25 v0_26 v0_29 v0_30 v0_22 p1 u_1 hu_1) (cwV 1 hta (ga_V mA1019 mA1020 mA1021 mA814 mA1014) rfl rfl rfl (by decide +kernel) ⟨Nat.le_of_ble_eq_true rfl, Nat.le_of_ble_eq_true rfl⟩) ⟨q_fb, va_recv hK hP (ci := 11) (q0 := 0) rfl rfl, q_ps hPc hK hDc⟩ rfl rfl hl.1 rfl (lv_room (Nat.le_of_ble_eq_true rfl)) dX12_cornerY_14 ⟨Nat.zero_le _, Nat.zero_le _⟩) (fun H locs hP hD hS => ?_)
  obtain ⟨g_2, hF⟩ := gd_some hF
  refine lv_irem hx hb dX12_cornerY_17 g_2 ?_
  refine lv_imul hx hb dX12_cornerY_18 ?_
  refine lv_iadd hx hb dX12_cornerY_19 ?_
  obtain ⟨y_3, ey_3, hF⟩ := lt_some hF
  refine lv_eqi ey_3 ?_
  obtain ⟨g_4, hF⟩ := gd_some hF
  refine va_iald hx hb hK hP 1 0 rfl rfl (vpi_in g_4) dX12_cornerY_20 ?_
  obtain rfl := Option.some.inj hF
  exact W.iret (v := (v0_22 y_3.toNatClampNeg)) hx hb hr (fun t ht hW => ⟨⟨(v0_22 y_3.toNatClampNeg), (), rfl, rfl, by rw [ht]; exact hP, va_K.moved hW.alike hK, hD⟩, hS.F ht⟩) hS.2.2 dX12_cornerY_21

-- StrokeOutlinerModel.pieces(I)I
def F_X12_pieces_j67 (v0_3 : Int32) (v0_12 : Int32) (v0_13 : Int32) (v0_16 : Int32) (v0_17 : Int32) (v0_21 : Int32) (v0_23 : Int32) (v0_6 : Nat → Int32) (v0_7 : Nat → Int32) (v0_8 : Nat → Int32) (v0_9 : Nat → Int32) (v0_10 : Nat → Int32) (v0_11 : Nat → Int32) (v0_14 : Nat → Int32) (v0_15 : Nat → Int32) (v0_18 : Nat → Int32) (v0_19 : Nat → Int32) (v0_20 : Nat → Int32) (v0_22 : Nat → Int32) (x2 : Int32) : Option (Int32 × Int32 × Int32 × Int32 × Int32 × Int32 × Int32 × Int32 × (Nat → Int32) × (Nat → Int32) × (Nat → Int32) × (Nat → Int32) × (Nat → Int32) × (Nat → Int32) × (Nat → Int32) × (Nat → Int32) × (Nat → Int32) × (Nat → Int32) × (Nat → Int32) × (Nat → Int32)) :=
  some (x2, v0_3, v0_12, v0_13, v0_16, v0_17, v0_21, v0_23, v0_6, v0_7, v0_8, v0_9, v0_10, v0_11, v0_14, v0_15, v0_18, v0_19, v0_20, v0_22)
def F_X12_pieces_j59 (x3 : Int32) (t0 : Int32) (t1 : Int32) : Option (Sum (Int32 × Int32) (Int32)) :=
  lt (t0 + t1) (fun y_1 => lt (x3 + 1) (fun y_2 => some (.inl (y_1, y_2))))
def F_X12_pieces_j54 (x3 : Int32) (t0 : Int32) : Option (Sum (Int32 × Int32) (Int32)) :=
  F_X12_pieces_j59 x3 t0 1
def F_X12_pieces_b31 (v0_23 : Int32) (v0_22 : Nat → Int32) (x1 : Int32) (s31 : Int32 × Int32) : Option (Sum (Int32 × Int32) (Int32)) :=
  if v0_23 ≤ s31.2 then some (.inr s31.1) else if x1 = (-1) then F_X12_pieces_j54 s31.2 s31.1 else obd (F_X12_kindOf v0_22 s31.2) (fun u_5 => if u_5 = x1 then F_X12_pieces_j54 s31.2 s31.1 else F_X12_pieces_j59 s31.2 s31.1 0)
def F_X12_pieces_j31 (n : Nat) (v0_3 : Int32) (v0_12 : Int32) (v0_13 : Int32) (v0_16 : Int32) (v0_17 : Int32) (v0_21 : Int32) (v0_23 : Int32) (v0_6 : Nat → Int32) (v0_7 : Nat → Int32) (v0_8 : Nat → Int32) (v0_9 : Nat → Int32) (v0_10 : Nat → Int32) (v0_11 : Nat → Int32) (v0_14 : Nat → Int32) (v0_15 : Nat → Int32) (v0_18 : Nat → Int32) (v0_19 : Nat → Int32) (v0_20 : Nat → Int32) (v0_22 : Nat → Int32) (x1 : Int32) (x2 : Int32) (x3 : Int32) : Option (Int32 × Int32 × Int32 × Int32 × Int32 × Int32 × Int32 × Int32 × (Nat → Int32) × (Nat → Int32) × (Nat → Int32) × (Nat → Int32) × (Nat → Int32) × (Nat → Int32) × (Nat → Int32) × (Nat → Int32) × (Nat → Int32) × (Nat → Int32) × (Nat → Int32) × (Nat → Int32)) :=
  obd (lpq (F_X12_pieces_b31 v0_23 v0_22 x1) n (x2, x3)) (fun x_31 => F_X12_pieces_j67 v0_3 v0_12 v0_13 v0_16 v0_17 v0_21 v0_23 v0_6 v0_7 v0_8 v0_9 v0_10 v0_11 v0_14 v0_15 v0_18 v0_19 v0_20 v0_22 x_31)
def F_X12_pieces_j15 (n : Nat) (v0_12 : Int32) (v0_13 : Int32) (v0_16 : Int32) (v0_17 : Int32) (v0_21 : Int32) (v0_23 : Int32) (v0_0 : Nat → Int32) (v0_6 : Nat → Int32) (v0_7 : Nat → Int32) (v0_8 : Nat → Int32) (v0_9 : Nat → Int32) (v0_10 : Nat → Int32) (v0_11 : Nat → Int32) (v0_14 : Nat → Int32) (v0_15 : Nat → Int32) (v0_18 : Nat → Int32) (v0_19 : Nat → Int32) (v0_20 : Nat → Int32) (v0_22 : Nat → Int32) (x1 : Int32) (t1 : Int32) : Option (Int32 × Int32 × Int32 × Int32 × Int32 × Int32 × Int32 × Int32 × (Nat → Int32) × (Nat → Int32) × (Nat → Int32) × (Nat → Int32) × (Nat → Int32) × (Nat → Int32) × (Nat → Int32) × (Nat → Int32) × (Nat → Int32) × (Nat → Int32) × (Nat → Int32) × (Nat → Int32)) :=
  lt (F_X12_refused t1) (fun u_7 => if u_7.1 = 0 then obd (F_X12_laysPieces n v0_12 v0_13 v0_16 v0_17 v0_21 v0_0 v0_6 v0_7 v0_8 v0_9 v0_10 v0_11 v0_14 v0_15 v0_18 v0_19 v0_20 v0_22) (fun u_9 => F_X12_pieces_j31 n u_7.2 u_9.1 u_9.2.1 u_9.2.2.1 u_9.2.2.2.1 u_9.2.2.2.2.1 u_9.2.2.2.2.2.1 u_9.2.2.2.2.2.2.1 u_9.2.2.2.2.2.2.2.1 u_9.2.2.2.2.2.2.2.2.1 u_9.2.2.2.2.2.2.2.2.2.1 u_9.2.2.2.2.2.2.2.2.2.2.1 u_9.2.2.2.2.2.2.2.2.2.2.2.1 u_9.2.2.2.2.2.2.2.2.2.2.2.2.1 u_9.2.2.2.2.2.2.2.2.2.2.2.2.2.1 u_9.2.2.2.2.2.2.2.2.2.2.2.2.2.2.1 u_9.2.2.2.2.2.2.2.2.2.2.2.2.2.2.2.1 u_9.2.2.2.2.2.2.2.2.2.2.2.2.2.2.2.2.1 u_9.2.2.2.2.2.2.2.2.2.2.2.2.2.2.2.2.2 x1 0 0) else some (0, u_7.2, v0_12, v0_13, v0_16, v0_17, v0_21, v0_23, v0_6, v0_7, v0_8, v0_9, v0_10, v0_11, v0_14, v0_15, v0_18, v0_19, v0_20, v0_22))
def F_X12_pieces (n : Nat) (v0_12 : Int32) (v0_13 : Int32) (v0_16 : Int32) (v0_17 : Int32) (v0_21 : Int32) (v0_23 : Int32) (v0_0 : Nat → Int32) (v0_6 : Nat → Int32) (v0_7 : Nat → Int32) (v0_8 : Nat → Int32) (v0_9 : Nat → Int32) (v0_10 : Nat → Int32) (v0_11 : Nat → Int32) (v0_14 : Nat → Int32) (v0_15 : Nat → Int32) (v0_18 : Nat → Int32) (v0_19 : Nat → Int32) (v0_20 : Nat → Int32) (v0_22 : Nat → Int32) (p1 : Int32) : Option (Int32 × Int32 × Int32 × Int32 × Int32 × Int32 × Int32 × Int32 × (Nat → Int32) × (Nat → Int32) × (Nat → Int32) × (Nat → Int32) × (Nat → Int32) × (Nat → Int32) × (Nat → Int32) × (Nat → Int32) × (Nat → Int32) × (Nat → Int32) × (Nat → Int32) × (Nat → Int32)) :=
  lt (F_X12_within p1 (-1) 4) (fun u_10 => if u_10 = 0 then F_X12_pieces_j15 n v0_12 v0_13 v0_16 v0_17 v0_21 v0_23 v0_0 v0_6 v0_7 v0_8 v0_9 v0_10 v0_11 v0_14 v0_15 v0_18 v0_19 v0_20 v0_22 p1 1 else F_X12_pieces_j15 n v0_12 v0_13 v0_16 v0_17 v0_21 v0_23 v0_0 v0_6 v0_7 v0_8 v0_9 v0_10 v0_11 v0_14 v0_15 v0_18 v0_19 v0_20 v0_22 p1 0)
abbrev wd_X12_pieces (cI : ClassId) (a0 : Nat → Nat) (v0_2 : Int32) (v0_3 : Int32) (v0_5 : Int32) (v0_12 : Int32) (v0_13 : Int32) (v0_16 : Int32) (v0_17 : Int32) (v0_21 : Int32) (v0_23 : Int32) (v0_24 : Int32) (v0_25 : Int32) (v0_26 : Int32) (v0_29 : Int32) (v0_30 : Int64) (v0_0 : Nat → Int32) (v0_6 : Nat → Int32) (v0_7 : Nat → Int32) (v0_8 : Nat → Int32) (v0_9 : Nat → Int32) (v0_10 : Nat → Int32) (v0_11 : Nat → Int32) (v0_14 : Nat → Int32) (v0_15 : Nat → Int32) (v0_18 : Nat → Int32) (v0_19 : Nat → Int32) (v0_20 : Nat → Int32) (v0_22 : Nat → Int32) : va_W := [(a0 0, .inr (11, [.ref (a0 1), .ref (a0 2), .int v0_2, .int v0_3, .ref (a0 5), .int v0_5, .ref (a0 7), .ref (a0 8), .ref (a0 9), .ref (a0 10), .ref (a0 11), .ref (a0 12), .int v0_12, .int v0_13, .ref (a0 15), .ref (a0 16), .int v0_16, .int v0_17, .ref (a0 19), .ref (a0 20), .ref (a0 21), .int v0_21, .ref (a0 23), .int v0_23, .int v0_24, .int v0_25, .int v0_26, .ref (a0 28), .ref (a0 29), .int v0_29, .long v0_30])), (a0 1, .inl (cI, 86, .inl v0_0)), (a0 7, .inl (cI, 8, .inl v0_6)), (a0 8, .inl (cI, 8, .inl v0_7)), (a0 9, .inl (cI, 8, .inl v0_8)), (a0 10, .inl (cI, 8, .inl v0_9)), (a0 11, .inl (cI, 8, .inl v0_10)), (a0 12, .inl (cI, 8, .inl v0_11)), (a0 15, .inl (cI, 240, .inl v0_14)), (a0 16, .inl (cI, 240, .inl v0_15)), (a0 19, .inl (cI, 20, .inl v0_18)), (a0 20, .inl (cI, 20, .inl v0_19)), (a0 21, .inl (cI, 20, .inl v0_20)), (a0 23, .inl (cI, 27000, .inl v0_22))]
abbrev wz_X12_pieces : List Cond := .code yX12_pieces cX12_pieces 4 (some .int) :: wALL
abbrev rm_X12_pieces : Room := { frames := 6, cells := 0, slots := 0, locals := 138 }
abbrev Q_X12_pieces (dC : Nat → ClassId) (dI : Nat → Nat → Nat) (cI : ClassId) (a0 : Nat → Nat) (v0_2 : Int32) (v0_5 : Int32) (v0_24 : Int32) (v0_25 : Int32) (v0_26 : Int32) (v0_29 : Int32) (v0_30 : Int64) (v0_0 : Nat → Int32) (u : (Int32 × Int32 × Int32 × Int32 × Int32 × Int32 × Int32 × Int32 × (Nat → Int32) × (Nat → Int32) × (Nat → Int32) × (Nat → Int32) × (Nat → Int32) × (Nat → Int32) × (Nat → Int32) × (Nat → Int32) × (Nat → Int32) × (Nat → Int32) × (Nat → Int32) × (Nat → Int32))) (A : Nat → Prop) : Array Value → State → Outcome → State → Prop := va_Qi (fun (r : Int32) (_ : Unit) => r = u.1) (fun _ => q_at dC dI cI A (wd_X12_pieces cI a0 v0_2 u.2.1 v0_5 u.2.2.1 u.2.2.2.1 u.2.2.2.2.1 u.2.2.2.2.2.1 u.2.2.2.2.2.2.1 u.2.2.2.2.2.2.2.1 v0_24 v0_25 v0_26 v0_29 v0_30 v0_0 u.2.2.2.2.2.2.2.2.1 u.2.2.2.2.2.2.2.2.2.1 u.2.2.2.2.2.2.2.2.2.2.1 u.2.2.2.2.2.2.2.2.2.2.2.1 u.2.2.2.2.2.2.2.2.2.2.2.2.1 u.2.2.2.2.2.2.2.2.2.2.2.2.2.1 u.2.2.2.2.2.2.2.2.2.2.2.2.2.2.1 u.2.2.2.2.2.2.2.2.2.2.2.2.2.2.2.1 u.2.2.2.2.2.2.2.2.2.2.2.2.2.2.2.2.1 u.2.2.2.2.2.2.2.2.2.2.2.2.2.2.2.2.2.1 u.2.2.2.2.2.2.2.2.2.2.2.2.2.2.2.2.2.2.1 u.2.2.2.2.2.2.2.2.2.2.2.2.2.2.2.2.2.2.2)) A
set_option maxHeartbeats 4000000 in
set_option maxRecDepth 100000 in
theorem c_X12_pieces (l : Launch) (dC : Nat → ClassId) (dI : Nat → Nat → Nat) (cI : ClassId) (sz : Nat) (a0 : Nat → Nat) (v0_2 : Int32) (v0_3 : Int32) (v0_5 : Int32) (v0_12 : Int32) (v0_13 : Int32) (v0_16 : Int32) (v0_17 : Int32) (v0_21 : Int32) (v0_23 : Int32) (v0_24 : Int32) (v0_25 : Int32) (v0_26 : Int32) (v0_29 : Int32) (v0_30 : Int64) (v0_0 : Nat → Int32) (v0_6 : Nat → Int32) (v0_7 : Nat → Int32) (v0_8 : Nat → Int32) (v0_9 : Nat → Int32) (v0_10 : Nat → Int32) (v0_11 : Nat → Int32) (v0_14 : Nat → Int32) (v0_15 : Nat → Int32) (v0_18 : Nat → Int32) (v0_19 : Nat → Int32) (v0_20 : Nat → Int32) (v0_22 : Nat → Int32) (p1 : Int32) (n : Nat) (u : (Int32 × Int32 × Int32 × Int32 × Int32 × Int32 × Int32 × Int32 × (Nat → Int32) × (Nat → Int32) × (Nat → Int32) × (Nat → Int32) × (Nat → Int32) × (Nat → Int32) × (Nat → Int32) × (Nat → Int32) × (Nat → Int32) × (Nat → Int32) × (Nat → Int32) × (Nat → Int32))) (hF : F_X12_pieces n v0_12 v0_13 v0_16 v0_17 v0_21 v0_23 v0_0 v0_6 v0_7 v0_8 v0_9 v0_10 v0_11 v0_14 v0_15 v0_18 v0_19 v0_20 v0_22 p1 = some u) : Met l yX12_pieces wz_X12_pieces rm_X12_pieces (va_Pc [.ref (a0 0), .int p1] (q_pre dC dI cI (wd_X12_pieces cI a0 v0_2 v0_3 v0_5 v0_12 v0_13 v0_16 v0_17 v0_21 v0_23 v0_24 v0_25 v0_26 v0_29 v0_30 v0_0 v0_6 v0_7 v0_8 v0_9 v0_10 v0_11 v0_14 v0_15 v0_18 v0_19 v0_20 v0_22) sz)) (Q_X12_pieces dC dI cI a0 v0_2 v0_5 v0_24 v0_25 v0_26 v0_29 v0_30 v0_0 u (va_A (wd_X12_pieces cI a0 v0_2 v0_3 v0_5 v0_12 v0_13 v0_16 v0_17 v0_21 v0_23 v0_24 v0_25 v0_26 v0_29 v0_30 v0_0 v0_6 v0_7 v0_8 v0_9 v0_10 v0_11 v0_14 v0_15 v0_18 v0_19 v0_20 v0_22) sz)) 0 0 (va_A (wd_X12_pieces cI a0 v0_2 v0_3 v0_5 v0_12 v0_13 v0_16 v0_17 v0_21 v0_23 v0_24 v0_25 v0_26 v0_29 v0_30 v0_0 v0_6 v0_7 v0_8 v0_9 v0_10 v0_11 v0_14 v0_15 v0_18 v0_19 v0_20 v0_22) sz) := by
  refine Met.ofW (cc := cX12_pieces) (maxL := 4) (ret := (some .int)) (by decide) rfl ?_
  intro p e s m args below meth c s₁ B hml hv
  obtain ⟨rfl, hsz, hP, hK, hD0⟩ := hv
  have hx := B.exec
  have hb := B.bytes
  have hr := B.returns
  have hts := atoms_spec (ws := wz_X12_pieces) B.pre
  have hta := wz_tl hts
  have hown : s.vm.findClass RX12 = some m.cls := findClass_of_methodNamed B.named
  have hlocks := B.notSynchronized
  subst hsz
  have hD := hD0.self (sz := s.heap.size)
  generalize hAe : va_A (wd_X12_pieces cI a0 v0_2 v0_3 v0_5 v0_12 v0_13 v0_16 v0_17 v0_21 v0_23 v0_24 v0_25 v0_26 v0_29 v0_30 v0_0 v0_6 v0_7 v0_8 v0_9 v0_10 v0_11 v0_14 v0_15 v0_18 v0_19 v0_20 v0_22) s.heap.size = A at hD ⊢
  have hA : ∀ q : Nat, s.heap.size ≤ q → A q := fun q h => by rw [← hAe]; exact Or.inr h
  have hS : va_S A s.heap s.heap [] := va_S.rf
  have hP : va_P (dC, dI) vwCl (wd_X12_pieces cI a0 v0_2 v0_3 v0_5 v0_12 v0_13 v0_16 v0_17 v0_21 v0_23 v0_24 v0_25 v0_26 v0_29 v0_30 v0_0 v0_6 v0_7 v0_8 v0_9 v0_10 v0_11 v0_14 v0_15 v0_18 v0_19 v0_20 v0_22) s.heap := hP
  have hl := lv_entry ([.ref (a0 0), .int p1]) (n := 4) (Nat.le_of_ble_eq_true rfl)
  rw [lg_entry_eq]
  generalize (lg_sl ([.ref (a0 0), .int p1]) ++ List.replicate (4 - (lg_sl ([.ref (a0 0), .int p1])).length) Slot.unset).toArray = ls at hl ⊢
  have hl : lv_has ls 4 [(0, .ref (a0 0)), (1, .int p1)] := hl
  obtain ⟨H, hHe⟩ : ∃ H, H = s.heap := ⟨_, rfl⟩
  have hS : va_S A s.heap H [] := by rw [hHe]; exact hS
  have hP : va_P (dC, dI) vwCl (wd_X12_pieces cI a0 v0_2 v0_3 v0_5 v0_12 v0_13 v0_16 v0_17 v0_21 v0_23 v0_24 v0_25 v0_26 v0_29 v0_30 v0_0 v0_6 v0_7 v0_8 v0_9 v0_10 v0_11 v0_14 v0_15 v0_18 v0_19 v0_20 v0_22) H := by rw [hHe]; exact hP
  rw [← hHe]
  unfold F_X12_pieces at hF
  have j67 : ∀ (v0_3 : Int32) (v0_12 : Int32) (v0_13 : Int32) (v0_16 : Int32) (v0_17 : Int32) (v0_21 : Int32) (v0_23 : Int32) (v0_6 : Nat → Int32) (v0_7 : Nat → Int32) (v0_8 : Nat → Int32) (v0_9 : Nat → Int32) (v0_10 : Nat → Int32) (v0_11 : Nat → Int32) (v0_14 : Nat → Int32) (v0_15 : Nat → Int32) (v0_18 : Nat → Int32) (v0_19 : Nat → Int32) (v0_20 : Nat → Int32) (v0_22 : Nat → Int32) (x2 : Int32), F_X12_pieces_j67 v0_3 v0_12 v0_13 v0_16 v0_17 v0_21 v0_23 v0_6 v0_7 v0_8 v0_9 v0_10 v0_11 v0_14 v0_15 v0_18 v0_19 v0_20 v0_22 x2 = some u → ∀ (H : Heap) (locs : List Loc) (ls : Array Slot), va_P (dC, dI) vwCl (wd_X12_pieces cI a0 v0_2 v0_3 v0_5 v0_12 v0_13 v0_16 v0_17 v0_21 v0_23 v0_24 v0_25 v0_26 v0_29 v0_30 v0_0 v0_6 v0_7 v0_8 v0_9 v0_10 v0_11 v0_14 v0_15 v0_18 v0_19 v0_20 v0_22) H → va_D A (wd_X12_pieces cI a0 v0_2 v0_3 v0_5 v0_12 v0_13 v0_16 v0_17 v0_21 v0_23 v0_24 v0_25 v0_26 v0_29 v0_30 v0_0 v0_6 v0_7 v0_8 v0_9 v0_10 v0_11 v0_14 v0_15 v0_18 v0_19 v0_20 v0_22) → va_S A s.heap H locs → lv_has ls 4 [(2, .int x2)] → W p l e (headSpec wz_X12_pieces rm_X12_pieces).room s m [.ref (a0 0), .int p1].toArray below meth c H locs 0 0 (MQ below (Q_X12_pieces dC dI cI a0 v0_2 v0_5 v0_24 v0_25 v0_26 v0_29 v0_30 v0_0 u A) [.ref (a0 0), .int p1].toArray s 0 0 A) (F0 m 67 ls []) := by
    intro v0_3 v0_12 v0_13 v0_16 v0_17 v0_21 v0_23 v0_6 v0_7 v0_8 v0_9 v0_10 v0_11 v0_14 v0_15 v0_18 v0_19 v0_20 v0_22 x2 hF H locs ls hP hD hS hl
    unfold F_X12_pieces_j67 at hF
    refine lv_iload_n hx hb dX12_pieces_67 rfl (lv_at hl 0 rfl) ?_
    obtain rfl := Option.some.inj hF
    exact W.iret (v := x2) hx hb hr (fun t ht hW => ⟨⟨x2, (), rfl, rfl, by rw [ht]; exact hP, va_K.moved hW.alike hK, hD⟩, hS.F ht⟩) hS.2.2 dX12_pieces_68
  have j31 : ∀ (v0_3 : Int32) (v0_12 : Int32) (v0_13 : Int32) (v0_16 : Int32) (v0_17 : Int32) (v0_21 : Int32) (v0_23 : Int32) (v0_6 : Nat → Int32) (v0_7 : Nat → Int32) (v0_8 : Nat → Int32) (v0_9 : Nat → Int32) (v0_10 : Nat → Int32) (v0_11 : Nat → Int32) (v0_14 : Nat → Int32) (v0_15 : Nat → Int32) (v0_18 : Nat → Int32) (v0_19 : Nat → Int32) (v0_20 : Nat → Int32) (v0_22 : Nat → Int32) (x1 : Int32) (x2 : Int32) (x3 : Int32), F_X12_pieces_j31 n v0_3 v0_12 v0_13 v0_16 v0_17 v0_21 v0_23 v0_6 v0_7 v0_8 v0_9 v0_10 v0_11 v0_14 v0_15 v0_18 v0_19 v0_20 v0_22 x1 x2 x3 = some u → ∀ (H : Heap) (locs : List Loc) (ls : Array Slot), va_P (dC, dI) vwCl (wd_X12_pieces cI a0 v0_2 v0_3 v0_5 v0_12 v0_13 v0_16 v0_17 v0_21 v0_23 v0_24 v0_25 v0_26 v0_29 v0_30 v0_0 v0_6 v0_7 v0_8 v0_9 v0_10 v0_11 v0_14 v0_15 v0_18 v0_19 v0_20 v0_22) H → va_D A (wd_X12_pieces cI a0 v0_2 v0_3 v0_5 v0_12 v0_13 v0_16 v0_17 v0_21 v0_23 v0_24 v0_25 v0_26 v0_29 v0_30 v0_0 v0_6 v0_7 v0_8 v0_9 v0_10 v0_11 v0_14 v0_15 v0_18 v0_19 v0_20 v0_22) → va_S A s.heap H locs → lv_has ls 4 [(0, .ref (a0 0)), (1, .int x1), (2, .int x2), (3, .int x3)] → W p l e (headSpec wz_X12_pieces rm_X12_pieces).room s m [.ref (a0 0), .int p1].toArray below meth c H locs 0 0 (MQ below (Q_X12_pieces dC dI cI a0 v0_2 v0_5 v0_24 v0_25 v0_26 v0_29 v0_30 v0_0 u A) [.ref (a0 0), .int p1].toArray s 0 0 A) (F0 m 31 ls []) := by
    intro v0_3 v0_12 v0_13 v0_16 v0_17 v0_21 v0_23 v0_6 v0_7 v0_8 v0_9 v0_10 v0_11 v0_14 v0_15 v0_18 v0_19 v0_20 v0_22 x1 x2 x3 hF H locs ls hP hD hS hl
    unfold F_X12_pieces_j31 at hF
    obtain ⟨x_31, hL_31, hE_31⟩ := obd_some hF
    have kl_31 : ∀ (k : Nat) (s31 : Int32 × Int32), lpq (F_X12_pieces_b31 v0_23 v0_22 x1) k s31 = some x_31 → ∀ (H : Heap) (locs : List Loc) (ls : Array Slot), va_P (dC, dI) vwCl (wd_X12_pieces cI a0 v0_2 v0_3 v0_5 v0_12 v0_13 v0_16 v0_17 v0_21 v0_23 v0_24 v0_25 v0_26 v0_29 v0_30 v0_0 v0_6 v0_7 v0_8 v0_9 v0_10 v0_11 v0_14 v0_15 v0_18 v0_19 v0_20 v0_22) H → va_D A (wd_X12_pieces cI a0 v0_2 v0_3 v0_5 v0_12 v0_13 v0_16 v0_17 v0_21 v0_23 v0_24 v0_25 v0_26 v0_29 v0_30 v0_0 v0_6 v0_7 v0_8 v0_9 v0_10 v0_11 v0_14 v0_15 v0_18 v0_19 v0_20 v0_22) → va_S A s.heap H locs → lv_has ls 4 [(0, .ref (a0 0)), (1, .int x1), (2, .int s31.1), (3, .int s31.2)] → W p l e (headSpec wz_X12_pieces rm_X12_pieces).room s m [.ref (a0 0), .int p1].toArray below meth c H locs 0 0 (MQ below (Q_X12_pieces dC dI cI a0 v0_2 v0_5 v0_24 v0_25 v0_26 v0_29 v0_30 v0_0 u A) [.ref (a0 0), .int p1].toArray s 0 0 A) (F0 m 31 ls []) := by
      intro k
      induction k with
      | zero => intro s31 h; exact absurd h lpq_zero
      | succ k ih_31 =>
        intro s31 h H locs ls hP hD hS hl
        obtain ⟨o_31, hF, hO_31⟩ := lpq_succ h
        unfold F_X12_pieces_b31 at hF
        have j59 : ∀ (x3 : Int32) (t0 : Int32) (t1 : Int32), F_X12_pieces_j59 x3 t0 t1 = some o_31 → ∀ (H : Heap) (locs : List Loc) (ls : Array Slot), va_P (dC, dI) vwCl (wd_X12_pieces cI a0 v0_2 v0_3 v0_5 v0_12 v0_13 v0_16 v0_17 v0_21 v0_23 v0_24 v0_25 v0_26 v0_29 v0_30 v0_0 v0_6 v0_7 v0_8 v0_9 v0_10 v0_11 v0_14 v0_15 v0_18 v0_19 v0_20 v0_22) H → va_D A (wd_X12_pieces cI a0 v0_2 v0_3 v0_5 v0_12 v0_13 v0_16 v0_17 v0_21 v0_23 v0_24 v0_25 v0_26 v0_29 v0_30 v0_0 v0_6 v0_7 v0_8 v0_9 v0_10 v0_11 v0_14 v0_15 v0_18 v0_19 v0_20 v0_22) → va_S A s.heap H locs → lv_has ls 4 [(0, .ref (a0 0)), (1, .int x1), (3, .int x3)] → W p l e (headSpec wz_X12_pieces rm_X12_pieces).room s m [.ref (a0 0), .int p1].toArray below meth c H locs 0 0 (MQ below (Q_X12_pieces dC dI cI a0 v0_2 v0_5 v0_24 v0_25 v0_26 v0_29 v0_30 v0_0 u A) [.ref (a0 0), .int p1].toArray s 0 0 A) (F0 m 59 ls [.int t1, .int t0]) := by
          intro x3 t0 t1 hF H locs ls hP hD hS hl
          unfold F_X12_pieces_j59 at hF
          refine lv_iadd hx hb dX12_pieces_59 ?_
          obtain ⟨y_1, ey_1, hF⟩ := lt_some hF
          refine lv_eqi ey_1 ?_
          refine lv_istore_n (lv' := [(2, .int y_1), (0, .ref (a0 0)), (1, .int x1), (3, .int x3)]) hx hb dX12_pieces_60 rfl hl (by decide) rfl (fun ls hl => ?_)
          obtain ⟨y_2, ey_2, hF⟩ := lt_some hF
          refine lv_iinc (v := y_2) (lv' := [(3, .int y_2), (2, .int y_1), (0, .ref (a0 0)), (1, .int x1)]) hx hb dX12_pieces_61 hl (k := 3) rfl (by rw [ey_2]; rfl) (by decide) rfl (fun ls hl => ?_)
          refine lv_goto (tgt := 31) hx hb dX12_pieces_64 (by decide) ?_
          obtain rfl := Option.some.inj hF
          exact ih_31 _ hO_31 _ _ _ hP hD hS (lv_sub hl [2, 3, 1, 0] rfl)
        have j54 : ∀ (x3 : Int32) (t0 : Int32), F_X12_pieces_j54 x3 t0 = some o_31 → ∀ (H : Heap) (locs : List Loc) (ls : Array Slot), va_P (dC, dI) vwCl (wd_X12_pieces cI a0 v0_2 v0_3 v0_5 v0_12 v0_13 v0_16 v0_17 v0_21 v0_23 v0_24 v0_25 v0_26 v0_29 v0_30 v0_0 v0_6 v0_7 v0_8 v0_9 v0_10 v0_11 v0_14 v0_15 v0_18 v0_19 v0_20 v0_22) H → va_D A (wd_X12_pieces cI a0 v0_2 v0_3 v0_5 v0_12 v0_13 v0_16 v0_17 v0_21 v0_23 v0_24 v0_25 v0_26 v0_29 v0_30 v0_0 v0_6 v0_7 v0_8 v0_9 v0_10 v0_11 v0_14 v0_15 v0_18 v0_19 v0_20 v0_22) → va_S A s.heap H locs → lv_has ls 4 [(0, .ref (a0 0)), (1, .int x1), (3, .int x3)] → W p l e (headSpec wz_X12_pieces rm_X12_pieces).room s m [.ref (a0 0), .int p1].toArray below meth c H locs 0 0 (MQ below (Q_X12_pieces dC dI cI a0 v0_2 v0_5 v0_24 v0_25 v0_26 v0_29 v0_30 v0_0 u A) [.ref (a0 0), .int p1].toArray s 0 0 A) (F0 m 54 ls [.int t0]) := by
          intro x3 t0 hF H locs ls hP hD hS hl
          unfold F_X12_pieces_j54 at hF
          refine lv_iconst (v := 1) hx hb dX12_pieces_54 (by decide) ?_
          refine lv_goto (tgt := 59) hx hb dX12_pieces_55 (by decide) ?_
          exact j59 x3 t0 1 hF _ _ _ hP hD hS (lv_sub hl [0, 1, 2] rfl)
        refine lv_iload_n hx hb dX12_pieces_31 rfl (lv_at hl 3 rfl) ?_
        refine lv_aload_n hx hb dX12_pieces_32 rfl (lv_at hl 0 rfl) ?_
        refine va_get (D := (dC, dI)) (ci := 11) (v := .int v0_23) (C := RX12) (T := TX12) (N := 31) hx hb hta uw_X12 hown hK hP 0 rfl rfl 23 (by decide) (hta _ mA953) (fun _ h9 => h9) rfl dX12_pieces_33 ?_
        refine lv_icmp_ge (tgt := 67) hx hb dX12_pieces_36 (by decide) (fun c_3 => ?_) (fun c_3 => ?_)
        · have hF := it_t hF c_3
          obtain rfl := Option.some.inj hF
          obtain rfl := lpq_x hO_31
          have hF := hE_31
          exact j67 v0_3 v0_12 v0_13 v0_16 v0_17 v0_21 v0_23 v0_6 v0_7 v0_8 v0_9 v0_10 v0_11 v0_14 v0_15 v0_18 v0_19 v0_20 v0_22 s31.1 hF _ _ _ hP hD hS (lv_sub hl [2] rfl)
        · have hF := it_f hF c_3
          refine lv_iload_n hx hb dX12_pieces_39 rfl (lv_at hl 2 rfl) ?_
          refine lv_iload_n hx hb dX12_pieces_40 rfl (lv_at hl 1 rfl) ?_
          refine lv_iconst (v := (-1)) hx hb dX12_pieces_41 (by decide) ?_
          refine lv_icmp_eq (tgt := 54) hx hb dX12_pieces_42 (by decide) (fun c_4 => ?_) (fun c_4 => ?_)
          · have hF := it_t hF c_4
            exact j54 s31.2 s31.1 hF _ _ _ hP hD hS (lv_sub hl [0, 1, 3] rfl)
          · have hF := it_f hF c_4
            refine lv_aload_n hx hb dX12_pieces_45 rfl (lv_at hl 0 rfl) ?_
            refine lv_iload_n hx hb dX12_pieces_46 rfl (lv_at hl 3 rfl) ?_
            obtain ⟨u_5, hu_5, hF⟩ := obd_some hF
            have hPc := hP.sub (ws' := (wd_X12_kindOf cI a0 v0_2 v0_3 v0_5 v0_12 v0_13 v0_16 v0_17 v0_21 v0_23 v0_24 v0_25 v0_26 v0_29 v0_30 v0_22)) [0, 13] rfl
            have hDc := hD.sub (ws' := (wd_X12_kindOf cI a0 v0_2 v0_3 v0_5 v0_12 v0_13 v0_16 v0_17 v0_21 v0_23 v0_24 v0_25 v0_26 v0_29 v0_30 v0_22)) [0, 13] rfl rfl
            refine q_calli (wc := (wd_X12_kindOf cI a0 v0_2 v0_3 v0_5 v0_12 v0_13 v0_16 v0_17 v0_21 v0_23 v0_24 v0_25 v0_26 v0_29 v0_30 v0_22)) (w1 := (wd_X12_kindOf cI a0 v0_2 v0_3 v0_5 v0_12 v0_13 v0_16 v0_17 v0_21 v0_23 v0_24 v0_25 v0_26 v0_29 v0_30 v0_22)) (ws' := (wd_X12_pieces cI a0 v0_2 v0_3 v0_5 v0_12 v0_13 v0_16 v0_17 v0_21 v0_23 v0_24 v0_25 v0_26 v0_29 v0_30 v0_0 v0_6 v0_7 v0_8 v0_9 v0_10 v0_11 v0_14 v0_15 v0_18 v0_19 v0_20 v0_22)) hP hD hS hA [0, 13] [1, 2, 3, 4, 5, 6, 7, 8, 9, 10, 11, 12] [12, 0, 1, 2, 3, 4, 5, 6, 7, 8, 9, 10, 11, 13] rfl rfl rfl (by decide) rfl rfl (va_runV (As := [.int s31.2]) (rest := [.int s31.1]) ⟨hx, hb, hml, hown, hta⟩ (c_X12_kindOf l dC dI cI H.size a0 v0_2 v0_3 v0_5 v0_12 v0_13 v0_16 v0_17 v0_21 v0_23 v0_24 v0_25 v0_26 v0_29 v0_30 v0_22 s31.2 u_5 hu_5) (cwV 1 hta (ga_V mA1015 mA1016 mA1017 mA814 mA1013) rfl rfl rfl (by decide +kernel) ⟨Nat.le_of_ble_eq_true rfl, Nat.le_of_ble_eq_true rfl⟩) ⟨q_fb, va_recv hK hP (ci := 11) (q0 := 0) rfl rfl, q_ps hPc hK hDc⟩ rfl rfl hl.1 rfl (lv_room (Nat.le_of_ble_eq_true rfl)) dX12_pieces_47 ⟨Nat.zero_le _, Nat.zero_le _⟩) (fun H locs hP hD hS => ?_)
            refine lv_iload_n hx hb dX12_pieces_50 rfl (lv_at hl 1 rfl) ?_
            refine lv_icmp_ne (tgt := 58) hx hb dX12_pieces_51 (by decide) (fun c_6 => ?_) (fun c_6 => ?_)
            · have hF := it_f hF c_6
              refine lv_iconst (v := 0) hx hb dX12_pieces_58 (by decide) ?_
              exact j59 s31.2 s31.1 0 hF _ _ _ hP hD hS (lv_sub hl [0, 1, 3] rfl)
            · have hF := it_t hF c_6
              exact j54 s31.2 s31.1 hF _ _ _ hP hD hS (lv_sub hl [0, 1, 3] rfl)
    exact kl_31 n _ hL_31 _ _ _ hP hD hS hl
  have j15 : ∀ (v0_3 : Int32) (v0_12 : Int32) (v0_13 : Int32) (v0_16 : Int32) (v0_17 : Int32) (v0_21 : Int32) (v0_23 : Int32) (v0_6 : Nat → Int32) (v0_7 : Nat → Int32) (v0_8 : Nat → Int32) (v0_9 : Nat → Int32) (v0_10 : Nat → Int32) (v0_11 : Nat → Int32) (v0_14 : Nat → Int32) (v0_15 : Nat → Int32) (v0_18 : Nat → Int32) (v0_19 : Nat → Int32) (v0_20 : Nat → Int32) (v0_22 : Nat → Int32) (x1 : Int32) (t1 : Int32), F_X12_pieces_j15 n v0_12 v0_13 v0_16 v0_17 v0_21 v0_23 v0_0 v0_6 v0_7 v0_8 v0_9 v0_10 v0_11 v0_14 v0_15 v0_18 v0_19 v0_20 v0_22 x1 t1 = some u → ∀ (H : Heap) (locs : List Loc) (ls : Array Slot), va_P (dC, dI) vwCl (wd_X12_pieces cI a0 v0_2 v0_3 v0_5 v0_12 v0_13 v0_16 v0_17 v0_21 v0_23 v0_24 v0_25 v0_26 v0_29 v0_30 v0_0 v0_6 v0_7 v0_8 v0_9 v0_10 v0_11 v0_14 v0_15 v0_18 v0_19 v0_20 v0_22) H → va_D A (wd_X12_pieces cI a0 v0_2 v0_3 v0_5 v0_12 v0_13 v0_16 v0_17 v0_21 v0_23 v0_24 v0_25 v0_26 v0_29 v0_30 v0_0 v0_6 v0_7 v0_8 v0_9 v0_10 v0_11 v0_14 v0_15 v0_18 v0_19 v0_20 v0_22) → va_S A s.heap H locs → lv_has ls 4 [(0, .ref (a0 0)), (1, .int x1)] → W p l e (headSpec wz_X12_pieces rm_X12_pieces).room s m [.ref (a0 0), .int p1].toArray below meth c H locs 0 0 (MQ below (Q_X12_pieces dC dI cI a0 v0_2 v0_5 v0_24 v0_25 v0_26 v0_29 v0_30 v0_0 u A) [.ref (a0 0), .int p1].toArray s 0 0 A) (F0 m 15 ls [.int t1, .ref (a0 0)]) := by
    intro v0_3 v0_12 v0_13 v0_16 v0_17 v0_21 v0_23 v0_6 v0_7 v0_8 v0_9 v0_10 v0_11 v0_14 v0_15 v0_18 v0_19 v0_20 v0_22 x1 t1 hF H locs ls hP hD hS hl
    unfold F_X12_pieces_j15 at hF
    obtain ⟨u_7, hu_7, hF⟩ := lt_some hF
    have hPc := hP.sub (ws' := (wd_X12_refused cI a0 v0_2 v0_3 v0_5 v0_12 v0_13 v0_16 v0_17 v0_21 v0_23 v0_24 v0_25 v0_26 v0_29 v0_30)) [0] rfl
    have hDc := hD.sub (ws' := (wd_X12_refused cI a0 v0_2 v0_3 v0_5 v0_12 v0_13 v0_16 v0_17 v0_21 v0_23 v0_24 v0_25 v0_26 v0_29 v0_30)) [0] rfl rfl
    refine q_callz (wc := (wd_X12_refused cI a0 v0_2 v0_3 v0_5 v0_12 v0_13 v0_16 v0_17 v0_21 v0_23 v0_24 v0_25 v0_26 v0_29 v0_30)) (w1 := (wd_X12_refused cI a0 v0_2 u_7.2 v0_5 v0_12 v0_13 v0_16 v0_17 v0_21 v0_23 v0_24 v0_25 v0_26 v0_29 v0_30)) (ws' := (wd_X12_pieces cI a0 v0_2 u_7.2 v0_5 v0_12 v0_13 v0_16 v0_17 v0_21 v0_23 v0_24 v0_25 v0_26 v0_29 v0_30 v0_0 v0_6 v0_7 v0_8 v0_9 v0_10 v0_11 v0_14 v0_15 v0_18 v0_19 v0_20 v0_22)) hP hD hS hA [0] [1, 2, 3, 4, 5, 6, 7, 8, 9, 10, 11, 12, 13] [13, 0, 1, 2, 3, 4, 5, 6, 7, 8, 9, 10, 11, 12] rfl rfl rfl (by decide) rfl rfl (va_runV (As := [.int t1]) (rest := []) ⟨hx, hb, hml, hown, hta⟩ (c_X12_refused l dC dI cI H.size a0 v0_2 v0_3 v0_5 v0_12 v0_13 v0_16 v0_17 v0_21 v0_23 v0_24 v0_25 v0_26 v0_29 v0_30 t1 u_7 hu_7.symm) (cwV 1 hta (ga_V mA822 mA823 mA824 mA814 mA809) rfl rfl rfl (by decide +kernel) ⟨Nat.le_of_ble_eq_true rfl, Nat.le_of_ble_eq_true rfl⟩) ⟨q_fb, va_recv hK hP (ci := 11) (q0 := 0) rfl rfl, q_ps hPc hK hDc⟩ rfl rfl hl.1 rfl (lv_room (Nat.le_of_ble_eq_true rfl)) dX12_pieces_15 ⟨Nat.zero_le _, Nat.zero_le _⟩) (fun hzu_7 H locs hP hD hS => ?_)
    refine lv_if_eq (tgt := 23) hx hb dX12_pieces_18 (by decide) (fun c_8 => ?_) (fun c_8 => ?_)
    · have hF := it_t hF c_8
      refine lv_aload_n hx hb dX12_pieces_23 rfl (lv_at hl 0 rfl) ?_
      obtain ⟨u_9, hu_9, hF⟩ := obd_some hF
      have hPc := hP.sub (ws' := (wd_X12_laysPieces cI a0 v0_2 u_7.2 v0_5 v0_12 v0_13 v0_16 v0_17 v0_21 v0_23 v0_24 v0_25 v0_26 v0_29 v0_30 v0_0 v0_6 v0_7 v0_8 v0_9 v0_10 v0_11 v0_14 v0_15 v0_18 v0_19 v0_20 v0_22)) [0, 1, 2, 3, 4, 5, 6, 7, 8, 9, 10, 11, 12, 13] rfl
      have hDc := hD.sub (ws' := (wd_X12_laysPieces cI a0 v0_2 u_7.2 v0_5 v0_12 v0_13 v0_16 v0_17 v0_21 v0_23 v0_24 v0_25 v0_26 v0_29 v0_30 v0_0 v0_6 v0_7 v0_8 v0_9 v0_10 v0_11 v0_14 v0_15 v0_18 v0_19 v0_20 v0_22)) [0, 1, 2, 3, 4, 5, 6, 7, 8, 9, 10, 11, 12, 13] rfl rfl
      refine q_callv (wc := (wd_X12_laysPieces cI a0 v0_2 u_7.2 v0_5 v0_12 v0_13 v0_16 v0_17 v0_21 v0_23 v0_24 v0_25 v0_26 v0_29 v0_30 v0_0 v0_6 v0_7 v0_8 v0_9 v0_10 v0_11 v0_14 v0_15 v0_18 v0_19 v0_20 v0_22)) (w1 := (wd_X12_laysPieces cI a0 v0_2 u_7.2 v0_5 u_9.1 u_9.2.1 u_9.2.2.1 u_9.2.2.2.1 u_9.2.2.2.2.1 u_9.2.2.2.2.2.1 v0_24 v0_25 v0_26 v0_29 v0_30 v0_0 u_9.2.2.2.2.2.2.1 u_9.2.2.2.2.2.2.2.1 u_9.2.2.2.2.2.2.2.2.1 u_9.2.2.2.2.2.2.2.2.2.1 u_9.2.2.2.2.2.2.2.2.2.2.1 u_9.2.2.2.2.2.2.2.2.2.2.2.1 u_9.2.2.2.2.2.2.2.2.2.2.2.2.1 u_9.2.2.2.2.2.2.2.2.2.2.2.2.2.1 u_9.2.2.2.2.2.2.2.2.2.2.2.2.2.2.1 u_9.2.2.2.2.2.2.2.2.2.2.2.2.2.2.2.1 u_9.2.2.2.2.2.2.2.2.2.2.2.2.2.2.2.2.1 u_9.2.2.2.2.2.2.2.2.2.2.2.2.2.2.2.2.2)) (ws' := (wd_X12_pieces cI a0 v0_2 u_7.2 v0_5 u_9.1 u_9.2.1 u_9.2.2.1 u_9.2.2.2.1 u_9.2.2.2.2.1 u_9.2.2.2.2.2.1 v0_24 v0_25 v0_26 v0_29 v0_30 v0_0 u_9.2.2.2.2.2.2.1 u_9.2.2.2.2.2.2.2.1 u_9.2.2.2.2.2.2.2.2.1 u_9.2.2.2.2.2.2.2.2.2.1 u_9.2.2.2.2.2.2.2.2.2.2.1 u_9.2.2.2.2.2.2.2.2.2.2.2.1 u_9.2.2.2.2.2.2.2.2.2.2.2.2.1 u_9.2.2.2.2.2.2.2.2.2.2.2.2.2.1 u_9.2.2.2.2.2.2.2.2.2.2.2.2.2.2.1 u_9.2.2.2.2.2.2.2.2.2.2.2.2.2.2.2.1 u_9.2.2.2.2.2.2.2.2.2.2.2.2.2.2.2.2.1 u_9.2.2.2.2.2.2.2.2.2.2.2.2.2.2.2.2.2)) hP hD hS hA [0, 1, 2, 3, 4, 5, 6, 7, 8, 9, 10, 11, 12, 13] [] [0, 1, 2, 3, 4, 5, 6, 7, 8, 9, 10, 11, 12, 13] rfl rfl rfl (by decide) rfl rfl (va_runV (As := []) (rest := []) ⟨hx, hb, hml, hown, hta⟩ (c_X12_laysPieces l dC dI cI H.size a0 v0_2 u_7.2 v0_5 v0_12 v0_13 v0_16 v0_17 v0_21 v0_23 v0_24 v0_25 v0_26 v0_29 v0_30 v0_0 v0_6 v0_7 v0_8 v0_9 v0_10 v0_11 v0_14 v0_15 v0_18 v0_19 v0_20 v0_22 n u_9 hu_9) (cwV 0 hta (ga_V mA1024 mA1025 mA1026 mA814 mA1006) rfl rfl rfl (by decide +kernel) ⟨Nat.le_of_ble_eq_true rfl, Nat.le_of_ble_eq_true rfl⟩) ⟨q_fb, va_recv hK hP (ci := 11) (q0 := 0) rfl rfl, q_ps hPc hK hDc⟩ rfl rfl hl.1 rfl (lv_room (Nat.le_of_ble_eq_true rfl)) dX12_pieces_24 ⟨Nat.zero_le _, Nat.zero_le _⟩) (fun H locs hP hD hS => ?_)
      refine lv_iconst (v := 0) hx hb dX12_pieces_27 (by decide) ?_
      refine lv_istore_n (lv' := [(2, .int 0), (0, .ref (a0 0)), (1, .int x1)]) hx hb dX12_pieces_28 rfl hl (by decide) rfl (fun ls hl => ?_)
      refine lv_iconst (v := 0) hx hb dX12_pieces_29 (by decide) ?_
      refine lv_istore_n (lv' := [(3, .int 0), (2, .int 0), (0, .ref (a0 0)), (1, .int x1)]) hx hb dX12_pieces_30 rfl hl (by decide) rfl (fun ls hl => ?_)
      exact j31 u_7.2 u_9.1 u_9.2.1 u_9.2.2.1 u_9.2.2.2.1 u_9.2.2.2.2.1 u_9.2.2.2.2.2.1 u_9.2.2.2.2.2.2.1 u_9.2.2.2.2.2.2.2.1 u_9.2.2.2.2.2.2.2.2.1 u_9.2.2.2.2.2.2.2.2.2.1 u_9.2.2.2.2.2.2.2.2.2.2.1 u_9.2.2.2.2.2.2.2.2.2.2.2.1 u_9.2.2.2.2.2.2.2.2.2.2.2.2.1 u_9.2.2.2.2.2.2.2.2.2.2.2.2.2.1 u_9.2.2.2.2.2.2.2.2.2.2.2.2.2.2.1 u_9.2.2.2.2.2.2.2.2.2.2.2.2.2.2.2.1 u_9.2.2.2.2.2.2.2.2.2.2.2.2.2.2.2.2.1 u_9.2.2.2.2.2.2.2.2.2.2.2.2.2.2.2.2.2 x1 0 0 hF _ _ _ hP hD hS (lv_sub hl [2, 3, 1, 0] rfl)
    · have hF := it_f hF c_8
      refine lv_iconst (v := 0) hx hb dX12_pieces_21 (by decide) ?_
      obtain rfl := Option.some.inj hF
      exact W.iret (v := 0) hx hb hr (fun t ht hW => ⟨⟨0, (), rfl, rfl, by rw [ht]; exact hP, va_K.moved hW.alike hK, hD⟩, hS.F ht⟩) hS.2.2 dX12_pieces_22
  refine lv_aload_n hx hb dX12_pieces_0 rfl (lv_at hl 0 rfl) ?_
  refine lv_iload_n hx hb dX12_pieces_1 rfl (lv_at hl 1 rfl) ?_
  refine lv_iconst (v := (-1)) hx hb dX12_pieces_2 (by decide) ?_
  refine lv_iconst (v := 4) hx hb dX12_pieces_3 (by decide) ?_
  obtain ⟨u_10, hu_10, hF⟩ := lt_some hF
  have hPc := hP.sub (ws' := ([] : va_W)) [] rfl
  have hDc := hD.sub (ws' := ([] : va_W)) [] rfl rfl
  refine q_callz (wc := ([] : va_W)) (w1 := ([] : va_W)) (ws' := (wd_X12_pieces cI a0 v0_2 v0_3 v0_5 v0_12 v0_13 v0_16 v0_17 v0_21 v0_23 v0_24 v0_25 v0_26 v0_29 v0_30 v0_0 v0_6 v0_7 v0_8 v0_9 v0_10 v0_11 v0_14 v0_15 v0_18 v0_19 v0_20 v0_22)) hP hD hS hA [] [0, 1, 2, 3, 4, 5, 6, 7, 8, 9, 10, 11, 12, 13] [0, 1, 2, 3, 4, 5, 6, 7, 8, 9, 10, 11, 12, 13] rfl rfl rfl (by decide) rfl rfl (va_runS (As := [.int p1, .int (-1), .int 4]) (rest := [.ref (a0 0)]) ⟨hx, hb, hml, hown, hta⟩ (c_X12_within l dC dI cI H.size p1 (-1) 4 u_10 hu_10.symm) (va_cwS 3 hta (ga_S mA812 mA813 mA814 mA810) rfl rfl rfl (by decide +kernel) ⟨Nat.le_of_ble_eq_true rfl, Nat.le_of_ble_eq_true rfl⟩) ⟨q_fb, q_ps hPc hK hDc⟩ rfl rfl hl.1 rfl (lv_room (Nat.le_of_ble_eq_true rfl)) dX12_pieces_4 ⟨Nat.zero_le _, Nat.zero_le _⟩) (fun hzu_10 H locs hP hD hS => ?_)
  refine lv_if_eq (tgt := 14) hx hb dX12_pieces_7 (by decide) (fun c_11 => ?_) (fun c_11 => ?_)
  · have hF := it_t hF c_11
    refine lv_iconst (v := 1) hx hb dX12_pieces_14 (by decide) ?_
    exact j15 v0_3 v0_12 v0_13 v0_16 v0_17 v0_21 v0_23 v0_6 v0_7 v0_8 v0_9 v0_10 v0_11 v0_14 v0_15 v0_18 v0_19 v0_20 v0_22 p1 1 hF _ _ _ hP hD hS (lv_sub hl [0, 1] rfl)
  · have hF := it_f hF c_11
    refine lv_iconst (v := 0) hx hb dX12_pieces_10 (by decide) ?_
    refine lv_goto (tgt := 15) hx hb dX12_pieces_11 (by decide) ?_
    exact j15 v0_3 v0_12 v0_13 v0_16 v0_17 v0_21 v0_23 v0_6 v0_7 v0_8 v0_9 v0_10 v0_11 v0_14 v0_15 v0_18 v0_19 v0_20 v0_22 p1 0 hF _ _ _ hP hD hS (lv_sub hl [0, 1] rfl)

-- StrokeOutlinerModel.area(I)J
def F_X12_area_j63 (x2 : Int64) : Option (Int64) :=
  if 0 ≤ (lg_cmp x2 0) then some x2 else some (-x2)
def F_X12_area_b5 (v0_22 : Nat → Int32) (x1 : Int32) (s5 : Int64 × Int32) : Option (Sum (Int64 × Int32) (Int64)) :=
  obd (F_X12_cornersOf v0_22 x1) (fun u_2 => if u_2 ≤ s5.2 then some (.inr s5.1) else obd (F_X12_cornerX v0_22 x1 s5.2) (fun u_4 => obd (F_X12_cornerY v0_22 x1 (s5.2 + 1)) (fun u_5 => obd (F_X12_cornerX v0_22 x1 (s5.2 + 1)) (fun u_6 => obd (F_X12_cornerY v0_22 x1 s5.2) (fun u_7 => lt (s5.1 + ((u_4.toInt64 * u_5.toInt64) - (u_6.toInt64 * u_7.toInt64))) (fun y_8 => lt (s5.2 + 1) (fun y_9 => some (.inl (y_8, y_9)))))))))
def F_X12_area_j5 (n : Nat) (v0_22 : Nat → Int32) (x1 : Int32) (x2 : Int64) (x4 : Int32) : Option (Int64) :=
  obd (lpq (F_X12_area_b5 v0_22 x1) n (x2, x4)) (fun x_5 => F_X12_area_j63 x_5)
def F_X12_area (n : Nat) (v0_22 : Nat → Int32) (p1 : Int32) : Option (Int64) :=
  F_X12_area_j5 n v0_22 p1 0 0
abbrev wd_X12_area (cI : ClassId) (a0 : Nat → Nat) (v0_2 : Int32) (v0_3 : Int32) (v0_5 : Int32) (v0_12 : Int32) (v0_13 : Int32) (v0_16 : Int32) (v0_17 : Int32) (v0_21 : Int32) (v0_23 : Int32) (v0_24 : Int32) (v0_25 : Int32) (v0_26 : Int32) (v0_29 : Int32) (v0_30 : Int64) (v0_22 : Nat → Int32) : va_W := [(a0 0, .inr (11, [.ref (a0 1), .ref (a0 2), .int v0_2, .int v0_3, .ref (a0 5), .int v0_5, .ref (a0 7), .ref (a0 8), .ref (a0 9), .ref (a0 10), .ref (a0 11), .ref (a0 12), .int v0_12, .int v0_13, .ref (a0 15), .ref (a0 16), .int v0_16, .int v0_17, .ref (a0 19), .ref (a0 20), .ref (a0 21), .int v0_21, .ref (a0 23), .int v0_23, .int v0_24, .int v0_25, .int v0_26, .ref (a0 28), .ref (a0 29), .int v0_29, .long v0_30])), (a0 23, .inl (cI, 27000, .inl v0_22))]
abbrev wz_X12_area : List Cond := .code yX12_area cX12_area 5 (some .long) :: wALL
abbrev rm_X12_area : Room := { frames := 3, cells := 0, slots := 0, locals := 65 }
abbrev Q_X12_area (dC : Nat → ClassId) (dI : Nat → Nat → Nat) (cI : ClassId) (a0 : Nat → Nat) (v0_2 : Int32) (v0_3 : Int32) (v0_5 : Int32) (v0_12 : Int32) (v0_13 : Int32) (v0_16 : Int32) (v0_17 : Int32) (v0_21 : Int32) (v0_23 : Int32) (v0_24 : Int32) (v0_25 : Int32) (v0_26 : Int32) (v0_29 : Int32) (v0_30 : Int64) (v0_22 : Nat → Int32) (u : (Int64)) (A : Nat → Prop) : Array Value → State → Outcome → State → Prop := va_Ql (fun (r : Int64) (_ : Unit) => r = u) (fun _ => q_at dC dI cI A (wd_X12_area cI a0 v0_2 v0_3 v0_5 v0_12 v0_13 v0_16 v0_17 v0_21 v0_23 v0_24 v0_25 v0_26 v0_29 v0_30 v0_22)) A
set_option maxHeartbeats 4000000 in
set_option maxRecDepth 100000 in
theorem c_X12_area (l : Launch) (dC : Nat → ClassId) (dI : Nat → Nat → Nat) (cI : ClassId) (sz : Nat) (a0 : Nat → Nat) (v0_2 : Int32) (v0_3 : Int32) (v0_5 : Int32) (v0_12 : Int32) (v0_13 : Int32) (v0_16 : Int32) (v0_17 : Int32) (v0_21 : Int32) (v0_23 : Int32) (v0_24 : Int32) (v0_25 : Int32) (v0_26 : Int32) (v0_29 : Int32) (v0_30 : Int64) (v0_22 : Nat → Int32) (p1 : Int32) (n : Nat) (u : (Int64)) (hF : F_X12_area n v0_22 p1 = some u) : Met l yX12_area wz_X12_area rm_X12_area (va_Pc [.ref (a0 0), .int p1] (q_pre dC dI cI (wd_X12_area cI a0 v0_2 v0_3 v0_5 v0_12 v0_13 v0_16 v0_17 v0_21 v0_23 v0_24 v0_25 v0_26 v0_29 v0_30 v0_22) sz)) (Q_X12_area dC dI cI a0 v0_2 v0_3 v0_5 v0_12 v0_13 v0_16 v0_17 v0_21 v0_23 v0_24 v0_25 v0_26 v0_29 v0_30 v0_22 u (va_A (wd_X12_area cI a0 v0_2 v0_3 v0_5 v0_12 v0_13 v0_16 v0_17 v0_21 v0_23 v0_24 v0_25 v0_26 v0_29 v0_30 v0_22) sz)) 0 0 (va_A (wd_X12_area cI a0 v0_2 v0_3 v0_5 v0_12 v0_13 v0_16 v0_17 v0_21 v0_23 v0_24 v0_25 v0_26 v0_29 v0_30 v0_22) sz) := by
  refine Met.ofW (cc := cX12_area) (maxL := 5) (ret := (some .long)) (by decide) rfl ?_
  intro p e s m args below meth c s₁ B hml hv
  obtain ⟨rfl, hsz, hP, hK, hD0⟩ := hv
  have hx := B.exec
  have hb := B.bytes
  have hr := B.returns
  have hts := atoms_spec (ws := wz_X12_area) B.pre
  have hta := wz_tl hts
  have hown : s.vm.findClass RX12 = some m.cls := findClass_of_methodNamed B.named
  have hlocks := B.notSynchronized
  subst hsz
  have hD := hD0.self (sz := s.heap.size)
  generalize hAe : va_A (wd_X12_area cI a0 v0_2 v0_3 v0_5 v0_12 v0_13 v0_16 v0_17 v0_21 v0_23 v0_24 v0_25 v0_26 v0_29 v0_30 v0_22) s.heap.size = A at hD ⊢
  have hA : ∀ q : Nat, s.heap.size ≤ q → A q := fun q h => by rw [← hAe]; exact Or.inr h
  have hS : va_S A s.heap s.heap [] := va_S.rf
  have hP : va_P (dC, dI) vwCl (wd_X12_area cI a0 v0_2 v0_3 v0_5 v0_12 v0_13 v0_16 v0_17 v0_21 v0_23 v0_24 v0_25 v0_26 v0_29 v0_30 v0_22) s.heap := hP
  have hl := lv_entry ([.ref (a0 0), .int p1]) (n := 5) (Nat.le_of_ble_eq_true rfl)
  rw [lg_entry_eq]
  generalize (lg_sl ([.ref (a0 0), .int p1]) ++ List.replicate (5 - (lg_sl ([.ref (a0 0), .int p1])).length) Slot.unset).toArray = ls at hl ⊢
  have hl : lv_has ls 5 [(0, .ref (a0 0)), (1, .int p1)] := hl
  obtain ⟨H, hHe⟩ : ∃ H, H = s.heap := ⟨_, rfl⟩
  have hS : va_S A s.heap H [] := by rw [hHe]; exact hS
  have hP : va_P (dC, dI) vwCl (wd_X12_area cI a0 v0_2 v0_3 v0_5 v0_12 v0_13 v0_16 v0_17 v0_21 v0_23 v0_24 v0_25 v0_26 v0_29 v0_30 v0_22) H := by rw [hHe]; exact hP
  rw [← hHe]
  unfold F_X12_area at hF
  have j63 : ∀ (x2 : Int64), F_X12_area_j63 x2 = some u → ∀ (H : Heap) (locs : List Loc) (ls : Array Slot), va_P (dC, dI) vwCl (wd_X12_area cI a0 v0_2 v0_3 v0_5 v0_12 v0_13 v0_16 v0_17 v0_21 v0_23 v0_24 v0_25 v0_26 v0_29 v0_30 v0_22) H → va_D A (wd_X12_area cI a0 v0_2 v0_3 v0_5 v0_12 v0_13 v0_16 v0_17 v0_21 v0_23 v0_24 v0_25 v0_26 v0_29 v0_30 v0_22) → va_S A s.heap H locs → lv_has ls 5 [(2, .long x2)] → W p l e (headSpec wz_X12_area rm_X12_area).room s m [.ref (a0 0), .int p1].toArray below meth c H locs 0 0 (MQ below (Q_X12_area dC dI cI a0 v0_2 v0_3 v0_5 v0_12 v0_13 v0_16 v0_17 v0_21 v0_23 v0_24 v0_25 v0_26 v0_29 v0_30 v0_22 u A) [.ref (a0 0), .int p1].toArray s 0 0 A) (F0 m 63 ls []) := by
    intro x2 hF H locs ls hP hD hS hl
    unfold F_X12_area_j63 at hF
    refine lv_lload_n hx hb dX12_area_63 rfl (lv_at hl 0 rfl) ?_
    refine lv_lconst (v := 0) hx hb dX12_area_64 (by decide) ?_
    refine W.lcmp hx hb dX12_area_65 ?_
    refine lv_if_ge (tgt := 74) hx hb dX12_area_66 (by decide) (fun c_1 => ?_) (fun c_1 => ?_)
    · have hF := it_t hF c_1
      refine lv_lload_n hx hb dX12_area_74 rfl (lv_at hl 0 rfl) ?_
      obtain rfl := Option.some.inj hF
      exact W.lret (v := x2) hx hb hr (fun t ht hW => ⟨⟨x2, (), rfl, rfl, by rw [ht]; exact hP, va_K.moved hW.alike hK, hD⟩, hS.F ht⟩) hS.2.2 dX12_area_75
    · have hF := it_f hF c_1
      refine lv_lload_n hx hb dX12_area_69 rfl (lv_at hl 0 rfl) ?_
      refine lv_lneg hx hb dX12_area_70 ?_
      refine lv_goto (tgt := 75) hx hb dX12_area_71 (by decide) ?_
      obtain rfl := Option.some.inj hF
      exact W.lret (v := (-x2)) hx hb hr (fun t ht hW => ⟨⟨(-x2), (), rfl, rfl, by rw [ht]; exact hP, va_K.moved hW.alike hK, hD⟩, hS.F ht⟩) hS.2.2 dX12_area_75
  have j5 : ∀ (x1 : Int32) (x2 : Int64) (x4 : Int32), F_X12_area_j5 n v0_22 x1 x2 x4 = some u → ∀ (H : Heap) (locs : List Loc) (ls : Array Slot), va_P (dC, dI) vwCl (wd_X12_area cI a0 v0_2 v0_3 v0_5 v0_12 v0_13 v0_16 v0_17 v0_21 v0_23 v0_24 v0_25 v0_26 v0_29 v0_30 v0_22) H → va_D A (wd_X12_area cI a0 v0_2 v0_3 v0_5 v0_12 v0_13 v0_16 v0_17 v0_21 v0_23 v0_24 v0_25 v0_26 v0_29 v0_30 v0_22) → va_S A s.heap H locs → lv_has ls 5 [(0, .ref (a0 0)), (1, .int x1), (2, .long x2), (4, .int x4)] → W p l e (headSpec wz_X12_area rm_X12_area).room s m [.ref (a0 0), .int p1].toArray below meth c H locs 0 0 (MQ below (Q_X12_area dC dI cI a0 v0_2 v0_3 v0_5 v0_12 v0_13 v0_16 v0_17 v0_21 v0_23 v0_24 v0_25 v0_26 v0_29 v0_30 v0_22 u A) [.ref (a0 0), .int p1].toArray s 0 0 A) (F0 m 5 ls []) := by
    intro x1 x2 x4 hF H locs ls hP hD hS hl
    unfold F_X12_area_j5 at hF
    obtain ⟨x_5, hL_5, hE_5⟩ := obd_some hF
    have kl_5 : ∀ (k : Nat) (s5 : Int64 × Int32), lpq (F_X12_area_b5 v0_22 x1) k s5 = some x_5 → ∀ (H : Heap) (locs : List Loc) (ls : Array Slot), va_P (dC, dI) vwCl (wd_X12_area cI a0 v0_2 v0_3 v0_5 v0_12 v0_13 v0_16 v0_17 v0_21 v0_23 v0_24 v0_25 v0_26 v0_29 v0_30 v0_22) H → va_D A (wd_X12_area cI a0 v0_2 v0_3 v0_5 v0_12 v0_13 v0_16 v0_17 v0_21 v0_23 v0_24 v0_25 v0_26 v0_29 v0_30 v0_22) → va_S A s.heap H locs → lv_has ls 5 [(0, .ref (a0 0)), (1, .int x1), (2, .long s5.1), (4, .int s5.2)] → W p l e (headSpec wz_X12_area rm_X12_area).room s m [.ref (a0 0), .int p1].toArray below meth c H locs 0 0 (MQ below (Q_X12_area dC dI cI a0 v0_2 v0_3 v0_5 v0_12 v0_13 v0_16 v0_17 v0_21 v0_23 v0_24 v0_25 v0_26 v0_29 v0_30 v0_22 u A) [.ref (a0 0), .int p1].toArray s 0 0 A) (F0 m 5 ls []) := by
      intro k
      induction k with
      | zero => intro s5 h; exact absurd h lpq_zero
      | succ k ih_5 =>
        intro s5 h H locs ls hP hD hS hl
        obtain ⟨o_5, hF, hO_5⟩ := lpq_succ h
        unfold F_X12_area_b5 at hF
        refine lv_iload hx hb dX12_area_5 (lv_at hl 3 rfl) ?_
        refine lv_aload_n hx hb dX12_area_7 rfl (lv_at hl 0 rfl) ?_
        refine lv_iload_n hx hb dX12_area_8 rfl (lv_at hl 1 rfl) ?_
        obtain ⟨u_2, hu_2, hF⟩ := obd_some hF
        have hPc := hP.sub (ws' := (wd_X12_cornersOf cI a0 v0_2 v0_3 v0_5 v0_12 v0_13 v0_16 v0_17 v0_21 v0_23 v0_24 v0_25 v0_26 v0_29 v0_30 v0_22)) [0, 1] rfl
        have hDc := hD.sub (ws' := (wd_X12_cornersOf cI a0 v0_2 v0_3 v0_5 v0_12 v0_13 v0_16 v0_17 v0_21 v0_23 v0_24 v0_25 v0_26 v0_29 v0_30 v0_22)) [0, 1] rfl rfl
        refine q_calli (wc := (wd_X12_cornersOf cI a0 v0_2 v0_3 v0_5 v0_12 v0_13 v0_16 v0_17 v0_21 v0_23 v0_24 v0_25 v0_26 v0_29 v0_30 v0_22)) (w1 := (wd_X12_cornersOf cI a0 v0_2 v0_3 v0_5 v0_12 v0_13 v0_16 v0_17 v0_21 v0_23 v0_24 v0_25 v0_26 v0_29 v0_30 v0_22)) (ws' := (wd_X12_area cI a0 v0_2 v0_3 v0_5 v0_12 v0_13 v0_16 v0_17 v0_21 v0_23 v0_24 v0_25 v0_26 v0_29 v0_30 v0_22)) hP hD hS hA [0, 1] [] [0, 1] rfl rfl rfl (by decide) rfl rfl (va_runV (As := [.int x1]) (rest := [.int s5.2]) ⟨hx, hb, hml, hown, hta⟩ (c_X12_cornersOf l dC dI cI H.size a0 v0_2 v0_3 v0_5 v0_12 v0_13 v0_16 v0_17 v0_21 v0_23 v0_24 v0_25 v0_26 v0_29 v0_30 v0_22 x1 u_2 hu_2) (cwV 1 hta (ga_V mA1019 mA1020 mA1021 mA814 mA1014) rfl rfl rfl (by decide +kernel) ⟨Nat.le_of_ble_eq_true rfl, Nat.le_of_ble_eq_true rfl⟩) ⟨q_fb, va_recv hK hP (ci := 11) (q0 := 0) rfl rfl, q_ps hPc hK hDc⟩ rfl rfl hl.1 rfl (lv_room (Nat.le_of_ble_eq_true rfl)) dX12_area_9 ⟨Nat.zero_le _, Nat.zero_le _⟩) (fun H locs hP hD hS => ?_)
        refine lv_icmp_ge (tgt := 63) hx hb dX12_area_12 (by decide) (fun c_3 => ?_) (fun c_3 => ?_)
        · have hF := it_t hF c_3
          obtain rfl := Option.some.inj hF
          obtain rfl := lpq_x hO_5
          have hF := hE_5
          exact j63 s5.1 hF _ _ _ hP hD hS (lv_sub hl [2] rfl)
        · have hF := it_f hF c_3
          refine lv_lload_n hx hb dX12_area_15 rfl (lv_at hl 2 rfl) ?_
          refine lv_aload_n hx hb dX12_area_16 rfl (lv_at hl 0 rfl) ?_
          refine lv_iload_n hx hb dX12_area_17 rfl (lv_at hl 1 rfl) ?_
          refine lv_iload hx hb dX12_area_18 (lv_at hl 3 rfl) ?_
          obtain ⟨u_4, hu_4, hF⟩ := obd_some hF
          have hPc := hP.sub (ws' := (wd_X12_cornerX cI a0 v0_2 v0_3 v0_5 v0_12 v0_13 v0_16 v0_17 v0_21 v0_23 v0_24 v0_25 v0_26 v0_29 v0_30 v0_22)) [0, 1] rfl
          have hDc := hD.sub (ws' := (wd_X12_cornerX cI a0 v0_2 v0_3 v0_5 v0_12 v0_13 v0_16 v0_17 v0_21 v0_23 v0_24 v0_25 v0_26 v0_29 v0_30 v0_22)) [0, 1] rfl rfl
          refine q_calli (wc := (wd_X12_cornerX cI a0 v0_2 v0_3 v0_5 v0_12 v0_13 v0_16 v0_17 v0_21 v0_23 v0_24 v0_25 v0_26 v0_29 v0_30 v0_22)) (w1 := (wd_X12_cornerX cI a0 v0_2 v0_3 v0_5 v0_12 v0_13 v0_16 v0_17 v0_21 v0_23 v0_24 v0_25 v0_26 v0_29 v0_30 v0_22)) (ws' := (wd_X12_area cI a0 v0_2 v0_3 v0_5 v0_12 v0_13 v0_16 v0_17 v0_21 v0_23 v0_24 v0_25 v0_26 v0_29 v0_30 v0_22)) hP hD hS hA [0, 1] [] [0, 1] rfl rfl rfl (by decide) rfl rfl (va_runV (As := [.int x1, .int s5.2]) (rest := [.long s5.1]) ⟨hx, hb, hml, hown, hta⟩ (c_X12_cornerX l dC dI cI H.size a0 v0_2 v0_3 v0_5 v0_12 v0_13 v0_16 v0_17 v0_21 v0_23 v0_24 v0_25 v0_26 v0_29 v0_30 v0_22 x1 s5.2 u_4 hu_4) (cwV 2 hta (ga_V mA1028 mA1029 mA1030 mA814 mA1018) rfl rfl rfl (by decide +kernel) ⟨Nat.le_of_ble_eq_true rfl, Nat.le_of_ble_eq_true rfl⟩) ⟨q_fb, va_recv hK hP (ci := 11) (q0 := 0) rfl rfl, q_ps hPc hK hDc⟩ rfl rfl hl.1 rfl (lv_room (Nat.le_of_ble_eq_true rfl)) dX12_area_20 ⟨Nat.zero_le _, Nat.zero_le _⟩) (fun H locs hP hD hS => ?_)
          refine lv_i2l hx hb dX12_area_23 rfl ?_
          refine lv_aload_n hx hb dX12_area_24 rfl (lv_at hl 0 rfl) ?_
          refine lv_iload_n hx hb dX12_area_25 rfl (lv_at hl 1 rfl) ?_
          refine lv_iload hx hb dX12_area_26 (lv_at hl 3 rfl) ?_
          refine lv_iconst (v := 1) hx hb dX12_area_28 (by decide) ?_
          refine lv_iadd hx hb dX12_area_29 ?_
          obtain ⟨u_5, hu_5, hF⟩ := obd_some hF
          have hPc := hP.sub (ws' := (wd_X12_cornerY cI a0 v0_2 v0_3 v0_5 v0_12 v0_13 v0_16 v0_17 v0_21 v0_23 v0_24 v0_25 v0_26 v0_29 v0_30 v0_22)) [0, 1] rfl
          have hDc := hD.sub (ws' := (wd_X12_cornerY cI a0 v0_2 v0_3 v0_5 v0_12 v0_13 v0_16 v0_17 v0_21 v0_23 v0_24 v0_25 v0_26 v0_29 v0_30 v0_22)) [0, 1] rfl rfl
          refine q_calli (wc := (wd_X12_cornerY cI a0 v0_2 v0_3 v0_5 v0_12 v0_13 v0_16 v0_17 v0_21 v0_23 v0_24 v0_25 v0_26 v0_29 v0_30 v0_22)) (w1 := (wd_X12_cornerY cI a0 v0_2 v0_3 v0_5 v0_12 v0_13 v0_16 v0_17 v0_21 v0_23 v0_24 v0_25 v0_26 v0_29 v0_30 v0_22)) (ws' := (wd_X12_area cI a0 v0_2 v0_3 v0_5 v0_12 v0_13 v0_16 v0_17 v0_21 v0_23 v0_24 v0_25 v0_26 v0_29 v0_30 v0_22)) hP hD hS hA [0, 1] [] [0, 1] rfl rfl rfl (by decide) rfl rfl (va_runV (As := [.int x1, .int (s5.2 + 1)]) (rest := [.long u_4.toInt64, .long s5.1]) ⟨hx, hb, hml, hown, hta⟩ (c_X12_cornerY l dC dI cI H.size a0 v0_2 v0_3 v0_5 v0_12 v0_13 v0_16 v0_17 v0_21 v0_23 v0_24 v0_25 v0_26 v0_29 v0_30 v0_22 x1 (s5.2 + 1) u_5 hu_5) (cwV 2 hta (ga_V mA1031 mA1032 mA1033 mA814 mA1022) rfl rfl rfl (by decide +kernel) ⟨Nat.le_of_ble_eq_true rfl, Nat.le_of_ble_eq_true rfl⟩) ⟨q_fb, va_recv hK hP (ci := 11) (q0 := 0) rfl rfl, q_ps hPc hK hDc⟩ rfl rfl hl.1 rfl (lv_room (Nat.le_of_ble_eq_true rfl)) dX12_area_30 ⟨Nat.zero_le _, Nat.zero_le _⟩) (fun H locs hP hD hS => ?_)
          refine lv_i2l hx hb dX12_area_33 rfl ?_
          refine lv_lmul hx hb dX12_area_34 ?_
          refine lv_aload_n hx hb dX12_area_35 rfl (lv_at hl 0 rfl) ?_
          refine lv_iload_n hx hb dX12_area_36 rfl (lv_at hl 1 rfl) ?_
          refine lv_iload hx hb dX12_area_37 (lv_at hl 3 rfl) ?_
          refine lv_iconst (v := 1) hx hb dX12_area_39 (by decide) ?_
          refine lv_iadd hx hb dX12_area_40 ?_
          obtain ⟨u_6, hu_6, hF⟩ := obd_some hF
          have hPc := hP.sub (ws' := (wd_X12_cornerX cI a0 v0_2 v0_3 v0_5 v0_12 v0_13 v0_16 v0_17 v0_21 v0_23 v0_24 v0_25 v0_26 v0_29 v0_30 v0_22)) [0, 1] rfl
          have hDc := hD.sub (ws' := (wd_X12_cornerX cI a0 v0_2 v0_3 v0_5 v0_12 v0_13 v0_16 v0_17 v0_21 v0_23 v0_24 v0_25 v0_26 v0_29 v0_30 v0_22)) [0, 1] rfl rfl
          refine q_calli (wc := (wd_X12_cornerX cI a0 v0_2 v0_3 v0_5 v0_12 v0_13 v0_16 v0_17 v0_21 v0_23 v0_24 v0_25 v0_26 v0_29 v0_30 v0_22)) (w1 := (wd_X12_cornerX cI a0 v0_2 v0_3 v0_5 v0_12 v0_13 v0_16 v0_17 v0_21 v0_23 v0_24 v0_25 v0_26 v0_29 v0_30 v0_22)) (ws' := (wd_X12_area cI a0 v0_2 v0_3 v0_5 v0_12 v0_13 v0_16 v0_17 v0_21 v0_23 v0_24 v0_25 v0_26 v0_29 v0_30 v0_22)) hP hD hS hA [0, 1] [] [0, 1] rfl rfl rfl (by decide) rfl rfl (va_runV (As := [.int x1, .int (s5.2 + 1)]) (rest := [.long (u_4.toInt64 * u_5.toInt64), .long s5.1]) ⟨hx, hb, hml, hown, hta⟩ (c_X12_cornerX l dC dI cI H.size a0 v0_2 v0_3 v0_5 v0_12 v0_13 v0_16 v0_17 v0_21 v0_23 v0_24 v0_25 v0_26 v0_29 v0_30 v0_22 x1 (s5.2 + 1) u_6 hu_6) (cwV 2 hta (ga_V mA1028 mA1029 mA1030 mA814 mA1018) rfl rfl rfl (by decide +kernel) ⟨Nat.le_of_ble_eq_true rfl, Nat.le_of_ble_eq_true rfl⟩) ⟨q_fb, va_recv hK hP (ci := 11) (q0 := 0) rfl rfl, q_ps hPc hK hDc⟩ rfl rfl hl.1 rfl (lv_room (Nat.le_of_ble_eq_true rfl)) dX12_area_41 ⟨Nat.zero_le _, Nat.zero_le _⟩) (fun H locs hP hD hS => ?_)
          refine lv_i2l hx hb dX12_area_44 rfl ?_
          refine lv_aload_n hx hb dX12_area_45 rfl (lv_at hl 0 rfl) ?_
          refine lv_iload_n hx hb dX12_area_46 rfl (lv_at hl 1 rfl) ?_
          refine lv_iload hx hb dX12_area_47 (lv_at hl 3 rfl) ?_
          obtain ⟨u_7, hu_7, hF⟩ := obd_some hF
          have hPc := hP.sub (ws' := (wd_X12_cornerY cI a0 v0_2 v0_3 v0_5 v0_12 v0_13 v0_16 v0_17 v0_21 v0_23 v0_24 v0_25 v0_26 v0_29 v0_30 v0_22)) [0, 1] rfl
          have hDc := hD.sub (ws' := (wd_X12_cornerY cI a0 v0_2 v0_3 v0_5 v0_12 v0_13 v0_16 v0_17 v0_21 v0_23 v0_24 v0_25 v0_26 v0_29 v0_30 v0_22)) [0, 1] rfl rfl
          refine q_calli (wc := (wd_X12_cornerY cI a0 v0_2 v0_3 v0_5 v0_12 v0_13 v0_16 v0_17 v0_21 v0_23 v0_24 v0_25 v0_26 v0_29 v0_30 v0_22)) (w1 := (wd_X12_cornerY cI a0 v0_2 v0_3 v0_5 v0_12 v0_13 v0_16 v0_17 v0_21 v0_23 v0_24 v0_25 v0_26 v0_29 v0_30 v0_22)) (ws' := (wd_X12_area cI a0 v0_2 v0_3 v0_5 v0_12 v0_13 v0_16 v0_17 v0_21 v0_23 v0_24 v0_25 v0_26 v0_29 v0_30 v0_22)) hP hD hS hA [0, 1] [] [0, 1] rfl rfl rfl (by decide) rfl rfl (va_runV (As := [.int x1, .int s5.2]) (rest := [.long u_6.toInt64, .long (u_4.toInt64 * u_5.toInt64), .long s5.1]) ⟨hx, hb, hml, hown, hta⟩ (c_X12_cornerY l dC dI cI H.size a0 v0_2 v0_3 v0_5 v0_12 v0_13 v0_16 v0_17 v0_21 v0_23 v0_24 v0_25 v0_26 v0_29 v0_30 v0_22 x1 s5.2 u_7 hu_7) (cwV 2 hta (ga_V mA1031 mA1032 mA1033 mA814 mA1022) rfl rfl rfl (by decide +kernel) ⟨Nat.le_of_ble_eq_true rfl, Nat.le_of_ble_eq_true rfl⟩) ⟨q_fb, va_recv hK hP (ci := 11) (q0 := 0) rfl rfl, q_ps hPc hK hDc⟩ rfl rfl hl.1 rfl (lv_room (Nat.le_of_ble_eq_true rfl)) dX12_area_49 ⟨Nat.zero_le _, Nat.zero_le _⟩) (fun H locs hP hD hS => ?_)
          refine lv_i2l hx hb dX12_area_52 rfl ?_
          refine lv_lmul hx hb dX12_area_53 ?_
          refine lv_lsub hx hb dX12_area_54 ?_
          refine lv_ladd hx hb dX12_area_55 ?_
          obtain ⟨y_8, ey_8, hF⟩ := lt_some hF
          refine lv_eql ey_8 ?_
          refine lv_lstore_n (lv' := [(2, .long y_8), (0, .ref (a0 0)), (1, .int x1), (4, .int s5.2)]) hx hb dX12_area_56 rfl hl (by decide) rfl (fun ls hl => ?_)
          obtain ⟨y_9, ey_9, hF⟩ := lt_some hF
          refine lv_iinc (v := y_9) (lv' := [(4, .int y_9), (2, .long y_8), (0, .ref (a0 0)), (1, .int x1)]) hx hb dX12_area_57 hl (k := 3) rfl (by rw [ey_9]; rfl) (by decide) rfl (fun ls hl => ?_)
          refine lv_goto (tgt := 5) hx hb dX12_area_60 (by decide) ?_
          obtain rfl := Option.some.inj hF
          exact ih_5 _ hO_5 _ _ _ hP hD hS (lv_sub hl [2, 3, 1, 0] rfl)
    exact kl_5 n _ hL_5 _ _ _ hP hD hS hl
  refine lv_lconst (v := 0) hx hb dX12_area_0 (by decide) ?_
  refine lv_lstore_n (lv' := [(2, .long 0), (0, .ref (a0 0)), (1, .int p1)]) hx hb dX12_area_1 rfl hl (by decide) rfl (fun ls hl => ?_)
  refine lv_iconst (v := 0) hx hb dX12_area_2 (by decide) ?_
  refine lv_istore (lv' := [(4, .int 0), (2, .long 0), (0, .ref (a0 0)), (1, .int p1)]) hx hb dX12_area_3 hl (by decide) rfl (fun ls hl => ?_)
  exact j5 p1 0 0 hF _ _ _ hP hD hS (lv_sub hl [2, 3, 1, 0] rfl)

-- StrokeOutlinerModel.piece(II)J
def F_X12_piece_j37 (n : Nat) (v0_12 : Int32) (v0_13 : Int32) (v0_16 : Int32) (v0_17 : Int32) (v0_21 : Int32) (v0_23 : Int32) (v0_6 : Nat → Int32) (v0_7 : Nat → Int32) (v0_8 : Nat → Int32) (v0_9 : Nat → Int32) (v0_10 : Nat → Int32) (v0_11 : Nat → Int32) (v0_14 : Nat → Int32) (v0_15 : Nat → Int32) (v0_18 : Nat → Int32) (v0_19 : Nat → Int32) (v0_20 : Nat → Int32) (v0_22 : Nat → Int32) (x1 : Int32) (x2 : Int32) (t1 : Int32) : Option (Int64 × Int32 × Int32 × Int32 × Int32 × Int32 × Int32 × Int32 × (Nat → Int32) × (Nat → Int32) × (Nat → Int32) × (Nat → Int32) × (Nat → Int32) × (Nat → Int32) × (Nat → Int32) × (Nat → Int32) × (Nat → Int32) × (Nat → Int32) × (Nat → Int32) × (Nat → Int32)) :=
  lt (F_X12_refused t1) (fun u_1 => if u_1.1 = 0 then if x2 = 0 then obd (F_X12_kindOf v0_22 x1) (fun u_7 => some (u_7.toInt64, u_1.2, v0_12, v0_13, v0_16, v0_17, v0_21, v0_23, v0_6, v0_7, v0_8, v0_9, v0_10, v0_11, v0_14, v0_15, v0_18, v0_19, v0_20, v0_22)) else if x2 = 1 then obd (F_X12_cornersOf v0_22 x1) (fun u_6 => some (u_6.toInt64, u_1.2, v0_12, v0_13, v0_16, v0_17, v0_21, v0_23, v0_6, v0_7, v0_8, v0_9, v0_10, v0_11, v0_14, v0_15, v0_18, v0_19, v0_20, v0_22)) else obd (F_X12_area n v0_22 x1) (fun u_5 => some (u_5, u_1.2, v0_12, v0_13, v0_16, v0_17, v0_21, v0_23, v0_6, v0_7, v0_8, v0_9, v0_10, v0_11, v0_14, v0_15, v0_18, v0_19, v0_20, v0_22)) else some (0, u_1.2, v0_12, v0_13, v0_16, v0_17, v0_21, v0_23, v0_6, v0_7, v0_8, v0_9, v0_10, v0_11, v0_14, v0_15, v0_18, v0_19, v0_20, v0_22))
def F_X12_piece (n : Nat) (v0_12 : Int32) (v0_13 : Int32) (v0_16 : Int32) (v0_17 : Int32) (v0_21 : Int32) (v0_0 : Nat → Int32) (v0_6 : Nat → Int32) (v0_7 : Nat → Int32) (v0_8 : Nat → Int32) (v0_9 : Nat → Int32) (v0_10 : Nat → Int32) (v0_11 : Nat → Int32) (v0_14 : Nat → Int32) (v0_15 : Nat → Int32) (v0_18 : Nat → Int32) (v0_19 : Nat → Int32) (v0_20 : Nat → Int32) (v0_22 : Nat → Int32) (p1 : Int32) (p2 : Int32) : Option (Int64 × Int32 × Int32 × Int32 × Int32 × Int32 × Int32 × Int32 × (Nat → Int32) × (Nat → Int32) × (Nat → Int32) × (Nat → Int32) × (Nat → Int32) × (Nat → Int32) × (Nat → Int32) × (Nat → Int32) × (Nat → Int32) × (Nat → Int32) × (Nat → Int32) × (Nat → Int32)) :=
  obd (F_X12_laysPieces n v0_12 v0_13 v0_16 v0_17 v0_21 v0_0 v0_6 v0_7 v0_8 v0_9 v0_10 v0_11 v0_14 v0_15 v0_18 v0_19 v0_20 v0_22) (fun u_8 => lt (F_X12_within p1 0 (u_8.2.2.2.2.2.1 - 1)) (fun u_9 => if u_9 = 0 then F_X12_piece_j37 n u_8.1 u_8.2.1 u_8.2.2.1 u_8.2.2.2.1 u_8.2.2.2.2.1 u_8.2.2.2.2.2.1 u_8.2.2.2.2.2.2.1 u_8.2.2.2.2.2.2.2.1 u_8.2.2.2.2.2.2.2.2.1 u_8.2.2.2.2.2.2.2.2.2.1 u_8.2.2.2.2.2.2.2.2.2.2.1 u_8.2.2.2.2.2.2.2.2.2.2.2.1 u_8.2.2.2.2.2.2.2.2.2.2.2.2.1 u_8.2.2.2.2.2.2.2.2.2.2.2.2.2.1 u_8.2.2.2.2.2.2.2.2.2.2.2.2.2.2.1 u_8.2.2.2.2.2.2.2.2.2.2.2.2.2.2.2.1 u_8.2.2.2.2.2.2.2.2.2.2.2.2.2.2.2.2.1 u_8.2.2.2.2.2.2.2.2.2.2.2.2.2.2.2.2.2 p1 p2 1 else lt (F_X12_within p2 0 2) (fun u_11 => if u_11 = 0 then F_X12_piece_j37 n u_8.1 u_8.2.1 u_8.2.2.1 u_8.2.2.2.1 u_8.2.2.2.2.1 u_8.2.2.2.2.2.1 u_8.2.2.2.2.2.2.1 u_8.2.2.2.2.2.2.2.1 u_8.2.2.2.2.2.2.2.2.1 u_8.2.2.2.2.2.2.2.2.2.1 u_8.2.2.2.2.2.2.2.2.2.2.1 u_8.2.2.2.2.2.2.2.2.2.2.2.1 u_8.2.2.2.2.2.2.2.2.2.2.2.2.1 u_8.2.2.2.2.2.2.2.2.2.2.2.2.2.1 u_8.2.2.2.2.2.2.2.2.2.2.2.2.2.2.1 u_8.2.2.2.2.2.2.2.2.2.2.2.2.2.2.2.1 u_8.2.2.2.2.2.2.2.2.2.2.2.2.2.2.2.2.1 u_8.2.2.2.2.2.2.2.2.2.2.2.2.2.2.2.2.2 p1 p2 2 else F_X12_piece_j37 n u_8.1 u_8.2.1 u_8.2.2.1 u_8.2.2.2.1 u_8.2.2.2.2.1 u_8.2.2.2.2.2.1 u_8.2.2.2.2.2.2.1 u_8.2.2.2.2.2.2.2.1 u_8.2.2.2.2.2.2.2.2.1 u_8.2.2.2.2.2.2.2.2.2.1 u_8.2.2.2.2.2.2.2.2.2.2.1 u_8.2.2.2.2.2.2.2.2.2.2.2.1 u_8.2.2.2.2.2.2.2.2.2.2.2.2.1 u_8.2.2.2.2.2.2.2.2.2.2.2.2.2.1 u_8.2.2.2.2.2.2.2.2.2.2.2.2.2.2.1 u_8.2.2.2.2.2.2.2.2.2.2.2.2.2.2.2.1 u_8.2.2.2.2.2.2.2.2.2.2.2.2.2.2.2.2.1 u_8.2.2.2.2.2.2.2.2.2.2.2.2.2.2.2.2.2 p1 p2 0)))
abbrev wd_X12_piece (cI : ClassId) (a0 : Nat → Nat) (v0_2 : Int32) (v0_3 : Int32) (v0_5 : Int32) (v0_12 : Int32) (v0_13 : Int32) (v0_16 : Int32) (v0_17 : Int32) (v0_21 : Int32) (v0_23 : Int32) (v0_24 : Int32) (v0_25 : Int32) (v0_26 : Int32) (v0_29 : Int32) (v0_30 : Int64) (v0_0 : Nat → Int32) (v0_6 : Nat → Int32) (v0_7 : Nat → Int32) (v0_8 : Nat → Int32) (v0_9 : Nat → Int32) (v0_10 : Nat → Int32) (v0_11 : Nat → Int32) (v0_14 : Nat → Int32) (v0_15 : Nat → Int32) (v0_18 : Nat → Int32) (v0_19 : Nat → Int32) (v0_20 : Nat → Int32) (v0_22 : Nat → Int32) : va_W := [(a0 0, .inr (11, [.ref (a0 1), .ref (a0 2), .int v0_2, .int v0_3, .ref (a0 5), .int v0_5, .ref (a0 7), .ref (a0 8), .ref (a0 9), .ref (a0 10), .ref (a0 11), .ref (a0 12), .int v0_12, .int v0_13, .ref (a0 15), .ref (a0 16), .int v0_16, .int v0_17, .ref (a0 19), .ref (a0 20), .ref (a0 21), .int v0_21, .ref (a0 23), .int v0_23, .int v0_24, .int v0_25, .int v0_26, .ref (a0 28), .ref (a0 29), .int v0_29, .long v0_30])), (a0 1, .inl (cI, 86, .inl v0_0)), (a0 7, .inl (cI, 8, .inl v0_6)), (a0 8, .inl (cI, 8, .inl v0_7)), (a0 9, .inl (cI, 8, .inl v0_8)), (a0 10, .inl (cI, 8, .inl v0_9)), (a0 11, .inl (cI, 8, .inl v0_10)), (a0 12, .inl (cI, 8, .inl v0_11)), (a0 15, .inl (cI, 240, .inl v0_14)), (a0 16, .inl (cI, 240, .inl v0_15)), (a0 19, .inl (cI, 20, .inl v0_18)), (a0 20, .inl (cI, 20, .inl v0_19)), (a0 21, .inl (cI, 20, .inl v0_20)), (a0 23, .inl (cI, 27000, .inl v0_22))]
abbrev wz_X12_piece : List Cond := .code yX12_piece cX12_piece 3 (some .long) :: wALL
abbrev rm_X12_piece : Room := { frames := 6, cells := 0, slots := 0, locals := 138 }
abbrev Q_X12_piece (dC : Nat → ClassId) (dI : Nat → Nat → Nat) (cI : ClassId) (a0 : Nat → Nat) (v0_2 : Int32) (v0_5 : Int32) (v0_24 : Int32) (v0_25 : Int32) (v0_26 : Int32) (v0_29 : Int32) (v0_30 : Int64) (v0_0 : Nat → Int32) (u : (Int64 × Int32 × Int32 × Int32 × Int32 × Int32 × Int32 × Int32 × (Nat → Int32) × (Nat → Int32) × (Nat → Int32) × (Nat → Int32) × (Nat → Int32) × (Nat → Int32) × (Nat → Int32) × (Nat → Int32) × (Nat → Int32) × (Nat → Int32) × (Nat → Int32) × (Nat → Int32))) (A : Nat → Prop) : Array Value → State → Outcome → State → Prop := va_Ql (fun (r : Int64) (_ : Unit) => r = u.1) (fun _ => q_at dC dI cI A (wd_X12_piece cI a0 v0_2 u.2.1 v0_5 u.2.2.1 u.2.2.2.1 u.2.2.2.2.1 u.2.2.2.2.2.1 u.2.2.2.2.2.2.1 u.2.2.2.2.2.2.2.1 v0_24 v0_25 v0_26 v0_29 v0_30 v0_0 u.2.2.2.2.2.2.2.2.1 u.2.2.2.2.2.2.2.2.2.1 u.2.2.2.2.2.2.2.2.2.2.1 u.2.2.2.2.2.2.2.2.2.2.2.1 u.2.2.2.2.2.2.2.2.2.2.2.2.1 u.2.2.2.2.2.2.2.2.2.2.2.2.2.1 u.2.2.2.2.2.2.2.2.2.2.2.2.2.2.1 u.2.2.2.2.2.2.2.2.2.2.2.2.2.2.2.1 u.2.2.2.2.2.2.2.2.2.2.2.2.2.2.2.2.1 u.2.2.2.2.2.2.2.2.2.2.2.2.2.2.2.2.2.1 u.2.2.2.2.2.2.2.2.2.2.2.2.2.2.2.2.2.2.1 u.2.2.2.2.2.2.2.2.2.2.2.2.2.2.2.2.2.2.2)) A
set_option maxHeartbeats 4000000 in
set_option maxRecDepth 100000 in
theorem c_X12_piece (l : Launch) (dC : Nat → ClassId) (dI : Nat → Nat → Nat) (cI : ClassId) (sz : Nat) (a0 : Nat → Nat) (v0_2 : Int32) (v0_3 : Int32) (v0_5 : Int32) (v0_12 : Int32) (v0_13 : Int32) (v0_16 : Int32) (v0_17 : Int32) (v0_21 : Int32) (v0_23 : Int32) (v0_24 : Int32) (v0_25 : Int32) (v0_26 : Int32) (v0_29 : Int32) (v0_30 : Int64) (v0_0 : Nat → Int32) (v0_6 : Nat → Int32) (v0_7 : Nat → Int32) (v0_8 : Nat → Int32) (v0_9 : Nat → Int32) (v0_10 : Nat → Int32) (v0_11 : Nat → Int32) (v0_14 : Nat → Int32) (v0_15 : Nat → Int32) (v0_18 : Nat → Int32) (v0_19 : Nat → Int32) (v0_20 : Nat → Int32) (v0_22 : Nat → Int32) (p1 : Int32) (p2 : Int32) (n : Nat) (u : (Int64 × Int32 × Int32 × Int32 × Int32 × Int32 × Int32 × Int32 × (Nat → Int32) × (Nat → Int32) × (Nat → Int32) × (Nat → Int32) × (Nat → Int32) × (Nat → Int32) × (Nat → Int32) × (Nat → Int32) × (Nat → Int32) × (Nat → Int32) × (Nat → Int32) × (Nat → Int32))) (hF : F_X12_piece n v0_12 v0_13 v0_16 v0_17 v0_21 v0_0 v0_6 v0_7 v0_8 v0_9 v0_10 v0_11 v0_14 v0_15 v0_18 v0_19 v0_20 v0_22 p1 p2 = some u) : Met l yX12_piece wz_X12_piece rm_X12_piece (va_Pc [.ref (a0 0), .int p1, .int p2] (q_pre dC dI cI (wd_X12_piece cI a0 v0_2 v0_3 v0_5 v0_12 v0_13 v0_16 v0_17 v0_21 v0_23 v0_24 v0_25 v0_26 v0_29 v0_30 v0_0 v0_6 v0_7 v0_8 v0_9 v0_10 v0_11 v0_14 v0_15 v0_18 v0_19 v0_20 v0_22) sz)) (Q_X12_piece dC dI cI a0 v0_2 v0_5 v0_24 v0_25 v0_26 v0_29 v0_30 v0_0 u (va_A (wd_X12_piece cI a0 v0_2 v0_3 v0_5 v0_12 v0_13 v0_16 v0_17 v0_21 v0_23 v0_24 v0_25 v0_26 v0_29 v0_30 v0_0 v0_6 v0_7 v0_8 v0_9 v0_10 v0_11 v0_14 v0_15 v0_18 v0_19 v0_20 v0_22) sz)) 0 0 (va_A (wd_X12_piece cI a0 v0_2 v0_3 v0_5 v0_12 v0_13 v0_16 v0_17 v0_21 v0_23 v0_24 v0_25 v0_26 v0_29 v0_30 v0_0 v0_6 v0_7 v0_8 v0_9 v0_10 v0_11 v0_14 v0_15 v0_18 v0_19 v0_20 v0_22) sz) := by
  refine Met.ofW (cc := cX12_piece) (maxL := 3) (ret := (some .long)) (by decide) rfl ?_
  intro p e s m args below meth c s₁ B hml hv
  obtain ⟨rfl, hsz, hP, hK, hD0⟩ := hv
  have hx := B.exec
  have hb := B.bytes
  have hr := B.returns
  have hts := atoms_spec (ws := wz_X12_piece) B.pre
  have hta := wz_tl hts
  have hown : s.vm.findClass RX12 = some m.cls := findClass_of_methodNamed B.named
  have hlocks := B.notSynchronized
  subst hsz
  have hD := hD0.self (sz := s.heap.size)
  generalize hAe : va_A (wd_X12_piece cI a0 v0_2 v0_3 v0_5 v0_12 v0_13 v0_16 v0_17 v0_21 v0_23 v0_24 v0_25 v0_26 v0_29 v0_30 v0_0 v0_6 v0_7 v0_8 v0_9 v0_10 v0_11 v0_14 v0_15 v0_18 v0_19 v0_20 v0_22) s.heap.size = A at hD ⊢
  have hA : ∀ q : Nat, s.heap.size ≤ q → A q := fun q h => by rw [← hAe]; exact Or.inr h
  have hS : va_S A s.heap s.heap [] := va_S.rf
  have hP : va_P (dC, dI) vwCl (wd_X12_piece cI a0 v0_2 v0_3 v0_5 v0_12 v0_13 v0_16 v0_17 v0_21 v0_23 v0_24 v0_25 v0_26 v0_29 v0_30 v0_0 v0_6 v0_7 v0_8 v0_9 v0_10 v0_11 v0_14 v0_15 v0_18 v0_19 v0_20 v0_22) s.heap := hP
  have hl := lv_entry ([.ref (a0 0), .int p1, .int p2]) (n := 3) (Nat.le_of_ble_eq_true rfl)
  rw [lg_entry_eq]
  generalize (lg_sl ([.ref (a0 0), .int p1, .int p2]) ++ List.replicate (3 - (lg_sl ([.ref (a0 0), .int p1, .int p2])).length) Slot.unset).toArray = ls at hl ⊢
  have hl : lv_has ls 3 [(0, .ref (a0 0)), (1, .int p1), (2, .int p2)] := hl
  obtain ⟨H, hHe⟩ : ∃ H, H = s.heap := ⟨_, rfl⟩
  have hS : va_S A s.heap H [] := by rw [hHe]; exact hS
  have hP : va_P (dC, dI) vwCl (wd_X12_piece cI a0 v0_2 v0_3 v0_5 v0_12 v0_13 v0_16 v0_17 v0_21 v0_23 v0_24 v0_25 v0_26 v0_29 v0_30 v0_0 v0_6 v0_7 v0_8 v0_9 v0_10 v0_11 v0_14 v0_15 v0_18 v0_19 v0_20 v0_22) H := by rw [hHe]; exact hP
  rw [← hHe]
  unfold F_X12_piece at hF
  have j37 : ∀ (v0_3 : Int32) (v0_12 : Int32) (v0_13 : Int32) (v0_16 : Int32) (v0_17 : Int32) (v0_21 : Int32) (v0_23 : Int32) (v0_6 : Nat → Int32) (v0_7 : Nat → Int32) (v0_8 : Nat → Int32) (v0_9 : Nat → Int32) (v0_10 : Nat → Int32) (v0_11 : Nat → Int32) (v0_14 : Nat → Int32) (v0_15 : Nat → Int32) (v0_18 : Nat → Int32) (v0_19 : Nat → Int32) (v0_20 : Nat → Int32) (v0_22 : Nat → Int32) (x1 : Int32) (x2 : Int32) (t1 : Int32), F_X12_piece_j37 n v0_12 v0_13 v0_16 v0_17 v0_21 v0_23 v0_6 v0_7 v0_8 v0_9 v0_10 v0_11 v0_14 v0_15 v0_18 v0_19 v0_20 v0_22 x1 x2 t1 = some u → ∀ (H : Heap) (locs : List Loc) (ls : Array Slot), va_P (dC, dI) vwCl (wd_X12_piece cI a0 v0_2 v0_3 v0_5 v0_12 v0_13 v0_16 v0_17 v0_21 v0_23 v0_24 v0_25 v0_26 v0_29 v0_30 v0_0 v0_6 v0_7 v0_8 v0_9 v0_10 v0_11 v0_14 v0_15 v0_18 v0_19 v0_20 v0_22) H → va_D A (wd_X12_piece cI a0 v0_2 v0_3 v0_5 v0_12 v0_13 v0_16 v0_17 v0_21 v0_23 v0_24 v0_25 v0_26 v0_29 v0_30 v0_0 v0_6 v0_7 v0_8 v0_9 v0_10 v0_11 v0_14 v0_15 v0_18 v0_19 v0_20 v0_22) → va_S A s.heap H locs → lv_has ls 3 [(0, .ref (a0 0)), (1, .int x1), (2, .int x2)] → W p l e (headSpec wz_X12_piece rm_X12_piece).room s m [.ref (a0 0), .int p1, .int p2].toArray below meth c H locs 0 0 (MQ below (Q_X12_piece dC dI cI a0 v0_2 v0_5 v0_24 v0_25 v0_26 v0_29 v0_30 v0_0 u A) [.ref (a0 0), .int p1, .int p2].toArray s 0 0 A) (F0 m 37 ls [.int t1, .ref (a0 0)]) := by
    intro v0_3 v0_12 v0_13 v0_16 v0_17 v0_21 v0_23 v0_6 v0_7 v0_8 v0_9 v0_10 v0_11 v0_14 v0_15 v0_18 v0_19 v0_20 v0_22 x1 x2 t1 hF H locs ls hP hD hS hl
    unfold F_X12_piece_j37 at hF
    obtain ⟨u_1, hu_1, hF⟩ := lt_some hF
    have hPc := hP.sub (ws' := (wd_X12_refused cI a0 v0_2 v0_3 v0_5 v0_12 v0_13 v0_16 v0_17 v0_21 v0_23 v0_24 v0_25 v0_26 v0_29 v0_30)) [0] rfl
    have hDc := hD.sub (ws' := (wd_X12_refused cI a0 v0_2 v0_3 v0_5 v0_12 v0_13 v0_16 v0_17 v0_21 v0_23 v0_24 v0_25 v0_26 v0_29 v0_30)) [0] rfl rfl
    refine q_callz (wc := (wd_X12_refused cI a0 v0_2 v0_3 v0_5 v0_12 v0_13 v0_16 v0_17 v0_21 v0_23 v0_24 v0_25 v0_26 v0_29 v0_30)) (w1 := (wd_X12_refused cI a0 v0_2 u_1.2 v0_5 v0_12 v0_13 v0_16 v0_17 v0_21 v0_23 v0_24 v0_25 v0_26 v0_29 v0_30)) (ws' := (wd_X12_piece cI a0 v0_2 u_1.2 v0_5 v0_12 v0_13 v0_16 v0_17 v0_21 v0_23 v0_24 v0_25 v0_26 v0_29 v0_30 v0_0 v0_6 v0_7 v0_8 v0_9 v0_10 v0_11 v0_14 v0_15 v0_18 v0_19 v0_20 v0_22)) hP hD hS hA [0] [1, 2, 3, 4, 5, 6, 7, 8, 9, 10, 11, 12, 13] [13, 0, 1, 2, 3, 4, 5, 6, 7, 8, 9, 10, 11, 12] rfl rfl rfl (by decide) rfl rfl (va_runV (As := [.int t1]) (rest := []) ⟨hx, hb, hml, hown, hta⟩ (c_X12_refused l dC dI cI H.size a0 v0_2 v0_3 v0_5 v0_12 v0_13 v0_16 v0_17 v0_21 v0_23 v0_24 v0_25 v0_26 v0_29 v0_30 t1 u_1 hu_1.symm) (cwV 1 hta (ga_V mA822 mA823 mA824 mA814 mA809) rfl rfl rfl (by decide +kernel) ⟨Nat.le_of_ble_eq_true rfl, Nat.le_of_ble_eq_true rfl⟩) ⟨q_fb, va_recv hK hP (ci := 11) (q0 := 0) rfl rfl, q_ps hPc hK hDc⟩ rfl rfl hl.1 rfl (lv_room (Nat.le_of_ble_eq_true rfl)) dX12_piece_37 ⟨Nat.zero_le _, Nat.zero_le _⟩) (fun hzu_1 H locs hP hD hS => ?_)
    refine lv_if_eq (tgt := 45) hx hb dX12_piece_40 (by decide) (fun c_2 => ?_) (fun c_2 => ?_)
    · have hF := it_t hF c_2
      refine lv_iload_n hx hb dX12_piece_45 rfl (lv_at hl 2 rfl) ?_
      refine lv_if_ne (tgt := 58) hx hb dX12_piece_46 (by decide) (fun c_3 => ?_) (fun c_3 => ?_)
      · have hF := it_f hF c_3
        refine lv_iload_n hx hb dX12_piece_58 rfl (lv_at hl 2 rfl) ?_
        refine lv_iconst (v := 1) hx hb dX12_piece_59 (by decide) ?_
        refine lv_icmp_ne (tgt := 72) hx hb dX12_piece_60 (by decide) (fun c_4 => ?_) (fun c_4 => ?_)
        · have hF := it_f hF c_4
          refine lv_aload_n hx hb dX12_piece_72 rfl (lv_at hl 0 rfl) ?_
          refine lv_iload_n hx hb dX12_piece_73 rfl (lv_at hl 1 rfl) ?_
          obtain ⟨u_5, hu_5, hF⟩ := obd_some hF
          have hPc := hP.sub (ws' := (wd_X12_area cI a0 v0_2 u_1.2 v0_5 v0_12 v0_13 v0_16 v0_17 v0_21 v0_23 v0_24 v0_25 v0_26 v0_29 v0_30 v0_22)) [0, 13] rfl
          have hDc := hD.sub (ws' := (wd_X12_area cI a0 v0_2 u_1.2 v0_5 v0_12 v0_13 v0_16 v0_17 v0_21 v0_23 v0_24 v0_25 v0_26 v0_29 v0_30 v0_22)) [0, 13] rfl rfl
          refine q_calll (wc := (wd_X12_area cI a0 v0_2 u_1.2 v0_5 v0_12 v0_13 v0_16 v0_17 v0_21 v0_23 v0_24 v0_25 v0_26 v0_29 v0_30 v0_22)) (w1 := (wd_X12_area cI a0 v0_2 u_1.2 v0_5 v0_12 v0_13 v0_16 v0_17 v0_21 v0_23 v0_24 v0_25 v0_26 v0_29 v0_30 v0_22)) (ws' := (wd_X12_piece cI a0 v0_2 u_1.2 v0_5 v0_12 v0_13 v0_16 v0_17 v0_21 v0_23 v0_24 v0_25 v0_26 v0_29 v0_30 v0_0 v0_6 v0_7 v0_8 v0_9 v0_10 v0_11 v0_14 v0_15 v0_18 v0_19 v0_20 v0_22)) hP hD hS hA [0, 13] [1, 2, 3, 4, 5, 6, 7, 8, 9, 10, 11, 12] [12, 0, 1, 2, 3, 4, 5, 6, 7, 8, 9, 10, 11, 13] rfl rfl rfl (by decide) rfl rfl (va_runV (As := [.int x1]) (rest := []) ⟨hx, hb, hml, hown, hta⟩ (c_X12_area l dC dI cI H.size a0 v0_2 u_1.2 v0_5 v0_12 v0_13 v0_16 v0_17 v0_21 v0_23 v0_24 v0_25 v0_26 v0_29 v0_30 v0_22 x1 n u_5 hu_5) (cwV 1 hta (ga_V mA1035 mA1036 mA1037 mA814 mA1027) rfl rfl rfl (by decide +kernel) ⟨Nat.le_of_ble_eq_true rfl, Nat.le_of_ble_eq_true rfl⟩) ⟨q_fb, va_recv hK hP (ci := 11) (q0 := 0) rfl rfl, q_ps hPc hK hDc⟩ rfl rfl hl.1 rfl (lv_room (Nat.le_of_ble_eq_true rfl)) dX12_piece_74 ⟨Nat.zero_le _, Nat.zero_le _⟩) (fun H locs hP hD hS => ?_)
          obtain rfl := Option.some.inj hF
          exact W.lret (v := u_5) hx hb hr (fun t ht hW => ⟨⟨u_5, (), rfl, rfl, by rw [ht]; exact hP, va_K.moved hW.alike hK, hD⟩, hS.F ht⟩) hS.2.2 dX12_piece_77
        · have hF := it_t hF c_4
          refine lv_aload_n hx hb dX12_piece_63 rfl (lv_at hl 0 rfl) ?_
          refine lv_iload_n hx hb dX12_piece_64 rfl (lv_at hl 1 rfl) ?_
          obtain ⟨u_6, hu_6, hF⟩ := obd_some hF
          have hPc := hP.sub (ws' := (wd_X12_cornersOf cI a0 v0_2 u_1.2 v0_5 v0_12 v0_13 v0_16 v0_17 v0_21 v0_23 v0_24 v0_25 v0_26 v0_29 v0_30 v0_22)) [0, 13] rfl
          have hDc := hD.sub (ws' := (wd_X12_cornersOf cI a0 v0_2 u_1.2 v0_5 v0_12 v0_13 v0_16 v0_17 v0_21 v0_23 v0_24 v0_25 v0_26 v0_29 v0_30 v0_22)) [0, 13] rfl rfl
          refine q_calli (wc := (wd_X12_cornersOf cI a0 v0_2 u_1.2 v0_5 v0_12 v0_13 v0_16 v0_17 v0_21 v0_23 v0_24 v0_25 v0_26 v0_29 v0_30 v0_22)) (w1 := (wd_X12_cornersOf cI a0 v0_2 u_1.2 v0_5 v0_12 v0_13 v0_16 v0_17 v0_21 v0_23 v0_24 v0_25 v0_26 v0_29 v0_30 v0_22)) (ws' := (wd_X12_piece cI a0 v0_2 u_1.2 v0_5 v0_12 v0_13 v0_16 v0_17 v0_21 v0_23 v0_24 v0_25 v0_26 v0_29 v0_30 v0_0 v0_6 v0_7 v0_8 v0_9 v0_10 v0_11 v0_14 v0_15 v0_18 v0_19 v0_20 v0_22)) hP hD hS hA [0, 13] [1, 2, 3, 4, 5, 6, 7, 8, 9, 10, 11, 12] [12, 0, 1, 2, 3, 4, 5, 6, 7, 8, 9, 10, 11, 13] rfl rfl rfl (by decide) rfl rfl (va_runV (As := [.int x1]) (rest := []) ⟨hx, hb, hml, hown, hta⟩ (c_X12_cornersOf l dC dI cI H.size a0 v0_2 u_1.2 v0_5 v0_12 v0_13 v0_16 v0_17 v0_21 v0_23 v0_24 v0_25 v0_26 v0_29 v0_30 v0_22 x1 u_6 hu_6) (cwV 1 hta (ga_V mA1019 mA1020 mA1021 mA814 mA1014) rfl rfl rfl (by decide +kernel) ⟨Nat.le_of_ble_eq_true rfl, Nat.le_of_ble_eq_true rfl⟩) ⟨q_fb, va_recv hK hP (ci := 11) (q0 := 0) rfl rfl, q_ps hPc hK hDc⟩ rfl rfl hl.1 rfl (lv_room (Nat.le_of_ble_eq_true rfl)) dX12_piece_65 ⟨Nat.zero_le _, Nat.zero_le _⟩) (fun H locs hP hD hS => ?_)
          refine lv_i2l hx hb dX12_piece_68 rfl ?_
          refine lv_goto (tgt := 77) hx hb dX12_piece_69 (by decide) ?_
          obtain rfl := Option.some.inj hF
          exact W.lret (v := u_6.toInt64) hx hb hr (fun t ht hW => ⟨⟨u_6.toInt64, (), rfl, rfl, by rw [ht]; exact hP, va_K.moved hW.alike hK, hD⟩, hS.F ht⟩) hS.2.2 dX12_piece_77
      · have hF := it_t hF c_3
        refine lv_aload_n hx hb dX12_piece_49 rfl (lv_at hl 0 rfl) ?_
        refine lv_iload_n hx hb dX12_piece_50 rfl (lv_at hl 1 rfl) ?_
        obtain ⟨u_7, hu_7, hF⟩ := obd_some hF
        have hPc := hP.sub (ws' := (wd_X12_kindOf cI a0 v0_2 u_1.2 v0_5 v0_12 v0_13 v0_16 v0_17 v0_21 v0_23 v0_24 v0_25 v0_26 v0_29 v0_30 v0_22)) [0, 13] rfl
        have hDc := hD.sub (ws' := (wd_X12_kindOf cI a0 v0_2 u_1.2 v0_5 v0_12 v0_13 v0_16 v0_17 v0_21 v0_23 v0_24 v0_25 v0_26 v0_29 v0_30 v0_22)) [0, 13] rfl rfl
        refine q_calli (wc := (wd_X12_kindOf cI a0 v0_2 u_1.2 v0_5 v0_12 v0_13 v0_16 v0_17 v0_21 v0_23 v0_24 v0_25 v0_26 v0_29 v0_30 v0_22)) (w1 := (wd_X12_kindOf cI a0 v0_2 u_1.2 v0_5 v0_12 v0_13 v0_16 v0_17 v0_21 v0_23 v0_24 v0_25 v0_26 v0_29 v0_30 v0_22)) (ws' := (wd_X12_piece cI a0 v0_2 u_1.2 v0_5 v0_12 v0_13 v0_16 v0_17 v0_21 v0_23 v0_24 v0_25 v0_26 v0_29 v0_30 v0_0 v0_6 v0_7 v0_8 v0_9 v0_10 v0_11 v0_14 v0_15 v0_18 v0_19 v0_20 v0_22)) hP hD hS hA [0, 13] [1, 2, 3, 4, 5, 6, 7, 8, 9, 10, 11, 12] [12, 0, 1, 2, 3, 4, 5, 6, 7, 8, 9, 10, 11, 13] rfl rfl rfl (by decide) rfl rfl (va_runV (As := [.int x1]) (rest := []) ⟨hx, hb, hml, hown, hta⟩ (c_X12_kindOf l dC dI cI H.size a0 v0_2 u_1.2 v0_5 v0_12 v0_13 v0_16 v0_17 v0_21 v0_23 v0_24 v0_25 v0_26 v0_29 v0_30 v0_22 x1 u_7 hu_7) (cwV 1 hta (ga_V mA1015 mA1016 mA1017 mA814 mA1013) rfl rfl rfl (by decide +kernel) ⟨Nat.le_of_ble_eq_true rfl, Nat.le_of_ble_eq_true rfl⟩) ⟨q_fb, va_recv hK hP (ci := 11) (q0 := 0) rfl rfl, q_ps hPc hK hDc⟩ rfl rfl hl.1 rfl (lv_room (Nat.le_of_ble_eq_true rfl)) dX12_piece_51 ⟨Nat.zero_le _, Nat.zero_le _⟩) (fun H locs hP hD hS => ?_)
        refine lv_i2l hx hb dX12_piece_54 rfl ?_
        refine lv_goto (tgt := 77) hx hb dX12_piece_55 (by decide) ?_
        obtain rfl := Option.some.inj hF
        exact W.lret (v := u_7.toInt64) hx hb hr (fun t ht hW => ⟨⟨u_7.toInt64, (), rfl, rfl, by rw [ht]; exact hP, va_K.moved hW.alike hK, hD⟩, hS.F ht⟩) hS.2.2 dX12_piece_77
    · have hF := it_f hF c_2
      refine lv_lconst (v := 0) hx hb dX12_piece_43 (by decide) ?_
      obtain rfl := Option.some.inj hF
      exact W.lret (v := 0) hx hb hr (fun t ht hW => ⟨⟨0, (), rfl, rfl, by rw [ht]; exact hP, va_K.moved hW.alike hK, hD⟩, hS.F ht⟩) hS.2.2 dX12_piece_44
  refine lv_aload_n hx hb dX12_piece_0 rfl (lv_at hl 0 rfl) ?_
  obtain ⟨u_8, hu_8, hF⟩ := obd_some hF
  have hPc := hP.sub (ws' := (wd_X12_laysPieces cI a0 v0_2 v0_3 v0_5 v0_12 v0_13 v0_16 v0_17 v0_21 v0_23 v0_24 v0_25 v0_26 v0_29 v0_30 v0_0 v0_6 v0_7 v0_8 v0_9 v0_10 v0_11 v0_14 v0_15 v0_18 v0_19 v0_20 v0_22)) [0, 1, 2, 3, 4, 5, 6, 7, 8, 9, 10, 11, 12, 13] rfl
  have hDc := hD.sub (ws' := (wd_X12_laysPieces cI a0 v0_2 v0_3 v0_5 v0_12 v0_13 v0_16 v0_17 v0_21 v0_23 v0_24 v0_25 v0_26 v0_29 v0_30 v0_0 v0_6 v0_7 v0_8 v0_9 v0_10 v0_11 v0_14 v0_15 v0_18 v0_19 v0_20 v0_22)) [0, 1, 2, 3, 4, 5, 6, 7, 8, 9, 10, 11, 12, 13] rfl rfl
  refine q_callv (wc := (wd_X12_laysPieces cI a0 v0_2 v0_3 v0_5 v0_12 v0_13 v0_16 v0_17 v0_21 v0_23 v0_24 v0_25 v0_26 v0_29 v0_30 v0_0 v0_6 v0_7 v0_8 v0_9 v0_10 v0_11 v0_14 v0_15 v0_18 v0_19 v0_20 v0_22)) (w1 := (wd_X12_laysPieces cI a0 v0_2 v0_3 v0_5 u_8.1 u_8.2.1 u_8.2.2.1 u_8.2.2.2.1 u_8.2.2.2.2.1 u_8.2.2.2.2.2.1 v0_24 v0_25 v0_26 v0_29 v0_30 v0_0 u_8.2.2.2.2.2.2.1 u_8.2.2.2.2.2.2.2.1 u_8.2.2.2.2.2.2.2.2.1 u_8.2.2.2.2.2.2.2.2.2.1 u_8.2.2.2.2.2.2.2.2.2.2.1 u_8.2.2.2.2.2.2.2.2.2.2.2.1 u_8.2.2.2.2.2.2.2.2.2.2.2.2.1 u_8.2.2.2.2.2.2.2.2.2.2.2.2.2.1 u_8.2.2.2.2.2.2.2.2.2.2.2.2.2.2.1 u_8.2.2.2.2.2.2.2.2.2.2.2.2.2.2.2.1 u_8.2.2.2.2.2.2.2.2.2.2.2.2.2.2.2.2.1 u_8.2.2.2.2.2.2.2.2.2.2.2.2.2.2.2.2.2)) (ws' := (wd_X12_piece cI a0 v0_2 v0_3 v0_5 u_8.1 u_8.2.1 u_8.2.2.1 u_8.2.2.2.1 u_8.2.2.2.2.1 u_8.2.2.2.2.2.1 v0_24 v0_25 v0_26 v0_29 v0_30 v0_0 u_8.2.2.2.2.2.2.1 u_8.2.2.2.2.2.2.2.1 u_8.2.2.2.2.2.2.2.2.1 u_8.2.2.2.2.2.2.2.2.2.1 u_8.2.2.2.2.2.2.2.2.2.2.1 u_8.2.2.2.2.2.2.2.2.2.2.2.1 u_8.2.2.2.2.2.2.2.2.2.2.2.2.1 u_8.2.2.2.2.2.2.2.2.2.2.2.2.2.1 u_8.2.2.2.2.2.2.2.2.2.2.2.2.2.2.1 u_8.2.2.2.2.2.2.2.2.2.2.2.2.2.2.2.1 u_8.2.2.2.2.2.2.2.2.2.2.2.2.2.2.2.2.1 u_8.2.2.2.2.2.2.2.2.2.2.2.2.2.2.2.2.2)) hP hD hS hA [0, 1, 2, 3, 4, 5, 6, 7, 8, 9, 10, 11, 12, 13] [] [0, 1, 2, 3, 4, 5, 6, 7, 8, 9, 10, 11, 12, 13] rfl rfl rfl (by decide) rfl rfl (va_runV (As := []) (rest := []) ⟨hx, hb, hml, hown, hta⟩ (c_X12_laysPieces l dC dI cI H.size a0 v0_2 v0_3 v0_5 v0_12 v0_13 v0_16 v0_17 v0_21 v0_23 v0_24 v0_25 v0_26 v0_29 v0_30 v0_0 v0_6 v0_7 v0_8 v0_9 v0_10 v0_11 v0_14 v0_15 v0_18 v0_19 v0_20 v0_22 n u_8 hu_8) (cwV 0 hta (ga_V mA1024 mA1025 mA1026 mA814 mA1006) rfl rfl rfl (by decide +kernel) ⟨Nat.le_of_ble_eq_true rfl, Nat.le_of_ble_eq_true rfl⟩) ⟨q_fb, va_recv hK hP (ci := 11) (q0 := 0) rfl rfl, q_ps hPc hK hDc⟩ rfl rfl hl.1 rfl (lv_room (Nat.le_of_ble_eq_true rfl)) dX12_piece_1 ⟨Nat.zero_le _, Nat.zero_le _⟩) (fun H locs hP hD hS => ?_)
  refine lv_aload_n hx hb dX12_piece_4 rfl (lv_at hl 0 rfl) ?_
  refine lv_iload_n hx hb dX12_piece_5 rfl (lv_at hl 1 rfl) ?_
  refine lv_iconst (v := 0) hx hb dX12_piece_6 (by decide) ?_
  refine lv_aload_n hx hb dX12_piece_7 rfl (lv_at hl 0 rfl) ?_
  refine va_get (D := (dC, dI)) (ci := 11) (v := .int u_8.2.2.2.2.2.1) (C := RX12) (T := TX12) (N := 31) hx hb hta uw_X12 hown hK hP 0 rfl rfl 23 (by decide) (hta _ mA953) (fun _ h9 => h9) rfl dX12_piece_8 ?_
  refine lv_iconst (v := 1) hx hb dX12_piece_11 (by decide) ?_
  refine lv_isub hx hb dX12_piece_12 ?_
  obtain ⟨u_9, hu_9, hF⟩ := lt_some hF
  have hPc := hP.sub (ws' := ([] : va_W)) [] rfl
  have hDc := hD.sub (ws' := ([] : va_W)) [] rfl rfl
  refine q_callz (wc := ([] : va_W)) (w1 := ([] : va_W)) (ws' := (wd_X12_piece cI a0 v0_2 v0_3 v0_5 u_8.1 u_8.2.1 u_8.2.2.1 u_8.2.2.2.1 u_8.2.2.2.2.1 u_8.2.2.2.2.2.1 v0_24 v0_25 v0_26 v0_29 v0_30 v0_0 u_8.2.2.2.2.2.2.1 u_8.2.2.2.2.2.2.2.1 u_8.2.2.2.2.2.2.2.2.1 u_8.2.2.2.2.2.2.2.2.2.1 u_8.2.2.2.2.2.2.2.2.2.2.1 u_8.2.2.2.2.2.2.2.2.2.2.2.1 u_8.2.2.2.2.2.2.2.2.2.2.2.2.1 u_8.2.2.2.2.2.2.2.2.2.2.2.2.2.1 u_8.2.2.2.2.2.2.2.2.2.2.2.2.2.2.1 u_8.2.2.2.2.2.2.2.2.2.2.2.2.2.2.2.1 u_8.2.2.2.2.2.2.2.2.2.2.2.2.2.2.2.2.1 u_8.2.2.2.2.2.2.2.2.2.2.2.2.2.2.2.2.2)) hP hD hS hA [] [0, 1, 2, 3, 4, 5, 6, 7, 8, 9, 10, 11, 12, 13] [0, 1, 2, 3, 4, 5, 6, 7, 8, 9, 10, 11, 12, 13] rfl rfl rfl (by decide) rfl rfl (va_runS (As := [.int p1, .int 0, .int (u_8.2.2.2.2.2.1 - 1)]) (rest := [.ref (a0 0)]) ⟨hx, hb, hml, hown, hta⟩ (c_X12_within l dC dI cI H.size p1 0 (u_8.2.2.2.2.2.1 - 1) u_9 hu_9.symm) (va_cwS 3 hta (ga_S mA812 mA813 mA814 mA810) rfl rfl rfl (by decide +kernel) ⟨Nat.le_of_ble_eq_true rfl, Nat.le_of_ble_eq_true rfl⟩) ⟨q_fb, q_ps hPc hK hDc⟩ rfl rfl hl.1 rfl (lv_room (Nat.le_of_ble_eq_true rfl)) dX12_piece_13 ⟨Nat.zero_le _, Nat.zero_le _⟩) (fun hzu_9 H locs hP hD hS => ?_)
  refine lv_if_ne (tgt := 23) hx hb dX12_piece_16 (by decide) (fun c_10 => ?_) (fun c_10 => ?_)
  · have hF := it_f hF c_10
    refine lv_iload_n hx hb dX12_piece_23 rfl (lv_at hl 2 rfl) ?_
    refine lv_iconst (v := 0) hx hb dX12_piece_24 (by decide) ?_
    refine lv_iconst (v := 2) hx hb dX12_piece_25 (by decide) ?_
    obtain ⟨u_11, hu_11, hF⟩ := lt_some hF
    have hPc := hP.sub (ws' := ([] : va_W)) [] rfl
    have hDc := hD.sub (ws' := ([] : va_W)) [] rfl rfl
    refine q_callz (wc := ([] : va_W)) (w1 := ([] : va_W)) (ws' := (wd_X12_piece cI a0 v0_2 v0_3 v0_5 u_8.1 u_8.2.1 u_8.2.2.1 u_8.2.2.2.1 u_8.2.2.2.2.1 u_8.2.2.2.2.2.1 v0_24 v0_25 v0_26 v0_29 v0_30 v0_0 u_8.2.2.2.2.2.2.1 u_8.2.2.2.2.2.2.2.1 u_8.2.2.2.2.2.2.2.2.1 u_8.2.2.2.2.2.2.2.2.2.1 u_8.2.2.2.2.2.2.2.2.2.2.1 u_8.2.2.2.2.2.2.2.2.2.2.2.1 u_8.2.2.2.2.2.2.2.2.2.2.2.2.1 u_8.2.2.2.2.2.2.2.2.2.2.2.2.2.1 u_8.2.2.2.2.2.2.2.2.2.2.2.2.2.2.1 u_8.2.2.2.2.2.2.2.2.2.2.2.2.2.2.2.1 u_8.2.2.2.2.2.2.2.2.2.2.2.2.2.2.2.2.1 u_8.2.2.2.2.2.2.2.2.2.2.2.2.2.2.2.2.2)) hP hD hS hA [] [0, 1, 2, 3, 4, 5, 6, 7, 8, 9, 10, 11, 12, 13] [0, 1, 2, 3, 4, 5, 6, 7, 8, 9, 10, 11, 12, 13] rfl rfl rfl (by decide) rfl rfl (va_runS (As := [.int p2, .int 0, .int 2]) (rest := [.ref (a0 0)]) ⟨hx, hb, hml, hown, hta⟩ (c_X12_within l dC dI cI H.size p2 0 2 u_11 hu_11.symm) (va_cwS 3 hta (ga_S mA812 mA813 mA814 mA810) rfl rfl rfl (by decide +kernel) ⟨Nat.le_of_ble_eq_true rfl, Nat.le_of_ble_eq_true rfl⟩) ⟨q_fb, q_ps hPc hK hDc⟩ rfl rfl hl.1 rfl (lv_room (Nat.le_of_ble_eq_true rfl)) dX12_piece_26 ⟨Nat.zero_le _, Nat.zero_le _⟩) (fun hzu_11 H locs hP hD hS => ?_)
    refine lv_if_eq (tgt := 36) hx hb dX12_piece_29 (by decide) (fun c_12 => ?_) (fun c_12 => ?_)
    · have hF := it_t hF c_12
      refine lv_iconst (v := 2) hx hb dX12_piece_36 (by decide) ?_
      exact j37 v0_3 u_8.1 u_8.2.1 u_8.2.2.1 u_8.2.2.2.1 u_8.2.2.2.2.1 u_8.2.2.2.2.2.1 u_8.2.2.2.2.2.2.1 u_8.2.2.2.2.2.2.2.1 u_8.2.2.2.2.2.2.2.2.1 u_8.2.2.2.2.2.2.2.2.2.1 u_8.2.2.2.2.2.2.2.2.2.2.1 u_8.2.2.2.2.2.2.2.2.2.2.2.1 u_8.2.2.2.2.2.2.2.2.2.2.2.2.1 u_8.2.2.2.2.2.2.2.2.2.2.2.2.2.1 u_8.2.2.2.2.2.2.2.2.2.2.2.2.2.2.1 u_8.2.2.2.2.2.2.2.2.2.2.2.2.2.2.2.1 u_8.2.2.2.2.2.2.2.2.2.2.2.2.2.2.2.2.1 u_8.2.2.2.2.2.2.2.2.2.2.2.2.2.2.2.2.2 p1 p2 2 hF _ _ _ hP hD hS (lv_sub hl [0, 1, 2] rfl)
    · have hF := it_f hF c_12
      refine lv_iconst (v := 0) hx hb dX12_piece_32 (by decide) ?_
      refine lv_goto (tgt := 37) hx hb dX12_piece_33 (by decide) ?_
      exact j37 v0_3 u_8.1 u_8.2.1 u_8.2.2.1 u_8.2.2.2.1 u_8.2.2.2.2.1 u_8.2.2.2.2.2.1 u_8.2.2.2.2.2.2.1 u_8.2.2.2.2.2.2.2.1 u_8.2.2.2.2.2.2.2.2.1 u_8.2.2.2.2.2.2.2.2.2.1 u_8.2.2.2.2.2.2.2.2.2.2.1 u_8.2.2.2.2.2.2.2.2.2.2.2.1 u_8.2.2.2.2.2.2.2.2.2.2.2.2.1 u_8.2.2.2.2.2.2.2.2.2.2.2.2.2.1 u_8.2.2.2.2.2.2.2.2.2.2.2.2.2.2.1 u_8.2.2.2.2.2.2.2.2.2.2.2.2.2.2.2.1 u_8.2.2.2.2.2.2.2.2.2.2.2.2.2.2.2.2.1 u_8.2.2.2.2.2.2.2.2.2.2.2.2.2.2.2.2.2 p1 p2 0 hF _ _ _ hP hD hS (lv_sub hl [0, 1, 2] rfl)
  · have hF := it_t hF c_10
    refine lv_iconst (v := 1) hx hb dX12_piece_19 (by decide) ?_
    refine lv_goto (tgt := 37) hx hb dX12_piece_20 (by decide) ?_
    exact j37 v0_3 u_8.1 u_8.2.1 u_8.2.2.1 u_8.2.2.2.1 u_8.2.2.2.2.1 u_8.2.2.2.2.2.1 u_8.2.2.2.2.2.2.1 u_8.2.2.2.2.2.2.2.1 u_8.2.2.2.2.2.2.2.2.1 u_8.2.2.2.2.2.2.2.2.2.1 u_8.2.2.2.2.2.2.2.2.2.2.1 u_8.2.2.2.2.2.2.2.2.2.2.2.1 u_8.2.2.2.2.2.2.2.2.2.2.2.2.1 u_8.2.2.2.2.2.2.2.2.2.2.2.2.2.1 u_8.2.2.2.2.2.2.2.2.2.2.2.2.2.2.1 u_8.2.2.2.2.2.2.2.2.2.2.2.2.2.2.2.1 u_8.2.2.2.2.2.2.2.2.2.2.2.2.2.2.2.2.1 u_8.2.2.2.2.2.2.2.2.2.2.2.2.2.2.2.2.2 p1 p2 1 hF _ _ _ hP hD hS (lv_sub hl [0, 1, 2] rfl)

-- StrokeOutlinerModel.corner(IIZ)I
def F_X12_corner_j39 (v0_12 : Int32) (v0_13 : Int32) (v0_16 : Int32) (v0_17 : Int32) (v0_21 : Int32) (v0_23 : Int32) (v0_6 : Nat → Int32) (v0_7 : Nat → Int32) (v0_8 : Nat → Int32) (v0_9 : Nat → Int32) (v0_10 : Nat → Int32) (v0_11 : Nat → Int32) (v0_14 : Nat → Int32) (v0_15 : Nat → Int32) (v0_18 : Nat → Int32) (v0_19 : Nat → Int32) (v0_20 : Nat → Int32) (v0_22 : Nat → Int32) (x1 : Int32) (x2 : Int32) (x3 : Int32) (t1 : Int32) : Option (Int32 × Int32 × Int32 × Int32 × Int32 × Int32 × Int32 × Int32 × (Nat → Int32) × (Nat → Int32) × (Nat → Int32) × (Nat → Int32) × (Nat → Int32) × (Nat → Int32) × (Nat → Int32) × (Nat → Int32) × (Nat → Int32) × (Nat → Int32) × (Nat → Int32) × (Nat → Int32)) :=
  lt (F_X12_refused t1) (fun u_1 => if u_1.1 = 0 then if x3 = 0 then obd (F_X12_cornerX v0_22 x1 x2) (fun u_4 => some (u_4, u_1.2, v0_12, v0_13, v0_16, v0_17, v0_21, v0_23, v0_6, v0_7, v0_8, v0_9, v0_10, v0_11, v0_14, v0_15, v0_18, v0_19, v0_20, v0_22)) else obd (F_X12_cornerY v0_22 x1 x2) (fun u_5 => some (u_5, u_1.2, v0_12, v0_13, v0_16, v0_17, v0_21, v0_23, v0_6, v0_7, v0_8, v0_9, v0_10, v0_11, v0_14, v0_15, v0_18, v0_19, v0_20, v0_22)) else some (0, u_1.2, v0_12, v0_13, v0_16, v0_17, v0_21, v0_23, v0_6, v0_7, v0_8, v0_9, v0_10, v0_11, v0_14, v0_15, v0_18, v0_19, v0_20, v0_22))
def F_X12_corner_j38 (v0_12 : Int32) (v0_13 : Int32) (v0_16 : Int32) (v0_17 : Int32) (v0_21 : Int32) (v0_23 : Int32) (v0_6 : Nat → Int32) (v0_7 : Nat → Int32) (v0_8 : Nat → Int32) (v0_9 : Nat → Int32) (v0_10 : Nat → Int32) (v0_11 : Nat → Int32) (v0_14 : Nat → Int32) (v0_15 : Nat → Int32) (v0_18 : Nat → Int32) (v0_19 : Nat → Int32) (v0_20 : Nat → Int32) (v0_22 : Nat → Int32) (x1 : Int32) (x2 : Int32) (x3 : Int32) : Option (Int32 × Int32 × Int32 × Int32 × Int32 × Int32 × Int32 × Int32 × (Nat → Int32) × (Nat → Int32) × (Nat → Int32) × (Nat → Int32) × (Nat → Int32) × (Nat → Int32) × (Nat → Int32) × (Nat → Int32) × (Nat → Int32) × (Nat → Int32) × (Nat → Int32) × (Nat → Int32)) :=
  F_X12_corner_j39 v0_12 v0_13 v0_16 v0_17 v0_21 v0_23 v0_6 v0_7 v0_8 v0_9 v0_10 v0_11 v0_14 v0_15 v0_18 v0_19 v0_20 v0_22 x1 x2 x3 1
def F_X12_corner (n : Nat) (v0_12 : Int32) (v0_13 : Int32) (v0_16 : Int32) (v0_17 : Int32) (v0_21 : Int32) (v0_0 : Nat → Int32) (v0_6 : Nat → Int32) (v0_7 : Nat → Int32) (v0_8 : Nat → Int32) (v0_9 : Nat → Int32) (v0_10 : Nat → Int32) (v0_11 : Nat → Int32) (v0_14 : Nat → Int32) (v0_15 : Nat → Int32) (v0_18 : Nat → Int32) (v0_19 : Nat → Int32) (v0_20 : Nat → Int32) (v0_22 : Nat → Int32) (p1 : Int32) (p2 : Int32) (p3 : Int32) : Option (Int32 × Int32 × Int32 × Int32 × Int32 × Int32 × Int32 × Int32 × (Nat → Int32) × (Nat → Int32) × (Nat → Int32) × (Nat → Int32) × (Nat → Int32) × (Nat → Int32) × (Nat → Int32) × (Nat → Int32) × (Nat → Int32) × (Nat → Int32) × (Nat → Int32) × (Nat → Int32)) :=
  obd (F_X12_laysPieces n v0_12 v0_13 v0_16 v0_17 v0_21 v0_0 v0_6 v0_7 v0_8 v0_9 v0_10 v0_11 v0_14 v0_15 v0_18 v0_19 v0_20 v0_22) (fun u_6 => lt (F_X12_within p1 0 (u_6.2.2.2.2.2.1 - 1)) (fun u_7 => if u_7 = 0 then F_X12_corner_j38 u_6.1 u_6.2.1 u_6.2.2.1 u_6.2.2.2.1 u_6.2.2.2.2.1 u_6.2.2.2.2.2.1 u_6.2.2.2.2.2.2.1 u_6.2.2.2.2.2.2.2.1 u_6.2.2.2.2.2.2.2.2.1 u_6.2.2.2.2.2.2.2.2.2.1 u_6.2.2.2.2.2.2.2.2.2.2.1 u_6.2.2.2.2.2.2.2.2.2.2.2.1 u_6.2.2.2.2.2.2.2.2.2.2.2.2.1 u_6.2.2.2.2.2.2.2.2.2.2.2.2.2.1 u_6.2.2.2.2.2.2.2.2.2.2.2.2.2.2.1 u_6.2.2.2.2.2.2.2.2.2.2.2.2.2.2.2.1 u_6.2.2.2.2.2.2.2.2.2.2.2.2.2.2.2.2.1 u_6.2.2.2.2.2.2.2.2.2.2.2.2.2.2.2.2.2 p1 p2 p3 else obd (F_X12_cornersOf u_6.2.2.2.2.2.2.2.2.2.2.2.2.2.2.2.2.2 p1) (fun u_9 => lt (F_X12_within p2 0 (u_9 - 1)) (fun u_10 => if u_10 = 0 then F_X12_corner_j38 u_6.1 u_6.2.1 u_6.2.2.1 u_6.2.2.2.1 u_6.2.2.2.2.1 u_6.2.2.2.2.2.1 u_6.2.2.2.2.2.2.1 u_6.2.2.2.2.2.2.2.1 u_6.2.2.2.2.2.2.2.2.1 u_6.2.2.2.2.2.2.2.2.2.1 u_6.2.2.2.2.2.2.2.2.2.2.1 u_6.2.2.2.2.2.2.2.2.2.2.2.1 u_6.2.2.2.2.2.2.2.2.2.2.2.2.1 u_6.2.2.2.2.2.2.2.2.2.2.2.2.2.1 u_6.2.2.2.2.2.2.2.2.2.2.2.2.2.2.1 u_6.2.2.2.2.2.2.2.2.2.2.2.2.2.2.2.1 u_6.2.2.2.2.2.2.2.2.2.2.2.2.2.2.2.2.1 u_6.2.2.2.2.2.2.2.2.2.2.2.2.2.2.2.2.2 p1 p2 p3 else F_X12_corner_j39 u_6.1 u_6.2.1 u_6.2.2.1 u_6.2.2.2.1 u_6.2.2.2.2.1 u_6.2.2.2.2.2.1 u_6.2.2.2.2.2.2.1 u_6.2.2.2.2.2.2.2.1 u_6.2.2.2.2.2.2.2.2.1 u_6.2.2.2.2.2.2.2.2.2.1 u_6.2.2.2.2.2.2.2.2.2.2.1 u_6.2.2.2.2.2.2.2.2.2.2.2.1 u_6.2.2.2.2.2.2.2.2.2.2.2.2.1 u_6.2.2.2.2.2.2.2.2.2.2.2.2.2.1 u_6.2.2.2.2.2.2.2.2.2.2.2.2.2.2.1 u_6.2.2.2.2.2.2.2.2.2.2.2.2.2.2.2.1 u_6.2.2.2.2.2.2.2.2.2.2.2.2.2.2.2.2.1 u_6.2.2.2.2.2.2.2.2.2.2.2.2.2.2.2.2.2 p1 p2 p3 0))))
abbrev wd_X12_corner (cI : ClassId) (a0 : Nat → Nat) (v0_2 : Int32) (v0_3 : Int32) (v0_5 : Int32) (v0_12 : Int32) (v0_13 : Int32) (v0_16 : Int32) (v0_17 : Int32) (v0_21 : Int32) (v0_23 : Int32) (v0_24 : Int32) (v0_25 : Int32) (v0_26 : Int32) (v0_29 : Int32) (v0_30 : Int64) (v0_0 : Nat → Int32) (v0_6 : Nat → Int32) (v0_7 : Nat → Int32) (v0_8 : Nat → Int32) (v0_9 : Nat → Int32) (v0_10 : Nat → Int32) (v0_11 : Nat → Int32) (v0_14 : Nat → Int32) (v0_15 : Nat → Int32) (v0_18 : Nat → Int32) (v0_19 : Nat → Int32) (v0_20 : Nat → Int32) (v0_22 : Nat → Int32) : va_W := [(a0 0, .inr (11, [.ref (a0 1), .ref (a0 2), .int v0_2, .int v0_3, .ref (a0 5), .int v0_5, .ref (a0 7), .ref (a0 8), .ref (a0 9), .ref (a0 10), .ref (a0 11), .ref (a0 12), .int v0_12, .int v0_13, .ref (a0 15), .ref (a0 16), .int v0_16, .int v0_17, .ref (a0 19), .ref (a0 20), .ref (a0 21), .int v0_21, .ref (a0 23), .int v0_23, .int v0_24, .int v0_25, .int v0_26, .ref (a0 28), .ref (a0 29), .int v0_29, .long v0_30])), (a0 1, .inl (cI, 86, .inl v0_0)), (a0 7, .inl (cI, 8, .inl v0_6)), (a0 8, .inl (cI, 8, .inl v0_7)), (a0 9, .inl (cI, 8, .inl v0_8)), (a0 10, .inl (cI, 8, .inl v0_9)), (a0 11, .inl (cI, 8, .inl v0_10)), (a0 12, .inl (cI, 8, .inl v0_11)), (a0 15, .inl (cI, 240, .inl v0_14)), (a0 16, .inl (cI, 240, .inl v0_15)), (a0 19, .inl (cI, 20, .inl v0_18)), (a0 20, .inl (cI, 20, .inl v0_19)), (a0 21, .inl (cI, 20, .inl v0_20)), (a0 23, .inl (cI, 27000, .inl v0_22))]
abbrev wz_X12_corner : List Cond := .code yX12_corner cX12_corner 4 (some .int) :: wALL
abbrev rm_X12_corner : Room := { frames := 6, cells := 0, slots := 0, locals := 138 }
abbrev Q_X12_corner (dC : Nat → ClassId) (dI : Nat → Nat → Nat) (cI : ClassId) (a0 : Nat → Nat) (v0_2 : Int32) (v0_5 : Int32) (v0_24 : Int32) (v0_25 : Int32) (v0_26 : Int32) (v0_29 : Int32) (v0_30 : Int64) (v0_0 : Nat → Int32) (u : (Int32 × Int32 × Int32 × Int32 × Int32 × Int32 × Int32 × Int32 × (Nat → Int32) × (Nat → Int32) × (Nat → Int32) × (Nat → Int32) × (Nat → Int32) × (Nat → Int32) × (Nat → Int32) × (Nat → Int32) × (Nat → Int32) × (Nat → Int32) × (Nat → Int32) × (Nat → Int32))) (A : Nat → Prop) : Array Value → State → Outcome → State → Prop := va_Qi (fun (r : Int32) (_ : Unit) => r = u.1) (fun _ => q_at dC dI cI A (wd_X12_corner cI a0 v0_2 u.2.1 v0_5 u.2.2.1 u.2.2.2.1 u.2.2.2.2.1 u.2.2.2.2.2.1 u.2.2.2.2.2.2.1 u.2.2.2.2.2.2.2.1 v0_24 v0_25 v0_26 v0_29 v0_30 v0_0 u.2.2.2.2.2.2.2.2.1 u.2.2.2.2.2.2.2.2.2.1 u.2.2.2.2.2.2.2.2.2.2.1 u.2.2.2.2.2.2.2.2.2.2.2.1 u.2.2.2.2.2.2.2.2.2.2.2.2.1 u.2.2.2.2.2.2.2.2.2.2.2.2.2.1 u.2.2.2.2.2.2.2.2.2.2.2.2.2.2.1 u.2.2.2.2.2.2.2.2.2.2.2.2.2.2.2.1 u.2.2.2.2.2.2.2.2.2.2.2.2.2.2.2.2.1 u.2.2.2.2.2.2.2.2.2.2.2.2.2.2.2.2.2.1 u.2.2.2.2.2.2.2.2.2.2.2.2.2.2.2.2.2.2.1 u.2.2.2.2.2.2.2.2.2.2.2.2.2.2.2.2.2.2.2)) A
set_option maxHeartbeats 4000000 in
set_option maxRecDepth 100000 in
theorem c_X12_corner (l : Launch) (dC : Nat → ClassId) (dI : Nat → Nat → Nat) (cI : ClassId) (sz : Nat) (a0 : Nat → Nat) (v0_2 : Int32) (v0_3 : Int32) (v0_5 : Int32) (v0_12 : Int32) (v0_13 : Int32) (v0_16 : Int32) (v0_17 : Int32) (v0_21 : Int32) (v0_23 : Int32) (v0_24 : Int32) (v0_25 : Int32) (v0_26 : Int32) (v0_29 : Int32) (v0_30 : Int64) (v0_0 : Nat → Int32) (v0_6 : Nat → Int32) (v0_7 : Nat → Int32) (v0_8 : Nat → Int32) (v0_9 : Nat → Int32) (v0_10 : Nat → Int32) (v0_11 : Nat → Int32) (v0_14 : Nat → Int32) (v0_15 : Nat → Int32) (v0_18 : Nat → Int32) (v0_19 : Nat → Int32) (v0_20 : Nat → Int32) (v0_22 : Nat → Int32) (p1 : Int32) (p2 : Int32) (p3 : Int32) (n : Nat) (u : (Int32 × Int32 × Int32 × Int32 × Int32 × Int32 × Int32 × Int32 × (Nat → Int32) × (Nat → Int32) × (Nat → Int32) × (Nat → Int32) × (Nat → Int32) × (Nat → Int32) × (Nat → Int32) × (Nat → Int32) × (Nat → Int32) × (Nat → Int32) × (Nat → Int32) × (Nat → Int32))) (hF : F_X12_corner n v0_12 v0_13 v0_16 v0_17 v0_21 v0_0 v0_6 v0_7 v0_8 v0_9 v0_10 v0_11 v0_14 v0_15 v0_18 v0_19 v0_20 v0_22 p1 p2 p3 = some u) : Met l yX12_corner wz_X12_corner rm_X12_corner (va_Pc [.ref (a0 0), .int p1, .int p2, .int p3] (q_pre dC dI cI (wd_X12_corner cI a0 v0_2 v0_3 v0_5 v0_12 v0_13 v0_16 v0_17 v0_21 v0_23 v0_24 v0_25 v0_26 v0_29 v0_30 v0_0 v0_6 v0_7 v0_8 v0_9 v0_10 v0_11 v0_14 v0_15 v0_18 v0_19 v0_20 v0_22) sz)) (Q_X12_corner dC dI cI a0 v0_2 v0_5 v0_24 v0_25 v0_26 v0_29 v0_30 v0_0 u (va_A (wd_X12_corner cI a0 v0_2 v0_3 v0_5 v0_12 v0_13 v0_16 v0_17 v0_21 v0_23 v0_24 v0_25 v0_26 v0_29 v0_30 v0_0 v0_6 v0_7 v0_8 v0_9 v0_10 v0_11 v0_14 v0_15 v0_18 v0_19 v0_20 v0_22) sz)) 0 0 (va_A (wd_X12_corner cI a0 v0_2 v0_3 v0_5 v0_12 v0_13 v0_16 v0_17 v0_21 v0_23 v0_24 v0_25 v0_26 v0_29 v0_30 v0_0 v0_6 v0_7 v0_8 v0_9 v0_10 v0_11 v0_14 v0_15 v0_18 v0_19 v0_20 v0_22) sz) := by
  refine Met.ofW (cc := cX12_corner) (maxL := 4) (ret := (some .int)) (by decide) rfl ?_
  intro p e s m args below meth c s₁ B hml hv
  obtain ⟨rfl, hsz, hP, hK, hD0⟩ := hv
  have hx := B.exec
  have hb := B.bytes
  have hr := B.returns
  have hts := atoms_spec (ws := wz_X12_corner) B.pre
  have hta := wz_tl hts
  have hown : s.vm.findClass RX12 = some m.cls := findClass_of_methodNamed B.named
  have hlocks := B.notSynchronized
  subst hsz
  have hD := hD0.self (sz := s.heap.size)
  generalize hAe : va_A (wd_X12_corner cI a0 v0_2 v0_3 v0_5 v0_12 v0_13 v0_16 v0_17 v0_21 v0_23 v0_24 v0_25 v0_26 v0_29 v0_30 v0_0 v0_6 v0_7 v0_8 v0_9 v0_10 v0_11 v0_14 v0_15 v0_18 v0_19 v0_20 v0_22) s.heap.size = A at hD ⊢
  have hA : ∀ q : Nat, s.heap.size ≤ q → A q := fun q h => by rw [← hAe]; exact Or.inr h
  have hS : va_S A s.heap s.heap [] := va_S.rf
  have hP : va_P (dC, dI) vwCl (wd_X12_corner cI a0 v0_2 v0_3 v0_5 v0_12 v0_13 v0_16 v0_17 v0_21 v0_23 v0_24 v0_25 v0_26 v0_29 v0_30 v0_0 v0_6 v0_7 v0_8 v0_9 v0_10 v0_11 v0_14 v0_15 v0_18 v0_19 v0_20 v0_22) s.heap := hP
  have hl := lv_entry ([.ref (a0 0), .int p1, .int p2, .int p3]) (n := 4) (Nat.le_of_ble_eq_true rfl)
  rw [lg_entry_eq]
  generalize (lg_sl ([.ref (a0 0), .int p1, .int p2, .int p3]) ++ List.replicate (4 - (lg_sl ([.ref (a0 0), .int p1, .int p2, .int p3])).length) Slot.unset).toArray = ls at hl ⊢
  have hl : lv_has ls 4 [(0, .ref (a0 0)), (1, .int p1), (2, .int p2), (3, .int p3)] := hl
  obtain ⟨H, hHe⟩ : ∃ H, H = s.heap := ⟨_, rfl⟩
  have hS : va_S A s.heap H [] := by rw [hHe]; exact hS
  have hP : va_P (dC, dI) vwCl (wd_X12_corner cI a0 v0_2 v0_3 v0_5 v0_12 v0_13 v0_16 v0_17 v0_21 v0_23 v0_24 v0_25 v0_26 v0_29 v0_30 v0_0 v0_6 v0_7 v0_8 v0_9 v0_10 v0_11 v0_14 v0_15 v0_18 v0_19 v0_20 v0_22) H := by rw [hHe]; exact hP
  rw [← hHe]
  unfold F_X12_corner at hF
  have j39 : ∀ (v0_3 : Int32) (v0_12 : Int32) (v0_13 : Int32) (v0_16 : Int32) (v0_17 : Int32) (v0_21 : Int32) (v0_23 : Int32) (v0_6 : Nat → Int32) (v0_7 : Nat → Int32) (v0_8 : Nat → Int32) (v0_9 : Nat → Int32) (v0_10 : Nat → Int32) (v0_11 : Nat → Int32) (v0_14 : Nat → Int32) (v0_15 : Nat → Int32) (v0_18 : Nat → Int32) (v0_19 : Nat → Int32) (v0_20 : Nat → Int32) (v0_22 : Nat → Int32) (x1 : Int32) (x2 : Int32) (x3 : Int32) (t1 : Int32), F_X12_corner_j39 v0_12 v0_13 v0_16 v0_17 v0_21 v0_23 v0_6 v0_7 v0_8 v0_9 v0_10 v0_11 v0_14 v0_15 v0_18 v0_19 v0_20 v0_22 x1 x2 x3 t1 = some u → ∀ (H : Heap) (locs : List Loc) (ls : Array Slot), va_P (dC, dI) vwCl (wd_X12_corner cI a0 v0_2 v0_3 v0_5 v0_12 v0_13 v0_16 v0_17 v0_21 v0_23 v0_24 v0_25 v0_26 v0_29 v0_30 v0_0 v0_6 v0_7 v0_8 v0_9 v0_10 v0_11 v0_14 v0_15 v0_18 v0_19 v0_20 v0_22) H → va_D A (wd_X12_corner cI a0 v0_2 v0_3 v0_5 v0_12 v0_13 v0_16 v0_17 v0_21 v0_23 v0_24 v0_25 v0_26 v0_29 v0_30 v0_0 v0_6 v0_7 v0_8 v0_9 v0_10 v0_11 v0_14 v0_15 v0_18 v0_19 v0_20 v0_22) → va_S A s.heap H locs → lv_has ls 4 [(0, .ref (a0 0)), (1, .int x1), (2, .int x2), (3, .int x3)] → W p l e (headSpec wz_X12_corner rm_X12_corner).room s m [.ref (a0 0), .int p1, .int p2, .int p3].toArray below meth c H locs 0 0 (MQ below (Q_X12_corner dC dI cI a0 v0_2 v0_5 v0_24 v0_25 v0_26 v0_29 v0_30 v0_0 u A) [.ref (a0 0), .int p1, .int p2, .int p3].toArray s 0 0 A) (F0 m 39 ls [.int t1, .ref (a0 0)]) := by
    intro v0_3 v0_12 v0_13 v0_16 v0_17 v0_21 v0_23 v0_6 v0_7 v0_8 v0_9 v0_10 v0_11 v0_14 v0_15 v0_18 v0_19 v0_20 v0_22 x1 x2 x3 t1 hF H locs ls hP hD hS hl
    unfold F_X12_corner_j39 at hF
    obtain ⟨u_1, hu_1, hF⟩ := lt_some hF
    have hPc := hP.sub (ws' := (wd_X12_refused cI a0 v0_2 v0_3 v0_5 v0_12 v0_13 v0_16 v0_17 v0_21 v0_23 v0_24 v0_25 v0_26 v0_29 v0_30)) [0] rfl
    have hDc := hD.sub (ws' := (wd_X12_refused cI a0 v0_2 v0_3 v0_5 v0_12 v0_13 v0_16 v0_17 v0_21 v0_23 v0_24 v0_25 v0_26 v0_29 v0_30)) [0] rfl rfl
    refine q_callz (wc := (wd_X12_refused cI a0 v0_2 v0_3 v0_5 v0_12 v0_13 v0_16 v0_17 v0_21 v0_23 v0_24 v0_25 v0_26 v0_29 v0_30)) (w1 := (wd_X12_refused cI a0 v0_2 u_1.2 v0_5 v0_12 v0_13 v0_16 v0_17 v0_21 v0_23 v0_24 v0_25 v0_26 v0_29 v0_30)) (ws' := (wd_X12_corner cI a0 v0_2 u_1.2 v0_5 v0_12 v0_13 v0_16 v0_17 v0_21 v0_23 v0_24 v0_25 v0_26 v0_29 v0_30 v0_0 v0_6 v0_7 v0_8 v0_9 v0_10 v0_11 v0_14 v0_15 v0_18 v0_19 v0_20 v0_22)) hP hD hS hA [0] [1, 2, 3, 4, 5, 6, 7, 8, 9, 10, 11, 12, 13] [13, 0, 1, 2, 3, 4, 5, 6, 7, 8, 9, 10, 11, 12] rfl rfl rfl (by decide) rfl rfl (va_runV (As := [.int t1]) (rest := []) ⟨hx, hb, hml, hown, hta⟩ (c_X12_refused l dC dI cI H.size a0 v0_2 v0_3 v0_5 v0_12 v0_13 v0_16 v0_17 v0_21 v0_23 v0_24 v0_25 v0_26 v0_29 v0_30 t1 u_1 hu_1.symm) (cwV 1 hta (ga_V mA822 mA823 mA824 mA814 mA809) rfl rfl rfl (by decide +kernel) ⟨Nat.le_of_ble_eq_true rfl, Nat.le_of_ble_eq_true rfl⟩) ⟨q_fb, va_recv hK hP (ci := 11) (q0 := 0) rfl rfl, q_ps hPc hK hDc⟩ rfl rfl hl.1 rfl (lv_room (Nat.le_of_ble_eq_true rfl)) dX12_corner_39 ⟨Nat.zero_le _, Nat.zero_le _⟩) (fun hzu_1 H locs hP hD hS => ?_)
    refine lv_if_eq (tgt := 47) hx hb dX12_corner_42 (by decide) (fun c_2 => ?_) (fun c_2 => ?_)
    · have hF := it_t hF c_2
      refine lv_iload_n hx hb dX12_corner_47 rfl (lv_at hl 3 rfl) ?_
      refine lv_if_eq (tgt := 60) hx hb dX12_corner_48 (by decide) (fun c_3 => ?_) (fun c_3 => ?_)
      · have hF := it_t hF c_3
        refine lv_aload_n hx hb dX12_corner_60 rfl (lv_at hl 0 rfl) ?_
        refine lv_iload_n hx hb dX12_corner_61 rfl (lv_at hl 1 rfl) ?_
        refine lv_iload_n hx hb dX12_corner_62 rfl (lv_at hl 2 rfl) ?_
        obtain ⟨u_4, hu_4, hF⟩ := obd_some hF
        have hPc := hP.sub (ws' := (wd_X12_cornerX cI a0 v0_2 u_1.2 v0_5 v0_12 v0_13 v0_16 v0_17 v0_21 v0_23 v0_24 v0_25 v0_26 v0_29 v0_30 v0_22)) [0, 13] rfl
        have hDc := hD.sub (ws' := (wd_X12_cornerX cI a0 v0_2 u_1.2 v0_5 v0_12 v0_13 v0_16 v0_17 v0_21 v0_23 v0_24 v0_25 v0_26 v0_29 v0_30 v0_22)) [0, 13] rfl rfl
        refine q_calli (wc := (wd_X12_cornerX cI a0 v0_2 u_1.2 v0_5 v0_12 v0_13 v0_16 v0_17 v0_21 v0_23 v0_24 v0_25 v0_26 v0_29 v0_30 v0_22)) (w1 := (wd_X12_cornerX cI a0 v0_2 u_1.2 v0_5 v0_12 v0_13 v0_16 v0_17 v0_21 v0_23 v0_24 v0_25 v0_26 v0_29 v0_30 v0_22)) (ws' := (wd_X12_corner cI a0 v0_2 u_1.2 v0_5 v0_12 v0_13 v0_16 v0_17 v0_21 v0_23 v0_24 v0_25 v0_26 v0_29 v0_30 v0_0 v0_6 v0_7 v0_8 v0_9 v0_10 v0_11 v0_14 v0_15 v0_18 v0_19 v0_20 v0_22)) hP hD hS hA [0, 13] [1, 2, 3, 4, 5, 6, 7, 8, 9, 10, 11, 12] [12, 0, 1, 2, 3, 4, 5, 6, 7, 8, 9, 10, 11, 13] rfl rfl rfl (by decide) rfl rfl (va_runV (As := [.int x1, .int x2]) (rest := []) ⟨hx, hb, hml, hown, hta⟩ (c_X12_cornerX l dC dI cI H.size a0 v0_2 u_1.2 v0_5 v0_12 v0_13 v0_16 v0_17 v0_21 v0_23 v0_24 v0_25 v0_26 v0_29 v0_30 v0_22 x1 x2 u_4 hu_4) (cwV 2 hta (ga_V mA1028 mA1029 mA1030 mA814 mA1018) rfl rfl rfl (by decide +kernel) ⟨Nat.le_of_ble_eq_true rfl, Nat.le_of_ble_eq_true rfl⟩) ⟨q_fb, va_recv hK hP (ci := 11) (q0 := 0) rfl rfl, q_ps hPc hK hDc⟩ rfl rfl hl.1 rfl (lv_room (Nat.le_of_ble_eq_true rfl)) dX12_corner_63 ⟨Nat.zero_le _, Nat.zero_le _⟩) (fun H locs hP hD hS => ?_)
        obtain rfl := Option.some.inj hF
        exact W.iret (v := u_4) hx hb hr (fun t ht hW => ⟨⟨u_4, (), rfl, rfl, by rw [ht]; exact hP, va_K.moved hW.alike hK, hD⟩, hS.F ht⟩) hS.2.2 dX12_corner_66
      · have hF := it_f hF c_3
        refine lv_aload_n hx hb dX12_corner_51 rfl (lv_at hl 0 rfl) ?_
        refine lv_iload_n hx hb dX12_corner_52 rfl (lv_at hl 1 rfl) ?_
        refine lv_iload_n hx hb dX12_corner_53 rfl (lv_at hl 2 rfl) ?_
        obtain ⟨u_5, hu_5, hF⟩ := obd_some hF
        have hPc := hP.sub (ws' := (wd_X12_cornerY cI a0 v0_2 u_1.2 v0_5 v0_12 v0_13 v0_16 v0_17 v0_21 v0_23 v0_24 v0_25 v0_26 v0_29 v0_30 v0_22)) [0, 13] rfl
        have hDc := hD.sub (ws' := (wd_X12_cornerY cI a0 v0_2 u_1.2 v0_5 v0_12 v0_13 v0_16 v0_17 v0_21 v0_23 v0_24 v0_25 v0_26 v0_29 v0_30 v0_22)) [0, 13] rfl rfl
        refine q_calli (wc := (wd_X12_cornerY cI a0 v0_2 u_1.2 v0_5 v0_12 v0_13 v0_16 v0_17 v0_21 v0_23 v0_24 v0_25 v0_26 v0_29 v0_30 v0_22)) (w1 := (wd_X12_cornerY cI a0 v0_2 u_1.2 v0_5 v0_12 v0_13 v0_16 v0_17 v0_21 v0_23 v0_24 v0_25 v0_26 v0_29 v0_30 v0_22)) (ws' := (wd_X12_corner cI a0 v0_2 u_1.2 v0_5 v0_12 v0_13 v0_16 v0_17 v0_21 v0_23 v0_24 v0_25 v0_26 v0_29 v0_30 v0_0 v0_6 v0_7 v0_8 v0_9 v0_10 v0_11 v0_14 v0_15 v0_18 v0_19 v0_20 v0_22)) hP hD hS hA [0, 13] [1, 2, 3, 4, 5, 6, 7, 8, 9, 10, 11, 12] [12, 0, 1, 2, 3, 4, 5, 6, 7, 8, 9, 10, 11, 13] rfl rfl rfl (by decide) rfl rfl (va_runV (As := [.int x1, .int x2]) (rest := []) ⟨hx, hb, hml, hown, hta⟩ (c_X12_cornerY l dC dI cI H.size a0 v0_2 u_1.2 v0_5 v0_12 v0_13 v0_16 v0_17 v0_21 v0_23 v0_24 v0_25 v0_26 v0_29 v0_30 v0_22 x1 x2 u_5 hu_5) (cwV 2 hta (ga_V mA1031 mA1032 mA1033 mA814 mA1022) rfl rfl rfl (by decide +kernel) ⟨Nat.le_of_ble_eq_true rfl, Nat.le_of_ble_eq_true rfl⟩) ⟨q_fb, va_recv hK hP (ci := 11) (q0 := 0) rfl rfl, q_ps hPc hK hDc⟩ rfl rfl hl.1 rfl (lv_room (Nat.le_of_ble_eq_true rfl)) dX12_corner_54 ⟨Nat.zero_le _, Nat.zero_le _⟩) (fun H locs hP hD hS => ?_)
        refine lv_goto (tgt := 66) hx hb dX12_corner_57 (by decide) ?_
        obtain rfl := Option.some.inj hF
        exact W.iret (v := u_5) hx hb hr (fun t ht hW => ⟨⟨u_5, (), rfl, rfl, by rw [ht]; exact hP, va_K.moved hW.alike hK, hD⟩, hS.F ht⟩) hS.2.2 dX12_corner_66
    · have hF := it_f hF c_2
      refine lv_iconst (v := 0) hx hb dX12_corner_45 (by decide) ?_
      obtain rfl := Option.some.inj hF
      exact W.iret (v := 0) hx hb hr (fun t ht hW => ⟨⟨0, (), rfl, rfl, by rw [ht]; exact hP, va_K.moved hW.alike hK, hD⟩, hS.F ht⟩) hS.2.2 dX12_corner_46
  have j38 : ∀ (v0_3 : Int32) (v0_12 : Int32) (v0_13 : Int32) (v0_16 : Int32) (v0_17 : Int32) (v0_21 : Int32) (v0_23 : Int32) (v0_6 : Nat → Int32) (v0_7 : Nat → Int32) (v0_8 : Nat → Int32) (v0_9 : Nat → Int32) (v0_10 : Nat → Int32) (v0_11 : Nat → Int32) (v0_14 : Nat → Int32) (v0_15 : Nat → Int32) (v0_18 : Nat → Int32) (v0_19 : Nat → Int32) (v0_20 : Nat → Int32) (v0_22 : Nat → Int32) (x1 : Int32) (x2 : Int32) (x3 : Int32), F_X12_corner_j38 v0_12 v0_13 v0_16 v0_17 v0_21 v0_23 v0_6 v0_7 v0_8 v0_9 v0_10 v0_11 v0_14 v0_15 v0_18 v0_19 v0_20 v0_22 x1 x2 x3 = some u → ∀ (H : Heap) (locs : List Loc) (ls : Array Slot), va_P (dC, dI) vwCl (wd_X12_corner cI a0 v0_2 v0_3 v0_5 v0_12 v0_13 v0_16 v0_17 v0_21 v0_23 v0_24 v0_25 v0_26 v0_29 v0_30 v0_0 v0_6 v0_7 v0_8 v0_9 v0_10 v0_11 v0_14 v0_15 v0_18 v0_19 v0_20 v0_22) H → va_D A (wd_X12_corner cI a0 v0_2 v0_3 v0_5 v0_12 v0_13 v0_16 v0_17 v0_21 v0_23 v0_24 v0_25 v0_26 v0_29 v0_30 v0_0 v0_6 v0_7 v0_8 v0_9 v0_10 v0_11 v0_14 v0_15 v0_18 v0_19 v0_20 v0_22) → va_S A s.heap H locs → lv_has ls 4 [(0, .ref (a0 0)), (1, .int x1), (2, .int x2), (3, .int x3)] → W p l e (headSpec wz_X12_corner rm_X12_corner).room s m [.ref (a0 0), .int p1, .int p2, .int p3].toArray below meth c H locs 0 0 (MQ below (Q_X12_corner dC dI cI a0 v0_2 v0_5 v0_24 v0_25 v0_26 v0_29 v0_30 v0_0 u A) [.ref (a0 0), .int p1, .int p2, .int p3].toArray s 0 0 A) (F0 m 38 ls [.ref (a0 0)]) := by
    intro v0_3 v0_12 v0_13 v0_16 v0_17 v0_21 v0_23 v0_6 v0_7 v0_8 v0_9 v0_10 v0_11 v0_14 v0_15 v0_18 v0_19 v0_20 v0_22 x1 x2 x3 hF H locs ls hP hD hS hl
    unfold F_X12_corner_j38 at hF
    refine lv_iconst (v := 1) hx hb dX12_corner_38 (by decide) ?_
    exact j39 v0_3 v0_12 v0_13 v0_16 v0_17 v0_21 v0_23 v0_6 v0_7 v0_8 v0_9 v0_10 v0_11 v0_14 v0_15 v0_18 v0_19 v0_20 v0_22 x1 x2 x3 1 hF _ _ _ hP hD hS (lv_sub hl [0, 1, 2, 3] rfl)
  refine lv_aload_n hx hb dX12_corner_0 rfl (lv_at hl 0 rfl) ?_
  obtain ⟨u_6, hu_6, hF⟩ := obd_some hF
  have hPc := hP.sub (ws' := (wd_X12_laysPieces cI a0 v0_2 v0_3 v0_5 v0_12 v0_13 v0_16 v0_17 v0_21 v0_23 v0_24 v0_25 v0_26 v0_29 v0_30 v0_0 v0_6 v0_7 v0_8 v0_9 v0_10 v0_11 v0_14 v0_15 v0_18 v0_19 v0_20 v0_22)) [0, 1, 2, 3, 4, 5, 6, 7, 8, 9, 10, 11, 12, 13] rfl
  have hDc := hD.sub (ws' := (wd_X12_laysPieces cI a0 v0_2 v0_3 v0_5 v0_12 v0_13 v0_16 v0_17 v0_21 v0_23 v0_24 v0_25 v0_26 v0_29 v0_30 v0_0 v0_6 v0_7 v0_8 v0_9 v0_10 v0_11 v0_14 v0_15 v0_18 v0_19 v0_20 v0_22)) [0, 1, 2, 3, 4, 5, 6, 7, 8, 9, 10, 11, 12, 13] rfl rfl
  refine q_callv (wc := (wd_X12_laysPieces cI a0 v0_2 v0_3 v0_5 v0_12 v0_13 v0_16 v0_17 v0_21 v0_23 v0_24 v0_25 v0_26 v0_29 v0_30 v0_0 v0_6 v0_7 v0_8 v0_9 v0_10 v0_11 v0_14 v0_15 v0_18 v0_19 v0_20 v0_22)) (w1 := (wd_X12_laysPieces cI a0 v0_2 v0_3 v0_5 u_6.1 u_6.2.1 u_6.2.2.1 u_6.2.2.2.1 u_6.2.2.2.2.1 u_6.2.2.2.2.2.1 v0_24 v0_25 v0_26 v0_29 v0_30 v0_0 u_6.2.2.2.2.2.2.1 u_6.2.2.2.2.2.2.2.1 u_6.2.2.2.2.2.2.2.2.1 u_6.2.2.2.2.2.2.2.2.2.1 u_6.2.2.2.2.2.2.2.2.2.2.1 u_6.2.2.2.2.2.2.2.2.2.2.2.1 u_6.2.2.2.2.2.2.2.2.2.2.2.2.1 u_6.2.2.2.2.2.2.2.2.2.2.2.2.2.1 u_6.2.2.2.2.2.2.2.2.2.2.2.2.2.2.1 u_6.2.2.2.2.2.2.2.2.2.2.2.2.2.2.2.1 u_6.2.2.2.2.2.2.2.2.2.2.2.2.2.2.2.2.1 u_6.2.2.2.2.2.2.2.2.2.2.2.2.2.2.2.2.2)) (ws' := (wd_X12_corner cI a0 v0_2 v0_3 v0_5 u_6.1 u_6.2.1 u_6.2.2.1 u_6.2.2.2.1 u_6.2.2.2.2.1 u_6.2.2.2.2.2.1 v0_24 v0_25 v0_26 v0_29 v0_30 v0_0 u_6.2.2.2.2.2.2.1 u_6.2.2.2.2.2.2.2.1 u_6.2.2.2.2.2.2.2.2.1 u_6.2.2.2.2.2.2.2.2.2.1 u_6.2.2.2.2.2.2.2.2.2.2.1 u_6.2.2.2.2.2.2.2.2.2.2.2.1 u_6.2.2.2.2.2.2.2.2.2.2.2.2.1 u_6.2.2.2.2.2.2.2.2.2.2.2.2.2.1 u_6.2.2.2.2.2.2.2.2.2.2.2.2.2.2.1 u_6.2.2.2.2.2.2.2.2.2.2.2.2.2.2.2.1 u_6.2.2.2.2.2.2.2.2.2.2.2.2.2.2.2.2.1 u_6.2.2.2.2.2.2.2.2.2.2.2.2.2.2.2.2.2)) hP hD hS hA [0, 1, 2, 3, 4, 5, 6, 7, 8, 9, 10, 11, 12, 13] [] [0, 1, 2, 3, 4, 5, 6, 7, 8, 9, 10, 11, 12, 13] rfl rfl rfl (by decide) rfl rfl (va_runV (As := []) (rest := []) ⟨hx, hb, hml, hown, hta⟩ (c_X12_laysPieces l dC dI cI H.size a0 v0_2 v0_3 v0_5 v0_12 v0_13 v0_16 v0_17 v0_21 v0_23 v0_24 v0_25 v0_26 v0_29 v0_30 v0_0 v0_6 v0_7 v0_8 v0_9 v0_10 v0_11 v0_14 v0_15 v0_18 v0_19 v0_20 v0_22 n u_6 hu_6) (cwV 0 hta (ga_V mA1024 mA1025 mA1026 mA814 mA1006) rfl rfl rfl (by decide +kernel) ⟨Nat.le_of_ble_eq_true rfl, Nat.le_of_ble_eq_true rfl⟩) ⟨q_fb, va_recv hK hP (ci := 11) (q0 := 0) rfl rfl, q_ps hPc hK hDc⟩ rfl rfl hl.1 rfl (lv_room (Nat.le_of_ble_eq_true rfl)) dX12_corner_1 ⟨Nat.zero_le _, Nat.zero_le _⟩) (fun H locs hP hD hS => ?_)
  refine lv_aload_n hx hb dX12_corner_4 rfl (lv_at hl 0 rfl) ?_
  refine lv_iload_n hx hb dX12_corner_5 rfl (lv_at hl 1 rfl) ?_
  refine lv_iconst (v := 0) hx hb dX12_corner_6 (by decide) ?_
  refine lv_aload_n hx hb dX12_corner_7 rfl (lv_at hl 0 rfl) ?_
  refine va_get (D := (dC, dI)) (ci := 11) (v := .int u_6.2.2.2.2.2.1) (C := RX12) (T := TX12) (N := 31) hx hb hta uw_X12 hown hK hP 0 rfl rfl 23 (by decide) (hta _ mA953) (fun _ h9 => h9) rfl dX12_corner_8 ?_
  refine lv_iconst (v := 1) hx hb dX12_corner_11 (by decide) ?_
  refine lv_isub hx hb dX12_corner_12 ?_
  obtain ⟨u_7, hu_7, hF⟩ := lt_some hF
  have hPc := hP.sub (ws' := ([] : va_W)) [] rfl
  have hDc := hD.sub (ws' := ([] : va_W)) [] rfl rfl
  refine q_callz (wc := ([] : va_W)) (w1 := ([] : va_W)) (ws' := (wd_X12_corner cI a0 v0_2 v0_3 v0_5 u_6.1 u_6.2.1 u_6.2.2.1 u_6.2.2.2.1 u_6.2.2.2.2.1 u_6.2.2.2.2.2.1 v0_24 v0_25 v0_26 v0_29 v0_30 v0_0 u_6.2.2.2.2.2.2.1 u_6.2.2.2.2.2.2.2.1 u_6.2.2.2.2.2.2.2.2.1 u_6.2.2.2.2.2.2.2.2.2.1 u_6.2.2.2.2.2.2.2.2.2.2.1 u_6.2.2.2.2.2.2.2.2.2.2.2.1 u_6.2.2.2.2.2.2.2.2.2.2.2.2.1 u_6.2.2.2.2.2.2.2.2.2.2.2.2.2.1 u_6.2.2.2.2.2.2.2.2.2.2.2.2.2.2.1 u_6.2.2.2.2.2.2.2.2.2.2.2.2.2.2.2.1 u_6.2.2.2.2.2.2.2.2.2.2.2.2.2.2.2.2.1 u_6.2.2.2.2.2.2.2.2.2.2.2.2.2.2.2.2.2)) hP hD hS hA [] [0, 1, 2, 3, 4, 5, 6, 7, 8, 9, 10, 11, 12, 13] [0, 1, 2, 3, 4, 5, 6, 7, 8, 9, 10, 11, 12, 13] rfl rfl rfl (by decide) rfl rfl (va_runS (As := [.int p1, .int 0, .int (u_6.2.2.2.2.2.1 - 1)]) (rest := [.ref (a0 0)]) ⟨hx, hb, hml, hown, hta⟩ (c_X12_within l dC dI cI H.size p1 0 (u_6.2.2.2.2.2.1 - 1) u_7 hu_7.symm) (va_cwS 3 hta (ga_S mA812 mA813 mA814 mA810) rfl rfl rfl (by decide +kernel) ⟨Nat.le_of_ble_eq_true rfl, Nat.le_of_ble_eq_true rfl⟩) ⟨q_fb, q_ps hPc hK hDc⟩ rfl rfl hl.1 rfl (lv_room (Nat.le_of_ble_eq_true rfl)) dX12_corner_13 ⟨Nat.zero_le _, Nat.zero_le _⟩) (fun hzu_7 H locs hP hD hS => ?_)
  refine lv_if_eq (tgt := 38) hx hb dX12_corner_16 (by decide) (fun c_8 => ?_) (fun c_8 => ?_)
  · have hF := it_t hF c_8
    exact j38 v0_3 u_6.1 u_6.2.1 u_6.2.2.1 u_6.2.2.2.1 u_6.2.2.2.2.1 u_6.2.2.2.2.2.1 u_6.2.2.2.2.2.2.1 u_6.2.2.2.2.2.2.2.1 u_6.2.2.2.2.2.2.2.2.1 u_6.2.2.2.2.2.2.2.2.2.1 u_6.2.2.2.2.2.2.2.2.2.2.1 u_6.2.2.2.2.2.2.2.2.2.2.2.1 u_6.2.2.2.2.2.2.2.2.2.2.2.2.1 u_6.2.2.2.2.2.2.2.2.2.2.2.2.2.1 u_6.2.2.2.2.2.2.2.2.2.2.2.2.2.2.1 u_6.2.2.2.2.2.2.2.2.2.2.2.2.2.2.2.1 u_6.2.2.2.2.2.2.2.2.2.2.2.2.2.2.2.2.1 u_6.2.2.2.2.2.2.2.2.2.2.2.2.2.2.2.2.2 p1 p2 p3 hF _ _ _ hP hD hS (lv_sub hl [0, 1, 2, 3] rfl)
  · have hF := it_f hF c_8
    refine lv_iload_n hx hb dX12_corner_19 rfl (lv_at hl 2 rfl) ?_
    refine lv_iconst (v := 0) hx hb dX12_corner_20 (by decide) ?_
    refine lv_aload_n hx hb dX12_corner_21 rfl (lv_at hl 0 rfl) ?_
    refine lv_iload_n hx hb dX12_corner_22 rfl (lv_at hl 1 rfl) ?_
    obtain ⟨u_9, hu_9, hF⟩ := obd_some hF
    have hPc := hP.sub (ws' := (wd_X12_cornersOf cI a0 v0_2 v0_3 v0_5 u_6.1 u_6.2.1 u_6.2.2.1 u_6.2.2.2.1 u_6.2.2.2.2.1 u_6.2.2.2.2.2.1 v0_24 v0_25 v0_26 v0_29 v0_30 u_6.2.2.2.2.2.2.2.2.2.2.2.2.2.2.2.2.2)) [0, 13] rfl
    have hDc := hD.sub (ws' := (wd_X12_cornersOf cI a0 v0_2 v0_3 v0_5 u_6.1 u_6.2.1 u_6.2.2.1 u_6.2.2.2.1 u_6.2.2.2.2.1 u_6.2.2.2.2.2.1 v0_24 v0_25 v0_26 v0_29 v0_30 u_6.2.2.2.2.2.2.2.2.2.2.2.2.2.2.2.2.2)) [0, 13] rfl rfl
    refine q_calli (wc := (wd_X12_cornersOf cI a0 v0_2 v0_3 v0_5 u_6.1 u_6.2.1 u_6.2.2.1 u_6.2.2.2.1 u_6.2.2.2.2.1 u_6.2.2.2.2.2.1 v0_24 v0_25 v0_26 v0_29 v0_30 u_6.2.2.2.2.2.2.2.2.2.2.2.2.2.2.2.2.2)) (w1 := (wd_X12_cornersOf cI a0 v0_2 v0_3 v0_5 u_6.1 u_6.2.1 u_6.2.2.1 u_6.2.2.2.1 u_6.2.2.2.2.1 u_6.2.2.2.2.2.1 v0_24 v0_25 v0_26 v0_29 v0_30 u_6.2.2.2.2.2.2.2.2.2.2.2.2.2.2.2.2.2)) (ws' := (wd_X12_corner cI a0 v0_2 v0_3 v0_5 u_6.1 u_6.2.1 u_6.2.2.1 u_6.2.2.2.1 u_6.2.2.2.2.1 u_6.2.2.2.2.2.1 v0_24 v0_25 v0_26 v0_29 v0_30 v0_0 u_6.2.2.2.2.2.2.1 u_6.2.2.2.2.2.2.2.1 u_6.2.2.2.2.2.2.2.2.1 u_6.2.2.2.2.2.2.2.2.2.1 u_6.2.2.2.2.2.2.2.2.2.2.1 u_6.2.2.2.2.2.2.2.2.2.2.2.1 u_6.2.2.2.2.2.2.2.2.2.2.2.2.1 u_6.2.2.2.2.2.2.2.2.2.2.2.2.2.1 u_6.2.2.2.2.2.2.2.2.2.2.2.2.2.2.1 u_6.2.2.2.2.2.2.2.2.2.2.2.2.2.2.2.1 u_6.2.2.2.2.2.2.2.2.2.2.2.2.2.2.2.2.1 u_6.2.2.2.2.2.2.2.2.2.2.2.2.2.2.2.2.2)) hP hD hS hA [0, 13] [1, 2, 3, 4, 5, 6, 7, 8, 9, 10, 11, 12] [12, 0, 1, 2, 3, 4, 5, 6, 7, 8, 9, 10, 11, 13] rfl rfl rfl (by decide) rfl rfl (va_runV (As := [.int p1]) (rest := [.int 0, .int p2, .ref (a0 0)]) ⟨hx, hb, hml, hown, hta⟩ (c_X12_cornersOf l dC dI cI H.size a0 v0_2 v0_3 v0_5 u_6.1 u_6.2.1 u_6.2.2.1 u_6.2.2.2.1 u_6.2.2.2.2.1 u_6.2.2.2.2.2.1 v0_24 v0_25 v0_26 v0_29 v0_30 u_6.2.2.2.2.2.2.2.2.2.2.2.2.2.2.2.2.2 p1 u_9 hu_9) (cwV 1 hta (ga_V mA1019 mA1020 mA1021 mA814 mA1014) rfl rfl rfl (by decide +kernel) ⟨Nat.le_of_ble_eq_true rfl, Nat.le_of_ble_eq_true rfl⟩) ⟨q_fb, va_recv hK hP (ci := 11) (q0 := 0) rfl rfl, q_ps hPc hK hDc⟩ rfl rfl hl.1 rfl (lv_room (Nat.le_of_ble_eq_true rfl)) dX12_corner_23 ⟨Nat.zero_le _, Nat.zero_le _⟩) (fun H locs hP hD hS => ?_)
    refine lv_iconst (v := 1) hx hb dX12_corner_26 (by decide) ?_
    refine lv_isub hx hb dX12_corner_27 ?_
    obtain ⟨u_10, hu_10, hF⟩ := lt_some hF
    have hPc := hP.sub (ws' := ([] : va_W)) [] rfl
    have hDc := hD.sub (ws' := ([] : va_W)) [] rfl rfl
    refine q_callz (wc := ([] : va_W)) (w1 := ([] : va_W)) (ws' := (wd_X12_corner cI a0 v0_2 v0_3 v0_5 u_6.1 u_6.2.1 u_6.2.2.1 u_6.2.2.2.1 u_6.2.2.2.2.1 u_6.2.2.2.2.2.1 v0_24 v0_25 v0_26 v0_29 v0_30 v0_0 u_6.2.2.2.2.2.2.1 u_6.2.2.2.2.2.2.2.1 u_6.2.2.2.2.2.2.2.2.1 u_6.2.2.2.2.2.2.2.2.2.1 u_6.2.2.2.2.2.2.2.2.2.2.1 u_6.2.2.2.2.2.2.2.2.2.2.2.1 u_6.2.2.2.2.2.2.2.2.2.2.2.2.1 u_6.2.2.2.2.2.2.2.2.2.2.2.2.2.1 u_6.2.2.2.2.2.2.2.2.2.2.2.2.2.2.1 u_6.2.2.2.2.2.2.2.2.2.2.2.2.2.2.2.1 u_6.2.2.2.2.2.2.2.2.2.2.2.2.2.2.2.2.1 u_6.2.2.2.2.2.2.2.2.2.2.2.2.2.2.2.2.2)) hP hD hS hA [] [0, 1, 2, 3, 4, 5, 6, 7, 8, 9, 10, 11, 12, 13] [0, 1, 2, 3, 4, 5, 6, 7, 8, 9, 10, 11, 12, 13] rfl rfl rfl (by decide) rfl rfl (va_runS (As := [.int p2, .int 0, .int (u_9 - 1)]) (rest := [.ref (a0 0)]) ⟨hx, hb, hml, hown, hta⟩ (c_X12_within l dC dI cI H.size p2 0 (u_9 - 1) u_10 hu_10.symm) (va_cwS 3 hta (ga_S mA812 mA813 mA814 mA810) rfl rfl rfl (by decide +kernel) ⟨Nat.le_of_ble_eq_true rfl, Nat.le_of_ble_eq_true rfl⟩) ⟨q_fb, q_ps hPc hK hDc⟩ rfl rfl hl.1 rfl (lv_room (Nat.le_of_ble_eq_true rfl)) dX12_corner_28 ⟨Nat.zero_le _, Nat.zero_le _⟩) (fun hzu_10 H locs hP hD hS => ?_)
    refine lv_if_eq (tgt := 38) hx hb dX12_corner_31 (by decide) (fun c_11 => ?_) (fun c_11 => ?_)
    · have hF := it_t hF c_11
      exact j38 v0_3 u_6.1 u_6.2.1 u_6.2.2.1 u_6.2.2.2.1 u_6.2.2.2.2.1 u_6.2.2.2.2.2.1 u_6.2.2.2.2.2.2.1 u_6.2.2.2.2.2.2.2.1 u_6.2.2.2.2.2.2.2.2.1 u_6.2.2.2.2.2.2.2.2.2.1 u_6.2.2.2.2.2.2.2.2.2.2.1 u_6.2.2.2.2.2.2.2.2.2.2.2.1 u_6.2.2.2.2.2.2.2.2.2.2.2.2.1 u_6.2.2.2.2.2.2.2.2.2.2.2.2.2.1 u_6.2.2.2.2.2.2.2.2.2.2.2.2.2.2.1 u_6.2.2.2.2.2.2.2.2.2.2.2.2.2.2.2.1 u_6.2.2.2.2.2.2.2.2.2.2.2.2.2.2.2.2.1 u_6.2.2.2.2.2.2.2.2.2.2.2.2.2.2.2.2.2 p1 p2 p3 hF _ _ _ hP hD hS (lv_sub hl [0, 1, 2, 3] rfl)
    · have hF := it_f hF c_11
      refine lv_iconst (v := 0) hx hb dX12_corner_34 (by decide) ?_
      refine lv_goto (tgt := 39) hx hb dX12_corner_35 (by decide) ?_
      exact j39 v0_3 u_6.1 u_6.2.1 u_6.2.2.1 u_6.2.2.2.1 u_6.2.2.2.2.1 u_6.2.2.2.2.2.1 u_6.2.2.2.2.2.2.1 u_6.2.2.2.2.2.2.2.1 u_6.2.2.2.2.2.2.2.2.1 u_6.2.2.2.2.2.2.2.2.2.1 u_6.2.2.2.2.2.2.2.2.2.2.1 u_6.2.2.2.2.2.2.2.2.2.2.2.1 u_6.2.2.2.2.2.2.2.2.2.2.2.2.1 u_6.2.2.2.2.2.2.2.2.2.2.2.2.2.1 u_6.2.2.2.2.2.2.2.2.2.2.2.2.2.2.1 u_6.2.2.2.2.2.2.2.2.2.2.2.2.2.2.2.1 u_6.2.2.2.2.2.2.2.2.2.2.2.2.2.2.2.2.1 u_6.2.2.2.2.2.2.2.2.2.2.2.2.2.2.2.2.2 p1 p2 p3 0 hF _ _ _ hP hD hS (lv_sub hl [0, 1, 2, 3] rfl)

-- StrokeOutlinerModel.bounds(I)I
def F_X12_bounds_j198 (v0_3 : Int32) (v0_12 : Int32) (v0_13 : Int32) (v0_16 : Int32) (v0_17 : Int32) (v0_21 : Int32) (v0_23 : Int32) (v0_6 : Nat → Int32) (v0_7 : Nat → Int32) (v0_8 : Nat → Int32) (v0_9 : Nat → Int32) (v0_10 : Nat → Int32) (v0_11 : Nat → Int32) (v0_14 : Nat → Int32) (v0_15 : Nat → Int32) (v0_18 : Nat → Int32) (v0_19 : Nat → Int32) (v0_20 : Nat → Int32) (v0_22 : Nat → Int32) (x3 : Int32) : Option (Int32 × Int32 × Int32 × Int32 × Int32 × Int32 × Int32 × Int32 × (Nat → Int32) × (Nat → Int32) × (Nat → Int32) × (Nat → Int32) × (Nat → Int32) × (Nat → Int32) × (Nat → Int32) × (Nat → Int32) × (Nat → Int32) × (Nat → Int32) × (Nat → Int32) × (Nat → Int32)) :=
  some (x3, v0_3, v0_12, v0_13, v0_16, v0_17, v0_21, v0_23, v0_6, v0_7, v0_8, v0_9, v0_10, v0_11, v0_14, v0_15, v0_18, v0_19, v0_20, v0_22)
def F_X12_bounds_j192 (x3 : Int32) (x4 : Int32) : Option (Sum (Int32 × Int32) (Int32)) :=
  lt (x4 + 1) (fun y_1 => some (.inl (x3, y_1)))
def F_X12_bounds_j185 (x6 : Int32) (t0 : Int32) : Option (Sum (Int32 × Int32) (Int32)) :=
  lt (x6 + 1) (fun y_2 => some (.inl (t0, y_2)))
def F_X12_bounds_j151 (x2 : Int32) (x3 : Int32) (x6 : Int32) (t0 : Int32) (t1 : Int32) : Option (Sum (Int32 × Int32) (Int32)) :=
  lt (t0 + t1) (fun y_3 => if x2 = 0 then if x3 ≤ y_3 then F_X12_bounds_j185 x6 x3 else F_X12_bounds_j185 x6 y_3 else if y_3 ≤ x3 then F_X12_bounds_j185 x6 x3 else F_X12_bounds_j185 x6 y_3)
def F_X12_bounds_j135 (x2 : Int32) (x3 : Int32) (x5 : Int32) (x6 : Int32) (t0 : Int32) : Option (Sum (Int32 × Int32) (Int32)) :=
  if x2 = 0 then F_X12_bounds_j151 x2 x3 x6 t0 (-x5) else F_X12_bounds_j151 x2 x3 x6 t0 x5
def F_X12_bounds_b100 (v0_22 : Nat → Int32) (x1 : Int32) (x2 : Int32) (x4 : Int32) (x5 : Int32) (s100 : Int32 × Int32) : Option (Sum (Int32 × Int32) (Int32)) :=
  obd (F_X12_cornersOf v0_22 x4) (fun u_8 => if u_8 ≤ s100.2 then some (.inr s100.1) else if 2 ≤ x1 then obd (F_X12_cornerY v0_22 x4 s100.2) (fun u_11 => F_X12_bounds_j135 x2 s100.1 x5 s100.2 u_11) else obd (F_X12_cornerX v0_22 x4 s100.2) (fun u_12 => F_X12_bounds_j135 x2 s100.1 x5 s100.2 u_12))
def F_X12_bounds_j100 (n : Nat) (v0_22 : Nat → Int32) (x1 : Int32) (x2 : Int32) (x3 : Int32) (x4 : Int32) (x5 : Int32) (x6 : Int32) : Option (Sum (Int32 × Int32) (Int32)) :=
  obd (lpq (F_X12_bounds_b100 v0_22 x1 x2 x4 x5) n (x3, x6)) (fun x_100 => F_X12_bounds_j192 x_100 x4)
def F_X12_bounds_j95 (n : Nat) (v0_22 : Nat → Int32) (x1 : Int32) (x2 : Int32) (x3 : Int32) (x4 : Int32) (t0 : Int32) : Option (Sum (Int32 × Int32) (Int32)) :=
  F_X12_bounds_j100 n v0_22 x1 x2 x3 x4 t0 0
def F_X12_bounds_b68 (n : Nat) (v0_23 : Int32) (v0_0 : Nat → Int32) (v0_22 : Nat → Int32) (x1 : Int32) (x2 : Int32) (s68 : Int32 × Int32) : Option (Sum (Int32 × Int32) (Int32)) :=
  if v0_23 ≤ s68.2 then some (.inr s68.1) else obd (F_X12_kindOf v0_22 s68.2) (fun u_14 => if u_14 = 3 then obd (F_X12_half v0_0) (fun u_16 => F_X12_bounds_j95 n v0_22 x1 x2 s68.1 s68.2 u_16) else F_X12_bounds_j95 n v0_22 x1 x2 s68.1 s68.2 0)
def F_X12_bounds_j68 (n : Nat) (v0_3 : Int32) (v0_12 : Int32) (v0_13 : Int32) (v0_16 : Int32) (v0_17 : Int32) (v0_21 : Int32) (v0_23 : Int32) (v0_0 : Nat → Int32) (v0_6 : Nat → Int32) (v0_7 : Nat → Int32) (v0_8 : Nat → Int32) (v0_9 : Nat → Int32) (v0_10 : Nat → Int32) (v0_11 : Nat → Int32) (v0_14 : Nat → Int32) (v0_15 : Nat → Int32) (v0_18 : Nat → Int32) (v0_19 : Nat → Int32) (v0_20 : Nat → Int32) (v0_22 : Nat → Int32) (x1 : Int32) (x2 : Int32) (x3 : Int32) (x4 : Int32) : Option (Int32 × Int32 × Int32 × Int32 × Int32 × Int32 × Int32 × Int32 × (Nat → Int32) × (Nat → Int32) × (Nat → Int32) × (Nat → Int32) × (Nat → Int32) × (Nat → Int32) × (Nat → Int32) × (Nat → Int32) × (Nat → Int32) × (Nat → Int32) × (Nat → Int32) × (Nat → Int32)) :=
  obd (lpq (F_X12_bounds_b68 n v0_23 v0_0 v0_22 x1 x2) n (x3, x4)) (fun x_68 => F_X12_bounds_j198 v0_3 v0_12 v0_13 v0_16 v0_17 v0_21 v0_23 v0_6 v0_7 v0_8 v0_9 v0_10 v0_11 v0_14 v0_15 v0_18 v0_19 v0_20 v0_22 x_68)
def F_X12_bounds_j64 (n : Nat) (v0_3 : Int32) (v0_12 : Int32) (v0_13 : Int32) (v0_16 : Int32) (v0_17 : Int32) (v0_21 : Int32) (v0_23 : Int32) (v0_0 : Nat → Int32) (v0_6 : Nat → Int32) (v0_7 : Nat → Int32) (v0_8 : Nat → Int32) (v0_9 : Nat → Int32) (v0_10 : Nat → Int32) (v0_11 : Nat → Int32) (v0_14 : Nat → Int32) (v0_15 : Nat → Int32) (v0_18 : Nat → Int32) (v0_19 : Nat → Int32) (v0_20 : Nat → Int32) (v0_22 : Nat → Int32) (x1 : Int32) (x2 : Int32) (t0 : Int32) : Option (Int32 × Int32 × Int32 × Int32 × Int32 × Int32 × Int32 × Int32 × (Nat → Int32) × (Nat → Int32) × (Nat → Int32) × (Nat → Int32) × (Nat → Int32) × (Nat → Int32) × (Nat → Int32) × (Nat → Int32) × (Nat → Int32) × (Nat → Int32) × (Nat → Int32) × (Nat → Int32)) :=
  F_X12_bounds_j68 n v0_3 v0_12 v0_13 v0_16 v0_17 v0_21 v0_23 v0_0 v0_6 v0_7 v0_8 v0_9 v0_10 v0_11 v0_14 v0_15 v0_18 v0_19 v0_20 v0_22 x1 x2 t0 0
def F_X12_bounds_j50 (n : Nat) (v0_3 : Int32) (v0_12 : Int32) (v0_13 : Int32) (v0_16 : Int32) (v0_17 : Int32) (v0_21 : Int32) (v0_23 : Int32) (v0_0 : Nat → Int32) (v0_6 : Nat → Int32) (v0_7 : Nat → Int32) (v0_8 : Nat → Int32) (v0_9 : Nat → Int32) (v0_10 : Nat → Int32) (v0_11 : Nat → Int32) (v0_14 : Nat → Int32) (v0_15 : Nat → Int32) (v0_18 : Nat → Int32) (v0_19 : Nat → Int32) (v0_20 : Nat → Int32) (v0_22 : Nat → Int32) (x1 : Int32) (t0 : Int32) : Option (Int32 × Int32 × Int32 × Int32 × Int32 × Int32 × Int32 × Int32 × (Nat → Int32) × (Nat → Int32) × (Nat → Int32) × (Nat → Int32) × (Nat → Int32) × (Nat → Int32) × (Nat → Int32) × (Nat → Int32) × (Nat → Int32) × (Nat → Int32) × (Nat → Int32) × (Nat → Int32)) :=
  if t0 = 0 then F_X12_bounds_j64 n v0_3 v0_12 v0_13 v0_16 v0_17 v0_21 v0_23 v0_0 v0_6 v0_7 v0_8 v0_9 v0_10 v0_11 v0_14 v0_15 v0_18 v0_19 v0_20 v0_22 x1 t0 1000000 else F_X12_bounds_j64 n v0_3 v0_12 v0_13 v0_16 v0_17 v0_21 v0_23 v0_0 v0_6 v0_7 v0_8 v0_9 v0_10 v0_11 v0_14 v0_15 v0_18 v0_19 v0_20 v0_22 x1 t0 (-1000000)
def F_X12_bounds_j30 (n : Nat) (v0_12 : Int32) (v0_13 : Int32) (v0_16 : Int32) (v0_17 : Int32) (v0_21 : Int32) (v0_23 : Int32) (v0_0 : Nat → Int32) (v0_6 : Nat → Int32) (v0_7 : Nat → Int32) (v0_8 : Nat → Int32) (v0_9 : Nat → Int32) (v0_10 : Nat → Int32) (v0_11 : Nat → Int32) (v0_14 : Nat → Int32) (v0_15 : Nat → Int32) (v0_18 : Nat → Int32) (v0_19 : Nat → Int32) (v0_20 : Nat → Int32) (v0_22 : Nat → Int32) (x1 : Int32) (t1 : Int32) : Option (Int32 × Int32 × Int32 × Int32 × Int32 × Int32 × Int32 × Int32 × (Nat → Int32) × (Nat → Int32) × (Nat → Int32) × (Nat → Int32) × (Nat → Int32) × (Nat → Int32) × (Nat → Int32) × (Nat → Int32) × (Nat → Int32) × (Nat → Int32) × (Nat → Int32) × (Nat → Int32)) :=
  lt (F_X12_refused t1) (fun u_18 => if u_18.1 = 0 then if (x1 - x1 / 2 * 2) = 1 then F_X12_bounds_j50 n u_18.2 v0_12 v0_13 v0_16 v0_17 v0_21 v0_23 v0_0 v0_6 v0_7 v0_8 v0_9 v0_10 v0_11 v0_14 v0_15 v0_18 v0_19 v0_20 v0_22 x1 1 else F_X12_bounds_j50 n u_18.2 v0_12 v0_13 v0_16 v0_17 v0_21 v0_23 v0_0 v0_6 v0_7 v0_8 v0_9 v0_10 v0_11 v0_14 v0_15 v0_18 v0_19 v0_20 v0_22 x1 0 else some (0, u_18.2, v0_12, v0_13, v0_16, v0_17, v0_21, v0_23, v0_6, v0_7, v0_8, v0_9, v0_10, v0_11, v0_14, v0_15, v0_18, v0_19, v0_20, v0_22))
def F_X12_bounds (n : Nat) (v0_12 : Int32) (v0_13 : Int32) (v0_16 : Int32) (v0_17 : Int32) (v0_21 : Int32) (v0_0 : Nat → Int32) (v0_6 : Nat → Int32) (v0_7 : Nat → Int32) (v0_8 : Nat → Int32) (v0_9 : Nat → Int32) (v0_10 : Nat → Int32) (v0_11 : Nat → Int32) (v0_14 : Nat → Int32) (v0_15 : Nat → Int32) (v0_18 : Nat → Int32) (v0_19 : Nat → Int32) (v0_20 : Nat → Int32) (v0_22 : Nat → Int32) (p1 : Int32) : Option (Int32 × Int32 × Int32 × Int32 × Int32 × Int32 × Int32 × Int32 × (Nat → Int32) × (Nat → Int32) × (Nat → Int32) × (Nat → Int32) × (Nat → Int32) × (Nat → Int32) × (Nat → Int32) × (Nat → Int32) × (Nat → Int32) × (Nat → Int32) × (Nat → Int32) × (Nat → Int32)) :=
  obd (F_X12_laysPieces n v0_12 v0_13 v0_16 v0_17 v0_21 v0_0 v0_6 v0_7 v0_8 v0_9 v0_10 v0_11 v0_14 v0_15 v0_18 v0_19 v0_20 v0_22) (fun u_21 => lt (F_X12_within p1 0 3) (fun u_22 => if u_22 = 0 then F_X12_bounds_j30 n u_21.1 u_21.2.1 u_21.2.2.1 u_21.2.2.2.1 u_21.2.2.2.2.1 u_21.2.2.2.2.2.1 v0_0 u_21.2.2.2.2.2.2.1 u_21.2.2.2.2.2.2.2.1 u_21.2.2.2.2.2.2.2.2.1 u_21.2.2.2.2.2.2.2.2.2.1 u_21.2.2.2.2.2.2.2.2.2.2.1 u_21.2.2.2.2.2.2.2.2.2.2.2.1 u_21.2.2.2.2.2.2.2.2.2.2.2.2.1 u_21.2.2.2.2.2.2.2.2.2.2.2.2.2.1 u_21.2.2.2.2.2.2.2.2.2.2.2.2.2.2.1 u_21.2.2.2.2.2.2.2.2.2.2.2.2.2.2.2.1 u_21.2.2.2.2.2.2.2.2.2.2.2.2.2.2.2.2.1 u_21.2.2.2.2.2.2.2.2.2.2.2.2.2.2.2.2.2 p1 1 else if u_21.2.2.2.2.2.1 = 0 then F_X12_bounds_j30 n u_21.1 u_21.2.1 u_21.2.2.1 u_21.2.2.2.1 u_21.2.2.2.2.1 u_21.2.2.2.2.2.1 v0_0 u_21.2.2.2.2.2.2.1 u_21.2.2.2.2.2.2.2.1 u_21.2.2.2.2.2.2.2.2.1 u_21.2.2.2.2.2.2.2.2.2.1 u_21.2.2.2.2.2.2.2.2.2.2.1 u_21.2.2.2.2.2.2.2.2.2.2.2.1 u_21.2.2.2.2.2.2.2.2.2.2.2.2.1 u_21.2.2.2.2.2.2.2.2.2.2.2.2.2.1 u_21.2.2.2.2.2.2.2.2.2.2.2.2.2.2.1 u_21.2.2.2.2.2.2.2.2.2.2.2.2.2.2.2.1 u_21.2.2.2.2.2.2.2.2.2.2.2.2.2.2.2.2.1 u_21.2.2.2.2.2.2.2.2.2.2.2.2.2.2.2.2.2 p1 2 else F_X12_bounds_j30 n u_21.1 u_21.2.1 u_21.2.2.1 u_21.2.2.2.1 u_21.2.2.2.2.1 u_21.2.2.2.2.2.1 v0_0 u_21.2.2.2.2.2.2.1 u_21.2.2.2.2.2.2.2.1 u_21.2.2.2.2.2.2.2.2.1 u_21.2.2.2.2.2.2.2.2.2.1 u_21.2.2.2.2.2.2.2.2.2.2.1 u_21.2.2.2.2.2.2.2.2.2.2.2.1 u_21.2.2.2.2.2.2.2.2.2.2.2.2.1 u_21.2.2.2.2.2.2.2.2.2.2.2.2.2.1 u_21.2.2.2.2.2.2.2.2.2.2.2.2.2.2.1 u_21.2.2.2.2.2.2.2.2.2.2.2.2.2.2.2.1 u_21.2.2.2.2.2.2.2.2.2.2.2.2.2.2.2.2.1 u_21.2.2.2.2.2.2.2.2.2.2.2.2.2.2.2.2.2 p1 0))
abbrev wd_X12_bounds (cI : ClassId) (a0 : Nat → Nat) (v0_2 : Int32) (v0_3 : Int32) (v0_5 : Int32) (v0_12 : Int32) (v0_13 : Int32) (v0_16 : Int32) (v0_17 : Int32) (v0_21 : Int32) (v0_23 : Int32) (v0_24 : Int32) (v0_25 : Int32) (v0_26 : Int32) (v0_29 : Int32) (v0_30 : Int64) (v0_0 : Nat → Int32) (v0_6 : Nat → Int32) (v0_7 : Nat → Int32) (v0_8 : Nat → Int32) (v0_9 : Nat → Int32) (v0_10 : Nat → Int32) (v0_11 : Nat → Int32) (v0_14 : Nat → Int32) (v0_15 : Nat → Int32) (v0_18 : Nat → Int32) (v0_19 : Nat → Int32) (v0_20 : Nat → Int32) (v0_22 : Nat → Int32) : va_W := [(a0 0, .inr (11, [.ref (a0 1), .ref (a0 2), .int v0_2, .int v0_3, .ref (a0 5), .int v0_5, .ref (a0 7), .ref (a0 8), .ref (a0 9), .ref (a0 10), .ref (a0 11), .ref (a0 12), .int v0_12, .int v0_13, .ref (a0 15), .ref (a0 16), .int v0_16, .int v0_17, .ref (a0 19), .ref (a0 20), .ref (a0 21), .int v0_21, .ref (a0 23), .int v0_23, .int v0_24, .int v0_25, .int v0_26, .ref (a0 28), .ref (a0 29), .int v0_29, .long v0_30])), (a0 1, .inl (cI, 86, .inl v0_0)), (a0 7, .inl (cI, 8, .inl v0_6)), (a0 8, .inl (cI, 8, .inl v0_7)), (a0 9, .inl (cI, 8, .inl v0_8)), (a0 10, .inl (cI, 8, .inl v0_9)), (a0 11, .inl (cI, 8, .inl v0_10)), (a0 12, .inl (cI, 8, .inl v0_11)), (a0 15, .inl (cI, 240, .inl v0_14)), (a0 16, .inl (cI, 240, .inl v0_15)), (a0 19, .inl (cI, 20, .inl v0_18)), (a0 20, .inl (cI, 20, .inl v0_19)), (a0 21, .inl (cI, 20, .inl v0_20)), (a0 23, .inl (cI, 27000, .inl v0_22))]
abbrev wz_X12_bounds : List Cond := .code yX12_bounds cX12_bounds 8 (some .int) :: wALL
abbrev rm_X12_bounds : Room := { frames := 6, cells := 0, slots := 0, locals := 138 }
abbrev Q_X12_bounds (dC : Nat → ClassId) (dI : Nat → Nat → Nat) (cI : ClassId) (a0 : Nat → Nat) (v0_2 : Int32) (v0_5 : Int32) (v0_24 : Int32) (v0_25 : Int32) (v0_26 : Int32) (v0_29 : Int32) (v0_30 : Int64) (v0_0 : Nat → Int32) (u : (Int32 × Int32 × Int32 × Int32 × Int32 × Int32 × Int32 × Int32 × (Nat → Int32) × (Nat → Int32) × (Nat → Int32) × (Nat → Int32) × (Nat → Int32) × (Nat → Int32) × (Nat → Int32) × (Nat → Int32) × (Nat → Int32) × (Nat → Int32) × (Nat → Int32) × (Nat → Int32))) (A : Nat → Prop) : Array Value → State → Outcome → State → Prop := va_Qi (fun (r : Int32) (_ : Unit) => r = u.1) (fun _ => q_at dC dI cI A (wd_X12_bounds cI a0 v0_2 u.2.1 v0_5 u.2.2.1 u.2.2.2.1 u.2.2.2.2.1 u.2.2.2.2.2.1 u.2.2.2.2.2.2.1 u.2.2.2.2.2.2.2.1 v0_24 v0_25 v0_26 v0_29 v0_30 v0_0 u.2.2.2.2.2.2.2.2.1 u.2.2.2.2.2.2.2.2.2.1 u.2.2.2.2.2.2.2.2.2.2.1 u.2.2.2.2.2.2.2.2.2.2.2.1 u.2.2.2.2.2.2.2.2.2.2.2.2.1 u.2.2.2.2.2.2.2.2.2.2.2.2.2.1 u.2.2.2.2.2.2.2.2.2.2.2.2.2.2.1 u.2.2.2.2.2.2.2.2.2.2.2.2.2.2.2.1 u.2.2.2.2.2.2.2.2.2.2.2.2.2.2.2.2.1 u.2.2.2.2.2.2.2.2.2.2.2.2.2.2.2.2.2.1 u.2.2.2.2.2.2.2.2.2.2.2.2.2.2.2.2.2.2.1 u.2.2.2.2.2.2.2.2.2.2.2.2.2.2.2.2.2.2.2)) A
set_option maxHeartbeats 4000000 in
set_option maxRecDepth 100000 in
theorem c_X12_bounds (l : Launch) (dC : Nat → ClassId) (dI : Nat → Nat → Nat) (cI : ClassId) (sz : Nat) (a0 : Nat → Nat) (v0_2 : Int32) (v0_3 : Int32) (v0_5 : Int32) (v0_12 : Int32) (v0_13 : Int32) (v0_16 : Int32) (v0_17 : Int32) (v0_21 : Int32) (v0_23 : Int32) (v0_24 : Int32) (v0_25 : Int32) (v0_26 : Int32) (v0_29 : Int32) (v0_30 : Int64) (v0_0 : Nat → Int32) (v0_6 : Nat → Int32) (v0_7 : Nat → Int32) (v0_8 : Nat → Int32) (v0_9 : Nat → Int32) (v0_10 : Nat → Int32) (v0_11 : Nat → Int32) (v0_14 : Nat → Int32) (v0_15 : Nat → Int32) (v0_18 : Nat → Int32) (v0_19 : Nat → Int32) (v0_20 : Nat → Int32) (v0_22 : Nat → Int32) (p1 : Int32) (n : Nat) (u : (Int32 × Int32 × Int32 × Int32 × Int32 × Int32 × Int32 × Int32 × (Nat → Int32) × (Nat → Int32) × (Nat → Int32) × (Nat → Int32) × (Nat → Int32) × (Nat → Int32) × (Nat → Int32) × (Nat → Int32) × (Nat → Int32) × (Nat → Int32) × (Nat → Int32) × (Nat → Int32))) (hF : F_X12_bounds n v0_12 v0_13 v0_16 v0_17 v0_21 v0_0 v0_6 v0_7 v0_8 v0_9 v0_10 v0_11 v0_14 v0_15 v0_18 v0_19 v0_20 v0_22 p1 = some u) : Met l yX12_bounds wz_X12_bounds rm_X12_bounds (va_Pc [.ref (a0 0), .int p1] (q_pre dC dI cI (wd_X12_bounds cI a0 v0_2 v0_3 v0_5 v0_12 v0_13 v0_16 v0_17 v0_21 v0_23 v0_24 v0_25 v0_26 v0_29 v0_30 v0_0 v0_6 v0_7 v0_8 v0_9 v0_10 v0_11 v0_14 v0_15 v0_18 v0_19 v0_20 v0_22) sz)) (Q_X12_bounds dC dI cI a0 v0_2 v0_5 v0_24 v0_25 v0_26 v0_29 v0_30 v0_0 u (va_A (wd_X12_bounds cI a0 v0_2 v0_3 v0_5 v0_12 v0_13 v0_16 v0_17 v0_21 v0_23 v0_24 v0_25 v0_26 v0_29 v0_30 v0_0 v0_6 v0_7 v0_8 v0_9 v0_10 v0_11 v0_14 v0_15 v0_18 v0_19 v0_20 v0_22) sz)) 0 0 (va_A (wd_X12_bounds cI a0 v0_2 v0_3 v0_5 v0_12 v0_13 v0_16 v0_17 v0_21 v0_23 v0_24 v0_25 v0_26 v0_29 v0_30 v0_0 v0_6 v0_7 v0_8 v0_9 v0_10 v0_11 v0_14 v0_15 v0_18 v0_19 v0_20 v0_22) sz) := by
  refine Met.ofW (cc := cX12_bounds) (maxL := 8) (ret := (some .int)) (by decide) rfl ?_
  intro p e s m args below meth c s₁ B hml hv
  obtain ⟨rfl, hsz, hP, hK, hD0⟩ := hv
  have hx := B.exec
  have hb := B.bytes
  have hr := B.returns
  have hts := atoms_spec (ws := wz_X12_bounds) B.pre
  have hta := wz_tl hts
  have hown : s.vm.findClass RX12 = some m.cls := findClass_of_methodNamed B.named
  have hlocks := B.notSynchronized
  subst hsz
  have hD := hD0.self (sz := s.heap.size)
  generalize hAe : va_A (wd_X12_bounds cI a0 v0_2 v0_3 v0_5 v0_12 v0_13 v0_16 v0_17 v0_21 v0_23 v0_24 v0_25 v0_26 v0_29 v0_30 v0_0 v0_6 v0_7 v0_8 v0_9 v0_10 v0_11 v0_14 v0_15 v0_18 v0_19 v0_20 v0_22) s.heap.size = A at hD ⊢
  have hA : ∀ q : Nat, s.heap.size ≤ q → A q := fun q h => by rw [← hAe]; exact Or.inr h
  have hS : va_S A s.heap s.heap [] := va_S.rf
  have hP : va_P (dC, dI) vwCl (wd_X12_bounds cI a0 v0_2 v0_3 v0_5 v0_12 v0_13 v0_16 v0_17 v0_21 v0_23 v0_24 v0_25 v0_26 v0_29 v0_30 v0_0 v0_6 v0_7 v0_8 v0_9 v0_10 v0_11 v0_14 v0_15 v0_18 v0_19 v0_20 v0_22) s.heap := hP
  have hl := lv_entry ([.ref (a0 0), .int p1]) (n := 8) (Nat.le_of_ble_eq_true rfl)
  rw [lg_entry_eq]
  generalize (lg_sl ([.ref (a0 0), .int p1]) ++ List.replicate (8 - (lg_sl ([.ref (a0 0), .int p1])).length) Slot.unset).toArray = ls at hl ⊢
  have hl : lv_has ls 8 [(0, .ref (a0 0)), (1, .int p1)] := hl
  obtain ⟨H, hHe⟩ : ∃ H, H = s.heap := ⟨_, rfl⟩
  have hS : va_S A s.heap H [] := by rw [hHe]; exact hS
  have hP : va_P (dC, dI) vwCl (wd_X12_bounds cI a0 v0_2 v0_3 v0_5 v0_12 v0_13 v0_16 v0_17 v0_21 v0_23 v0_24 v0_25 v0_26 v0_29 v0_30 v0_0 v0_6 v0_7 v0_8 v0_9 v0_10 v0_11 v0_14 v0_15 v0_18 v0_19 v0_20 v0_22) H := by rw [hHe]; exact hP
  rw [← hHe]
  unfold F_X12_bounds at hF
  have j198 : ∀ (v0_3 : Int32) (v0_12 : Int32) (v0_13 : Int32) (v0_16 : Int32) (v0_17 : Int32) (v0_21 : Int32) (v0_23 : Int32) (v0_6 : Nat → Int32) (v0_7 : Nat → Int32) (v0_8 : Nat → Int32) (v0_9 : Nat → Int32) (v0_10 : Nat → Int32) (v0_11 : Nat → Int32) (v0_14 : Nat → Int32) (v0_15 : Nat → Int32) (v0_18 : Nat → Int32) (v0_19 : Nat → Int32) (v0_20 : Nat → Int32) (v0_22 : Nat → Int32) (x3 : Int32), F_X12_bounds_j198 v0_3 v0_12 v0_13 v0_16 v0_17 v0_21 v0_23 v0_6 v0_7 v0_8 v0_9 v0_10 v0_11 v0_14 v0_15 v0_18 v0_19 v0_20 v0_22 x3 = some u → ∀ (H : Heap) (locs : List Loc) (ls : Array Slot), va_P (dC, dI) vwCl (wd_X12_bounds cI a0 v0_2 v0_3 v0_5 v0_12 v0_13 v0_16 v0_17 v0_21 v0_23 v0_24 v0_25 v0_26 v0_29 v0_30 v0_0 v0_6 v0_7 v0_8 v0_9 v0_10 v0_11 v0_14 v0_15 v0_18 v0_19 v0_20 v0_22) H → va_D A (wd_X12_bounds cI a0 v0_2 v0_3 v0_5 v0_12 v0_13 v0_16 v0_17 v0_21 v0_23 v0_24 v0_25 v0_26 v0_29 v0_30 v0_0 v0_6 v0_7 v0_8 v0_9 v0_10 v0_11 v0_14 v0_15 v0_18 v0_19 v0_20 v0_22) → va_S A s.heap H locs → lv_has ls 8 [(3, .int x3)] → W p l e (headSpec wz_X12_bounds rm_X12_bounds).room s m [.ref (a0 0), .int p1].toArray below meth c H locs 0 0 (MQ below (Q_X12_bounds dC dI cI a0 v0_2 v0_5 v0_24 v0_25 v0_26 v0_29 v0_30 v0_0 u A) [.ref (a0 0), .int p1].toArray s 0 0 A) (F0 m 198 ls []) := by
    intro v0_3 v0_12 v0_13 v0_16 v0_17 v0_21 v0_23 v0_6 v0_7 v0_8 v0_9 v0_10 v0_11 v0_14 v0_15 v0_18 v0_19 v0_20 v0_22 x3 hF H locs ls hP hD hS hl
    unfold F_X12_bounds_j198 at hF
    refine lv_iload_n hx hb dX12_bounds_198 rfl (lv_at hl 0 rfl) ?_
    obtain rfl := Option.some.inj hF
    exact W.iret (v := x3) hx hb hr (fun t ht hW => ⟨⟨x3, (), rfl, rfl, by rw [ht]; exact hP, va_K.moved hW.alike hK, hD⟩, hS.F ht⟩) hS.2.2 dX12_bounds_199
  have j68 : ∀ (v0_3 : Int32) (v0_12 : Int32) (v0_13 : Int32) (v0_16 : Int32) (v0_17 : Int32) (v0_21 : Int32) (v0_23 : Int32) (v0_6 : Nat → Int32) (v0_7 : Nat → Int32) (v0_8 : Nat → Int32) (v0_9 : Nat → Int32) (v0_10 : Nat → Int32) (v0_11 : Nat → Int32) (v0_14 : Nat → Int32) (v0_15 : Nat → Int32) (v0_18 : Nat → Int32) (v0_19 : Nat → Int32) (v0_20 : Nat → Int32) (v0_22 : Nat → Int32) (x1 : Int32) (x2 : Int32) (x3 : Int32) (x4 : Int32), F_X12_bounds_j68 n v0_3 v0_12 v0_13 v0_16 v0_17 v0_21 v0_23 v0_0 v0_6 v0_7 v0_8 v0_9 v0_10 v0_11 v0_14 v0_15 v0_18 v0_19 v0_20 v0_22 x1 x2 x3 x4 = some u → ∀ (H : Heap) (locs : List Loc) (ls : Array Slot), va_P (dC, dI) vwCl (wd_X12_bounds cI a0 v0_2 v0_3 v0_5 v0_12 v0_13 v0_16 v0_17 v0_21 v0_23 v0_24 v0_25 v0_26 v0_29 v0_30 v0_0 v0_6 v0_7 v0_8 v0_9 v0_10 v0_11 v0_14 v0_15 v0_18 v0_19 v0_20 v0_22) H → va_D A (wd_X12_bounds cI a0 v0_2 v0_3 v0_5 v0_12 v0_13 v0_16 v0_17 v0_21 v0_23 v0_24 v0_25 v0_26 v0_29 v0_30 v0_0 v0_6 v0_7 v0_8 v0_9 v0_10 v0_11 v0_14 v0_15 v0_18 v0_19 v0_20 v0_22) → va_S A s.heap H locs → lv_has ls 8 [(0, .ref (a0 0)), (1, .int x1), (2, .int x2), (3, .int x3), (4, .int x4)] → W p l e (headSpec wz_X12_bounds rm_X12_bounds).room s m [.ref (a0 0), .int p1].toArray below meth c H locs 0 0 (MQ below (Q_X12_bounds dC dI cI a0 v0_2 v0_5 v0_24 v0_25 v0_26 v0_29 v0_30 v0_0 u A) [.ref (a0 0), .int p1].toArray s 0 0 A) (F0 m 68 ls []) := by
    intro v0_3 v0_12 v0_13 v0_16 v0_17 v0_21 v0_23 v0_6 v0_7 v0_8 v0_9 v0_10 v0_11 v0_14 v0_15 v0_18 v0_19 v0_20 v0_22 x1 x2 x3 x4 hF H locs ls hP hD hS hl
    unfold F_X12_bounds_j68 at hF
    obtain ⟨x_68, hL_68, hE_68⟩ := obd_some hF
    have kl_68 : ∀ (k : Nat) (s68 : Int32 × Int32), lpq (F_X12_bounds_b68 n v0_23 v0_0 v0_22 x1 x2) k s68 = some x_68 → ∀ (H : Heap) (locs : List Loc) (ls : Array Slot), va_P (dC, dI) vwCl (wd_X12_bounds cI a0 v0_2 v0_3 v0_5 v0_12 v0_13 v0_16 v0_17 v0_21 v0_23 v0_24 v0_25 v0_26 v0_29 v0_30 v0_0 v0_6 v0_7 v0_8 v0_9 v0_10 v0_11 v0_14 v0_15 v0_18 v0_19 v0_20 v0_22) H → va_D A (wd_X12_bounds cI a0 v0_2 v0_3 v0_5 v0_12 v0_13 v0_16 v0_17 v0_21 v0_23 v0_24 v0_25 v0_26 v0_29 v0_30 v0_0 v0_6 v0_7 v0_8 v0_9 v0_10 v0_11 v0_14 v0_15 v0_18 v0_19 v0_20 v0_22) → va_S A s.heap H locs → lv_has ls 8 [(0, .ref (a0 0)), (1, .int x1), (2, .int x2), (3, .int s68.1), (4, .int s68.2)] → W p l e (headSpec wz_X12_bounds rm_X12_bounds).room s m [.ref (a0 0), .int p1].toArray below meth c H locs 0 0 (MQ below (Q_X12_bounds dC dI cI a0 v0_2 v0_5 v0_24 v0_25 v0_26 v0_29 v0_30 v0_0 u A) [.ref (a0 0), .int p1].toArray s 0 0 A) (F0 m 68 ls []) := by
      intro k
      induction k with
      | zero => intro s68 h; exact absurd h lpq_zero
      | succ k ih_68 =>
        intro s68 h H locs ls hP hD hS hl
        obtain ⟨o_68, hF, hO_68⟩ := lpq_succ h
        unfold F_X12_bounds_b68 at hF
        have j192 : ∀ (x3 : Int32) (x4 : Int32), F_X12_bounds_j192 x3 x4 = some o_68 → ∀ (H : Heap) (locs : List Loc) (ls : Array Slot), va_P (dC, dI) vwCl (wd_X12_bounds cI a0 v0_2 v0_3 v0_5 v0_12 v0_13 v0_16 v0_17 v0_21 v0_23 v0_24 v0_25 v0_26 v0_29 v0_30 v0_0 v0_6 v0_7 v0_8 v0_9 v0_10 v0_11 v0_14 v0_15 v0_18 v0_19 v0_20 v0_22) H → va_D A (wd_X12_bounds cI a0 v0_2 v0_3 v0_5 v0_12 v0_13 v0_16 v0_17 v0_21 v0_23 v0_24 v0_25 v0_26 v0_29 v0_30 v0_0 v0_6 v0_7 v0_8 v0_9 v0_10 v0_11 v0_14 v0_15 v0_18 v0_19 v0_20 v0_22) → va_S A s.heap H locs → lv_has ls 8 [(0, .ref (a0 0)), (1, .int x1), (2, .int x2), (3, .int x3), (4, .int x4)] → W p l e (headSpec wz_X12_bounds rm_X12_bounds).room s m [.ref (a0 0), .int p1].toArray below meth c H locs 0 0 (MQ below (Q_X12_bounds dC dI cI a0 v0_2 v0_5 v0_24 v0_25 v0_26 v0_29 v0_30 v0_0 u A) [.ref (a0 0), .int p1].toArray s 0 0 A) (F0 m 192 ls []) := by
          intro x3 x4 hF H locs ls hP hD hS hl
          unfold F_X12_bounds_j192 at hF
          obtain ⟨y_1, ey_1, hF⟩ := lt_some hF
          refine lv_iinc (v := y_1) (lv' := [(4, .int y_1), (0, .ref (a0 0)), (1, .int x1), (2, .int x2), (3, .int x3)]) hx hb dX12_bounds_192 hl (k := 4) rfl (by rw [ey_1]; rfl) (by decide) rfl (fun ls hl => ?_)
          refine lv_goto (tgt := 68) hx hb dX12_bounds_195 (by decide) ?_
          obtain rfl := Option.some.inj hF
          exact ih_68 _ hO_68 _ _ _ hP hD hS (lv_sub hl [1, 2, 3, 4, 0] rfl)
        have j100 : ∀ (x3 : Int32) (x4 : Int32) (x5 : Int32) (x6 : Int32), F_X12_bounds_j100 n v0_22 x1 x2 x3 x4 x5 x6 = some o_68 → ∀ (H : Heap) (locs : List Loc) (ls : Array Slot), va_P (dC, dI) vwCl (wd_X12_bounds cI a0 v0_2 v0_3 v0_5 v0_12 v0_13 v0_16 v0_17 v0_21 v0_23 v0_24 v0_25 v0_26 v0_29 v0_30 v0_0 v0_6 v0_7 v0_8 v0_9 v0_10 v0_11 v0_14 v0_15 v0_18 v0_19 v0_20 v0_22) H → va_D A (wd_X12_bounds cI a0 v0_2 v0_3 v0_5 v0_12 v0_13 v0_16 v0_17 v0_21 v0_23 v0_24 v0_25 v0_26 v0_29 v0_30 v0_0 v0_6 v0_7 v0_8 v0_9 v0_10 v0_11 v0_14 v0_15 v0_18 v0_19 v0_20 v0_22) → va_S A s.heap H locs → lv_has ls 8 [(0, .ref (a0 0)), (1, .int x1), (2, .int x2), (3, .int x3), (4, .int x4), (5, .int x5), (6, .int x6)] → W p l e (headSpec wz_X12_bounds rm_X12_bounds).room s m [.ref (a0 0), .int p1].toArray below meth c H locs 0 0 (MQ below (Q_X12_bounds dC dI cI a0 v0_2 v0_5 v0_24 v0_25 v0_26 v0_29 v0_30 v0_0 u A) [.ref (a0 0), .int p1].toArray s 0 0 A) (F0 m 100 ls []) := by
          intro x3 x4 x5 x6 hF H locs ls hP hD hS hl
          unfold F_X12_bounds_j100 at hF
          obtain ⟨x_100, hL_100, hE_100⟩ := obd_some hF
          have kl_100 : ∀ (k : Nat) (s100 : Int32 × Int32), lpq (F_X12_bounds_b100 v0_22 x1 x2 x4 x5) k s100 = some x_100 → ∀ (H : Heap) (locs : List Loc) (ls : Array Slot), va_P (dC, dI) vwCl (wd_X12_bounds cI a0 v0_2 v0_3 v0_5 v0_12 v0_13 v0_16 v0_17 v0_21 v0_23 v0_24 v0_25 v0_26 v0_29 v0_30 v0_0 v0_6 v0_7 v0_8 v0_9 v0_10 v0_11 v0_14 v0_15 v0_18 v0_19 v0_20 v0_22) H → va_D A (wd_X12_bounds cI a0 v0_2 v0_3 v0_5 v0_12 v0_13 v0_16 v0_17 v0_21 v0_23 v0_24 v0_25 v0_26 v0_29 v0_30 v0_0 v0_6 v0_7 v0_8 v0_9 v0_10 v0_11 v0_14 v0_15 v0_18 v0_19 v0_20 v0_22) → va_S A s.heap H locs → lv_has ls 8 [(0, .ref (a0 0)), (1, .int x1), (2, .int x2), (3, .int s100.1), (4, .int x4), (5, .int x5), (6, .int s100.2)] → W p l e (headSpec wz_X12_bounds rm_X12_bounds).room s m [.ref (a0 0), .int p1].toArray below meth c H locs 0 0 (MQ below (Q_X12_bounds dC dI cI a0 v0_2 v0_5 v0_24 v0_25 v0_26 v0_29 v0_30 v0_0 u A) [.ref (a0 0), .int p1].toArray s 0 0 A) (F0 m 100 ls []) := by
            intro k
            induction k with
            | zero => intro s100 h; exact absurd h lpq_zero
            | succ k ih_100 =>
              intro s100 h H locs ls hP hD hS hl
              obtain ⟨o_100, hF, hO_100⟩ := lpq_succ h
              unfold F_X12_bounds_b100 at hF
              have j185 : ∀ (x6 : Int32) (t0 : Int32), F_X12_bounds_j185 x6 t0 = some o_100 → ∀ (H : Heap) (locs : List Loc) (ls : Array Slot), va_P (dC, dI) vwCl (wd_X12_bounds cI a0 v0_2 v0_3 v0_5 v0_12 v0_13 v0_16 v0_17 v0_21 v0_23 v0_24 v0_25 v0_26 v0_29 v0_30 v0_0 v0_6 v0_7 v0_8 v0_9 v0_10 v0_11 v0_14 v0_15 v0_18 v0_19 v0_20 v0_22) H → va_D A (wd_X12_bounds cI a0 v0_2 v0_3 v0_5 v0_12 v0_13 v0_16 v0_17 v0_21 v0_23 v0_24 v0_25 v0_26 v0_29 v0_30 v0_0 v0_6 v0_7 v0_8 v0_9 v0_10 v0_11 v0_14 v0_15 v0_18 v0_19 v0_20 v0_22) → va_S A s.heap H locs → lv_has ls 8 [(0, .ref (a0 0)), (1, .int x1), (2, .int x2), (4, .int x4), (5, .int x5), (6, .int x6)] → W p l e (headSpec wz_X12_bounds rm_X12_bounds).room s m [.ref (a0 0), .int p1].toArray below meth c H locs 0 0 (MQ below (Q_X12_bounds dC dI cI a0 v0_2 v0_5 v0_24 v0_25 v0_26 v0_29 v0_30 v0_0 u A) [.ref (a0 0), .int p1].toArray s 0 0 A) (F0 m 185 ls [.int t0]) := by
                intro x6 t0 hF H locs ls hP hD hS hl
                unfold F_X12_bounds_j185 at hF
                refine lv_istore_n (lv' := [(3, .int t0), (0, .ref (a0 0)), (1, .int x1), (2, .int x2), (4, .int x4), (5, .int x5), (6, .int x6)]) hx hb dX12_bounds_185 rfl hl (by decide) rfl (fun ls hl => ?_)
                obtain ⟨y_2, ey_2, hF⟩ := lt_some hF
                refine lv_iinc (v := y_2) (lv' := [(6, .int y_2), (3, .int t0), (0, .ref (a0 0)), (1, .int x1), (2, .int x2), (4, .int x4), (5, .int x5)]) hx hb dX12_bounds_186 hl (k := 6) rfl (by rw [ey_2]; rfl) (by decide) rfl (fun ls hl => ?_)
                refine lv_goto (tgt := 100) hx hb dX12_bounds_189 (by decide) ?_
                obtain rfl := Option.some.inj hF
                exact ih_100 _ hO_100 _ _ _ hP hD hS (lv_sub hl [2, 3, 4, 1, 5, 6, 0] rfl)
              have j151 : ∀ (x3 : Int32) (x6 : Int32) (t0 : Int32) (t1 : Int32), F_X12_bounds_j151 x2 x3 x6 t0 t1 = some o_100 → ∀ (H : Heap) (locs : List Loc) (ls : Array Slot), va_P (dC, dI) vwCl (wd_X12_bounds cI a0 v0_2 v0_3 v0_5 v0_12 v0_13 v0_16 v0_17 v0_21 v0_23 v0_24 v0_25 v0_26 v0_29 v0_30 v0_0 v0_6 v0_7 v0_8 v0_9 v0_10 v0_11 v0_14 v0_15 v0_18 v0_19 v0_20 v0_22) H → va_D A (wd_X12_bounds cI a0 v0_2 v0_3 v0_5 v0_12 v0_13 v0_16 v0_17 v0_21 v0_23 v0_24 v0_25 v0_26 v0_29 v0_30 v0_0 v0_6 v0_7 v0_8 v0_9 v0_10 v0_11 v0_14 v0_15 v0_18 v0_19 v0_20 v0_22) → va_S A s.heap H locs → lv_has ls 8 [(0, .ref (a0 0)), (1, .int x1), (2, .int x2), (3, .int x3), (4, .int x4), (5, .int x5), (6, .int x6)] → W p l e (headSpec wz_X12_bounds rm_X12_bounds).room s m [.ref (a0 0), .int p1].toArray below meth c H locs 0 0 (MQ below (Q_X12_bounds dC dI cI a0 v0_2 v0_5 v0_24 v0_25 v0_26 v0_29 v0_30 v0_0 u A) [.ref (a0 0), .int p1].toArray s 0 0 A) (F0 m 151 ls [.int t1, .int t0]) := by
                intro x3 x6 t0 t1 hF H locs ls hP hD hS hl
                unfold F_X12_bounds_j151 at hF
                refine lv_iadd hx hb dX12_bounds_151 ?_
                obtain ⟨y_3, ey_3, hF⟩ := lt_some hF
                refine lv_eqi ey_3 ?_
                refine lv_istore (lv' := [(7, .int y_3), (0, .ref (a0 0)), (1, .int x1), (2, .int x2), (3, .int x3), (4, .int x4), (5, .int x5), (6, .int x6)]) hx hb dX12_bounds_152 hl (by decide) rfl (fun ls hl => ?_)
                refine lv_iload_n hx hb dX12_bounds_154 rfl (lv_at hl 3 rfl) ?_
                refine lv_if_eq (tgt := 173) hx hb dX12_bounds_155 (by decide) (fun c_4 => ?_) (fun c_4 => ?_)
                · have hF := it_t hF c_4
                  refine lv_iload hx hb dX12_bounds_173 (lv_at hl 0 rfl) ?_
                  refine lv_iload_n hx hb dX12_bounds_175 rfl (lv_at hl 4 rfl) ?_
                  refine lv_icmp_ge (tgt := 184) hx hb dX12_bounds_176 (by decide) (fun c_5 => ?_) (fun c_5 => ?_)
                  · have hF := it_t hF c_5
                    refine lv_iload_n hx hb dX12_bounds_184 rfl (lv_at hl 4 rfl) ?_
                    exact j185 x6 x3 hF _ _ _ hP hD hS (lv_sub hl [1, 2, 3, 5, 6, 7] rfl)
                  · have hF := it_f hF c_5
                    refine lv_iload hx hb dX12_bounds_179 (lv_at hl 0 rfl) ?_
                    refine lv_goto (tgt := 185) hx hb dX12_bounds_181 (by decide) ?_
                    exact j185 x6 y_3 hF _ _ _ hP hD hS (lv_sub hl [1, 2, 3, 5, 6, 7] rfl)
                · have hF := it_f hF c_4
                  refine lv_iload hx hb dX12_bounds_158 (lv_at hl 0 rfl) ?_
                  refine lv_iload_n hx hb dX12_bounds_160 rfl (lv_at hl 4 rfl) ?_
                  refine lv_icmp_le (tgt := 169) hx hb dX12_bounds_161 (by decide) (fun c_6 => ?_) (fun c_6 => ?_)
                  · have hF := it_t hF c_6
                    refine lv_iload_n hx hb dX12_bounds_169 rfl (lv_at hl 4 rfl) ?_
                    refine lv_goto (tgt := 185) hx hb dX12_bounds_170 (by decide) ?_
                    exact j185 x6 x3 hF _ _ _ hP hD hS (lv_sub hl [1, 2, 3, 5, 6, 7] rfl)
                  · have hF := it_f hF c_6
                    refine lv_iload hx hb dX12_bounds_164 (lv_at hl 0 rfl) ?_
                    refine lv_goto (tgt := 185) hx hb dX12_bounds_166 (by decide) ?_
                    exact j185 x6 y_3 hF _ _ _ hP hD hS (lv_sub hl [1, 2, 3, 5, 6, 7] rfl)
              have j135 : ∀ (x3 : Int32) (x6 : Int32) (t0 : Int32), F_X12_bounds_j135 x2 x3 x5 x6 t0 = some o_100 → ∀ (H : Heap) (locs : List Loc) (ls : Array Slot), va_P (dC, dI) vwCl (wd_X12_bounds cI a0 v0_2 v0_3 v0_5 v0_12 v0_13 v0_16 v0_17 v0_21 v0_23 v0_24 v0_25 v0_26 v0_29 v0_30 v0_0 v0_6 v0_7 v0_8 v0_9 v0_10 v0_11 v0_14 v0_15 v0_18 v0_19 v0_20 v0_22) H → va_D A (wd_X12_bounds cI a0 v0_2 v0_3 v0_5 v0_12 v0_13 v0_16 v0_17 v0_21 v0_23 v0_24 v0_25 v0_26 v0_29 v0_30 v0_0 v0_6 v0_7 v0_8 v0_9 v0_10 v0_11 v0_14 v0_15 v0_18 v0_19 v0_20 v0_22) → va_S A s.heap H locs → lv_has ls 8 [(0, .ref (a0 0)), (1, .int x1), (2, .int x2), (3, .int x3), (4, .int x4), (5, .int x5), (6, .int x6)] → W p l e (headSpec wz_X12_bounds rm_X12_bounds).room s m [.ref (a0 0), .int p1].toArray below meth c H locs 0 0 (MQ below (Q_X12_bounds dC dI cI a0 v0_2 v0_5 v0_24 v0_25 v0_26 v0_29 v0_30 v0_0 u A) [.ref (a0 0), .int p1].toArray s 0 0 A) (F0 m 135 ls [.int t0]) := by
                intro x3 x6 t0 hF H locs ls hP hD hS hl
                unfold F_X12_bounds_j135 at hF
                refine lv_istore (lv' := [(7, .int t0), (0, .ref (a0 0)), (1, .int x1), (2, .int x2), (3, .int x3), (4, .int x4), (5, .int x5), (6, .int x6)]) hx hb dX12_bounds_135 hl (by decide) rfl (fun ls hl => ?_)
                refine lv_iload hx hb dX12_bounds_137 (lv_at hl 0 rfl) ?_
                refine lv_iload_n hx hb dX12_bounds_139 rfl (lv_at hl 3 rfl) ?_
                refine lv_if_eq (tgt := 148) hx hb dX12_bounds_140 (by decide) (fun c_7 => ?_) (fun c_7 => ?_)
                · have hF := it_t hF c_7
                  refine lv_iload hx hb dX12_bounds_148 (lv_at hl 6 rfl) ?_
                  refine lv_ineg hx hb dX12_bounds_150 ?_
                  exact j151 x3 x6 t0 (-x5) hF _ _ _ hP hD hS (lv_sub hl [1, 2, 3, 4, 5, 6, 7] rfl)
                · have hF := it_f hF c_7
                  refine lv_iload hx hb dX12_bounds_143 (lv_at hl 6 rfl) ?_
                  refine lv_goto (tgt := 151) hx hb dX12_bounds_145 (by decide) ?_
                  exact j151 x3 x6 t0 x5 hF _ _ _ hP hD hS (lv_sub hl [1, 2, 3, 4, 5, 6, 7] rfl)
              refine lv_iload hx hb dX12_bounds_100 (lv_at hl 6 rfl) ?_
              refine lv_aload_n hx hb dX12_bounds_102 rfl (lv_at hl 0 rfl) ?_
              refine lv_iload hx hb dX12_bounds_103 (lv_at hl 4 rfl) ?_
              obtain ⟨u_8, hu_8, hF⟩ := obd_some hF
              have hPc := hP.sub (ws' := (wd_X12_cornersOf cI a0 v0_2 v0_3 v0_5 v0_12 v0_13 v0_16 v0_17 v0_21 v0_23 v0_24 v0_25 v0_26 v0_29 v0_30 v0_22)) [0, 13] rfl
              have hDc := hD.sub (ws' := (wd_X12_cornersOf cI a0 v0_2 v0_3 v0_5 v0_12 v0_13 v0_16 v0_17 v0_21 v0_23 v0_24 v0_25 v0_26 v0_29 v0_30 v0_22)) [0, 13] rfl rfl
              refine q_calli (wc := (wd_X12_cornersOf cI a0 v0_2 v0_3 v0_5 v0_12 v0_13 v0_16 v0_17 v0_21 v0_23 v0_24 v0_25 v0_26 v0_29 v0_30 v0_22)) (w1 := (wd_X12_cornersOf cI a0 v0_2 v0_3 v0_5 v0_12 v0_13 v0_16 v0_17 v0_21 v0_23 v0_24 v0_25 v0_26 v0_29 v0_30 v0_22)) (ws' := (wd_X12_bounds cI a0 v0_2 v0_3 v0_5 v0_12 v0_13 v0_16 v0_17 v0_21 v0_23 v0_24 v0_25 v0_26 v0_29 v0_30 v0_0 v0_6 v0_7 v0_8 v0_9 v0_10 v0_11 v0_14 v0_15 v0_18 v0_19 v0_20 v0_22)) hP hD hS hA [0, 13] [1, 2, 3, 4, 5, 6, 7, 8, 9, 10, 11, 12] [12, 0, 1, 2, 3, 4, 5, 6, 7, 8, 9, 10, 11, 13] rfl rfl rfl (by decide) rfl rfl (va_runV (As := [.int x4]) (rest := [.int s100.2]) ⟨hx, hb, hml, hown, hta⟩ (c_X12_cornersOf l dC dI cI H.size a0 v0_2 v0_3 v0_5 v0_12 v0_13 v0_16 v0_17 v0_21 v0_23 v0_24 v0_25 v0_26 v0_29 v0_30 v0_22 x4 u_8 hu_8) (cwV 1 hta (ga_V mA1019 mA1020 mA1021 mA814 mA1014) rfl rfl rfl (by decide +kernel) ⟨Nat.le_of_ble_eq_true rfl, Nat.le_of_ble_eq_true rfl⟩) ⟨q_fb, va_recv hK hP (ci := 11) (q0 := 0) rfl rfl, q_ps hPc hK hDc⟩ rfl rfl hl.1 rfl (lv_room (Nat.le_of_ble_eq_true rfl)) dX12_bounds_105 ⟨Nat.zero_le _, Nat.zero_le _⟩) (fun H locs hP hD hS => ?_)
              refine lv_icmp_ge (tgt := 192) hx hb dX12_bounds_108 (by decide) (fun c_9 => ?_) (fun c_9 => ?_)
              · have hF := it_t hF c_9
                obtain rfl := Option.some.inj hF
                obtain rfl := lpq_x hO_100
                have hF := hE_100
                exact j192 s100.1 x4 hF _ _ _ hP hD hS (lv_sub hl [0, 1, 2, 3, 4] rfl)
              · have hF := it_f hF c_9
                refine lv_iload_n hx hb dX12_bounds_111 rfl (lv_at hl 1 rfl) ?_
                refine lv_iconst (v := 2) hx hb dX12_bounds_112 (by decide) ?_
                refine lv_icmp_ge (tgt := 127) hx hb dX12_bounds_113 (by decide) (fun c_10 => ?_) (fun c_10 => ?_)
                · have hF := it_t hF c_10
                  refine lv_aload_n hx hb dX12_bounds_127 rfl (lv_at hl 0 rfl) ?_
                  refine lv_iload hx hb dX12_bounds_128 (lv_at hl 4 rfl) ?_
                  refine lv_iload hx hb dX12_bounds_130 (lv_at hl 6 rfl) ?_
                  obtain ⟨u_11, hu_11, hF⟩ := obd_some hF
                  have hPc := hP.sub (ws' := (wd_X12_cornerY cI a0 v0_2 v0_3 v0_5 v0_12 v0_13 v0_16 v0_17 v0_21 v0_23 v0_24 v0_25 v0_26 v0_29 v0_30 v0_22)) [0, 13] rfl
                  have hDc := hD.sub (ws' := (wd_X12_cornerY cI a0 v0_2 v0_3 v0_5 v0_12 v0_13 v0_16 v0_17 v0_21 v0_23 v0_24 v0_25 v0_26 v0_29 v0_30 v0_22)) [0, 13] rfl rfl
                  refine q_calli (wc := (wd_X12_cornerY cI a0 v0_2 v0_3 v0_5 v0_12 v0_13 v0_16 v0_17 v0_21 v0_23 v0_24 v0_25 v0_26 v0_29 v0_30 v0_22)) (w1 := (wd_X12_cornerY cI a0 v0_2 v0_3 v0_5 v0_12 v0_13 v0_16 v0_17 v0_21 v0_23 v0_24 v0_25 v0_26 v0_29 v0_30 v0_22)) (ws' := (wd_X12_bounds cI a0 v0_2 v0_3 v0_5 v0_12 v0_13 v0_16 v0_17 v0_21 v0_23 v0_24 v0_25 v0_26 v0_29 v0_30 v0_0 v0_6 v0_7 v0_8 v0_9 v0_10 v0_11 v0_14 v0_15 v0_18 v0_19 v0_20 v0_22)) hP hD hS hA [0, 13] [1, 2, 3, 4, 5, 6, 7, 8, 9, 10, 11, 12] [12, 0, 1, 2, 3, 4, 5, 6, 7, 8, 9, 10, 11, 13] rfl rfl rfl (by decide) rfl rfl (va_runV (As := [.int x4, .int s100.2]) (rest := []) ⟨hx, hb, hml, hown, hta⟩ (c_X12_cornerY l dC dI cI H.size a0 v0_2 v0_3 v0_5 v0_12 v0_13 v0_16 v0_17 v0_21 v0_23 v0_24 v0_25 v0_26 v0_29 v0_30 v0_22 x4 s100.2 u_11 hu_11) (cwV 2 hta (ga_V mA1031 mA1032 mA1033 mA814 mA1022) rfl rfl rfl (by decide +kernel) ⟨Nat.le_of_ble_eq_true rfl, Nat.le_of_ble_eq_true rfl⟩) ⟨q_fb, va_recv hK hP (ci := 11) (q0 := 0) rfl rfl, q_ps hPc hK hDc⟩ rfl rfl hl.1 rfl (lv_room (Nat.le_of_ble_eq_true rfl)) dX12_bounds_132 ⟨Nat.zero_le _, Nat.zero_le _⟩) (fun H locs hP hD hS => ?_)
                  exact j135 s100.1 s100.2 u_11 hF _ _ _ hP hD hS (lv_sub hl [0, 1, 2, 3, 4, 5, 6] rfl)
                · have hF := it_f hF c_10
                  refine lv_aload_n hx hb dX12_bounds_116 rfl (lv_at hl 0 rfl) ?_
                  refine lv_iload hx hb dX12_bounds_117 (lv_at hl 4 rfl) ?_
                  refine lv_iload hx hb dX12_bounds_119 (lv_at hl 6 rfl) ?_
                  obtain ⟨u_12, hu_12, hF⟩ := obd_some hF
                  have hPc := hP.sub (ws' := (wd_X12_cornerX cI a0 v0_2 v0_3 v0_5 v0_12 v0_13 v0_16 v0_17 v0_21 v0_23 v0_24 v0_25 v0_26 v0_29 v0_30 v0_22)) [0, 13] rfl
                  have hDc := hD.sub (ws' := (wd_X12_cornerX cI a0 v0_2 v0_3 v0_5 v0_12 v0_13 v0_16 v0_17 v0_21 v0_23 v0_24 v0_25 v0_26 v0_29 v0_30 v0_22)) [0, 13] rfl rfl
                  refine q_calli (wc := (wd_X12_cornerX cI a0 v0_2 v0_3 v0_5 v0_12 v0_13 v0_16 v0_17 v0_21 v0_23 v0_24 v0_25 v0_26 v0_29 v0_30 v0_22)) (w1 := (wd_X12_cornerX cI a0 v0_2 v0_3 v0_5 v0_12 v0_13 v0_16 v0_17 v0_21 v0_23 v0_24 v0_25 v0_26 v0_29 v0_30 v0_22)) (ws' := (wd_X12_bounds cI a0 v0_2 v0_3 v0_5 v0_12 v0_13 v0_16 v0_17 v0_21 v0_23 v0_24 v0_25 v0_26 v0_29 v0_30 v0_0 v0_6 v0_7 v0_8 v0_9 v0_10 v0_11 v0_14 v0_15 v0_18 v0_19 v0_20 v0_22)) hP hD hS hA [0, 13] [1, 2, 3, 4, 5, 6, 7, 8, 9, 10, 11, 12] [12, 0, 1, 2, 3, 4, 5, 6, 7, 8, 9, 10, 11, 13] rfl rfl rfl (by decide) rfl rfl (va_runV (As := [.int x4, .int s100.2]) (rest := []) ⟨hx, hb, hml, hown, hta⟩ (c_X12_cornerX l dC dI cI H.size a0 v0_2 v0_3 v0_5 v0_12 v0_13 v0_16 v0_17 v0_21 v0_23 v0_24 v0_25 v0_26 v0_29 v0_30 v0_22 x4 s100.2 u_12 hu_12) (cwV 2 hta (ga_V mA1028 mA1029 mA1030 mA814 mA1018) rfl rfl rfl (by decide +kernel) ⟨Nat.le_of_ble_eq_true rfl, Nat.le_of_ble_eq_true rfl⟩) ⟨q_fb, va_recv hK hP (ci := 11) (q0 := 0) rfl rfl, q_ps hPc hK hDc⟩ rfl rfl hl.1 rfl (lv_room (Nat.le_of_ble_eq_true rfl)) dX12_bounds_121 ⟨Nat.zero_le _, Nat.zero_le _⟩) (fun H locs hP hD hS => ?_)
                  refine lv_goto (tgt := 135) hx hb dX12_bounds_124 (by decide) ?_
                  exact j135 s100.1 s100.2 u_12 hF _ _ _ hP hD hS (lv_sub hl [0, 1, 2, 3, 4, 5, 6] rfl)
          exact kl_100 n _ hL_100 _ _ _ hP hD hS hl
        have j95 : ∀ (x3 : Int32) (x4 : Int32) (t0 : Int32), F_X12_bounds_j95 n v0_22 x1 x2 x3 x4 t0 = some o_68 → ∀ (H : Heap) (locs : List Loc) (ls : Array Slot), va_P (dC, dI) vwCl (wd_X12_bounds cI a0 v0_2 v0_3 v0_5 v0_12 v0_13 v0_16 v0_17 v0_21 v0_23 v0_24 v0_25 v0_26 v0_29 v0_30 v0_0 v0_6 v0_7 v0_8 v0_9 v0_10 v0_11 v0_14 v0_15 v0_18 v0_19 v0_20 v0_22) H → va_D A (wd_X12_bounds cI a0 v0_2 v0_3 v0_5 v0_12 v0_13 v0_16 v0_17 v0_21 v0_23 v0_24 v0_25 v0_26 v0_29 v0_30 v0_0 v0_6 v0_7 v0_8 v0_9 v0_10 v0_11 v0_14 v0_15 v0_18 v0_19 v0_20 v0_22) → va_S A s.heap H locs → lv_has ls 8 [(0, .ref (a0 0)), (1, .int x1), (2, .int x2), (3, .int x3), (4, .int x4)] → W p l e (headSpec wz_X12_bounds rm_X12_bounds).room s m [.ref (a0 0), .int p1].toArray below meth c H locs 0 0 (MQ below (Q_X12_bounds dC dI cI a0 v0_2 v0_5 v0_24 v0_25 v0_26 v0_29 v0_30 v0_0 u A) [.ref (a0 0), .int p1].toArray s 0 0 A) (F0 m 95 ls [.int t0]) := by
          intro x3 x4 t0 hF H locs ls hP hD hS hl
          unfold F_X12_bounds_j95 at hF
          refine lv_istore (lv' := [(5, .int t0), (0, .ref (a0 0)), (1, .int x1), (2, .int x2), (3, .int x3), (4, .int x4)]) hx hb dX12_bounds_95 hl (by decide) rfl (fun ls hl => ?_)
          refine lv_iconst (v := 0) hx hb dX12_bounds_97 (by decide) ?_
          refine lv_istore (lv' := [(6, .int 0), (5, .int t0), (0, .ref (a0 0)), (1, .int x1), (2, .int x2), (3, .int x3), (4, .int x4)]) hx hb dX12_bounds_98 hl (by decide) rfl (fun ls hl => ?_)
          exact j100 x3 x4 t0 0 hF _ _ _ hP hD hS (lv_sub hl [2, 3, 4, 5, 6, 1, 0] rfl)
        refine lv_iload hx hb dX12_bounds_68 (lv_at hl 4 rfl) ?_
        refine lv_aload_n hx hb dX12_bounds_70 rfl (lv_at hl 0 rfl) ?_
        refine va_get (D := (dC, dI)) (ci := 11) (v := .int v0_23) (C := RX12) (T := TX12) (N := 31) hx hb hta uw_X12 hown hK hP 0 rfl rfl 23 (by decide) (hta _ mA953) (fun _ h9 => h9) rfl dX12_bounds_71 ?_
        refine lv_icmp_ge (tgt := 198) hx hb dX12_bounds_74 (by decide) (fun c_13 => ?_) (fun c_13 => ?_)
        · have hF := it_t hF c_13
          obtain rfl := Option.some.inj hF
          obtain rfl := lpq_x hO_68
          have hF := hE_68
          exact j198 v0_3 v0_12 v0_13 v0_16 v0_17 v0_21 v0_23 v0_6 v0_7 v0_8 v0_9 v0_10 v0_11 v0_14 v0_15 v0_18 v0_19 v0_20 v0_22 s68.1 hF _ _ _ hP hD hS (lv_sub hl [3] rfl)
        · have hF := it_f hF c_13
          refine lv_aload_n hx hb dX12_bounds_77 rfl (lv_at hl 0 rfl) ?_
          refine lv_iload hx hb dX12_bounds_78 (lv_at hl 4 rfl) ?_
          obtain ⟨u_14, hu_14, hF⟩ := obd_some hF
          have hPc := hP.sub (ws' := (wd_X12_kindOf cI a0 v0_2 v0_3 v0_5 v0_12 v0_13 v0_16 v0_17 v0_21 v0_23 v0_24 v0_25 v0_26 v0_29 v0_30 v0_22)) [0, 13] rfl
          have hDc := hD.sub (ws' := (wd_X12_kindOf cI a0 v0_2 v0_3 v0_5 v0_12 v0_13 v0_16 v0_17 v0_21 v0_23 v0_24 v0_25 v0_26 v0_29 v0_30 v0_22)) [0, 13] rfl rfl
          refine q_calli (wc := (wd_X12_kindOf cI a0 v0_2 v0_3 v0_5 v0_12 v0_13 v0_16 v0_17 v0_21 v0_23 v0_24 v0_25 v0_26 v0_29 v0_30 v0_22)) (w1 := (wd_X12_kindOf cI a0 v0_2 v0_3 v0_5 v0_12 v0_13 v0_16 v0_17 v0_21 v0_23 v0_24 v0_25 v0_26 v0_29 v0_30 v0_22)) (ws' := (wd_X12_bounds cI a0 v0_2 v0_3 v0_5 v0_12 v0_13 v0_16 v0_17 v0_21 v0_23 v0_24 v0_25 v0_26 v0_29 v0_30 v0_0 v0_6 v0_7 v0_8 v0_9 v0_10 v0_11 v0_14 v0_15 v0_18 v0_19 v0_20 v0_22)) hP hD hS hA [0, 13] [1, 2, 3, 4, 5, 6, 7, 8, 9, 10, 11, 12] [12, 0, 1, 2, 3, 4, 5, 6, 7, 8, 9, 10, 11, 13] rfl rfl rfl (by decide) rfl rfl (va_runV (As := [.int s68.2]) (rest := []) ⟨hx, hb, hml, hown, hta⟩ (c_X12_kindOf l dC dI cI H.size a0 v0_2 v0_3 v0_5 v0_12 v0_13 v0_16 v0_17 v0_21 v0_23 v0_24 v0_25 v0_26 v0_29 v0_30 v0_22 s68.2 u_14 hu_14) (cwV 1 hta (ga_V mA1015 mA1016 mA1017 mA814 mA1013) rfl rfl rfl (by decide +kernel) ⟨Nat.le_of_ble_eq_true rfl, Nat.le_of_ble_eq_true rfl⟩) ⟨q_fb, va_recv hK hP (ci := 11) (q0 := 0) rfl rfl, q_ps hPc hK hDc⟩ rfl rfl hl.1 rfl (lv_room (Nat.le_of_ble_eq_true rfl)) dX12_bounds_80 ⟨Nat.zero_le _, Nat.zero_le _⟩) (fun H locs hP hD hS => ?_)
          refine lv_iconst (v := 3) hx hb dX12_bounds_83 (by decide) ?_
          refine lv_icmp_ne (tgt := 94) hx hb dX12_bounds_84 (by decide) (fun c_15 => ?_) (fun c_15 => ?_)
          · have hF := it_f hF c_15
            refine lv_iconst (v := 0) hx hb dX12_bounds_94 (by decide) ?_
            exact j95 s68.1 s68.2 0 hF _ _ _ hP hD hS (lv_sub hl [0, 1, 2, 3, 4] rfl)
          · have hF := it_t hF c_15
            refine lv_aload_n hx hb dX12_bounds_87 rfl (lv_at hl 0 rfl) ?_
            obtain ⟨u_16, hu_16, hF⟩ := obd_some hF
            have hPc := hP.sub (ws' := (wd_X12_half cI a0 v0_2 v0_3 v0_5 v0_12 v0_13 v0_16 v0_17 v0_21 v0_23 v0_24 v0_25 v0_26 v0_29 v0_30 v0_0)) [0, 1] rfl
            have hDc := hD.sub (ws' := (wd_X12_half cI a0 v0_2 v0_3 v0_5 v0_12 v0_13 v0_16 v0_17 v0_21 v0_23 v0_24 v0_25 v0_26 v0_29 v0_30 v0_0)) [0, 1] rfl rfl
            refine q_calli (wc := (wd_X12_half cI a0 v0_2 v0_3 v0_5 v0_12 v0_13 v0_16 v0_17 v0_21 v0_23 v0_24 v0_25 v0_26 v0_29 v0_30 v0_0)) (w1 := (wd_X12_half cI a0 v0_2 v0_3 v0_5 v0_12 v0_13 v0_16 v0_17 v0_21 v0_23 v0_24 v0_25 v0_26 v0_29 v0_30 v0_0)) (ws' := (wd_X12_bounds cI a0 v0_2 v0_3 v0_5 v0_12 v0_13 v0_16 v0_17 v0_21 v0_23 v0_24 v0_25 v0_26 v0_29 v0_30 v0_0 v0_6 v0_7 v0_8 v0_9 v0_10 v0_11 v0_14 v0_15 v0_18 v0_19 v0_20 v0_22)) hP hD hS hA [0, 1] [2, 3, 4, 5, 6, 7, 8, 9, 10, 11, 12, 13] [12, 13, 0, 1, 2, 3, 4, 5, 6, 7, 8, 9, 10, 11] rfl rfl rfl (by decide) rfl rfl (va_runV (As := []) (rest := []) ⟨hx, hb, hml, hown, hta⟩ (c_X12_half l dC dI cI H.size a0 v0_2 v0_3 v0_5 v0_12 v0_13 v0_16 v0_17 v0_21 v0_23 v0_24 v0_25 v0_26 v0_29 v0_30 v0_0 u_16 hu_16) (cwV 0 hta (ga_V mA957 mA958 mA959 mA814 mA951) rfl rfl rfl (by decide +kernel) ⟨Nat.le_of_ble_eq_true rfl, Nat.le_of_ble_eq_true rfl⟩) ⟨q_fb, va_recv hK hP (ci := 11) (q0 := 0) rfl rfl, q_ps hPc hK hDc⟩ rfl rfl hl.1 rfl (lv_room (Nat.le_of_ble_eq_true rfl)) dX12_bounds_88 ⟨Nat.zero_le _, Nat.zero_le _⟩) (fun H locs hP hD hS => ?_)
            refine lv_goto (tgt := 95) hx hb dX12_bounds_91 (by decide) ?_
            exact j95 s68.1 s68.2 u_16 hF _ _ _ hP hD hS (lv_sub hl [0, 1, 2, 3, 4] rfl)
    exact kl_68 n _ hL_68 _ _ _ hP hD hS hl
  have j64 : ∀ (v0_3 : Int32) (v0_12 : Int32) (v0_13 : Int32) (v0_16 : Int32) (v0_17 : Int32) (v0_21 : Int32) (v0_23 : Int32) (v0_6 : Nat → Int32) (v0_7 : Nat → Int32) (v0_8 : Nat → Int32) (v0_9 : Nat → Int32) (v0_10 : Nat → Int32) (v0_11 : Nat → Int32) (v0_14 : Nat → Int32) (v0_15 : Nat → Int32) (v0_18 : Nat → Int32) (v0_19 : Nat → Int32) (v0_20 : Nat → Int32) (v0_22 : Nat → Int32) (x1 : Int32) (x2 : Int32) (t0 : Int32), F_X12_bounds_j64 n v0_3 v0_12 v0_13 v0_16 v0_17 v0_21 v0_23 v0_0 v0_6 v0_7 v0_8 v0_9 v0_10 v0_11 v0_14 v0_15 v0_18 v0_19 v0_20 v0_22 x1 x2 t0 = some u → ∀ (H : Heap) (locs : List Loc) (ls : Array Slot), va_P (dC, dI) vwCl (wd_X12_bounds cI a0 v0_2 v0_3 v0_5 v0_12 v0_13 v0_16 v0_17 v0_21 v0_23 v0_24 v0_25 v0_26 v0_29 v0_30 v0_0 v0_6 v0_7 v0_8 v0_9 v0_10 v0_11 v0_14 v0_15 v0_18 v0_19 v0_20 v0_22) H → va_D A (wd_X12_bounds cI a0 v0_2 v0_3 v0_5 v0_12 v0_13 v0_16 v0_17 v0_21 v0_23 v0_24 v0_25 v0_26 v0_29 v0_30 v0_0 v0_6 v0_7 v0_8 v0_9 v0_10 v0_11 v0_14 v0_15 v0_18 v0_19 v0_20 v0_22) → va_S A s.heap H locs → lv_has ls 8 [(0, .ref (a0 0)), (1, .int x1), (2, .int x2)] → W p l e (headSpec wz_X12_bounds rm_X12_bounds).room s m [.ref (a0 0), .int p1].toArray below meth c H locs 0 0 (MQ below (Q_X12_bounds dC dI cI a0 v0_2 v0_5 v0_24 v0_25 v0_26 v0_29 v0_30 v0_0 u A) [.ref (a0 0), .int p1].toArray s 0 0 A) (F0 m 64 ls [.int t0]) := by
    intro v0_3 v0_12 v0_13 v0_16 v0_17 v0_21 v0_23 v0_6 v0_7 v0_8 v0_9 v0_10 v0_11 v0_14 v0_15 v0_18 v0_19 v0_20 v0_22 x1 x2 t0 hF H locs ls hP hD hS hl
    unfold F_X12_bounds_j64 at hF
    refine lv_istore_n (lv' := [(3, .int t0), (0, .ref (a0 0)), (1, .int x1), (2, .int x2)]) hx hb dX12_bounds_64 rfl hl (by decide) rfl (fun ls hl => ?_)
    refine lv_iconst (v := 0) hx hb dX12_bounds_65 (by decide) ?_
    refine lv_istore (lv' := [(4, .int 0), (3, .int t0), (0, .ref (a0 0)), (1, .int x1), (2, .int x2)]) hx hb dX12_bounds_66 hl (by decide) rfl (fun ls hl => ?_)
    exact j68 v0_3 v0_12 v0_13 v0_16 v0_17 v0_21 v0_23 v0_6 v0_7 v0_8 v0_9 v0_10 v0_11 v0_14 v0_15 v0_18 v0_19 v0_20 v0_22 x1 x2 t0 0 hF _ _ _ hP hD hS (lv_sub hl [2, 3, 4, 1, 0] rfl)
  have j50 : ∀ (v0_3 : Int32) (v0_12 : Int32) (v0_13 : Int32) (v0_16 : Int32) (v0_17 : Int32) (v0_21 : Int32) (v0_23 : Int32) (v0_6 : Nat → Int32) (v0_7 : Nat → Int32) (v0_8 : Nat → Int32) (v0_9 : Nat → Int32) (v0_10 : Nat → Int32) (v0_11 : Nat → Int32) (v0_14 : Nat → Int32) (v0_15 : Nat → Int32) (v0_18 : Nat → Int32) (v0_19 : Nat → Int32) (v0_20 : Nat → Int32) (v0_22 : Nat → Int32) (x1 : Int32) (t0 : Int32), F_X12_bounds_j50 n v0_3 v0_12 v0_13 v0_16 v0_17 v0_21 v0_23 v0_0 v0_6 v0_7 v0_8 v0_9 v0_10 v0_11 v0_14 v0_15 v0_18 v0_19 v0_20 v0_22 x1 t0 = some u → ∀ (H : Heap) (locs : List Loc) (ls : Array Slot), va_P (dC, dI) vwCl (wd_X12_bounds cI a0 v0_2 v0_3 v0_5 v0_12 v0_13 v0_16 v0_17 v0_21 v0_23 v0_24 v0_25 v0_26 v0_29 v0_30 v0_0 v0_6 v0_7 v0_8 v0_9 v0_10 v0_11 v0_14 v0_15 v0_18 v0_19 v0_20 v0_22) H → va_D A (wd_X12_bounds cI a0 v0_2 v0_3 v0_5 v0_12 v0_13 v0_16 v0_17 v0_21 v0_23 v0_24 v0_25 v0_26 v0_29 v0_30 v0_0 v0_6 v0_7 v0_8 v0_9 v0_10 v0_11 v0_14 v0_15 v0_18 v0_19 v0_20 v0_22) → va_S A s.heap H locs → lv_has ls 8 [(0, .ref (a0 0)), (1, .int x1)] → W p l e (headSpec wz_X12_bounds rm_X12_bounds).room s m [.ref (a0 0), .int p1].toArray below meth c H locs 0 0 (MQ below (Q_X12_bounds dC dI cI a0 v0_2 v0_5 v0_24 v0_25 v0_26 v0_29 v0_30 v0_0 u A) [.ref (a0 0), .int p1].toArray s 0 0 A) (F0 m 50 ls [.int t0]) := by
    intro v0_3 v0_12 v0_13 v0_16 v0_17 v0_21 v0_23 v0_6 v0_7 v0_8 v0_9 v0_10 v0_11 v0_14 v0_15 v0_18 v0_19 v0_20 v0_22 x1 t0 hF H locs ls hP hD hS hl
    unfold F_X12_bounds_j50 at hF
    refine lv_istore_n (lv' := [(2, .int t0), (0, .ref (a0 0)), (1, .int x1)]) hx hb dX12_bounds_50 rfl hl (by decide) rfl (fun ls hl => ?_)
    refine lv_iload_n hx hb dX12_bounds_51 rfl (lv_at hl 0 rfl) ?_
    refine lv_if_eq (tgt := 61) hx hb dX12_bounds_52 (by decide) (fun c_17 => ?_) (fun c_17 => ?_)
    · have hF := it_t hF c_17
      refine lv_ldcw (v := 1000000) hx hb hown (hta _ mA1041) dX12_bounds_61 ?_
      exact j64 v0_3 v0_12 v0_13 v0_16 v0_17 v0_21 v0_23 v0_6 v0_7 v0_8 v0_9 v0_10 v0_11 v0_14 v0_15 v0_18 v0_19 v0_20 v0_22 x1 t0 1000000 hF _ _ _ hP hD hS (lv_sub hl [1, 2, 0] rfl)
    · have hF := it_f hF c_17
      refine lv_ldcw (v := (-1000000)) hx hb hown (hta _ mA1040) dX12_bounds_55 ?_
      refine lv_goto (tgt := 64) hx hb dX12_bounds_58 (by decide) ?_
      exact j64 v0_3 v0_12 v0_13 v0_16 v0_17 v0_21 v0_23 v0_6 v0_7 v0_8 v0_9 v0_10 v0_11 v0_14 v0_15 v0_18 v0_19 v0_20 v0_22 x1 t0 (-1000000) hF _ _ _ hP hD hS (lv_sub hl [1, 2, 0] rfl)
  have j30 : ∀ (v0_3 : Int32) (v0_12 : Int32) (v0_13 : Int32) (v0_16 : Int32) (v0_17 : Int32) (v0_21 : Int32) (v0_23 : Int32) (v0_6 : Nat → Int32) (v0_7 : Nat → Int32) (v0_8 : Nat → Int32) (v0_9 : Nat → Int32) (v0_10 : Nat → Int32) (v0_11 : Nat → Int32) (v0_14 : Nat → Int32) (v0_15 : Nat → Int32) (v0_18 : Nat → Int32) (v0_19 : Nat → Int32) (v0_20 : Nat → Int32) (v0_22 : Nat → Int32) (x1 : Int32) (t1 : Int32), F_X12_bounds_j30 n v0_12 v0_13 v0_16 v0_17 v0_21 v0_23 v0_0 v0_6 v0_7 v0_8 v0_9 v0_10 v0_11 v0_14 v0_15 v0_18 v0_19 v0_20 v0_22 x1 t1 = some u → ∀ (H : Heap) (locs : List Loc) (ls : Array Slot), va_P (dC, dI) vwCl (wd_X12_bounds cI a0 v0_2 v0_3 v0_5 v0_12 v0_13 v0_16 v0_17 v0_21 v0_23 v0_24 v0_25 v0_26 v0_29 v0_30 v0_0 v0_6 v0_7 v0_8 v0_9 v0_10 v0_11 v0_14 v0_15 v0_18 v0_19 v0_20 v0_22) H → va_D A (wd_X12_bounds cI a0 v0_2 v0_3 v0_5 v0_12 v0_13 v0_16 v0_17 v0_21 v0_23 v0_24 v0_25 v0_26 v0_29 v0_30 v0_0 v0_6 v0_7 v0_8 v0_9 v0_10 v0_11 v0_14 v0_15 v0_18 v0_19 v0_20 v0_22) → va_S A s.heap H locs → lv_has ls 8 [(0, .ref (a0 0)), (1, .int x1)] → W p l e (headSpec wz_X12_bounds rm_X12_bounds).room s m [.ref (a0 0), .int p1].toArray below meth c H locs 0 0 (MQ below (Q_X12_bounds dC dI cI a0 v0_2 v0_5 v0_24 v0_25 v0_26 v0_29 v0_30 v0_0 u A) [.ref (a0 0), .int p1].toArray s 0 0 A) (F0 m 30 ls [.int t1, .ref (a0 0)]) := by
    intro v0_3 v0_12 v0_13 v0_16 v0_17 v0_21 v0_23 v0_6 v0_7 v0_8 v0_9 v0_10 v0_11 v0_14 v0_15 v0_18 v0_19 v0_20 v0_22 x1 t1 hF H locs ls hP hD hS hl
    unfold F_X12_bounds_j30 at hF
    obtain ⟨u_18, hu_18, hF⟩ := lt_some hF
    have hPc := hP.sub (ws' := (wd_X12_refused cI a0 v0_2 v0_3 v0_5 v0_12 v0_13 v0_16 v0_17 v0_21 v0_23 v0_24 v0_25 v0_26 v0_29 v0_30)) [0] rfl
    have hDc := hD.sub (ws' := (wd_X12_refused cI a0 v0_2 v0_3 v0_5 v0_12 v0_13 v0_16 v0_17 v0_21 v0_23 v0_24 v0_25 v0_26 v0_29 v0_30)) [0] rfl rfl
    refine q_callz (wc := (wd_X12_refused cI a0 v0_2 v0_3 v0_5 v0_12 v0_13 v0_16 v0_17 v0_21 v0_23 v0_24 v0_25 v0_26 v0_29 v0_30)) (w1 := (wd_X12_refused cI a0 v0_2 u_18.2 v0_5 v0_12 v0_13 v0_16 v0_17 v0_21 v0_23 v0_24 v0_25 v0_26 v0_29 v0_30)) (ws' := (wd_X12_bounds cI a0 v0_2 u_18.2 v0_5 v0_12 v0_13 v0_16 v0_17 v0_21 v0_23 v0_24 v0_25 v0_26 v0_29 v0_30 v0_0 v0_6 v0_7 v0_8 v0_9 v0_10 v0_11 v0_14 v0_15 v0_18 v0_19 v0_20 v0_22)) hP hD hS hA [0] [1, 2, 3, 4, 5, 6, 7, 8, 9, 10, 11, 12, 13] [13, 0, 1, 2, 3, 4, 5, 6, 7, 8, 9, 10, 11, 12] rfl rfl rfl (by decide) rfl rfl (va_runV (As := [.int t1]) (rest := []) ⟨hx, hb, hml, hown, hta⟩ (c_X12_refused l dC dI cI H.size a0 v0_2 v0_3 v0_5 v0_12 v0_13 v0_16 v0_17 v0_21 v0_23 v0_24 v0_25 v0_26 v0_29 v0_30 t1 u_18 hu_18.symm) (cwV 1 hta (ga_V mA822 mA823 mA824 mA814 mA809) rfl rfl rfl (by decide +kernel) ⟨Nat.le_of_ble_eq_true rfl, Nat.le_of_ble_eq_true rfl⟩) ⟨q_fb, va_recv hK hP (ci := 11) (q0 := 0) rfl rfl, q_ps hPc hK hDc⟩ rfl rfl hl.1 rfl (lv_room (Nat.le_of_ble_eq_true rfl)) dX12_bounds_30 ⟨Nat.zero_le _, Nat.zero_le _⟩) (fun hzu_18 H locs hP hD hS => ?_)
    refine lv_if_eq (tgt := 38) hx hb dX12_bounds_33 (by decide) (fun c_19 => ?_) (fun c_19 => ?_)
    · have hF := it_t hF c_19
      refine lv_iload_n hx hb dX12_bounds_38 rfl (lv_at hl 1 rfl) ?_
      refine lv_iconst (v := 2) hx hb dX12_bounds_39 (by decide) ?_
      refine lv_irem hx hb dX12_bounds_40 (by decide) ?_
      refine lv_iconst (v := 1) hx hb dX12_bounds_41 (by decide) ?_
      refine lv_icmp_ne (tgt := 49) hx hb dX12_bounds_42 (by decide) (fun c_20 => ?_) (fun c_20 => ?_)
      · have hF := it_f hF c_20
        refine lv_iconst (v := 0) hx hb dX12_bounds_49 (by decide) ?_
        exact j50 u_18.2 v0_12 v0_13 v0_16 v0_17 v0_21 v0_23 v0_6 v0_7 v0_8 v0_9 v0_10 v0_11 v0_14 v0_15 v0_18 v0_19 v0_20 v0_22 x1 0 hF _ _ _ hP hD hS (lv_sub hl [0, 1] rfl)
      · have hF := it_t hF c_20
        refine lv_iconst (v := 1) hx hb dX12_bounds_45 (by decide) ?_
        refine lv_goto (tgt := 50) hx hb dX12_bounds_46 (by decide) ?_
        exact j50 u_18.2 v0_12 v0_13 v0_16 v0_17 v0_21 v0_23 v0_6 v0_7 v0_8 v0_9 v0_10 v0_11 v0_14 v0_15 v0_18 v0_19 v0_20 v0_22 x1 1 hF _ _ _ hP hD hS (lv_sub hl [0, 1] rfl)
    · have hF := it_f hF c_19
      refine lv_iconst (v := 0) hx hb dX12_bounds_36 (by decide) ?_
      obtain rfl := Option.some.inj hF
      exact W.iret (v := 0) hx hb hr (fun t ht hW => ⟨⟨0, (), rfl, rfl, by rw [ht]; exact hP, va_K.moved hW.alike hK, hD⟩, hS.F ht⟩) hS.2.2 dX12_bounds_37
  refine lv_aload_n hx hb dX12_bounds_0 rfl (lv_at hl 0 rfl) ?_
  obtain ⟨u_21, hu_21, hF⟩ := obd_some hF
  have hPc := hP.sub (ws' := (wd_X12_laysPieces cI a0 v0_2 v0_3 v0_5 v0_12 v0_13 v0_16 v0_17 v0_21 v0_23 v0_24 v0_25 v0_26 v0_29 v0_30 v0_0 v0_6 v0_7 v0_8 v0_9 v0_10 v0_11 v0_14 v0_15 v0_18 v0_19 v0_20 v0_22)) [0, 1, 2, 3, 4, 5, 6, 7, 8, 9, 10, 11, 12, 13] rfl
  have hDc := hD.sub (ws' := (wd_X12_laysPieces cI a0 v0_2 v0_3 v0_5 v0_12 v0_13 v0_16 v0_17 v0_21 v0_23 v0_24 v0_25 v0_26 v0_29 v0_30 v0_0 v0_6 v0_7 v0_8 v0_9 v0_10 v0_11 v0_14 v0_15 v0_18 v0_19 v0_20 v0_22)) [0, 1, 2, 3, 4, 5, 6, 7, 8, 9, 10, 11, 12, 13] rfl rfl
  refine q_callv (wc := (wd_X12_laysPieces cI a0 v0_2 v0_3 v0_5 v0_12 v0_13 v0_16 v0_17 v0_21 v0_23 v0_24 v0_25 v0_26 v0_29 v0_30 v0_0 v0_6 v0_7 v0_8 v0_9 v0_10 v0_11 v0_14 v0_15 v0_18 v0_19 v0_20 v0_22)) (w1 := (wd_X12_laysPieces cI a0 v0_2 v0_3 v0_5 u_21.1 u_21.2.1 u_21.2.2.1 u_21.2.2.2.1 u_21.2.2.2.2.1 u_21.2.2.2.2.2.1 v0_24 v0_25 v0_26 v0_29 v0_30 v0_0 u_21.2.2.2.2.2.2.1 u_21.2.2.2.2.2.2.2.1 u_21.2.2.2.2.2.2.2.2.1 u_21.2.2.2.2.2.2.2.2.2.1 u_21.2.2.2.2.2.2.2.2.2.2.1 u_21.2.2.2.2.2.2.2.2.2.2.2.1 u_21.2.2.2.2.2.2.2.2.2.2.2.2.1 u_21.2.2.2.2.2.2.2.2.2.2.2.2.2.1 u_21.2.2.2.2.2.2.2.2.2.2.2.2.2.2.1 u_21.2.2.2.2.2.2.2.2.2.2.2.2.2.2.2.1 u_21.2.2.2.2.2.2.2.2.2.2.2.2.2.2.2.2.1 u_21.2.2.2.2.2.2.2.2.2.2.2.2.2.2.2.2.2)) (ws' := (wd_X12_bounds cI a0 v0_2 v0_3 v0_5 u_21.1 u_21.2.1 u_21.2.2.1 u_21.2.2.2.1 u_21.2.2.2.2.1 u_21.2.2.2.2.2.1 v0_24 v0_25 v0_26 v0_29 v0_30 v0_0 u_21.2.2.2.2.2.2.1 u_21.2.2.2.2.2.2.2.1 u_21.2.2.2.2.2.2.2.2.1 u_21.2.2.2.2.2.2.2.2.2.1 u_21.2.2.2.2.2.2.2.2.2.2.1 u_21.2.2.2.2.2.2.2.2.2.2.2.1 u_21.2.2.2.2.2.2.2.2.2.2.2.2.1 u_21.2.2.2.2.2.2.2.2.2.2.2.2.2.1 u_21.2.2.2.2.2.2.2.2.2.2.2.2.2.2.1 u_21.2.2.2.2.2.2.2.2.2.2.2.2.2.2.2.1 u_21.2.2.2.2.2.2.2.2.2.2.2.2.2.2.2.2.1 u_21.2.2.2.2.2.2.2.2.2.2.2.2.2.2.2.2.2)) hP hD hS hA [0, 1, 2, 3, 4, 5, 6, 7, 8, 9, 10, 11, 12, 13] [] [0, 1, 2, 3, 4, 5, 6, 7, 8, 9, 10, 11, 12, 13] rfl rfl rfl (by decide) rfl rfl (va_runV (As := []) (rest := []) ⟨hx, hb, hml, hown, hta⟩ (c_X12_laysPieces l dC dI cI H.size a0 v0_2 v0_3 v0_5 v0_12 v0_13 v0_16 v0_17 v0_21 v0_23 v0_24 v0_25 v0_26 v0_29 v0_30 v0_0 v0_6 v0_7 v0_8 v0_9 v0_10 v0_11 v0_14 v0_15 v0_18 v0_19 v0_20 v0_22 n u_21 hu_21) (cwV 0 hta (ga_V mA1024 mA1025 mA1026 mA814 mA1006) rfl rfl rfl (by decide +kernel) ⟨Nat.le_of_ble_eq_true rfl, Nat.le_of_ble_eq_true rfl⟩) ⟨q_fb, va_recv hK hP (ci := 11) (q0 := 0) rfl rfl, q_ps hPc hK hDc⟩ rfl rfl hl.1 rfl (lv_room (Nat.le_of_ble_eq_true rfl)) dX12_bounds_1 ⟨Nat.zero_le _, Nat.zero_le _⟩) (fun H locs hP hD hS => ?_)
  refine lv_aload_n hx hb dX12_bounds_4 rfl (lv_at hl 0 rfl) ?_
  refine lv_iload_n hx hb dX12_bounds_5 rfl (lv_at hl 1 rfl) ?_
  refine lv_iconst (v := 0) hx hb dX12_bounds_6 (by decide) ?_
  refine lv_iconst (v := 3) hx hb dX12_bounds_7 (by decide) ?_
  obtain ⟨u_22, hu_22, hF⟩ := lt_some hF
  have hPc := hP.sub (ws' := ([] : va_W)) [] rfl
  have hDc := hD.sub (ws' := ([] : va_W)) [] rfl rfl
  refine q_callz (wc := ([] : va_W)) (w1 := ([] : va_W)) (ws' := (wd_X12_bounds cI a0 v0_2 v0_3 v0_5 u_21.1 u_21.2.1 u_21.2.2.1 u_21.2.2.2.1 u_21.2.2.2.2.1 u_21.2.2.2.2.2.1 v0_24 v0_25 v0_26 v0_29 v0_30 v0_0 u_21.2.2.2.2.2.2.1 u_21.2.2.2.2.2.2.2.1 u_21.2.2.2.2.2.2.2.2.1 u_21.2.2.2.2.2.2.2.2.2.1 u_21.2.2.2.2.2.2.2.2.2.2.1 u_21.2.2.2.2.2.2.2.2.2.2.2.1 u_21.2.2.2.2.2.2.2.2.2.2.2.2.1 u_21.2.2.2.2.2.2.2.2.2.2.2.2.2.1 u_21.2.2.2.2.2.2.2.2.2.2.2.2.2.2.1 u_21.2.2.2.2.2.2.2.2.2.2.2.2.2.2.2.1 u_21.2.2.2.2.2.2.2.2.2.2.2.2.2.2.2.2.1 u_21.2.2.2.2.2.2.2.2.2.2.2.2.2.2.2.2.2)) hP hD hS hA [] [0, 1, 2, 3, 4, 5, 6, 7, 8, 9, 10, 11, 12, 13] [0, 1, 2, 3, 4, 5, 6, 7, 8, 9, 10, 11, 12, 13] rfl rfl rfl (by decide) rfl rfl (va_runS (As := [.int p1, .int 0, .int 3]) (rest := [.ref (a0 0)]) ⟨hx, hb, hml, hown, hta⟩ (c_X12_within l dC dI cI H.size p1 0 3 u_22 hu_22.symm) (va_cwS 3 hta (ga_S mA812 mA813 mA814 mA810) rfl rfl rfl (by decide +kernel) ⟨Nat.le_of_ble_eq_true rfl, Nat.le_of_ble_eq_true rfl⟩) ⟨q_fb, q_ps hPc hK hDc⟩ rfl rfl hl.1 rfl (lv_room (Nat.le_of_ble_eq_true rfl)) dX12_bounds_8 ⟨Nat.zero_le _, Nat.zero_le _⟩) (fun hzu_22 H locs hP hD hS => ?_)
  refine lv_if_ne (tgt := 18) hx hb dX12_bounds_11 (by decide) (fun c_23 => ?_) (fun c_23 => ?_)
  · have hF := it_f hF c_23
    refine lv_aload_n hx hb dX12_bounds_18 rfl (lv_at hl 0 rfl) ?_
    refine va_get (D := (dC, dI)) (ci := 11) (v := .int u_21.2.2.2.2.2.1) (C := RX12) (T := TX12) (N := 31) hx hb hta uw_X12 hown hK hP 0 rfl rfl 23 (by decide) (hta _ mA953) (fun _ h9 => h9) rfl dX12_bounds_19 ?_
    refine lv_if_ne (tgt := 29) hx hb dX12_bounds_22 (by decide) (fun c_24 => ?_) (fun c_24 => ?_)
    · have hF := it_f hF c_24
      refine lv_iconst (v := 0) hx hb dX12_bounds_29 (by decide) ?_
      exact j30 v0_3 u_21.1 u_21.2.1 u_21.2.2.1 u_21.2.2.2.1 u_21.2.2.2.2.1 u_21.2.2.2.2.2.1 u_21.2.2.2.2.2.2.1 u_21.2.2.2.2.2.2.2.1 u_21.2.2.2.2.2.2.2.2.1 u_21.2.2.2.2.2.2.2.2.2.1 u_21.2.2.2.2.2.2.2.2.2.2.1 u_21.2.2.2.2.2.2.2.2.2.2.2.1 u_21.2.2.2.2.2.2.2.2.2.2.2.2.1 u_21.2.2.2.2.2.2.2.2.2.2.2.2.2.1 u_21.2.2.2.2.2.2.2.2.2.2.2.2.2.2.1 u_21.2.2.2.2.2.2.2.2.2.2.2.2.2.2.2.1 u_21.2.2.2.2.2.2.2.2.2.2.2.2.2.2.2.2.1 u_21.2.2.2.2.2.2.2.2.2.2.2.2.2.2.2.2.2 p1 0 hF _ _ _ hP hD hS (lv_sub hl [0, 1] rfl)
    · have hF := it_t hF c_24
      refine lv_iconst (v := 2) hx hb dX12_bounds_25 (by decide) ?_
      refine lv_goto (tgt := 30) hx hb dX12_bounds_26 (by decide) ?_
      exact j30 v0_3 u_21.1 u_21.2.1 u_21.2.2.1 u_21.2.2.2.1 u_21.2.2.2.2.1 u_21.2.2.2.2.2.1 u_21.2.2.2.2.2.2.1 u_21.2.2.2.2.2.2.2.1 u_21.2.2.2.2.2.2.2.2.1 u_21.2.2.2.2.2.2.2.2.2.1 u_21.2.2.2.2.2.2.2.2.2.2.1 u_21.2.2.2.2.2.2.2.2.2.2.2.1 u_21.2.2.2.2.2.2.2.2.2.2.2.2.1 u_21.2.2.2.2.2.2.2.2.2.2.2.2.2.1 u_21.2.2.2.2.2.2.2.2.2.2.2.2.2.2.1 u_21.2.2.2.2.2.2.2.2.2.2.2.2.2.2.2.1 u_21.2.2.2.2.2.2.2.2.2.2.2.2.2.2.2.2.1 u_21.2.2.2.2.2.2.2.2.2.2.2.2.2.2.2.2.2 p1 2 hF _ _ _ hP hD hS (lv_sub hl [0, 1] rfl)
  · have hF := it_t hF c_23
    refine lv_iconst (v := 1) hx hb dX12_bounds_14 (by decide) ?_
    refine lv_goto (tgt := 30) hx hb dX12_bounds_15 (by decide) ?_
    exact j30 v0_3 u_21.1 u_21.2.1 u_21.2.2.1 u_21.2.2.2.1 u_21.2.2.2.2.1 u_21.2.2.2.2.2.1 u_21.2.2.2.2.2.2.1 u_21.2.2.2.2.2.2.2.1 u_21.2.2.2.2.2.2.2.2.1 u_21.2.2.2.2.2.2.2.2.2.1 u_21.2.2.2.2.2.2.2.2.2.2.1 u_21.2.2.2.2.2.2.2.2.2.2.2.1 u_21.2.2.2.2.2.2.2.2.2.2.2.2.1 u_21.2.2.2.2.2.2.2.2.2.2.2.2.2.1 u_21.2.2.2.2.2.2.2.2.2.2.2.2.2.2.1 u_21.2.2.2.2.2.2.2.2.2.2.2.2.2.2.2.1 u_21.2.2.2.2.2.2.2.2.2.2.2.2.2.2.2.2.1 u_21.2.2.2.2.2.2.2.2.2.2.2.2.2.2.2.2.2 p1 1 hF _ _ _ hP hD hS (lv_sub hl [0, 1] rfl)

-- StrokeOutlinerModel.isInDisc(III)Z
def F_X12_isInDisc (v0_0 : Nat → Int32) (v0_22 : Nat → Int32) (p1 : Int32) (p2 : Int32) (p3 : Int32) : Option (Int32) :=
  obd (F_X12_cornerX v0_22 p1 0) (fun u_1 => lt ((p2 - u_1).toInt64) (fun y_2 => obd (F_X12_cornerY v0_22 p1 0) (fun u_3 => lt ((p3 - u_3).toInt64) (fun y_4 => obd (F_X12_half v0_0) (fun u_5 => obd (F_X12_half v0_0) (fun u_6 => if 0 < (lg_cmp ((y_2 * y_2) + (y_4 * y_4)) (u_5.toInt64 * u_6.toInt64)) then some 0 else some 1))))))
abbrev wd_X12_isInDisc (cI : ClassId) (a0 : Nat → Nat) (v0_2 : Int32) (v0_3 : Int32) (v0_5 : Int32) (v0_12 : Int32) (v0_13 : Int32) (v0_16 : Int32) (v0_17 : Int32) (v0_21 : Int32) (v0_23 : Int32) (v0_24 : Int32) (v0_25 : Int32) (v0_26 : Int32) (v0_29 : Int32) (v0_30 : Int64) (v0_0 : Nat → Int32) (v0_22 : Nat → Int32) : va_W := [(a0 0, .inr (11, [.ref (a0 1), .ref (a0 2), .int v0_2, .int v0_3, .ref (a0 5), .int v0_5, .ref (a0 7), .ref (a0 8), .ref (a0 9), .ref (a0 10), .ref (a0 11), .ref (a0 12), .int v0_12, .int v0_13, .ref (a0 15), .ref (a0 16), .int v0_16, .int v0_17, .ref (a0 19), .ref (a0 20), .ref (a0 21), .int v0_21, .ref (a0 23), .int v0_23, .int v0_24, .int v0_25, .int v0_26, .ref (a0 28), .ref (a0 29), .int v0_29, .long v0_30])), (a0 1, .inl (cI, 86, .inl v0_0)), (a0 23, .inl (cI, 27000, .inl v0_22))]
abbrev wz_X12_isInDisc : List Cond := .code yX12_isInDisc cX12_isInDisc 8 (some .boolean) :: wALL
abbrev rm_X12_isInDisc : Room := { frames := 3, cells := 0, slots := 0, locals := 65 }
abbrev Q_X12_isInDisc (dC : Nat → ClassId) (dI : Nat → Nat → Nat) (cI : ClassId) (a0 : Nat → Nat) (v0_2 : Int32) (v0_3 : Int32) (v0_5 : Int32) (v0_12 : Int32) (v0_13 : Int32) (v0_16 : Int32) (v0_17 : Int32) (v0_21 : Int32) (v0_23 : Int32) (v0_24 : Int32) (v0_25 : Int32) (v0_26 : Int32) (v0_29 : Int32) (v0_30 : Int64) (v0_0 : Nat → Int32) (v0_22 : Nat → Int32) (u : (Int32)) (A : Nat → Prop) : Array Value → State → Outcome → State → Prop := va_Qi (fun (r : Int32) (_ : Unit) => r = u ∧ (u = 0 ∨ u = 1)) (fun _ => q_at dC dI cI A (wd_X12_isInDisc cI a0 v0_2 v0_3 v0_5 v0_12 v0_13 v0_16 v0_17 v0_21 v0_23 v0_24 v0_25 v0_26 v0_29 v0_30 v0_0 v0_22)) A
set_option maxHeartbeats 4000000 in
set_option maxRecDepth 100000 in
theorem c_X12_isInDisc (l : Launch) (dC : Nat → ClassId) (dI : Nat → Nat → Nat) (cI : ClassId) (sz : Nat) (a0 : Nat → Nat) (v0_2 : Int32) (v0_3 : Int32) (v0_5 : Int32) (v0_12 : Int32) (v0_13 : Int32) (v0_16 : Int32) (v0_17 : Int32) (v0_21 : Int32) (v0_23 : Int32) (v0_24 : Int32) (v0_25 : Int32) (v0_26 : Int32) (v0_29 : Int32) (v0_30 : Int64) (v0_0 : Nat → Int32) (v0_22 : Nat → Int32) (p1 : Int32) (p2 : Int32) (p3 : Int32) (u : (Int32)) (hF : F_X12_isInDisc v0_0 v0_22 p1 p2 p3 = some u) : Met l yX12_isInDisc wz_X12_isInDisc rm_X12_isInDisc (va_Pc [.ref (a0 0), .int p1, .int p2, .int p3] (q_pre dC dI cI (wd_X12_isInDisc cI a0 v0_2 v0_3 v0_5 v0_12 v0_13 v0_16 v0_17 v0_21 v0_23 v0_24 v0_25 v0_26 v0_29 v0_30 v0_0 v0_22) sz)) (Q_X12_isInDisc dC dI cI a0 v0_2 v0_3 v0_5 v0_12 v0_13 v0_16 v0_17 v0_21 v0_23 v0_24 v0_25 v0_26 v0_29 v0_30 v0_0 v0_22 u (va_A (wd_X12_isInDisc cI a0 v0_2 v0_3 v0_5 v0_12 v0_13 v0_16 v0_17 v0_21 v0_23 v0_24 v0_25 v0_26 v0_29 v0_30 v0_0 v0_22) sz)) 0 0 (va_A (wd_X12_isInDisc cI a0 v0_2 v0_3 v0_5 v0_12 v0_13 v0_16 v0_17 v0_21 v0_23 v0_24 v0_25 v0_26 v0_29 v0_30 v0_0 v0_22) sz) := by
  refine Met.ofW (cc := cX12_isInDisc) (maxL := 8) (ret := (some .boolean)) (by decide) rfl ?_
  intro p e s m args below meth c s₁ B hml hv
  obtain ⟨rfl, hsz, hP, hK, hD0⟩ := hv
  have hx := B.exec
  have hb := B.bytes
  have hr := B.returns
  have hts := atoms_spec (ws := wz_X12_isInDisc) B.pre
  have hta := wz_tl hts
  have hown : s.vm.findClass RX12 = some m.cls := findClass_of_methodNamed B.named
  have hlocks := B.notSynchronized
  subst hsz
  have hD := hD0.self (sz := s.heap.size)
  generalize hAe : va_A (wd_X12_isInDisc cI a0 v0_2 v0_3 v0_5 v0_12 v0_13 v0_16 v0_17 v0_21 v0_23 v0_24 v0_25 v0_26 v0_29 v0_30 v0_0 v0_22) s.heap.size = A at hD ⊢
  have hA : ∀ q : Nat, s.heap.size ≤ q → A q := fun q h => by rw [← hAe]; exact Or.inr h
  have hS : va_S A s.heap s.heap [] := va_S.rf
  have hP : va_P (dC, dI) vwCl (wd_X12_isInDisc cI a0 v0_2 v0_3 v0_5 v0_12 v0_13 v0_16 v0_17 v0_21 v0_23 v0_24 v0_25 v0_26 v0_29 v0_30 v0_0 v0_22) s.heap := hP
  have hl := lv_entry ([.ref (a0 0), .int p1, .int p2, .int p3]) (n := 8) (Nat.le_of_ble_eq_true rfl)
  rw [lg_entry_eq]
  generalize (lg_sl ([.ref (a0 0), .int p1, .int p2, .int p3]) ++ List.replicate (8 - (lg_sl ([.ref (a0 0), .int p1, .int p2, .int p3])).length) Slot.unset).toArray = ls at hl ⊢
  have hl : lv_has ls 8 [(0, .ref (a0 0)), (1, .int p1), (2, .int p2), (3, .int p3)] := hl
  obtain ⟨H, hHe⟩ : ∃ H, H = s.heap := ⟨_, rfl⟩
  have hS : va_S A s.heap H [] := by rw [hHe]; exact hS
  have hP : va_P (dC, dI) vwCl (wd_X12_isInDisc cI a0 v0_2 v0_3 v0_5 v0_12 v0_13 v0_16 v0_17 v0_21 v0_23 v0_24 v0_25 v0_26 v0_29 v0_30 v0_0 v0_22) H := by rw [hHe]; exact hP
  rw [← hHe]
  unfold F_X12_isInDisc at hF
  refine lv_iload_n hx hb dX12_isInDisc_0 rfl (lv_at hl 2 rfl) ?_
  refine lv_aload_n hx hb dX12_isInDisc_1 rfl (lv_at hl 0 rfl) ?_
  refine lv_iload_n hx hb dX12_isInDisc_2 rfl (lv_at hl 1 rfl) ?_
  refine lv_iconst (v := 0) hx hb dX12_isInDisc_3 (by decide) ?_
  obtain ⟨u_1, hu_1, hF⟩ := obd_some hF
  have hPc := hP.sub (ws' := (wd_X12_cornerX cI a0 v0_2 v0_3 v0_5 v0_12 v0_13 v0_16 v0_17 v0_21 v0_23 v0_24 v0_25 v0_26 v0_29 v0_30 v0_22)) [0, 2] rfl
  have hDc := hD.sub (ws' := (wd_X12_cornerX cI a0 v0_2 v0_3 v0_5 v0_12 v0_13 v0_16 v0_17 v0_21 v0_23 v0_24 v0_25 v0_26 v0_29 v0_30 v0_22)) [0, 2] rfl rfl
  refine q_calli (wc := (wd_X12_cornerX cI a0 v0_2 v0_3 v0_5 v0_12 v0_13 v0_16 v0_17 v0_21 v0_23 v0_24 v0_25 v0_26 v0_29 v0_30 v0_22)) (w1 := (wd_X12_cornerX cI a0 v0_2 v0_3 v0_5 v0_12 v0_13 v0_16 v0_17 v0_21 v0_23 v0_24 v0_25 v0_26 v0_29 v0_30 v0_22)) (ws' := (wd_X12_isInDisc cI a0 v0_2 v0_3 v0_5 v0_12 v0_13 v0_16 v0_17 v0_21 v0_23 v0_24 v0_25 v0_26 v0_29 v0_30 v0_0 v0_22)) hP hD hS hA [0, 2] [1] [1, 0, 2] rfl rfl rfl (by decide) rfl rfl (va_runV (As := [.int p1, .int 0]) (rest := [.int p2]) ⟨hx, hb, hml, hown, hta⟩ (c_X12_cornerX l dC dI cI H.size a0 v0_2 v0_3 v0_5 v0_12 v0_13 v0_16 v0_17 v0_21 v0_23 v0_24 v0_25 v0_26 v0_29 v0_30 v0_22 p1 0 u_1 hu_1) (cwV 2 hta (ga_V mA1028 mA1029 mA1030 mA814 mA1018) rfl rfl rfl (by decide +kernel) ⟨Nat.le_of_ble_eq_true rfl, Nat.le_of_ble_eq_true rfl⟩) ⟨q_fb, va_recv hK hP (ci := 11) (q0 := 0) rfl rfl, q_ps hPc hK hDc⟩ rfl rfl hl.1 rfl (lv_room (Nat.le_of_ble_eq_true rfl)) dX12_isInDisc_4 ⟨Nat.zero_le _, Nat.zero_le _⟩) (fun H locs hP hD hS => ?_)
  refine lv_isub hx hb dX12_isInDisc_7 ?_
  refine lv_i2l hx hb dX12_isInDisc_8 rfl ?_
  obtain ⟨y_2, ey_2, hF⟩ := lt_some hF
  refine lv_eql ey_2 ?_
  refine lv_lstore (lv' := [(4, .long y_2), (0, .ref (a0 0)), (1, .int p1), (2, .int p2), (3, .int p3)]) hx hb dX12_isInDisc_9 hl (by decide) rfl (fun ls hl => ?_)
  refine lv_iload_n hx hb dX12_isInDisc_11 rfl (lv_at hl 4 rfl) ?_
  refine lv_aload_n hx hb dX12_isInDisc_12 rfl (lv_at hl 1 rfl) ?_
  refine lv_iload_n hx hb dX12_isInDisc_13 rfl (lv_at hl 2 rfl) ?_
  refine lv_iconst (v := 0) hx hb dX12_isInDisc_14 (by decide) ?_
  obtain ⟨u_3, hu_3, hF⟩ := obd_some hF
  have hPc := hP.sub (ws' := (wd_X12_cornerY cI a0 v0_2 v0_3 v0_5 v0_12 v0_13 v0_16 v0_17 v0_21 v0_23 v0_24 v0_25 v0_26 v0_29 v0_30 v0_22)) [0, 2] rfl
  have hDc := hD.sub (ws' := (wd_X12_cornerY cI a0 v0_2 v0_3 v0_5 v0_12 v0_13 v0_16 v0_17 v0_21 v0_23 v0_24 v0_25 v0_26 v0_29 v0_30 v0_22)) [0, 2] rfl rfl
  refine q_calli (wc := (wd_X12_cornerY cI a0 v0_2 v0_3 v0_5 v0_12 v0_13 v0_16 v0_17 v0_21 v0_23 v0_24 v0_25 v0_26 v0_29 v0_30 v0_22)) (w1 := (wd_X12_cornerY cI a0 v0_2 v0_3 v0_5 v0_12 v0_13 v0_16 v0_17 v0_21 v0_23 v0_24 v0_25 v0_26 v0_29 v0_30 v0_22)) (ws' := (wd_X12_isInDisc cI a0 v0_2 v0_3 v0_5 v0_12 v0_13 v0_16 v0_17 v0_21 v0_23 v0_24 v0_25 v0_26 v0_29 v0_30 v0_0 v0_22)) hP hD hS hA [0, 2] [1] [1, 0, 2] rfl rfl rfl (by decide) rfl rfl (va_runV (As := [.int p1, .int 0]) (rest := [.int p3]) ⟨hx, hb, hml, hown, hta⟩ (c_X12_cornerY l dC dI cI H.size a0 v0_2 v0_3 v0_5 v0_12 v0_13 v0_16 v0_17 v0_21 v0_23 v0_24 v0_25 v0_26 v0_29 v0_30 v0_22 p1 0 u_3 hu_3) (cwV 2 hta (ga_V mA1031 mA1032 mA1033 mA814 mA1022) rfl rfl rfl (by decide +kernel) ⟨Nat.le_of_ble_eq_true rfl, Nat.le_of_ble_eq_true rfl⟩) ⟨q_fb, va_recv hK hP (ci := 11) (q0 := 0) rfl rfl, q_ps hPc hK hDc⟩ rfl rfl hl.1 rfl (lv_room (Nat.le_of_ble_eq_true rfl)) dX12_isInDisc_15 ⟨Nat.zero_le _, Nat.zero_le _⟩) (fun H locs hP hD hS => ?_)
  refine lv_isub hx hb dX12_isInDisc_18 ?_
  refine lv_i2l hx hb dX12_isInDisc_19 rfl ?_
  obtain ⟨y_4, ey_4, hF⟩ := lt_some hF
  refine lv_eql ey_4 ?_
  refine lv_lstore (lv' := [(6, .long y_4), (4, .long y_2), (0, .ref (a0 0)), (1, .int p1), (2, .int p2), (3, .int p3)]) hx hb dX12_isInDisc_20 hl (by decide) rfl (fun ls hl => ?_)
  refine lv_lload hx hb dX12_isInDisc_22 (lv_at hl 1 rfl) ?_
  refine lv_lload hx hb dX12_isInDisc_24 (lv_at hl 1 rfl) ?_
  refine lv_lmul hx hb dX12_isInDisc_26 ?_
  refine lv_lload hx hb dX12_isInDisc_27 (lv_at hl 0 rfl) ?_
  refine lv_lload hx hb dX12_isInDisc_29 (lv_at hl 0 rfl) ?_
  refine lv_lmul hx hb dX12_isInDisc_31 ?_
  refine lv_ladd hx hb dX12_isInDisc_32 ?_
  refine lv_aload_n hx hb dX12_isInDisc_33 rfl (lv_at hl 2 rfl) ?_
  obtain ⟨u_5, hu_5, hF⟩ := obd_some hF
  have hPc := hP.sub (ws' := (wd_X12_half cI a0 v0_2 v0_3 v0_5 v0_12 v0_13 v0_16 v0_17 v0_21 v0_23 v0_24 v0_25 v0_26 v0_29 v0_30 v0_0)) [0, 1] rfl
  have hDc := hD.sub (ws' := (wd_X12_half cI a0 v0_2 v0_3 v0_5 v0_12 v0_13 v0_16 v0_17 v0_21 v0_23 v0_24 v0_25 v0_26 v0_29 v0_30 v0_0)) [0, 1] rfl rfl
  refine q_calli (wc := (wd_X12_half cI a0 v0_2 v0_3 v0_5 v0_12 v0_13 v0_16 v0_17 v0_21 v0_23 v0_24 v0_25 v0_26 v0_29 v0_30 v0_0)) (w1 := (wd_X12_half cI a0 v0_2 v0_3 v0_5 v0_12 v0_13 v0_16 v0_17 v0_21 v0_23 v0_24 v0_25 v0_26 v0_29 v0_30 v0_0)) (ws' := (wd_X12_isInDisc cI a0 v0_2 v0_3 v0_5 v0_12 v0_13 v0_16 v0_17 v0_21 v0_23 v0_24 v0_25 v0_26 v0_29 v0_30 v0_0 v0_22)) hP hD hS hA [0, 1] [2] [1, 2, 0] rfl rfl rfl (by decide) rfl rfl (va_runV (As := []) (rest := [.long ((y_2 * y_2) + (y_4 * y_4))]) ⟨hx, hb, hml, hown, hta⟩ (c_X12_half l dC dI cI H.size a0 v0_2 v0_3 v0_5 v0_12 v0_13 v0_16 v0_17 v0_21 v0_23 v0_24 v0_25 v0_26 v0_29 v0_30 v0_0 u_5 hu_5) (cwV 0 hta (ga_V mA957 mA958 mA959 mA814 mA951) rfl rfl rfl (by decide +kernel) ⟨Nat.le_of_ble_eq_true rfl, Nat.le_of_ble_eq_true rfl⟩) ⟨q_fb, va_recv hK hP (ci := 11) (q0 := 0) rfl rfl, q_ps hPc hK hDc⟩ rfl rfl hl.1 rfl (lv_room (Nat.le_of_ble_eq_true rfl)) dX12_isInDisc_34 ⟨Nat.zero_le _, Nat.zero_le _⟩) (fun H locs hP hD hS => ?_)
  refine lv_i2l hx hb dX12_isInDisc_37 rfl ?_
  refine lv_aload_n hx hb dX12_isInDisc_38 rfl (lv_at hl 2 rfl) ?_
  obtain ⟨u_6, hu_6, hF⟩ := obd_some hF
  have hPc := hP.sub (ws' := (wd_X12_half cI a0 v0_2 v0_3 v0_5 v0_12 v0_13 v0_16 v0_17 v0_21 v0_23 v0_24 v0_25 v0_26 v0_29 v0_30 v0_0)) [0, 1] rfl
  have hDc := hD.sub (ws' := (wd_X12_half cI a0 v0_2 v0_3 v0_5 v0_12 v0_13 v0_16 v0_17 v0_21 v0_23 v0_24 v0_25 v0_26 v0_29 v0_30 v0_0)) [0, 1] rfl rfl
  refine q_calli (wc := (wd_X12_half cI a0 v0_2 v0_3 v0_5 v0_12 v0_13 v0_16 v0_17 v0_21 v0_23 v0_24 v0_25 v0_26 v0_29 v0_30 v0_0)) (w1 := (wd_X12_half cI a0 v0_2 v0_3 v0_5 v0_12 v0_13 v0_16 v0_17 v0_21 v0_23 v0_24 v0_25 v0_26 v0_29 v0_30 v0_0)) (ws' := (wd_X12_isInDisc cI a0 v0_2 v0_3 v0_5 v0_12 v0_13 v0_16 v0_17 v0_21 v0_23 v0_24 v0_25 v0_26 v0_29 v0_30 v0_0 v0_22)) hP hD hS hA [0, 1] [2] [1, 2, 0] rfl rfl rfl (by decide) rfl rfl (va_runV (As := []) (rest := [.long u_5.toInt64, .long ((y_2 * y_2) + (y_4 * y_4))]) ⟨hx, hb, hml, hown, hta⟩ (c_X12_half l dC dI cI H.size a0 v0_2 v0_3 v0_5 v0_12 v0_13 v0_16 v0_17 v0_21 v0_23 v0_24 v0_25 v0_26 v0_29 v0_30 v0_0 u_6 hu_6) (cwV 0 hta (ga_V mA957 mA958 mA959 mA814 mA951) rfl rfl rfl (by decide +kernel) ⟨Nat.le_of_ble_eq_true rfl, Nat.le_of_ble_eq_true rfl⟩) ⟨q_fb, va_recv hK hP (ci := 11) (q0 := 0) rfl rfl, q_ps hPc hK hDc⟩ rfl rfl hl.1 rfl (lv_room (Nat.le_of_ble_eq_true rfl)) dX12_isInDisc_39 ⟨Nat.zero_le _, Nat.zero_le _⟩) (fun H locs hP hD hS => ?_)
  refine lv_i2l hx hb dX12_isInDisc_42 rfl ?_
  refine lv_lmul hx hb dX12_isInDisc_43 ?_
  refine W.lcmp hx hb dX12_isInDisc_44 ?_
  refine lv_if_gt (tgt := 52) hx hb dX12_isInDisc_45 (by decide) (fun c_7 => ?_) (fun c_7 => ?_)
  · have hF := it_t hF c_7
    refine lv_iconst (v := 0) hx hb dX12_isInDisc_52 (by decide) ?_
    obtain rfl := Option.some.inj hF
    exact W.zret (v := 0) (ty := .boolean) hx hb hr (z_nar (Or.inl rfl)) (fun t ht hW => ⟨⟨0, (), rfl, ⟨rfl, (Or.inl rfl)⟩, by rw [ht]; exact hP, va_K.moved hW.alike hK, hD⟩, hS.F ht⟩) hS.2.2 dX12_isInDisc_53
  · have hF := it_f hF c_7
    refine lv_iconst (v := 1) hx hb dX12_isInDisc_48 (by decide) ?_
    refine lv_goto (tgt := 53) hx hb dX12_isInDisc_49 (by decide) ?_
    obtain rfl := Option.some.inj hF
    exact W.zret (v := 1) (ty := .boolean) hx hb hr (z_nar (Or.inr rfl)) (fun t ht hW => ⟨⟨1, (), rfl, ⟨rfl, (Or.inr rfl)⟩, by rw [ht]; exact hP, va_K.moved hW.alike hK, hD⟩, hS.F ht⟩) hS.2.2 dX12_isInDisc_53

-- StrokeOutlinerModel.isInPolygon(III)Z
def F_X12_isInPolygon_j240  : Option (Int32) :=
  some 0
def F_X12_isInPolygon_j216 (x6 : Int32) (x7 : Int32) (x8 : Int32) (x9 : Int32) : Option (Int32) :=
  if x6 = 0 then F_X12_isInPolygon_j240 else if x7 = 0 then F_X12_isInPolygon_j240 else if x8 = 0 then F_X12_isInPolygon_j240 else if x9 = 0 then F_X12_isInPolygon_j240 else some 1
def F_X12_isInPolygon_j206 (x4 : Int32) (x5 : Int32) (x6 : Int32) (x7 : Int32) (x8 : Int32) (x9 : Int32) : Option (Int32) :=
  if x4 = 0 then if x5 = 0 then F_X12_isInPolygon_j240 else F_X12_isInPolygon_j216 x6 x7 x8 x9 else F_X12_isInPolygon_j216 x6 x7 x8 x9
def F_X12_isInPolygon_j198 (x4 : Int32) (x5 : Int32) (x6 : Int32) (x7 : Int32) (x8 : Int32) (x10 : Int32) (t0 : Int32) : Option (Sum (Int32 × Int32 × Int32 × Int32 × Int32 × Int32 × Int32) (Int32 × Int32 × Int32 × Int32 × Int32 × Int32)) :=
  lt (x10 + 1) (fun y_7 => some (.inl (x4, x5, x6, x7, x8, t0, y_7)))
def F_X12_isInPolygon_j193 (x4 : Int32) (x5 : Int32) (x6 : Int32) (x7 : Int32) (x8 : Int32) (x10 : Int32) : Option (Sum (Int32 × Int32 × Int32 × Int32 × Int32 × Int32 × Int32) (Int32 × Int32 × Int32 × Int32 × Int32 × Int32)) :=
  F_X12_isInPolygon_j198 x4 x5 x6 x7 x8 x10 1
def F_X12_isInPolygon_j180 (x3 : Int32) (x4 : Int32) (x5 : Int32) (x6 : Int32) (x7 : Int32) (x9 : Int32) (x10 : Int32) (x12 : Int32) (t0 : Int32) : Option (Sum (Int32 × Int32 × Int32 × Int32 × Int32 × Int32 × Int32) (Int32 × Int32 × Int32 × Int32 × Int32 × Int32)) :=
  if x9 = 0 then if x3 < x12 then F_X12_isInPolygon_j198 x4 x5 x6 x7 t0 x10 0 else F_X12_isInPolygon_j193 x4 x5 x6 x7 t0 x10 else F_X12_isInPolygon_j193 x4 x5 x6 x7 t0 x10
def F_X12_isInPolygon_j175 (x3 : Int32) (x4 : Int32) (x5 : Int32) (x6 : Int32) (x7 : Int32) (x9 : Int32) (x10 : Int32) (x12 : Int32) : Option (Sum (Int32 × Int32 × Int32 × Int32 × Int32 × Int32 × Int32) (Int32 × Int32 × Int32 × Int32 × Int32 × Int32)) :=
  F_X12_isInPolygon_j180 x3 x4 x5 x6 x7 x9 x10 x12 1
def F_X12_isInPolygon_j162 (x3 : Int32) (x4 : Int32) (x5 : Int32) (x6 : Int32) (x8 : Int32) (x9 : Int32) (x10 : Int32) (x12 : Int32) (t0 : Int32) : Option (Sum (Int32 × Int32 × Int32 × Int32 × Int32 × Int32 × Int32) (Int32 × Int32 × Int32 × Int32 × Int32 × Int32)) :=
  if x8 = 0 then if x12 < x3 then F_X12_isInPolygon_j180 x3 x4 x5 x6 t0 x9 x10 x12 0 else F_X12_isInPolygon_j175 x3 x4 x5 x6 t0 x9 x10 x12 else F_X12_isInPolygon_j175 x3 x4 x5 x6 t0 x9 x10 x12
def F_X12_isInPolygon_j157 (x3 : Int32) (x4 : Int32) (x5 : Int32) (x6 : Int32) (x8 : Int32) (x9 : Int32) (x10 : Int32) (x12 : Int32) : Option (Sum (Int32 × Int32 × Int32 × Int32 × Int32 × Int32 × Int32) (Int32 × Int32 × Int32 × Int32 × Int32 × Int32)) :=
  F_X12_isInPolygon_j162 x3 x4 x5 x6 x8 x9 x10 x12 1
def F_X12_isInPolygon_j144 (x2 : Int32) (x3 : Int32) (x4 : Int32) (x5 : Int32) (x7 : Int32) (x8 : Int32) (x9 : Int32) (x10 : Int32) (x11 : Int32) (x12 : Int32) (t0 : Int32) : Option (Sum (Int32 × Int32 × Int32 × Int32 × Int32 × Int32 × Int32) (Int32 × Int32 × Int32 × Int32 × Int32 × Int32)) :=
  if x7 = 0 then if x11 < x2 then F_X12_isInPolygon_j162 x3 x4 x5 t0 x8 x9 x10 x12 0 else F_X12_isInPolygon_j157 x3 x4 x5 t0 x8 x9 x10 x12 else F_X12_isInPolygon_j157 x3 x4 x5 t0 x8 x9 x10 x12
def F_X12_isInPolygon_j139 (x2 : Int32) (x3 : Int32) (x4 : Int32) (x5 : Int32) (x7 : Int32) (x8 : Int32) (x9 : Int32) (x10 : Int32) (x11 : Int32) (x12 : Int32) : Option (Sum (Int32 × Int32 × Int32 × Int32 × Int32 × Int32 × Int32) (Int32 × Int32 × Int32 × Int32 × Int32 × Int32)) :=
  F_X12_isInPolygon_j144 x2 x3 x4 x5 x7 x8 x9 x10 x11 x12 1
def F_X12_isInPolygon_j126 (x2 : Int32) (x3 : Int32) (x4 : Int32) (x6 : Int32) (x7 : Int32) (x8 : Int32) (x9 : Int32) (x10 : Int32) (x11 : Int32) (x12 : Int32) (t0 : Int32) : Option (Sum (Int32 × Int32 × Int32 × Int32 × Int32 × Int32 × Int32) (Int32 × Int32 × Int32 × Int32 × Int32 × Int32)) :=
  if x6 = 0 then if x2 < x11 then F_X12_isInPolygon_j144 x2 x3 x4 t0 x7 x8 x9 x10 x11 x12 0 else F_X12_isInPolygon_j139 x2 x3 x4 t0 x7 x8 x9 x10 x11 x12 else F_X12_isInPolygon_j139 x2 x3 x4 t0 x7 x8 x9 x10 x11 x12
def F_X12_isInPolygon_j125 (x2 : Int32) (x3 : Int32) (x4 : Int32) (x6 : Int32) (x7 : Int32) (x8 : Int32) (x9 : Int32) (x10 : Int32) (x11 : Int32) (x12 : Int32) : Option (Sum (Int32 × Int32 × Int32 × Int32 × Int32 × Int32 × Int32) (Int32 × Int32 × Int32 × Int32 × Int32 × Int32)) :=
  F_X12_isInPolygon_j126 x2 x3 x4 x6 x7 x8 x9 x10 x11 x12 0
def F_X12_isInPolygon_j107 (x2 : Int32) (x3 : Int32) (x5 : Int32) (x6 : Int32) (x7 : Int32) (x8 : Int32) (x9 : Int32) (x10 : Int32) (x11 : Int32) (x12 : Int32) (x13 : Int64) (t0 : Int32) : Option (Sum (Int32 × Int32 × Int32 × Int32 × Int32 × Int32 × Int32) (Int32 × Int32 × Int32 × Int32 × Int32 × Int32)) :=
  if x5 = 0 then F_X12_isInPolygon_j125 x2 x3 t0 x6 x7 x8 x9 x10 x11 x12 else if 0 < (lg_cmp x13 0) then F_X12_isInPolygon_j125 x2 x3 t0 x6 x7 x8 x9 x10 x11 x12 else F_X12_isInPolygon_j126 x2 x3 t0 x6 x7 x8 x9 x10 x11 x12 1
def F_X12_isInPolygon_j106 (x2 : Int32) (x3 : Int32) (x5 : Int32) (x6 : Int32) (x7 : Int32) (x8 : Int32) (x9 : Int32) (x10 : Int32) (x11 : Int32) (x12 : Int32) (x13 : Int64) : Option (Sum (Int32 × Int32 × Int32 × Int32 × Int32 × Int32 × Int32) (Int32 × Int32 × Int32 × Int32 × Int32 × Int32)) :=
  F_X12_isInPolygon_j107 x2 x3 x5 x6 x7 x8 x9 x10 x11 x12 x13 0
def F_X12_isInPolygon_b21 (v0_22 : Nat → Int32) (x1 : Int32) (x2 : Int32) (x3 : Int32) (s21 : Int32 × Int32 × Int32 × Int32 × Int32 × Int32 × Int32) : Option (Sum (Int32 × Int32 × Int32 × Int32 × Int32 × Int32 × Int32) (Int32 × Int32 × Int32 × Int32 × Int32 × Int32)) :=
  obd (F_X12_cornersOf v0_22 x1) (fun u_18 => if u_18 ≤ s21.2.2.2.2.2.2 then some (.inr (s21.1, s21.2.1, s21.2.2.1, s21.2.2.2.1, s21.2.2.2.2.1, s21.2.2.2.2.2.1)) else obd (F_X12_cornerX v0_22 x1 s21.2.2.2.2.2.2) (fun u_20 => obd (F_X12_cornerY v0_22 x1 s21.2.2.2.2.2.2) (fun u_21 => obd (F_X12_cornerX v0_22 x1 (s21.2.2.2.2.2.2 + 1)) (fun u_22 => obd (F_X12_cornerY v0_22 x1 (s21.2.2.2.2.2.2 + 1)) (fun u_23 => lt (((u_22 - u_20).toInt64 * (x3 - u_21).toInt64) - ((u_23 - u_21).toInt64 * (x2 - u_20).toInt64)) (fun y_24 => if s21.1 = 0 then F_X12_isInPolygon_j106 x2 x3 s21.2.1 s21.2.2.1 s21.2.2.2.1 s21.2.2.2.2.1 s21.2.2.2.2.2.1 s21.2.2.2.2.2.2 u_20 u_21 y_24 else if (lg_cmp y_24 0) < 0 then F_X12_isInPolygon_j106 x2 x3 s21.2.1 s21.2.2.1 s21.2.2.2.1 s21.2.2.2.2.1 s21.2.2.2.2.2.1 s21.2.2.2.2.2.2 u_20 u_21 y_24 else F_X12_isInPolygon_j107 x2 x3 s21.2.1 s21.2.2.1 s21.2.2.2.1 s21.2.2.2.2.1 s21.2.2.2.2.2.1 s21.2.2.2.2.2.2 u_20 u_21 y_24 1))))))
def F_X12_isInPolygon_j21 (n : Nat) (v0_22 : Nat → Int32) (x1 : Int32) (x2 : Int32) (x3 : Int32) (x4 : Int32) (x5 : Int32) (x6 : Int32) (x7 : Int32) (x8 : Int32) (x9 : Int32) (x10 : Int32) : Option (Int32) :=
  obd (lpq (F_X12_isInPolygon_b21 v0_22 x1 x2 x3) n (x4, x5, x6, x7, x8, x9, x10)) (fun x_21 => F_X12_isInPolygon_j206 x_21.1 x_21.2.1 x_21.2.2.1 x_21.2.2.2.1 x_21.2.2.2.2.1 x_21.2.2.2.2.2)
def F_X12_isInPolygon (n : Nat) (v0_22 : Nat → Int32) (p1 : Int32) (p2 : Int32) (p3 : Int32) : Option (Int32) :=
  F_X12_isInPolygon_j21 n v0_22 p1 p2 p3 1 1 0 0 0 0 0
abbrev wd_X12_isInPolygon (cI : ClassId) (a0 : Nat → Nat) (v0_2 : Int32) (v0_3 : Int32) (v0_5 : Int32) (v0_12 : Int32) (v0_13 : Int32) (v0_16 : Int32) (v0_17 : Int32) (v0_21 : Int32) (v0_23 : Int32) (v0_24 : Int32) (v0_25 : Int32) (v0_26 : Int32) (v0_29 : Int32) (v0_30 : Int64) (v0_22 : Nat → Int32) : va_W := [(a0 0, .inr (11, [.ref (a0 1), .ref (a0 2), .int v0_2, .int v0_3, .ref (a0 5), .int v0_5, .ref (a0 7), .ref (a0 8), .ref (a0 9), .ref (a0 10), .ref (a0 11), .ref (a0 12), .int v0_12, .int v0_13, .ref (a0 15), .ref (a0 16), .int v0_16, .int v0_17, .ref (a0 19), .ref (a0 20), .ref (a0 21), .int v0_21, .ref (a0 23), .int v0_23, .int v0_24, .int v0_25, .int v0_26, .ref (a0 28), .ref (a0 29), .int v0_29, .long v0_30])), (a0 23, .inl (cI, 27000, .inl v0_22))]
abbrev wz_X12_isInPolygon : List Cond := .code yX12_isInPolygon cX12_isInPolygon 15 (some .boolean) :: wALL
abbrev rm_X12_isInPolygon : Room := { frames := 3, cells := 0, slots := 0, locals := 65 }
abbrev Q_X12_isInPolygon (dC : Nat → ClassId) (dI : Nat → Nat → Nat) (cI : ClassId) (a0 : Nat → Nat) (v0_2 : Int32) (v0_3 : Int32) (v0_5 : Int32) (v0_12 : Int32) (v0_13 : Int32) (v0_16 : Int32) (v0_17 : Int32) (v0_21 : Int32) (v0_23 : Int32) (v0_24 : Int32) (v0_25 : Int32) (v0_26 : Int32) (v0_29 : Int32) (v0_30 : Int64) (v0_22 : Nat → Int32) (u : (Int32)) (A : Nat → Prop) : Array Value → State → Outcome → State → Prop := va_Qi (fun (r : Int32) (_ : Unit) => r = u ∧ (u = 0 ∨ u = 1)) (fun _ => q_at dC dI cI A (wd_X12_isInPolygon cI a0 v0_2 v0_3 v0_5 v0_12 v0_13 v0_16 v0_17 v0_21 v0_23 v0_24 v0_25 v0_26 v0_29 v0_30 v0_22)) A
set_option maxHeartbeats 4000000 in
set_option maxRecDepth 100000 in
theorem c_X12_isInPolygon (l : Launch) (dC : Nat → ClassId) (dI : Nat → Nat → Nat) (cI : ClassId) (sz : Nat) (a0 : Nat → Nat) (v0_2 : Int32) (v0_3 : Int32) (v0_5 : Int32) (v0_12 : Int32) (v0_13 : Int32) (v0_16 : Int32) (v0_17 : Int32) (v0_21 : Int32) (v0_23 : Int32) (v0_24 : Int32) (v0_25 : Int32) (v0_26 : Int32) (v0_29 : Int32) (v0_30 : Int64) (v0_22 : Nat → Int32) (p1 : Int32) (p2 : Int32) (p3 : Int32) (n : Nat) (u : (Int32)) (hF : F_X12_isInPolygon n v0_22 p1 p2 p3 = some u) : Met l yX12_isInPolygon wz_X12_isInPolygon rm_X12_isInPolygon (va_Pc [.ref (a0 0), .int p1, .int p2, .int p3] (q_pre dC dI cI (wd_X12_isInPolygon cI a0 v0_2 v0_3 v0_5 v0_12 v0_13 v0_16 v0_17 v0_21 v0_23 v0_24 v0_25 v0_26 v0_29 v0_30 v0_22) sz)) (Q_X12_isInPolygon dC dI cI a0 v0_2 v0_3 v0_5 v0_12 v0_13 v0_16 v0_17 v0_21 v0_23 v0_24 v0_25 v0_26 v0_29 v0_30 v0_22 u (va_A (wd_X12_isInPolygon cI a0 v0_2 v0_3 v0_5 v0_12 v0_13 v0_16 v0_17 v0_21 v0_23 v0_24 v0_25 v0_26 v0_29 v0_30 v0_22) sz)) 0 0 (va_A (wd_X12_isInPolygon cI a0 v0_2 v0_3 v0_5 v0_12 v0_13 v0_16 v0_17 v0_21 v0_23 v0_24 v0_25 v0_26 v0_29 v0_30 v0_22) sz) := by
  refine Met.ofW (cc := cX12_isInPolygon) (maxL := 15) (ret := (some .boolean)) (by decide) rfl ?_
  intro p e s m args below meth c s₁ B hml hv
  obtain ⟨rfl, hsz, hP, hK, hD0⟩ := hv
  have hx := B.exec
  have hb := B.bytes
  have hr := B.returns
  have hts := atoms_spec (ws := wz_X12_isInPolygon) B.pre
  have hta := wz_tl hts
  have hown : s.vm.findClass RX12 = some m.cls := findClass_of_methodNamed B.named
  have hlocks := B.notSynchronized
  subst hsz
  have hD := hD0.self (sz := s.heap.size)
  generalize hAe : va_A (wd_X12_isInPolygon cI a0 v0_2 v0_3 v0_5 v0_12 v0_13 v0_16 v0_17 v0_21 v0_23 v0_24 v0_25 v0_26 v0_29 v0_30 v0_22) s.heap.size = A at hD ⊢
  have hA : ∀ q : Nat, s.heap.size ≤ q → A q := fun q h => by rw [← hAe]; exact Or.inr h
  have hS : va_S A s.heap s.heap [] := va_S.rf
  have hP : va_P (dC, dI) vwCl (wd_X12_isInPolygon cI a0 v0_2 v0_3 v0_5 v0_12 v0_13 v0_16 v0_17 v0_21 v0_23 v0_24 v0_25 v0_26 v0_29 v0_30 v0_22) s.heap := hP
  have hl := lv_entry ([.ref (a0 0), .int p1, .int p2, .int p3]) (n := 15) (Nat.le_of_ble_eq_true rfl)
  rw [lg_entry_eq]
  generalize (lg_sl ([.ref (a0 0), .int p1, .int p2, .int p3]) ++ List.replicate (15 - (lg_sl ([.ref (a0 0), .int p1, .int p2, .int p3])).length) Slot.unset).toArray = ls at hl ⊢
  have hl : lv_has ls 15 [(0, .ref (a0 0)), (1, .int p1), (2, .int p2), (3, .int p3)] := hl
  obtain ⟨H, hHe⟩ : ∃ H, H = s.heap := ⟨_, rfl⟩
  have hS : va_S A s.heap H [] := by rw [hHe]; exact hS
  have hP : va_P (dC, dI) vwCl (wd_X12_isInPolygon cI a0 v0_2 v0_3 v0_5 v0_12 v0_13 v0_16 v0_17 v0_21 v0_23 v0_24 v0_25 v0_26 v0_29 v0_30 v0_22) H := by rw [hHe]; exact hP
  rw [← hHe]
  unfold F_X12_isInPolygon at hF
  have j240 : ∀ (_ : Unit), F_X12_isInPolygon_j240 = some u → ∀ (H : Heap) (locs : List Loc) (ls : Array Slot), va_P (dC, dI) vwCl (wd_X12_isInPolygon cI a0 v0_2 v0_3 v0_5 v0_12 v0_13 v0_16 v0_17 v0_21 v0_23 v0_24 v0_25 v0_26 v0_29 v0_30 v0_22) H → va_D A (wd_X12_isInPolygon cI a0 v0_2 v0_3 v0_5 v0_12 v0_13 v0_16 v0_17 v0_21 v0_23 v0_24 v0_25 v0_26 v0_29 v0_30 v0_22) → va_S A s.heap H locs → lv_has ls 15 [] → W p l e (headSpec wz_X12_isInPolygon rm_X12_isInPolygon).room s m [.ref (a0 0), .int p1, .int p2, .int p3].toArray below meth c H locs 0 0 (MQ below (Q_X12_isInPolygon dC dI cI a0 v0_2 v0_3 v0_5 v0_12 v0_13 v0_16 v0_17 v0_21 v0_23 v0_24 v0_25 v0_26 v0_29 v0_30 v0_22 u A) [.ref (a0 0), .int p1, .int p2, .int p3].toArray s 0 0 A) (F0 m 240 ls []) := by
    intro _ hF H locs ls hP hD hS hl
    unfold F_X12_isInPolygon_j240 at hF
    refine lv_iconst (v := 0) hx hb dX12_isInPolygon_240 (by decide) ?_
    try clear j240
    try clear j216
    try clear j206
    try clear j21
    obtain rfl := Option.some.inj hF
    exact W.zret (v := 0) (ty := .boolean) hx hb hr (z_nar (Or.inl rfl)) (fun t ht hW => ⟨⟨0, (), rfl, ⟨rfl, (Or.inl rfl)⟩, by rw [ht]; exact hP, va_K.moved hW.alike hK, hD⟩, hS.F ht⟩) hS.2.2 dX12_isInPolygon_241
  have j216 : ∀ (x6 : Int32) (x7 : Int32) (x8 : Int32) (x9 : Int32), F_X12_isInPolygon_j216 x6 x7 x8 x9 = some u → ∀ (H : Heap) (locs : List Loc) (ls : Array Slot), va_P (dC, dI) vwCl (wd_X12_isInPolygon cI a0 v0_2 v0_3 v0_5 v0_12 v0_13 v0_16 v0_17 v0_21 v0_23 v0_24 v0_25 v0_26 v0_29 v0_30 v0_22) H → va_D A (wd_X12_isInPolygon cI a0 v0_2 v0_3 v0_5 v0_12 v0_13 v0_16 v0_17 v0_21 v0_23 v0_24 v0_25 v0_26 v0_29 v0_30 v0_22) → va_S A s.heap H locs → lv_has ls 15 [(6, .int x6), (7, .int x7), (8, .int x8), (9, .int x9)] → W p l e (headSpec wz_X12_isInPolygon rm_X12_isInPolygon).room s m [.ref (a0 0), .int p1, .int p2, .int p3].toArray below meth c H locs 0 0 (MQ below (Q_X12_isInPolygon dC dI cI a0 v0_2 v0_3 v0_5 v0_12 v0_13 v0_16 v0_17 v0_21 v0_23 v0_24 v0_25 v0_26 v0_29 v0_30 v0_22 u A) [.ref (a0 0), .int p1, .int p2, .int p3].toArray s 0 0 A) (F0 m 216 ls []) := by
    intro x6 x7 x8 x9 hF H locs ls hP hD hS hl
    unfold F_X12_isInPolygon_j216 at hF
    refine lv_iload hx hb dX12_isInPolygon_216 (lv_at hl 0 rfl) ?_
    refine lv_if_eq (tgt := 240) hx hb dX12_isInPolygon_218 (by decide) (fun c_1 => ?_) (fun c_1 => ?_)
    · have hF := it_t hF c_1
      exact j240 () hF _ _ _ hP hD hS (lv_sub hl [] rfl)
    · have hF := it_f hF c_1
      refine lv_iload hx hb dX12_isInPolygon_221 (lv_at hl 1 rfl) ?_
      refine lv_if_eq (tgt := 240) hx hb dX12_isInPolygon_223 (by decide) (fun c_2 => ?_) (fun c_2 => ?_)
      · have hF := it_t hF c_2
        exact j240 () hF _ _ _ hP hD hS (lv_sub hl [] rfl)
      · have hF := it_f hF c_2
        refine lv_iload hx hb dX12_isInPolygon_226 (lv_at hl 2 rfl) ?_
        refine lv_if_eq (tgt := 240) hx hb dX12_isInPolygon_228 (by decide) (fun c_3 => ?_) (fun c_3 => ?_)
        · have hF := it_t hF c_3
          exact j240 () hF _ _ _ hP hD hS (lv_sub hl [] rfl)
        · have hF := it_f hF c_3
          refine lv_iload hx hb dX12_isInPolygon_231 (lv_at hl 3 rfl) ?_
          refine lv_if_eq (tgt := 240) hx hb dX12_isInPolygon_233 (by decide) (fun c_4 => ?_) (fun c_4 => ?_)
          · have hF := it_t hF c_4
            exact j240 () hF _ _ _ hP hD hS (lv_sub hl [] rfl)
          · have hF := it_f hF c_4
            refine lv_iconst (v := 1) hx hb dX12_isInPolygon_236 (by decide) ?_
            refine lv_goto (tgt := 241) hx hb dX12_isInPolygon_237 (by decide) ?_
            try clear j240
            try clear j216
            try clear j206
            try clear j21
            obtain rfl := Option.some.inj hF
            exact W.zret (v := 1) (ty := .boolean) hx hb hr (z_nar (Or.inr rfl)) (fun t ht hW => ⟨⟨1, (), rfl, ⟨rfl, (Or.inr rfl)⟩, by rw [ht]; exact hP, va_K.moved hW.alike hK, hD⟩, hS.F ht⟩) hS.2.2 dX12_isInPolygon_241
  have j206 : ∀ (x4 : Int32) (x5 : Int32) (x6 : Int32) (x7 : Int32) (x8 : Int32) (x9 : Int32), F_X12_isInPolygon_j206 x4 x5 x6 x7 x8 x9 = some u → ∀ (H : Heap) (locs : List Loc) (ls : Array Slot), va_P (dC, dI) vwCl (wd_X12_isInPolygon cI a0 v0_2 v0_3 v0_5 v0_12 v0_13 v0_16 v0_17 v0_21 v0_23 v0_24 v0_25 v0_26 v0_29 v0_30 v0_22) H → va_D A (wd_X12_isInPolygon cI a0 v0_2 v0_3 v0_5 v0_12 v0_13 v0_16 v0_17 v0_21 v0_23 v0_24 v0_25 v0_26 v0_29 v0_30 v0_22) → va_S A s.heap H locs → lv_has ls 15 [(4, .int x4), (5, .int x5), (6, .int x6), (7, .int x7), (8, .int x8), (9, .int x9)] → W p l e (headSpec wz_X12_isInPolygon rm_X12_isInPolygon).room s m [.ref (a0 0), .int p1, .int p2, .int p3].toArray below meth c H locs 0 0 (MQ below (Q_X12_isInPolygon dC dI cI a0 v0_2 v0_3 v0_5 v0_12 v0_13 v0_16 v0_17 v0_21 v0_23 v0_24 v0_25 v0_26 v0_29 v0_30 v0_22 u A) [.ref (a0 0), .int p1, .int p2, .int p3].toArray s 0 0 A) (F0 m 206 ls []) := by
    intro x4 x5 x6 x7 x8 x9 hF H locs ls hP hD hS hl
    unfold F_X12_isInPolygon_j206 at hF
    refine lv_iload hx hb dX12_isInPolygon_206 (lv_at hl 0 rfl) ?_
    refine lv_if_ne (tgt := 216) hx hb dX12_isInPolygon_208 (by decide) (fun c_5 => ?_) (fun c_5 => ?_)
    · have hF := it_f hF c_5
      exact j216 x6 x7 x8 x9 hF _ _ _ hP hD hS (lv_sub hl [2, 3, 4, 5] rfl)
    · have hF := it_t hF c_5
      refine lv_iload hx hb dX12_isInPolygon_211 (lv_at hl 1 rfl) ?_
      refine lv_if_eq (tgt := 240) hx hb dX12_isInPolygon_213 (by decide) (fun c_6 => ?_) (fun c_6 => ?_)
      · have hF := it_t hF c_6
        exact j240 () hF _ _ _ hP hD hS (lv_sub hl [] rfl)
      · have hF := it_f hF c_6
        exact j216 x6 x7 x8 x9 hF _ _ _ hP hD hS (lv_sub hl [2, 3, 4, 5] rfl)
  have j21 : ∀ (x1 : Int32) (x2 : Int32) (x3 : Int32) (x4 : Int32) (x5 : Int32) (x6 : Int32) (x7 : Int32) (x8 : Int32) (x9 : Int32) (x10 : Int32), F_X12_isInPolygon_j21 n v0_22 x1 x2 x3 x4 x5 x6 x7 x8 x9 x10 = some u → ∀ (H : Heap) (locs : List Loc) (ls : Array Slot), va_P (dC, dI) vwCl (wd_X12_isInPolygon cI a0 v0_2 v0_3 v0_5 v0_12 v0_13 v0_16 v0_17 v0_21 v0_23 v0_24 v0_25 v0_26 v0_29 v0_30 v0_22) H → va_D A (wd_X12_isInPolygon cI a0 v0_2 v0_3 v0_5 v0_12 v0_13 v0_16 v0_17 v0_21 v0_23 v0_24 v0_25 v0_26 v0_29 v0_30 v0_22) → va_S A s.heap H locs → lv_has ls 15 [(0, .ref (a0 0)), (1, .int x1), (2, .int x2), (3, .int x3), (4, .int x4), (5, .int x5), (6, .int x6), (7, .int x7), (8, .int x8), (9, .int x9), (10, .int x10)] → W p l e (headSpec wz_X12_isInPolygon rm_X12_isInPolygon).room s m [.ref (a0 0), .int p1, .int p2, .int p3].toArray below meth c H locs 0 0 (MQ below (Q_X12_isInPolygon dC dI cI a0 v0_2 v0_3 v0_5 v0_12 v0_13 v0_16 v0_17 v0_21 v0_23 v0_24 v0_25 v0_26 v0_29 v0_30 v0_22 u A) [.ref (a0 0), .int p1, .int p2, .int p3].toArray s 0 0 A) (F0 m 21 ls []) := by
    intro x1 x2 x3 x4 x5 x6 x7 x8 x9 x10 hF H locs ls hP hD hS hl
    unfold F_X12_isInPolygon_j21 at hF
    obtain ⟨x_21, hL_21, hE_21⟩ := obd_some hF
    have kl_21 : ∀ (k : Nat) (s21 : Int32 × Int32 × Int32 × Int32 × Int32 × Int32 × Int32), lpq (F_X12_isInPolygon_b21 v0_22 x1 x2 x3) k s21 = some x_21 → ∀ (H : Heap) (locs : List Loc) (ls : Array Slot), va_P (dC, dI) vwCl (wd_X12_isInPolygon cI a0 v0_2 v0_3 v0_5 v0_12 v0_13 v0_16 v0_17 v0_21 v0_23 v0_24 v0_25 v0_26 v0_29 v0_30 v0_22) H → va_D A (wd_X12_isInPolygon cI a0 v0_2 v0_3 v0_5 v0_12 v0_13 v0_16 v0_17 v0_21 v0_23 v0_24 v0_25 v0_26 v0_29 v0_30 v0_22) → va_S A s.heap H locs → lv_has ls 15 [(0, .ref (a0 0)), (1, .int x1), (2, .int x2), (3, .int x3), (4, .int s21.1), (5, .int s21.2.1), (6, .int s21.2.2.1), (7, .int s21.2.2.2.1), (8, .int s21.2.2.2.2.1), (9, .int s21.2.2.2.2.2.1), (10, .int s21.2.2.2.2.2.2)] → W p l e (headSpec wz_X12_isInPolygon rm_X12_isInPolygon).room s m [.ref (a0 0), .int p1, .int p2, .int p3].toArray below meth c H locs 0 0 (MQ below (Q_X12_isInPolygon dC dI cI a0 v0_2 v0_3 v0_5 v0_12 v0_13 v0_16 v0_17 v0_21 v0_23 v0_24 v0_25 v0_26 v0_29 v0_30 v0_22 u A) [.ref (a0 0), .int p1, .int p2, .int p3].toArray s 0 0 A) (F0 m 21 ls []) := by
      intro k
      induction k with
      | zero => intro s21 h; exact absurd h lpq_zero
      | succ k ih_21 =>
        intro s21 h H locs ls hP hD hS hl
        obtain ⟨o_21, hF, hO_21⟩ := lpq_succ h
        unfold F_X12_isInPolygon_b21 at hF
        have j198 : ∀ (x4 : Int32) (x5 : Int32) (x6 : Int32) (x7 : Int32) (x8 : Int32) (x10 : Int32) (t0 : Int32), F_X12_isInPolygon_j198 x4 x5 x6 x7 x8 x10 t0 = some o_21 → ∀ (H : Heap) (locs : List Loc) (ls : Array Slot), va_P (dC, dI) vwCl (wd_X12_isInPolygon cI a0 v0_2 v0_3 v0_5 v0_12 v0_13 v0_16 v0_17 v0_21 v0_23 v0_24 v0_25 v0_26 v0_29 v0_30 v0_22) H → va_D A (wd_X12_isInPolygon cI a0 v0_2 v0_3 v0_5 v0_12 v0_13 v0_16 v0_17 v0_21 v0_23 v0_24 v0_25 v0_26 v0_29 v0_30 v0_22) → va_S A s.heap H locs → lv_has ls 15 [(0, .ref (a0 0)), (1, .int x1), (2, .int x2), (3, .int x3), (4, .int x4), (5, .int x5), (6, .int x6), (7, .int x7), (8, .int x8), (10, .int x10)] → W p l e (headSpec wz_X12_isInPolygon rm_X12_isInPolygon).room s m [.ref (a0 0), .int p1, .int p2, .int p3].toArray below meth c H locs 0 0 (MQ below (Q_X12_isInPolygon dC dI cI a0 v0_2 v0_3 v0_5 v0_12 v0_13 v0_16 v0_17 v0_21 v0_23 v0_24 v0_25 v0_26 v0_29 v0_30 v0_22 u A) [.ref (a0 0), .int p1, .int p2, .int p3].toArray s 0 0 A) (F0 m 198 ls [.int t0]) := by
          intro x4 x5 x6 x7 x8 x10 t0 hF H locs ls hP hD hS hl
          unfold F_X12_isInPolygon_j198 at hF
          refine lv_istore (lv' := [(9, .int t0), (0, .ref (a0 0)), (1, .int x1), (2, .int x2), (3, .int x3), (4, .int x4), (5, .int x5), (6, .int x6), (7, .int x7), (8, .int x8), (10, .int x10)]) hx hb dX12_isInPolygon_198 hl (by decide) rfl (fun ls hl => ?_)
          obtain ⟨y_7, ey_7, hF⟩ := lt_some hF
          refine lv_iinc (v := y_7) (lv' := [(10, .int y_7), (9, .int t0), (0, .ref (a0 0)), (1, .int x1), (2, .int x2), (3, .int x3), (4, .int x4), (5, .int x5), (6, .int x6), (7, .int x7), (8, .int x8)]) hx hb dX12_isInPolygon_200 hl (k := 10) rfl (by rw [ey_7]; rfl) (by decide) rfl (fun ls hl => ?_)
          refine lv_goto (tgt := 21) hx hb dX12_isInPolygon_203 (by decide) ?_
          try clear j198
          try clear j193
          try clear j180
          try clear j175
          try clear j162
          try clear j157
          try clear j144
          try clear j139
          try clear j126
          try clear j125
          try clear j107
          try clear j106
          obtain rfl := Option.some.inj hF
          exact ih_21 _ hO_21 _ _ _ hP hD hS (lv_sub hl [2, 3, 4, 5, 6, 7, 8, 9, 10, 1, 0] rfl)
        have j193 : ∀ (x4 : Int32) (x5 : Int32) (x6 : Int32) (x7 : Int32) (x8 : Int32) (x10 : Int32), F_X12_isInPolygon_j193 x4 x5 x6 x7 x8 x10 = some o_21 → ∀ (H : Heap) (locs : List Loc) (ls : Array Slot), va_P (dC, dI) vwCl (wd_X12_isInPolygon cI a0 v0_2 v0_3 v0_5 v0_12 v0_13 v0_16 v0_17 v0_21 v0_23 v0_24 v0_25 v0_26 v0_29 v0_30 v0_22) H → va_D A (wd_X12_isInPolygon cI a0 v0_2 v0_3 v0_5 v0_12 v0_13 v0_16 v0_17 v0_21 v0_23 v0_24 v0_25 v0_26 v0_29 v0_30 v0_22) → va_S A s.heap H locs → lv_has ls 15 [(0, .ref (a0 0)), (1, .int x1), (2, .int x2), (3, .int x3), (4, .int x4), (5, .int x5), (6, .int x6), (7, .int x7), (8, .int x8), (10, .int x10)] → W p l e (headSpec wz_X12_isInPolygon rm_X12_isInPolygon).room s m [.ref (a0 0), .int p1, .int p2, .int p3].toArray below meth c H locs 0 0 (MQ below (Q_X12_isInPolygon dC dI cI a0 v0_2 v0_3 v0_5 v0_12 v0_13 v0_16 v0_17 v0_21 v0_23 v0_24 v0_25 v0_26 v0_29 v0_30 v0_22 u A) [.ref (a0 0), .int p1, .int p2, .int p3].toArray s 0 0 A) (F0 m 193 ls []) := by
          intro x4 x5 x6 x7 x8 x10 hF H locs ls hP hD hS hl
          unfold F_X12_isInPolygon_j193 at hF
          refine lv_iconst (v := 1) hx hb dX12_isInPolygon_193 (by decide) ?_
          refine lv_goto (tgt := 198) hx hb dX12_isInPolygon_194 (by decide) ?_
          exact j198 x4 x5 x6 x7 x8 x10 1 hF _ _ _ hP hD hS (lv_sub hl [0, 1, 2, 3, 4, 5, 6, 7, 8, 9] rfl)
        have j180 : ∀ (x4 : Int32) (x5 : Int32) (x6 : Int32) (x7 : Int32) (x9 : Int32) (x10 : Int32) (x12 : Int32) (t0 : Int32), F_X12_isInPolygon_j180 x3 x4 x5 x6 x7 x9 x10 x12 t0 = some o_21 → ∀ (H : Heap) (locs : List Loc) (ls : Array Slot), va_P (dC, dI) vwCl (wd_X12_isInPolygon cI a0 v0_2 v0_3 v0_5 v0_12 v0_13 v0_16 v0_17 v0_21 v0_23 v0_24 v0_25 v0_26 v0_29 v0_30 v0_22) H → va_D A (wd_X12_isInPolygon cI a0 v0_2 v0_3 v0_5 v0_12 v0_13 v0_16 v0_17 v0_21 v0_23 v0_24 v0_25 v0_26 v0_29 v0_30 v0_22) → va_S A s.heap H locs → lv_has ls 15 [(0, .ref (a0 0)), (1, .int x1), (2, .int x2), (3, .int x3), (4, .int x4), (5, .int x5), (6, .int x6), (7, .int x7), (9, .int x9), (10, .int x10), (12, .int x12)] → W p l e (headSpec wz_X12_isInPolygon rm_X12_isInPolygon).room s m [.ref (a0 0), .int p1, .int p2, .int p3].toArray below meth c H locs 0 0 (MQ below (Q_X12_isInPolygon dC dI cI a0 v0_2 v0_3 v0_5 v0_12 v0_13 v0_16 v0_17 v0_21 v0_23 v0_24 v0_25 v0_26 v0_29 v0_30 v0_22 u A) [.ref (a0 0), .int p1, .int p2, .int p3].toArray s 0 0 A) (F0 m 180 ls [.int t0]) := by
          intro x4 x5 x6 x7 x9 x10 x12 t0 hF H locs ls hP hD hS hl
          unfold F_X12_isInPolygon_j180 at hF
          refine lv_istore (lv' := [(8, .int t0), (0, .ref (a0 0)), (1, .int x1), (2, .int x2), (3, .int x3), (4, .int x4), (5, .int x5), (6, .int x6), (7, .int x7), (9, .int x9), (10, .int x10), (12, .int x12)]) hx hb dX12_isInPolygon_180 hl (by decide) rfl (fun ls hl => ?_)
          refine lv_iload hx hb dX12_isInPolygon_182 (lv_at hl 9 rfl) ?_
          refine lv_if_ne (tgt := 193) hx hb dX12_isInPolygon_184 (by decide) (fun c_8 => ?_) (fun c_8 => ?_)
          · have hF := it_f hF c_8
            exact j193 x4 x5 x6 x7 t0 x10 hF _ _ _ hP hD hS (lv_sub hl [1, 2, 3, 4, 5, 6, 7, 8, 0, 10] rfl)
          · have hF := it_t hF c_8
            refine lv_iload hx hb dX12_isInPolygon_187 (lv_at hl 11 rfl) ?_
            refine lv_iload_n hx hb dX12_isInPolygon_189 rfl (lv_at hl 4 rfl) ?_
            refine lv_icmp_gt (tgt := 197) hx hb dX12_isInPolygon_190 (by decide) (fun c_9 => ?_) (fun c_9 => ?_)
            · have hF := it_t hF c_9
              refine lv_iconst (v := 0) hx hb dX12_isInPolygon_197 (by decide) ?_
              exact j198 x4 x5 x6 x7 t0 x10 0 hF _ _ _ hP hD hS (lv_sub hl [1, 2, 3, 4, 5, 6, 7, 8, 0, 10] rfl)
            · have hF := it_f hF c_9
              exact j193 x4 x5 x6 x7 t0 x10 hF _ _ _ hP hD hS (lv_sub hl [1, 2, 3, 4, 5, 6, 7, 8, 0, 10] rfl)
        have j175 : ∀ (x4 : Int32) (x5 : Int32) (x6 : Int32) (x7 : Int32) (x9 : Int32) (x10 : Int32) (x12 : Int32), F_X12_isInPolygon_j175 x3 x4 x5 x6 x7 x9 x10 x12 = some o_21 → ∀ (H : Heap) (locs : List Loc) (ls : Array Slot), va_P (dC, dI) vwCl (wd_X12_isInPolygon cI a0 v0_2 v0_3 v0_5 v0_12 v0_13 v0_16 v0_17 v0_21 v0_23 v0_24 v0_25 v0_26 v0_29 v0_30 v0_22) H → va_D A (wd_X12_isInPolygon cI a0 v0_2 v0_3 v0_5 v0_12 v0_13 v0_16 v0_17 v0_21 v0_23 v0_24 v0_25 v0_26 v0_29 v0_30 v0_22) → va_S A s.heap H locs → lv_has ls 15 [(0, .ref (a0 0)), (1, .int x1), (2, .int x2), (3, .int x3), (4, .int x4), (5, .int x5), (6, .int x6), (7, .int x7), (9, .int x9), (10, .int x10), (12, .int x12)] → W p l e (headSpec wz_X12_isInPolygon rm_X12_isInPolygon).room s m [.ref (a0 0), .int p1, .int p2, .int p3].toArray below meth c H locs 0 0 (MQ below (Q_X12_isInPolygon dC dI cI a0 v0_2 v0_3 v0_5 v0_12 v0_13 v0_16 v0_17 v0_21 v0_23 v0_24 v0_25 v0_26 v0_29 v0_30 v0_22 u A) [.ref (a0 0), .int p1, .int p2, .int p3].toArray s 0 0 A) (F0 m 175 ls []) := by
          intro x4 x5 x6 x7 x9 x10 x12 hF H locs ls hP hD hS hl
          unfold F_X12_isInPolygon_j175 at hF
          refine lv_iconst (v := 1) hx hb dX12_isInPolygon_175 (by decide) ?_
          refine lv_goto (tgt := 180) hx hb dX12_isInPolygon_176 (by decide) ?_
          exact j180 x4 x5 x6 x7 x9 x10 x12 1 hF _ _ _ hP hD hS (lv_sub hl [0, 1, 2, 3, 4, 5, 6, 7, 8, 9, 10] rfl)
        have j162 : ∀ (x4 : Int32) (x5 : Int32) (x6 : Int32) (x8 : Int32) (x9 : Int32) (x10 : Int32) (x12 : Int32) (t0 : Int32), F_X12_isInPolygon_j162 x3 x4 x5 x6 x8 x9 x10 x12 t0 = some o_21 → ∀ (H : Heap) (locs : List Loc) (ls : Array Slot), va_P (dC, dI) vwCl (wd_X12_isInPolygon cI a0 v0_2 v0_3 v0_5 v0_12 v0_13 v0_16 v0_17 v0_21 v0_23 v0_24 v0_25 v0_26 v0_29 v0_30 v0_22) H → va_D A (wd_X12_isInPolygon cI a0 v0_2 v0_3 v0_5 v0_12 v0_13 v0_16 v0_17 v0_21 v0_23 v0_24 v0_25 v0_26 v0_29 v0_30 v0_22) → va_S A s.heap H locs → lv_has ls 15 [(0, .ref (a0 0)), (1, .int x1), (2, .int x2), (3, .int x3), (4, .int x4), (5, .int x5), (6, .int x6), (8, .int x8), (9, .int x9), (10, .int x10), (12, .int x12)] → W p l e (headSpec wz_X12_isInPolygon rm_X12_isInPolygon).room s m [.ref (a0 0), .int p1, .int p2, .int p3].toArray below meth c H locs 0 0 (MQ below (Q_X12_isInPolygon dC dI cI a0 v0_2 v0_3 v0_5 v0_12 v0_13 v0_16 v0_17 v0_21 v0_23 v0_24 v0_25 v0_26 v0_29 v0_30 v0_22 u A) [.ref (a0 0), .int p1, .int p2, .int p3].toArray s 0 0 A) (F0 m 162 ls [.int t0]) := by
          intro x4 x5 x6 x8 x9 x10 x12 t0 hF H locs ls hP hD hS hl
          unfold F_X12_isInPolygon_j162 at hF
          refine lv_istore (lv' := [(7, .int t0), (0, .ref (a0 0)), (1, .int x1), (2, .int x2), (3, .int x3), (4, .int x4), (5, .int x5), (6, .int x6), (8, .int x8), (9, .int x9), (10, .int x10), (12, .int x12)]) hx hb dX12_isInPolygon_162 hl (by decide) rfl (fun ls hl => ?_)
          refine lv_iload hx hb dX12_isInPolygon_164 (lv_at hl 8 rfl) ?_
          refine lv_if_ne (tgt := 175) hx hb dX12_isInPolygon_166 (by decide) (fun c_10 => ?_) (fun c_10 => ?_)
          · have hF := it_f hF c_10
            exact j175 x4 x5 x6 t0 x9 x10 x12 hF _ _ _ hP hD hS (lv_sub hl [1, 2, 3, 4, 5, 6, 7, 0, 9, 10, 11] rfl)
          · have hF := it_t hF c_10
            refine lv_iload hx hb dX12_isInPolygon_169 (lv_at hl 11 rfl) ?_
            refine lv_iload_n hx hb dX12_isInPolygon_171 rfl (lv_at hl 4 rfl) ?_
            refine lv_icmp_lt (tgt := 179) hx hb dX12_isInPolygon_172 (by decide) (fun c_11 => ?_) (fun c_11 => ?_)
            · have hF := it_t hF c_11
              refine lv_iconst (v := 0) hx hb dX12_isInPolygon_179 (by decide) ?_
              exact j180 x4 x5 x6 t0 x9 x10 x12 0 hF _ _ _ hP hD hS (lv_sub hl [1, 2, 3, 4, 5, 6, 7, 0, 9, 10, 11] rfl)
            · have hF := it_f hF c_11
              exact j175 x4 x5 x6 t0 x9 x10 x12 hF _ _ _ hP hD hS (lv_sub hl [1, 2, 3, 4, 5, 6, 7, 0, 9, 10, 11] rfl)
        have j157 : ∀ (x4 : Int32) (x5 : Int32) (x6 : Int32) (x8 : Int32) (x9 : Int32) (x10 : Int32) (x12 : Int32), F_X12_isInPolygon_j157 x3 x4 x5 x6 x8 x9 x10 x12 = some o_21 → ∀ (H : Heap) (locs : List Loc) (ls : Array Slot), va_P (dC, dI) vwCl (wd_X12_isInPolygon cI a0 v0_2 v0_3 v0_5 v0_12 v0_13 v0_16 v0_17 v0_21 v0_23 v0_24 v0_25 v0_26 v0_29 v0_30 v0_22) H → va_D A (wd_X12_isInPolygon cI a0 v0_2 v0_3 v0_5 v0_12 v0_13 v0_16 v0_17 v0_21 v0_23 v0_24 v0_25 v0_26 v0_29 v0_30 v0_22) → va_S A s.heap H locs → lv_has ls 15 [(0, .ref (a0 0)), (1, .int x1), (2, .int x2), (3, .int x3), (4, .int x4), (5, .int x5), (6, .int x6), (8, .int x8), (9, .int x9), (10, .int x10), (12, .int x12)] → W p l e (headSpec wz_X12_isInPolygon rm_X12_isInPolygon).room s m [.ref (a0 0), .int p1, .int p2, .int p3].toArray below meth c H locs 0 0 (MQ below (Q_X12_isInPolygon dC dI cI a0 v0_2 v0_3 v0_5 v0_12 v0_13 v0_16 v0_17 v0_21 v0_23 v0_24 v0_25 v0_26 v0_29 v0_30 v0_22 u A) [.ref (a0 0), .int p1, .int p2, .int p3].toArray s 0 0 A) (F0 m 157 ls []) := by
          intro x4 x5 x6 x8 x9 x10 x12 hF H locs ls hP hD hS hl
          unfold F_X12_isInPolygon_j157 at hF
          refine lv_iconst (v := 1) hx hb dX12_isInPolygon_157 (by decide) ?_
          refine lv_goto (tgt := 162) hx hb dX12_isInPolygon_158 (by decide) ?_
          exact j162 x4 x5 x6 x8 x9 x10 x12 1 hF _ _ _ hP hD hS (lv_sub hl [0, 1, 2, 3, 4, 5, 6, 7, 8, 9, 10] rfl)
        have j144 : ∀ (x4 : Int32) (x5 : Int32) (x7 : Int32) (x8 : Int32) (x9 : Int32) (x10 : Int32) (x11 : Int32) (x12 : Int32) (t0 : Int32), F_X12_isInPolygon_j144 x2 x3 x4 x5 x7 x8 x9 x10 x11 x12 t0 = some o_21 → ∀ (H : Heap) (locs : List Loc) (ls : Array Slot), va_P (dC, dI) vwCl (wd_X12_isInPolygon cI a0 v0_2 v0_3 v0_5 v0_12 v0_13 v0_16 v0_17 v0_21 v0_23 v0_24 v0_25 v0_26 v0_29 v0_30 v0_22) H → va_D A (wd_X12_isInPolygon cI a0 v0_2 v0_3 v0_5 v0_12 v0_13 v0_16 v0_17 v0_21 v0_23 v0_24 v0_25 v0_26 v0_29 v0_30 v0_22) → va_S A s.heap H locs → lv_has ls 15 [(0, .ref (a0 0)), (1, .int x1), (2, .int x2), (3, .int x3), (4, .int x4), (5, .int x5), (7, .int x7), (8, .int x8), (9, .int x9), (10, .int x10), (11, .int x11), (12, .int x12)] → W p l e (headSpec wz_X12_isInPolygon rm_X12_isInPolygon).room s m [.ref (a0 0), .int p1, .int p2, .int p3].toArray below meth c H locs 0 0 (MQ below (Q_X12_isInPolygon dC dI cI a0 v0_2 v0_3 v0_5 v0_12 v0_13 v0_16 v0_17 v0_21 v0_23 v0_24 v0_25 v0_26 v0_29 v0_30 v0_22 u A) [.ref (a0 0), .int p1, .int p2, .int p3].toArray s 0 0 A) (F0 m 144 ls [.int t0]) := by
          intro x4 x5 x7 x8 x9 x10 x11 x12 t0 hF H locs ls hP hD hS hl
          unfold F_X12_isInPolygon_j144 at hF
          refine lv_istore (lv' := [(6, .int t0), (0, .ref (a0 0)), (1, .int x1), (2, .int x2), (3, .int x3), (4, .int x4), (5, .int x5), (7, .int x7), (8, .int x8), (9, .int x9), (10, .int x10), (11, .int x11), (12, .int x12)]) hx hb dX12_isInPolygon_144 hl (by decide) rfl (fun ls hl => ?_)
          refine lv_iload hx hb dX12_isInPolygon_146 (lv_at hl 7 rfl) ?_
          refine lv_if_ne (tgt := 157) hx hb dX12_isInPolygon_148 (by decide) (fun c_12 => ?_) (fun c_12 => ?_)
          · have hF := it_f hF c_12
            exact j157 x4 x5 t0 x8 x9 x10 x12 hF _ _ _ hP hD hS (lv_sub hl [1, 2, 3, 4, 5, 6, 0, 8, 9, 10, 12] rfl)
          · have hF := it_t hF c_12
            refine lv_iload hx hb dX12_isInPolygon_151 (lv_at hl 11 rfl) ?_
            refine lv_iload_n hx hb dX12_isInPolygon_153 rfl (lv_at hl 3 rfl) ?_
            refine lv_icmp_lt (tgt := 161) hx hb dX12_isInPolygon_154 (by decide) (fun c_13 => ?_) (fun c_13 => ?_)
            · have hF := it_t hF c_13
              refine lv_iconst (v := 0) hx hb dX12_isInPolygon_161 (by decide) ?_
              exact j162 x4 x5 t0 x8 x9 x10 x12 0 hF _ _ _ hP hD hS (lv_sub hl [1, 2, 3, 4, 5, 6, 0, 8, 9, 10, 12] rfl)
            · have hF := it_f hF c_13
              exact j157 x4 x5 t0 x8 x9 x10 x12 hF _ _ _ hP hD hS (lv_sub hl [1, 2, 3, 4, 5, 6, 0, 8, 9, 10, 12] rfl)
        have j139 : ∀ (x4 : Int32) (x5 : Int32) (x7 : Int32) (x8 : Int32) (x9 : Int32) (x10 : Int32) (x11 : Int32) (x12 : Int32), F_X12_isInPolygon_j139 x2 x3 x4 x5 x7 x8 x9 x10 x11 x12 = some o_21 → ∀ (H : Heap) (locs : List Loc) (ls : Array Slot), va_P (dC, dI) vwCl (wd_X12_isInPolygon cI a0 v0_2 v0_3 v0_5 v0_12 v0_13 v0_16 v0_17 v0_21 v0_23 v0_24 v0_25 v0_26 v0_29 v0_30 v0_22) H → va_D A (wd_X12_isInPolygon cI a0 v0_2 v0_3 v0_5 v0_12 v0_13 v0_16 v0_17 v0_21 v0_23 v0_24 v0_25 v0_26 v0_29 v0_30 v0_22) → va_S A s.heap H locs → lv_has ls 15 [(0, .ref (a0 0)), (1, .int x1), (2, .int x2), (3, .int x3), (4, .int x4), (5, .int x5), (7, .int x7), (8, .int x8), (9, .int x9), (10, .int x10), (11, .int x11), (12, .int x12)] → W p l e (headSpec wz_X12_isInPolygon rm_X12_isInPolygon).room s m [.ref (a0 0), .int p1, .int p2, .int p3].toArray below meth c H locs 0 0 (MQ below (Q_X12_isInPolygon dC dI cI a0 v0_2 v0_3 v0_5 v0_12 v0_13 v0_16 v0_17 v0_21 v0_23 v0_24 v0_25 v0_26 v0_29 v0_30 v0_22 u A) [.ref (a0 0), .int p1, .int p2, .int p3].toArray s 0 0 A) (F0 m 139 ls []) := by
          intro x4 x5 x7 x8 x9 x10 x11 x12 hF H locs ls hP hD hS hl
          unfold F_X12_isInPolygon_j139 at hF
          refine lv_iconst (v := 1) hx hb dX12_isInPolygon_139 (by decide) ?_
          refine lv_goto (tgt := 144) hx hb dX12_isInPolygon_140 (by decide) ?_
          exact j144 x4 x5 x7 x8 x9 x10 x11 x12 1 hF _ _ _ hP hD hS (lv_sub hl [0, 1, 2, 3, 4, 5, 6, 7, 8, 9, 10, 11] rfl)
        have j126 : ∀ (x4 : Int32) (x6 : Int32) (x7 : Int32) (x8 : Int32) (x9 : Int32) (x10 : Int32) (x11 : Int32) (x12 : Int32) (t0 : Int32), F_X12_isInPolygon_j126 x2 x3 x4 x6 x7 x8 x9 x10 x11 x12 t0 = some o_21 → ∀ (H : Heap) (locs : List Loc) (ls : Array Slot), va_P (dC, dI) vwCl (wd_X12_isInPolygon cI a0 v0_2 v0_3 v0_5 v0_12 v0_13 v0_16 v0_17 v0_21 v0_23 v0_24 v0_25 v0_26 v0_29 v0_30 v0_22) H → va_D A (wd_X12_isInPolygon cI a0 v0_2 v0_3 v0_5 v0_12 v0_13 v0_16 v0_17 v0_21 v0_23 v0_24 v0_25 v0_26 v0_29 v0_30 v0_22) → va_S A s.heap H locs → lv_has ls 15 [(0, .ref (a0 0)), (1, .int x1), (2, .int x2), (3, .int x3), (4, .int x4), (6, .int x6), (7, .int x7), (8, .int x8), (9, .int x9), (10, .int x10), (11, .int x11), (12, .int x12)] → W p l e (headSpec wz_X12_isInPolygon rm_X12_isInPolygon).room s m [.ref (a0 0), .int p1, .int p2, .int p3].toArray below meth c H locs 0 0 (MQ below (Q_X12_isInPolygon dC dI cI a0 v0_2 v0_3 v0_5 v0_12 v0_13 v0_16 v0_17 v0_21 v0_23 v0_24 v0_25 v0_26 v0_29 v0_30 v0_22 u A) [.ref (a0 0), .int p1, .int p2, .int p3].toArray s 0 0 A) (F0 m 126 ls [.int t0]) := by
          intro x4 x6 x7 x8 x9 x10 x11 x12 t0 hF H locs ls hP hD hS hl
          unfold F_X12_isInPolygon_j126 at hF
          refine lv_istore (lv' := [(5, .int t0), (0, .ref (a0 0)), (1, .int x1), (2, .int x2), (3, .int x3), (4, .int x4), (6, .int x6), (7, .int x7), (8, .int x8), (9, .int x9), (10, .int x10), (11, .int x11), (12, .int x12)]) hx hb dX12_isInPolygon_126 hl (by decide) rfl (fun ls hl => ?_)
          refine lv_iload hx hb dX12_isInPolygon_128 (lv_at hl 6 rfl) ?_
          refine lv_if_ne (tgt := 139) hx hb dX12_isInPolygon_130 (by decide) (fun c_14 => ?_) (fun c_14 => ?_)
          · have hF := it_f hF c_14
            exact j139 x4 t0 x7 x8 x9 x10 x11 x12 hF _ _ _ hP hD hS (lv_sub hl [1, 2, 3, 4, 5, 0, 7, 8, 9, 10, 11, 12] rfl)
          · have hF := it_t hF c_14
            refine lv_iload hx hb dX12_isInPolygon_133 (lv_at hl 11 rfl) ?_
            refine lv_iload_n hx hb dX12_isInPolygon_135 rfl (lv_at hl 3 rfl) ?_
            refine lv_icmp_gt (tgt := 143) hx hb dX12_isInPolygon_136 (by decide) (fun c_15 => ?_) (fun c_15 => ?_)
            · have hF := it_t hF c_15
              refine lv_iconst (v := 0) hx hb dX12_isInPolygon_143 (by decide) ?_
              exact j144 x4 t0 x7 x8 x9 x10 x11 x12 0 hF _ _ _ hP hD hS (lv_sub hl [1, 2, 3, 4, 5, 0, 7, 8, 9, 10, 11, 12] rfl)
            · have hF := it_f hF c_15
              exact j139 x4 t0 x7 x8 x9 x10 x11 x12 hF _ _ _ hP hD hS (lv_sub hl [1, 2, 3, 4, 5, 0, 7, 8, 9, 10, 11, 12] rfl)
        have j125 : ∀ (x4 : Int32) (x6 : Int32) (x7 : Int32) (x8 : Int32) (x9 : Int32) (x10 : Int32) (x11 : Int32) (x12 : Int32), F_X12_isInPolygon_j125 x2 x3 x4 x6 x7 x8 x9 x10 x11 x12 = some o_21 → ∀ (H : Heap) (locs : List Loc) (ls : Array Slot), va_P (dC, dI) vwCl (wd_X12_isInPolygon cI a0 v0_2 v0_3 v0_5 v0_12 v0_13 v0_16 v0_17 v0_21 v0_23 v0_24 v0_25 v0_26 v0_29 v0_30 v0_22) H → va_D A (wd_X12_isInPolygon cI a0 v0_2 v0_3 v0_5 v0_12 v0_13 v0_16 v0_17 v0_21 v0_23 v0_24 v0_25 v0_26 v0_29 v0_30 v0_22) → va_S A s.heap H locs → lv_has ls 15 [(0, .ref (a0 0)), (1, .int x1), (2, .int x2), (3, .int x3), (4, .int x4), (6, .int x6), (7, .int x7), (8, .int x8), (9, .int x9), (10, .int x10), (11, .int x11), (12, .int x12)] → W p l e (headSpec wz_X12_isInPolygon rm_X12_isInPolygon).room s m [.ref (a0 0), .int p1, .int p2, .int p3].toArray below meth c H locs 0 0 (MQ below (Q_X12_isInPolygon dC dI cI a0 v0_2 v0_3 v0_5 v0_12 v0_13 v0_16 v0_17 v0_21 v0_23 v0_24 v0_25 v0_26 v0_29 v0_30 v0_22 u A) [.ref (a0 0), .int p1, .int p2, .int p3].toArray s 0 0 A) (F0 m 125 ls []) := by
          intro x4 x6 x7 x8 x9 x10 x11 x12 hF H locs ls hP hD hS hl
          unfold F_X12_isInPolygon_j125 at hF
          refine lv_iconst (v := 0) hx hb dX12_isInPolygon_125 (by decide) ?_
          exact j126 x4 x6 x7 x8 x9 x10 x11 x12 0 hF _ _ _ hP hD hS (lv_sub hl [0, 1, 2, 3, 4, 5, 6, 7, 8, 9, 10, 11] rfl)
        have j107 : ∀ (x5 : Int32) (x6 : Int32) (x7 : Int32) (x8 : Int32) (x9 : Int32) (x10 : Int32) (x11 : Int32) (x12 : Int32) (x13 : Int64) (t0 : Int32), F_X12_isInPolygon_j107 x2 x3 x5 x6 x7 x8 x9 x10 x11 x12 x13 t0 = some o_21 → ∀ (H : Heap) (locs : List Loc) (ls : Array Slot), va_P (dC, dI) vwCl (wd_X12_isInPolygon cI a0 v0_2 v0_3 v0_5 v0_12 v0_13 v0_16 v0_17 v0_21 v0_23 v0_24 v0_25 v0_26 v0_29 v0_30 v0_22) H → va_D A (wd_X12_isInPolygon cI a0 v0_2 v0_3 v0_5 v0_12 v0_13 v0_16 v0_17 v0_21 v0_23 v0_24 v0_25 v0_26 v0_29 v0_30 v0_22) → va_S A s.heap H locs → lv_has ls 15 [(0, .ref (a0 0)), (1, .int x1), (2, .int x2), (3, .int x3), (5, .int x5), (6, .int x6), (7, .int x7), (8, .int x8), (9, .int x9), (10, .int x10), (11, .int x11), (12, .int x12), (13, .long x13)] → W p l e (headSpec wz_X12_isInPolygon rm_X12_isInPolygon).room s m [.ref (a0 0), .int p1, .int p2, .int p3].toArray below meth c H locs 0 0 (MQ below (Q_X12_isInPolygon dC dI cI a0 v0_2 v0_3 v0_5 v0_12 v0_13 v0_16 v0_17 v0_21 v0_23 v0_24 v0_25 v0_26 v0_29 v0_30 v0_22 u A) [.ref (a0 0), .int p1, .int p2, .int p3].toArray s 0 0 A) (F0 m 107 ls [.int t0]) := by
          intro x5 x6 x7 x8 x9 x10 x11 x12 x13 t0 hF H locs ls hP hD hS hl
          unfold F_X12_isInPolygon_j107 at hF
          refine lv_istore (lv' := [(4, .int t0), (0, .ref (a0 0)), (1, .int x1), (2, .int x2), (3, .int x3), (5, .int x5), (6, .int x6), (7, .int x7), (8, .int x8), (9, .int x9), (10, .int x10), (11, .int x11), (12, .int x12), (13, .long x13)]) hx hb dX12_isInPolygon_107 hl (by decide) rfl (fun ls hl => ?_)
          refine lv_iload hx hb dX12_isInPolygon_109 (lv_at hl 5 rfl) ?_
          refine lv_if_eq (tgt := 125) hx hb dX12_isInPolygon_111 (by decide) (fun c_16 => ?_) (fun c_16 => ?_)
          · have hF := it_t hF c_16
            exact j125 t0 x6 x7 x8 x9 x10 x11 x12 hF _ _ _ hP hD hS (lv_sub hl [1, 2, 3, 4, 0, 6, 7, 8, 9, 10, 11, 12] rfl)
          · have hF := it_f hF c_16
            refine lv_lload hx hb dX12_isInPolygon_114 (lv_at hl 13 rfl) ?_
            refine lv_lconst (v := 0) hx hb dX12_isInPolygon_116 (by decide) ?_
            refine W.lcmp hx hb dX12_isInPolygon_117 ?_
            refine lv_if_gt (tgt := 125) hx hb dX12_isInPolygon_118 (by decide) (fun c_17 => ?_) (fun c_17 => ?_)
            · have hF := it_t hF c_17
              exact j125 t0 x6 x7 x8 x9 x10 x11 x12 hF _ _ _ hP hD hS (lv_sub hl [1, 2, 3, 4, 0, 6, 7, 8, 9, 10, 11, 12] rfl)
            · have hF := it_f hF c_17
              refine lv_iconst (v := 1) hx hb dX12_isInPolygon_121 (by decide) ?_
              refine lv_goto (tgt := 126) hx hb dX12_isInPolygon_122 (by decide) ?_
              exact j126 t0 x6 x7 x8 x9 x10 x11 x12 1 hF _ _ _ hP hD hS (lv_sub hl [1, 2, 3, 4, 0, 6, 7, 8, 9, 10, 11, 12] rfl)
        have j106 : ∀ (x5 : Int32) (x6 : Int32) (x7 : Int32) (x8 : Int32) (x9 : Int32) (x10 : Int32) (x11 : Int32) (x12 : Int32) (x13 : Int64), F_X12_isInPolygon_j106 x2 x3 x5 x6 x7 x8 x9 x10 x11 x12 x13 = some o_21 → ∀ (H : Heap) (locs : List Loc) (ls : Array Slot), va_P (dC, dI) vwCl (wd_X12_isInPolygon cI a0 v0_2 v0_3 v0_5 v0_12 v0_13 v0_16 v0_17 v0_21 v0_23 v0_24 v0_25 v0_26 v0_29 v0_30 v0_22) H → va_D A (wd_X12_isInPolygon cI a0 v0_2 v0_3 v0_5 v0_12 v0_13 v0_16 v0_17 v0_21 v0_23 v0_24 v0_25 v0_26 v0_29 v0_30 v0_22) → va_S A s.heap H locs → lv_has ls 15 [(0, .ref (a0 0)), (1, .int x1), (2, .int x2), (3, .int x3), (5, .int x5), (6, .int x6), (7, .int x7), (8, .int x8), (9, .int x9), (10, .int x10), (11, .int x11), (12, .int x12), (13, .long x13)] → W p l e (headSpec wz_X12_isInPolygon rm_X12_isInPolygon).room s m [.ref (a0 0), .int p1, .int p2, .int p3].toArray below meth c H locs 0 0 (MQ below (Q_X12_isInPolygon dC dI cI a0 v0_2 v0_3 v0_5 v0_12 v0_13 v0_16 v0_17 v0_21 v0_23 v0_24 v0_25 v0_26 v0_29 v0_30 v0_22 u A) [.ref (a0 0), .int p1, .int p2, .int p3].toArray s 0 0 A) (F0 m 106 ls []) := by
          intro x5 x6 x7 x8 x9 x10 x11 x12 x13 hF H locs ls hP hD hS hl
          unfold F_X12_isInPolygon_j106 at hF
          refine lv_iconst (v := 0) hx hb dX12_isInPolygon_106 (by decide) ?_
          exact j107 x5 x6 x7 x8 x9 x10 x11 x12 x13 0 hF _ _ _ hP hD hS (lv_sub hl [0, 1, 2, 3, 4, 5, 6, 7, 8, 9, 10, 11, 12] rfl)
        refine lv_iload hx hb dX12_isInPolygon_21 (lv_at hl 10 rfl) ?_
        refine lv_aload_n hx hb dX12_isInPolygon_23 rfl (lv_at hl 0 rfl) ?_
        refine lv_iload_n hx hb dX12_isInPolygon_24 rfl (lv_at hl 1 rfl) ?_
        obtain ⟨u_18, hu_18, hF⟩ := obd_some hF
        have hPc := hP.sub (ws' := (wd_X12_cornersOf cI a0 v0_2 v0_3 v0_5 v0_12 v0_13 v0_16 v0_17 v0_21 v0_23 v0_24 v0_25 v0_26 v0_29 v0_30 v0_22)) [0, 1] rfl
        have hDc := hD.sub (ws' := (wd_X12_cornersOf cI a0 v0_2 v0_3 v0_5 v0_12 v0_13 v0_16 v0_17 v0_21 v0_23 v0_24 v0_25 v0_26 v0_29 v0_30 v0_22)) [0, 1] rfl rfl
        refine q_calli (wc := (wd_X12_cornersOf cI a0 v0_2 v0_3 v0_5 v0_12 v0_13 v0_16 v0_17 v0_21 v0_23 v0_24 v0_25 v0_26 v0_29 v0_30 v0_22)) (w1 := (wd_X12_cornersOf cI a0 v0_2 v0_3 v0_5 v0_12 v0_13 v0_16 v0_17 v0_21 v0_23 v0_24 v0_25 v0_26 v0_29 v0_30 v0_22)) (ws' := (wd_X12_isInPolygon cI a0 v0_2 v0_3 v0_5 v0_12 v0_13 v0_16 v0_17 v0_21 v0_23 v0_24 v0_25 v0_26 v0_29 v0_30 v0_22)) hP hD hS hA [0, 1] [] [0, 1] rfl rfl rfl (by decide) rfl rfl (va_runV (As := [.int x1]) (rest := [.int s21.2.2.2.2.2.2]) ⟨hx, hb, hml, hown, hta⟩ (c_X12_cornersOf l dC dI cI H.size a0 v0_2 v0_3 v0_5 v0_12 v0_13 v0_16 v0_17 v0_21 v0_23 v0_24 v0_25 v0_26 v0_29 v0_30 v0_22 x1 u_18 hu_18) (cwV 1 hta (ga_V mA1019 mA1020 mA1021 mA814 mA1014) rfl rfl rfl (by decide +kernel) ⟨Nat.le_of_ble_eq_true rfl, Nat.le_of_ble_eq_true rfl⟩) ⟨q_fb, va_recv hK hP (ci := 11) (q0 := 0) rfl rfl, q_ps hPc hK hDc⟩ rfl rfl hl.1 rfl (lv_room (Nat.le_of_ble_eq_true rfl)) dX12_isInPolygon_25 ⟨Nat.zero_le _, Nat.zero_le _⟩) (fun H locs hP hD hS => ?_)
        refine lv_icmp_ge (tgt := 206) hx hb dX12_isInPolygon_28 (by decide) (fun c_19 => ?_) (fun c_19 => ?_)
        · have hF := it_t hF c_19
          try clear j198
          try clear j193
          try clear j180
          try clear j175
          try clear j162
          try clear j157
          try clear j144
          try clear j139
          try clear j126
          try clear j125
          try clear j107
          try clear j106
          obtain rfl := Option.some.inj hF
          obtain rfl := lpq_x hO_21
          have hF := hE_21
          exact j206 s21.1 s21.2.1 s21.2.2.1 s21.2.2.2.1 s21.2.2.2.2.1 s21.2.2.2.2.2.1 hF _ _ _ hP hD hS (lv_sub hl [4, 5, 6, 7, 8, 9] rfl)
        · have hF := it_f hF c_19
          refine lv_aload_n hx hb dX12_isInPolygon_31 rfl (lv_at hl 0 rfl) ?_
          refine lv_iload_n hx hb dX12_isInPolygon_32 rfl (lv_at hl 1 rfl) ?_
          refine lv_iload hx hb dX12_isInPolygon_33 (lv_at hl 10 rfl) ?_
          obtain ⟨u_20, hu_20, hF⟩ := obd_some hF
          have hPc := hP.sub (ws' := (wd_X12_cornerX cI a0 v0_2 v0_3 v0_5 v0_12 v0_13 v0_16 v0_17 v0_21 v0_23 v0_24 v0_25 v0_26 v0_29 v0_30 v0_22)) [0, 1] rfl
          have hDc := hD.sub (ws' := (wd_X12_cornerX cI a0 v0_2 v0_3 v0_5 v0_12 v0_13 v0_16 v0_17 v0_21 v0_23 v0_24 v0_25 v0_26 v0_29 v0_30 v0_22)) [0, 1] rfl rfl
          refine q_calli (wc := (wd_X12_cornerX cI a0 v0_2 v0_3 v0_5 v0_12 v0_13 v0_16 v0_17 v0_21 v0_23 v0_24 v0_25 v0_26 v0_29 v0_30 v0_22)) (w1 := (wd_X12_cornerX cI a0 v0_2 v0_3 v0_5 v0_12 v0_13 v0_16 v0_17 v0_21 v0_23 v0_24 v0_25 v0_26 v0_29 v0_30 v0_22)) (ws' := (wd_X12_isInPolygon cI a0 v0_2 v0_3 v0_5 v0_12 v0_13 v0_16 v0_17 v0_21 v0_23 v0_24 v0_25 v0_26 v0_29 v0_30 v0_22)) hP hD hS hA [0, 1] [] [0, 1] rfl rfl rfl (by decide) rfl rfl (va_runV (As := [.int x1, .int s21.2.2.2.2.2.2]) (rest := []) ⟨hx, hb, hml, hown, hta⟩ (c_X12_cornerX l dC dI cI H.size a0 v0_2 v0_3 v0_5 v0_12 v0_13 v0_16 v0_17 v0_21 v0_23 v0_24 v0_25 v0_26 v0_29 v0_30 v0_22 x1 s21.2.2.2.2.2.2 u_20 hu_20) (cwV 2 hta (ga_V mA1028 mA1029 mA1030 mA814 mA1018) rfl rfl rfl (by decide +kernel) ⟨Nat.le_of_ble_eq_true rfl, Nat.le_of_ble_eq_true rfl⟩) ⟨q_fb, va_recv hK hP (ci := 11) (q0 := 0) rfl rfl, q_ps hPc hK hDc⟩ rfl rfl hl.1 rfl (lv_room (Nat.le_of_ble_eq_true rfl)) dX12_isInPolygon_35 ⟨Nat.zero_le _, Nat.zero_le _⟩) (fun H locs hP hD hS => ?_)
          refine lv_istore (lv' := [(11, .int u_20), (0, .ref (a0 0)), (1, .int x1), (2, .int x2), (3, .int x3), (4, .int s21.1), (5, .int s21.2.1), (6, .int s21.2.2.1), (7, .int s21.2.2.2.1), (8, .int s21.2.2.2.2.1), (9, .int s21.2.2.2.2.2.1), (10, .int s21.2.2.2.2.2.2)]) hx hb dX12_isInPolygon_38 hl (by decide) rfl (fun ls hl => ?_)
          refine lv_aload_n hx hb dX12_isInPolygon_40 rfl (lv_at hl 1 rfl) ?_
          refine lv_iload_n hx hb dX12_isInPolygon_41 rfl (lv_at hl 2 rfl) ?_
          refine lv_iload hx hb dX12_isInPolygon_42 (lv_at hl 11 rfl) ?_
          obtain ⟨u_21, hu_21, hF⟩ := obd_some hF
          have hPc := hP.sub (ws' := (wd_X12_cornerY cI a0 v0_2 v0_3 v0_5 v0_12 v0_13 v0_16 v0_17 v0_21 v0_23 v0_24 v0_25 v0_26 v0_29 v0_30 v0_22)) [0, 1] rfl
          have hDc := hD.sub (ws' := (wd_X12_cornerY cI a0 v0_2 v0_3 v0_5 v0_12 v0_13 v0_16 v0_17 v0_21 v0_23 v0_24 v0_25 v0_26 v0_29 v0_30 v0_22)) [0, 1] rfl rfl
          refine q_calli (wc := (wd_X12_cornerY cI a0 v0_2 v0_3 v0_5 v0_12 v0_13 v0_16 v0_17 v0_21 v0_23 v0_24 v0_25 v0_26 v0_29 v0_30 v0_22)) (w1 := (wd_X12_cornerY cI a0 v0_2 v0_3 v0_5 v0_12 v0_13 v0_16 v0_17 v0_21 v0_23 v0_24 v0_25 v0_26 v0_29 v0_30 v0_22)) (ws' := (wd_X12_isInPolygon cI a0 v0_2 v0_3 v0_5 v0_12 v0_13 v0_16 v0_17 v0_21 v0_23 v0_24 v0_25 v0_26 v0_29 v0_30 v0_22)) hP hD hS hA [0, 1] [] [0, 1] rfl rfl rfl (by decide) rfl rfl (va_runV (As := [.int x1, .int s21.2.2.2.2.2.2]) (rest := []) ⟨hx, hb, hml, hown, hta⟩ (c_X12_cornerY l dC dI cI H.size a0 v0_2 v0_3 v0_5 v0_12 v0_13 v0_16 v0_17 v0_21 v0_23 v0_24 v0_25 v0_26 v0_29 v0_30 v0_22 x1 s21.2.2.2.2.2.2 u_21 hu_21) (cwV 2 hta (ga_V mA1031 mA1032 mA1033 mA814 mA1022) rfl rfl rfl (by decide +kernel) ⟨Nat.le_of_ble_eq_true rfl, Nat.le_of_ble_eq_true rfl⟩) ⟨q_fb, va_recv hK hP (ci := 11) (q0 := 0) rfl rfl, q_ps hPc hK hDc⟩ rfl rfl hl.1 rfl (lv_room (Nat.le_of_ble_eq_true rfl)) dX12_isInPolygon_44 ⟨Nat.zero_le _, Nat.zero_le _⟩) (fun H locs hP hD hS => ?_)
          refine lv_istore (lv' := [(12, .int u_21), (11, .int u_20), (0, .ref (a0 0)), (1, .int x1), (2, .int x2), (3, .int x3), (4, .int s21.1), (5, .int s21.2.1), (6, .int s21.2.2.1), (7, .int s21.2.2.2.1), (8, .int s21.2.2.2.2.1), (9, .int s21.2.2.2.2.2.1), (10, .int s21.2.2.2.2.2.2)]) hx hb dX12_isInPolygon_47 hl (by decide) rfl (fun ls hl => ?_)
          refine lv_aload_n hx hb dX12_isInPolygon_49 rfl (lv_at hl 2 rfl) ?_
          refine lv_iload_n hx hb dX12_isInPolygon_50 rfl (lv_at hl 3 rfl) ?_
          refine lv_iload hx hb dX12_isInPolygon_51 (lv_at hl 12 rfl) ?_
          refine lv_iconst (v := 1) hx hb dX12_isInPolygon_53 (by decide) ?_
          refine lv_iadd hx hb dX12_isInPolygon_54 ?_
          obtain ⟨u_22, hu_22, hF⟩ := obd_some hF
          have hPc := hP.sub (ws' := (wd_X12_cornerX cI a0 v0_2 v0_3 v0_5 v0_12 v0_13 v0_16 v0_17 v0_21 v0_23 v0_24 v0_25 v0_26 v0_29 v0_30 v0_22)) [0, 1] rfl
          have hDc := hD.sub (ws' := (wd_X12_cornerX cI a0 v0_2 v0_3 v0_5 v0_12 v0_13 v0_16 v0_17 v0_21 v0_23 v0_24 v0_25 v0_26 v0_29 v0_30 v0_22)) [0, 1] rfl rfl
          refine q_calli (wc := (wd_X12_cornerX cI a0 v0_2 v0_3 v0_5 v0_12 v0_13 v0_16 v0_17 v0_21 v0_23 v0_24 v0_25 v0_26 v0_29 v0_30 v0_22)) (w1 := (wd_X12_cornerX cI a0 v0_2 v0_3 v0_5 v0_12 v0_13 v0_16 v0_17 v0_21 v0_23 v0_24 v0_25 v0_26 v0_29 v0_30 v0_22)) (ws' := (wd_X12_isInPolygon cI a0 v0_2 v0_3 v0_5 v0_12 v0_13 v0_16 v0_17 v0_21 v0_23 v0_24 v0_25 v0_26 v0_29 v0_30 v0_22)) hP hD hS hA [0, 1] [] [0, 1] rfl rfl rfl (by decide) rfl rfl (va_runV (As := [.int x1, .int (s21.2.2.2.2.2.2 + 1)]) (rest := []) ⟨hx, hb, hml, hown, hta⟩ (c_X12_cornerX l dC dI cI H.size a0 v0_2 v0_3 v0_5 v0_12 v0_13 v0_16 v0_17 v0_21 v0_23 v0_24 v0_25 v0_26 v0_29 v0_30 v0_22 x1 (s21.2.2.2.2.2.2 + 1) u_22 hu_22) (cwV 2 hta (ga_V mA1028 mA1029 mA1030 mA814 mA1018) rfl rfl rfl (by decide +kernel) ⟨Nat.le_of_ble_eq_true rfl, Nat.le_of_ble_eq_true rfl⟩) ⟨q_fb, va_recv hK hP (ci := 11) (q0 := 0) rfl rfl, q_ps hPc hK hDc⟩ rfl rfl hl.1 rfl (lv_room (Nat.le_of_ble_eq_true rfl)) dX12_isInPolygon_55 ⟨Nat.zero_le _, Nat.zero_le _⟩) (fun H locs hP hD hS => ?_)
          refine lv_iload hx hb dX12_isInPolygon_58 (lv_at hl 1 rfl) ?_
          refine lv_isub hx hb dX12_isInPolygon_60 ?_
          refine lv_i2l hx hb dX12_isInPolygon_61 rfl ?_
          refine lv_iload_n hx hb dX12_isInPolygon_62 rfl (lv_at hl 5 rfl) ?_
          refine lv_iload hx hb dX12_isInPolygon_63 (lv_at hl 0 rfl) ?_
          refine lv_isub hx hb dX12_isInPolygon_65 ?_
          refine lv_i2l hx hb dX12_isInPolygon_66 rfl ?_
          refine lv_lmul hx hb dX12_isInPolygon_67 ?_
          refine lv_aload_n hx hb dX12_isInPolygon_68 rfl (lv_at hl 2 rfl) ?_
          refine lv_iload_n hx hb dX12_isInPolygon_69 rfl (lv_at hl 3 rfl) ?_
          refine lv_iload hx hb dX12_isInPolygon_70 (lv_at hl 12 rfl) ?_
          refine lv_iconst (v := 1) hx hb dX12_isInPolygon_72 (by decide) ?_
          refine lv_iadd hx hb dX12_isInPolygon_73 ?_
          obtain ⟨u_23, hu_23, hF⟩ := obd_some hF
          have hPc := hP.sub (ws' := (wd_X12_cornerY cI a0 v0_2 v0_3 v0_5 v0_12 v0_13 v0_16 v0_17 v0_21 v0_23 v0_24 v0_25 v0_26 v0_29 v0_30 v0_22)) [0, 1] rfl
          have hDc := hD.sub (ws' := (wd_X12_cornerY cI a0 v0_2 v0_3 v0_5 v0_12 v0_13 v0_16 v0_17 v0_21 v0_23 v0_24 v0_25 v0_26 v0_29 v0_30 v0_22)) [0, 1] rfl rfl
          refine q_calli (wc := (wd_X12_cornerY cI a0 v0_2 v0_3 v0_5 v0_12 v0_13 v0_16 v0_17 v0_21 v0_23 v0_24 v0_25 v0_26 v0_29 v0_30 v0_22)) (w1 := (wd_X12_cornerY cI a0 v0_2 v0_3 v0_5 v0_12 v0_13 v0_16 v0_17 v0_21 v0_23 v0_24 v0_25 v0_26 v0_29 v0_30 v0_22)) (ws' := (wd_X12_isInPolygon cI a0 v0_2 v0_3 v0_5 v0_12 v0_13 v0_16 v0_17 v0_21 v0_23 v0_24 v0_25 v0_26 v0_29 v0_30 v0_22)) hP hD hS hA [0, 1] [] [0, 1] rfl rfl rfl (by decide) rfl rfl (va_runV (As := [.int x1, .int (s21.2.2.2.2.2.2 + 1)]) (rest := [.long ((u_22 - u_20).toInt64 * (x3 - u_21).toInt64)]) ⟨hx, hb, hml, hown, hta⟩ (c_X12_cornerY l dC dI cI H.size a0 v0_2 v0_3 v0_5 v0_12 v0_13 v0_16 v0_17 v0_21 v0_23 v0_24 v0_25 v0_26 v0_29 v0_30 v0_22 x1 (s21.2.2.2.2.2.2 + 1) u_23 hu_23) (cwV 2 hta (ga_V mA1031 mA1032 mA1033 mA814 mA1022) rfl rfl rfl (by decide +kernel) ⟨Nat.le_of_ble_eq_true rfl, Nat.le_of_ble_eq_true rfl⟩) ⟨q_fb, va_recv hK hP (ci := 11) (q0 := 0) rfl rfl, q_ps hPc hK hDc⟩ rfl rfl hl.1 rfl (lv_room (Nat.le_of_ble_eq_true rfl)) dX12_isInPolygon_74 ⟨Nat.zero_le _, Nat.zero_le _⟩) (fun H locs hP hD hS => ?_)
          refine lv_iload hx hb dX12_isInPolygon_77 (lv_at hl 0 rfl) ?_
          refine lv_isub hx hb dX12_isInPolygon_79 ?_
          refine lv_i2l hx hb dX12_isInPolygon_80 rfl ?_
          refine lv_iload_n hx hb dX12_isInPolygon_81 rfl (lv_at hl 4 rfl) ?_
          refine lv_iload hx hb dX12_isInPolygon_82 (lv_at hl 1 rfl) ?_
          refine lv_isub hx hb dX12_isInPolygon_84 ?_
          refine lv_i2l hx hb dX12_isInPolygon_85 rfl ?_
          refine lv_lmul hx hb dX12_isInPolygon_86 ?_
          refine lv_lsub hx hb dX12_isInPolygon_87 ?_
          obtain ⟨y_24, ey_24, hF⟩ := lt_some hF
          refine lv_eql ey_24 ?_
          refine lv_lstore (lv' := [(13, .long y_24), (12, .int u_21), (11, .int u_20), (0, .ref (a0 0)), (1, .int x1), (2, .int x2), (3, .int x3), (4, .int s21.1), (5, .int s21.2.1), (6, .int s21.2.2.1), (7, .int s21.2.2.2.1), (8, .int s21.2.2.2.2.1), (9, .int s21.2.2.2.2.2.1), (10, .int s21.2.2.2.2.2.2)]) hx hb dX12_isInPolygon_88 hl (by decide) rfl (fun ls hl => ?_)
          refine lv_iload hx hb dX12_isInPolygon_90 (lv_at hl 7 rfl) ?_
          refine lv_if_eq (tgt := 106) hx hb dX12_isInPolygon_92 (by decide) (fun c_25 => ?_) (fun c_25 => ?_)
          · have hF := it_t hF c_25
            exact j106 s21.2.1 s21.2.2.1 s21.2.2.2.1 s21.2.2.2.2.1 s21.2.2.2.2.2.1 s21.2.2.2.2.2.2 u_20 u_21 y_24 hF _ _ _ hP hD hS (lv_sub hl [3, 4, 5, 6, 8, 9, 10, 11, 12, 13, 2, 1, 0] rfl)
          · have hF := it_f hF c_25
            refine lv_lload hx hb dX12_isInPolygon_95 (lv_at hl 0 rfl) ?_
            refine lv_lconst (v := 0) hx hb dX12_isInPolygon_97 (by decide) ?_
            refine W.lcmp hx hb dX12_isInPolygon_98 ?_
            refine lv_if_lt (tgt := 106) hx hb dX12_isInPolygon_99 (by decide) (fun c_26 => ?_) (fun c_26 => ?_)
            · have hF := it_t hF c_26
              exact j106 s21.2.1 s21.2.2.1 s21.2.2.2.1 s21.2.2.2.2.1 s21.2.2.2.2.2.1 s21.2.2.2.2.2.2 u_20 u_21 y_24 hF _ _ _ hP hD hS (lv_sub hl [3, 4, 5, 6, 8, 9, 10, 11, 12, 13, 2, 1, 0] rfl)
            · have hF := it_f hF c_26
              refine lv_iconst (v := 1) hx hb dX12_isInPolygon_102 (by decide) ?_
              refine lv_goto (tgt := 107) hx hb dX12_isInPolygon_103 (by decide) ?_
              exact j107 s21.2.1 s21.2.2.1 s21.2.2.2.1 s21.2.2.2.2.1 s21.2.2.2.2.2.1 s21.2.2.2.2.2.2 u_20 u_21 y_24 1 hF _ _ _ hP hD hS (lv_sub hl [3, 4, 5, 6, 8, 9, 10, 11, 12, 13, 2, 1, 0] rfl)
    exact kl_21 n _ hL_21 _ _ _ hP hD hS hl
  refine lv_iconst (v := 1) hx hb dX12_isInPolygon_0 (by decide) ?_
  refine lv_istore (lv' := [(4, .int 1), (0, .ref (a0 0)), (1, .int p1), (2, .int p2), (3, .int p3)]) hx hb dX12_isInPolygon_1 hl (by decide) rfl (fun ls hl => ?_)
  refine lv_iconst (v := 1) hx hb dX12_isInPolygon_3 (by decide) ?_
  refine lv_istore (lv' := [(5, .int 1), (4, .int 1), (0, .ref (a0 0)), (1, .int p1), (2, .int p2), (3, .int p3)]) hx hb dX12_isInPolygon_4 hl (by decide) rfl (fun ls hl => ?_)
  refine lv_iconst (v := 0) hx hb dX12_isInPolygon_6 (by decide) ?_
  refine lv_istore (lv' := [(6, .int 0), (5, .int 1), (4, .int 1), (0, .ref (a0 0)), (1, .int p1), (2, .int p2), (3, .int p3)]) hx hb dX12_isInPolygon_7 hl (by decide) rfl (fun ls hl => ?_)
  refine lv_iconst (v := 0) hx hb dX12_isInPolygon_9 (by decide) ?_
  refine lv_istore (lv' := [(7, .int 0), (6, .int 0), (5, .int 1), (4, .int 1), (0, .ref (a0 0)), (1, .int p1), (2, .int p2), (3, .int p3)]) hx hb dX12_isInPolygon_10 hl (by decide) rfl (fun ls hl => ?_)
  refine lv_iconst (v := 0) hx hb dX12_isInPolygon_12 (by decide) ?_
  refine lv_istore (lv' := [(8, .int 0), (7, .int 0), (6, .int 0), (5, .int 1), (4, .int 1), (0, .ref (a0 0)), (1, .int p1), (2, .int p2), (3, .int p3)]) hx hb dX12_isInPolygon_13 hl (by decide) rfl (fun ls hl => ?_)
  refine lv_iconst (v := 0) hx hb dX12_isInPolygon_15 (by decide) ?_
  refine lv_istore (lv' := [(9, .int 0), (8, .int 0), (7, .int 0), (6, .int 0), (5, .int 1), (4, .int 1), (0, .ref (a0 0)), (1, .int p1), (2, .int p2), (3, .int p3)]) hx hb dX12_isInPolygon_16 hl (by decide) rfl (fun ls hl => ?_)
  refine lv_iconst (v := 0) hx hb dX12_isInPolygon_18 (by decide) ?_
  refine lv_istore (lv' := [(10, .int 0), (9, .int 0), (8, .int 0), (7, .int 0), (6, .int 0), (5, .int 1), (4, .int 1), (0, .ref (a0 0)), (1, .int p1), (2, .int p2), (3, .int p3)]) hx hb dX12_isInPolygon_19 hl (by decide) rfl (fun ls hl => ?_)
  exact j21 p1 p2 p3 1 1 0 0 0 0 0 hF _ _ _ hP hD hS (lv_sub hl [7, 8, 9, 10, 6, 5, 4, 3, 2, 1, 0] rfl)

-- StrokeOutlinerModel.covers(III)Z
def F_X12_covers (n : Nat) (v0_0 : Nat → Int32) (v0_22 : Nat → Int32) (p1 : Int32) (p2 : Int32) (p3 : Int32) : Option (Int32) :=
  obd (F_X12_kindOf v0_22 p1) (fun u_1 => if u_1 = 3 then obd (F_X12_isInDisc v0_0 v0_22 p1 p2 p3) (fun u_4 => some u_4) else obd (F_X12_isInPolygon n v0_22 p1 p2 p3) (fun u_3 => some u_3))
abbrev wd_X12_covers (cI : ClassId) (a0 : Nat → Nat) (v0_2 : Int32) (v0_3 : Int32) (v0_5 : Int32) (v0_12 : Int32) (v0_13 : Int32) (v0_16 : Int32) (v0_17 : Int32) (v0_21 : Int32) (v0_23 : Int32) (v0_24 : Int32) (v0_25 : Int32) (v0_26 : Int32) (v0_29 : Int32) (v0_30 : Int64) (v0_0 : Nat → Int32) (v0_22 : Nat → Int32) : va_W := [(a0 0, .inr (11, [.ref (a0 1), .ref (a0 2), .int v0_2, .int v0_3, .ref (a0 5), .int v0_5, .ref (a0 7), .ref (a0 8), .ref (a0 9), .ref (a0 10), .ref (a0 11), .ref (a0 12), .int v0_12, .int v0_13, .ref (a0 15), .ref (a0 16), .int v0_16, .int v0_17, .ref (a0 19), .ref (a0 20), .ref (a0 21), .int v0_21, .ref (a0 23), .int v0_23, .int v0_24, .int v0_25, .int v0_26, .ref (a0 28), .ref (a0 29), .int v0_29, .long v0_30])), (a0 1, .inl (cI, 86, .inl v0_0)), (a0 23, .inl (cI, 27000, .inl v0_22))]
abbrev wz_X12_covers : List Cond := .code yX12_covers cX12_covers 4 (some .boolean) :: wALL
abbrev rm_X12_covers : Room := { frames := 4, cells := 0, slots := 0, locals := 99 }
abbrev Q_X12_covers (dC : Nat → ClassId) (dI : Nat → Nat → Nat) (cI : ClassId) (a0 : Nat → Nat) (v0_2 : Int32) (v0_3 : Int32) (v0_5 : Int32) (v0_12 : Int32) (v0_13 : Int32) (v0_16 : Int32) (v0_17 : Int32) (v0_21 : Int32) (v0_23 : Int32) (v0_24 : Int32) (v0_25 : Int32) (v0_26 : Int32) (v0_29 : Int32) (v0_30 : Int64) (v0_0 : Nat → Int32) (v0_22 : Nat → Int32) (u : (Int32)) (A : Nat → Prop) : Array Value → State → Outcome → State → Prop := va_Qi (fun (r : Int32) (_ : Unit) => r = u ∧ (u = 0 ∨ u = 1)) (fun _ => q_at dC dI cI A (wd_X12_covers cI a0 v0_2 v0_3 v0_5 v0_12 v0_13 v0_16 v0_17 v0_21 v0_23 v0_24 v0_25 v0_26 v0_29 v0_30 v0_0 v0_22)) A
set_option maxHeartbeats 4000000 in
set_option maxRecDepth 100000 in
theorem c_X12_covers (l : Launch) (dC : Nat → ClassId) (dI : Nat → Nat → Nat) (cI : ClassId) (sz : Nat) (a0 : Nat → Nat) (v0_2 : Int32) (v0_3 : Int32) (v0_5 : Int32) (v0_12 : Int32) (v0_13 : Int32) (v0_16 : Int32) (v0_17 : Int32) (v0_21 : Int32) (v0_23 : Int32) (v0_24 : Int32) (v0_25 : Int32) (v0_26 : Int32) (v0_29 : Int32) (v0_30 : Int64) (v0_0 : Nat → Int32) (v0_22 : Nat → Int32) (p1 : Int32) (p2 : Int32) (p3 : Int32) (n : Nat) (u : (Int32)) (hF : F_X12_covers n v0_0 v0_22 p1 p2 p3 = some u) : Met l yX12_covers wz_X12_covers rm_X12_covers (va_Pc [.ref (a0 0), .int p1, .int p2, .int p3] (q_pre dC dI cI (wd_X12_covers cI a0 v0_2 v0_3 v0_5 v0_12 v0_13 v0_16 v0_17 v0_21 v0_23 v0_24 v0_25 v0_26 v0_29 v0_30 v0_0 v0_22) sz)) (Q_X12_covers dC dI cI a0 v0_2 v0_3 v0_5 v0_12 v0_13 v0_16 v0_17 v0_21 v0_23 v0_24 v0_25 v0_26 v0_29 v0_30 v0_0 v0_22 u (va_A (wd_X12_covers cI a0 v0_2 v0_3 v0_5 v0_12 v0_13 v0_16 v0_17 v0_21 v0_23 v0_24 v0_25 v0_26 v0_29 v0_30 v0_0 v0_22) sz)) 0 0 (va_A (wd_X12_covers cI a0 v0_2 v0_3 v0_5 v0_12 v0_13 v0_16 v0_17 v0_21 v0_23 v0_24 v0_25 v0_26 v0_29 v0_30 v0_0 v0_22) sz) := by
  refine Met.ofW (cc := cX12_covers) (maxL := 4) (ret := (some .boolean)) (by decide) rfl ?_
  intro p e s m args below meth c s₁ B hml hv
  obtain ⟨rfl, hsz, hP, hK, hD0⟩ := hv
  have hx := B.exec
  have hb := B.bytes
  have hr := B.returns
  have hts := atoms_spec (ws := wz_X12_covers) B.pre
  have hta := wz_tl hts
  have hown : s.vm.findClass RX12 = some m.cls := findClass_of_methodNamed B.named
  have hlocks := B.notSynchronized
  subst hsz
  have hD := hD0.self (sz := s.heap.size)
  generalize hAe : va_A (wd_X12_covers cI a0 v0_2 v0_3 v0_5 v0_12 v0_13 v0_16 v0_17 v0_21 v0_23 v0_24 v0_25 v0_26 v0_29 v0_30 v0_0 v0_22) s.heap.size = A at hD ⊢
  have hA : ∀ q : Nat, s.heap.size ≤ q → A q := fun q h => by rw [← hAe]; exact Or.inr h
  have hS : va_S A s.heap s.heap [] := va_S.rf
  have hP : va_P (dC, dI) vwCl (wd_X12_covers cI a0 v0_2 v0_3 v0_5 v0_12 v0_13 v0_16 v0_17 v0_21 v0_23 v0_24 v0_25 v0_26 v0_29 v0_30 v0_0 v0_22) s.heap := hP
  have hl := lv_entry ([.ref (a0 0), .int p1, .int p2, .int p3]) (n := 4) (Nat.le_of_ble_eq_true rfl)
  rw [lg_entry_eq]
  generalize (lg_sl ([.ref (a0 0), .int p1, .int p2, .int p3]) ++ List.replicate (4 - (lg_sl ([.ref (a0 0), .int p1, .int p2, .int p3])).length) Slot.unset).toArray = ls at hl ⊢
  have hl : lv_has ls 4 [(0, .ref (a0 0)), (1, .int p1), (2, .int p2), (3, .int p3)] := hl
  obtain ⟨H, hHe⟩ : ∃ H, H = s.heap := ⟨_, rfl⟩
  have hS : va_S A s.heap H [] := by rw [hHe]; exact hS
  have hP : va_P (dC, dI) vwCl (wd_X12_covers cI a0 v0_2 v0_3 v0_5 v0_12 v0_13 v0_16 v0_17 v0_21 v0_23 v0_24 v0_25 v0_26 v0_29 v0_30 v0_0 v0_22) H := by rw [hHe]; exact hP
  rw [← hHe]
  unfold F_X12_covers at hF
  refine lv_aload_n hx hb dX12_covers_0 rfl (lv_at hl 0 rfl) ?_
  refine lv_iload_n hx hb dX12_covers_1 rfl (lv_at hl 1 rfl) ?_
  obtain ⟨u_1, hu_1, hF⟩ := obd_some hF
  have hPc := hP.sub (ws' := (wd_X12_kindOf cI a0 v0_2 v0_3 v0_5 v0_12 v0_13 v0_16 v0_17 v0_21 v0_23 v0_24 v0_25 v0_26 v0_29 v0_30 v0_22)) [0, 2] rfl
  have hDc := hD.sub (ws' := (wd_X12_kindOf cI a0 v0_2 v0_3 v0_5 v0_12 v0_13 v0_16 v0_17 v0_21 v0_23 v0_24 v0_25 v0_26 v0_29 v0_30 v0_22)) [0, 2] rfl rfl
  refine q_calli (wc := (wd_X12_kindOf cI a0 v0_2 v0_3 v0_5 v0_12 v0_13 v0_16 v0_17 v0_21 v0_23 v0_24 v0_25 v0_26 v0_29 v0_30 v0_22)) (w1 := (wd_X12_kindOf cI a0 v0_2 v0_3 v0_5 v0_12 v0_13 v0_16 v0_17 v0_21 v0_23 v0_24 v0_25 v0_26 v0_29 v0_30 v0_22)) (ws' := (wd_X12_covers cI a0 v0_2 v0_3 v0_5 v0_12 v0_13 v0_16 v0_17 v0_21 v0_23 v0_24 v0_25 v0_26 v0_29 v0_30 v0_0 v0_22)) hP hD hS hA [0, 2] [1] [1, 0, 2] rfl rfl rfl (by decide) rfl rfl (va_runV (As := [.int p1]) (rest := []) ⟨hx, hb, hml, hown, hta⟩ (c_X12_kindOf l dC dI cI H.size a0 v0_2 v0_3 v0_5 v0_12 v0_13 v0_16 v0_17 v0_21 v0_23 v0_24 v0_25 v0_26 v0_29 v0_30 v0_22 p1 u_1 hu_1) (cwV 1 hta (ga_V mA1015 mA1016 mA1017 mA814 mA1013) rfl rfl rfl (by decide +kernel) ⟨Nat.le_of_ble_eq_true rfl, Nat.le_of_ble_eq_true rfl⟩) ⟨q_fb, va_recv hK hP (ci := 11) (q0 := 0) rfl rfl, q_ps hPc hK hDc⟩ rfl rfl hl.1 rfl (lv_room (Nat.le_of_ble_eq_true rfl)) dX12_covers_2 ⟨Nat.zero_le _, Nat.zero_le _⟩) (fun H locs hP hD hS => ?_)
  refine lv_iconst (v := 3) hx hb dX12_covers_5 (by decide) ?_
  refine lv_icmp_ne (tgt := 19) hx hb dX12_covers_6 (by decide) (fun c_2 => ?_) (fun c_2 => ?_)
  · have hF := it_f hF c_2
    refine lv_aload_n hx hb dX12_covers_19 rfl (lv_at hl 0 rfl) ?_
    refine lv_iload_n hx hb dX12_covers_20 rfl (lv_at hl 1 rfl) ?_
    refine lv_iload_n hx hb dX12_covers_21 rfl (lv_at hl 2 rfl) ?_
    refine lv_iload_n hx hb dX12_covers_22 rfl (lv_at hl 3 rfl) ?_
    obtain ⟨u_3, hu_3, hF⟩ := obd_some hF
    have hPc := hP.sub (ws' := (wd_X12_isInPolygon cI a0 v0_2 v0_3 v0_5 v0_12 v0_13 v0_16 v0_17 v0_21 v0_23 v0_24 v0_25 v0_26 v0_29 v0_30 v0_22)) [0, 2] rfl
    have hDc := hD.sub (ws' := (wd_X12_isInPolygon cI a0 v0_2 v0_3 v0_5 v0_12 v0_13 v0_16 v0_17 v0_21 v0_23 v0_24 v0_25 v0_26 v0_29 v0_30 v0_22)) [0, 2] rfl rfl
    refine q_callz (wc := (wd_X12_isInPolygon cI a0 v0_2 v0_3 v0_5 v0_12 v0_13 v0_16 v0_17 v0_21 v0_23 v0_24 v0_25 v0_26 v0_29 v0_30 v0_22)) (w1 := (wd_X12_isInPolygon cI a0 v0_2 v0_3 v0_5 v0_12 v0_13 v0_16 v0_17 v0_21 v0_23 v0_24 v0_25 v0_26 v0_29 v0_30 v0_22)) (ws' := (wd_X12_covers cI a0 v0_2 v0_3 v0_5 v0_12 v0_13 v0_16 v0_17 v0_21 v0_23 v0_24 v0_25 v0_26 v0_29 v0_30 v0_0 v0_22)) hP hD hS hA [0, 2] [1] [1, 0, 2] rfl rfl rfl (by decide) rfl rfl (va_runV (As := [.int p1, .int p2, .int p3]) (rest := []) ⟨hx, hb, hml, hown, hta⟩ (c_X12_isInPolygon l dC dI cI H.size a0 v0_2 v0_3 v0_5 v0_12 v0_13 v0_16 v0_17 v0_21 v0_23 v0_24 v0_25 v0_26 v0_29 v0_30 v0_22 p1 p2 p3 n u_3 hu_3) (cwV 3 hta (ga_V mA1048 mA1049 mA1050 mA814 mA1043) rfl rfl rfl (by decide +kernel) ⟨Nat.le_of_ble_eq_true rfl, Nat.le_of_ble_eq_true rfl⟩) ⟨q_fb, va_recv hK hP (ci := 11) (q0 := 0) rfl rfl, q_ps hPc hK hDc⟩ rfl rfl hl.1 rfl (lv_room (Nat.le_of_ble_eq_true rfl)) dX12_covers_23 ⟨Nat.zero_le _, Nat.zero_le _⟩) (fun hzu_3 H locs hP hD hS => ?_)
    obtain rfl := Option.some.inj hF
    exact W.zret (v := u_3) (ty := .boolean) hx hb hr (z_nar hzu_3) (fun t ht hW => ⟨⟨u_3, (), rfl, ⟨rfl, hzu_3⟩, by rw [ht]; exact hP, va_K.moved hW.alike hK, hD⟩, hS.F ht⟩) hS.2.2 dX12_covers_26
  · have hF := it_t hF c_2
    refine lv_aload_n hx hb dX12_covers_9 rfl (lv_at hl 0 rfl) ?_
    refine lv_iload_n hx hb dX12_covers_10 rfl (lv_at hl 1 rfl) ?_
    refine lv_iload_n hx hb dX12_covers_11 rfl (lv_at hl 2 rfl) ?_
    refine lv_iload_n hx hb dX12_covers_12 rfl (lv_at hl 3 rfl) ?_
    obtain ⟨u_4, hu_4, hF⟩ := obd_some hF
    have hPc := hP.sub (ws' := (wd_X12_isInDisc cI a0 v0_2 v0_3 v0_5 v0_12 v0_13 v0_16 v0_17 v0_21 v0_23 v0_24 v0_25 v0_26 v0_29 v0_30 v0_0 v0_22)) [0, 1, 2] rfl
    have hDc := hD.sub (ws' := (wd_X12_isInDisc cI a0 v0_2 v0_3 v0_5 v0_12 v0_13 v0_16 v0_17 v0_21 v0_23 v0_24 v0_25 v0_26 v0_29 v0_30 v0_0 v0_22)) [0, 1, 2] rfl rfl
    refine q_callz (wc := (wd_X12_isInDisc cI a0 v0_2 v0_3 v0_5 v0_12 v0_13 v0_16 v0_17 v0_21 v0_23 v0_24 v0_25 v0_26 v0_29 v0_30 v0_0 v0_22)) (w1 := (wd_X12_isInDisc cI a0 v0_2 v0_3 v0_5 v0_12 v0_13 v0_16 v0_17 v0_21 v0_23 v0_24 v0_25 v0_26 v0_29 v0_30 v0_0 v0_22)) (ws' := (wd_X12_covers cI a0 v0_2 v0_3 v0_5 v0_12 v0_13 v0_16 v0_17 v0_21 v0_23 v0_24 v0_25 v0_26 v0_29 v0_30 v0_0 v0_22)) hP hD hS hA [0, 1, 2] [] [0, 1, 2] rfl rfl rfl (by decide) rfl rfl (va_runV (As := [.int p1, .int p2, .int p3]) (rest := []) ⟨hx, hb, hml, hown, hta⟩ (c_X12_isInDisc l dC dI cI H.size a0 v0_2 v0_3 v0_5 v0_12 v0_13 v0_16 v0_17 v0_21 v0_23 v0_24 v0_25 v0_26 v0_29 v0_30 v0_0 v0_22 p1 p2 p3 u_4 hu_4) (cwV 3 hta (ga_V mA1045 mA1046 mA1047 mA814 mA1042) rfl rfl rfl (by decide +kernel) ⟨Nat.le_of_ble_eq_true rfl, Nat.le_of_ble_eq_true rfl⟩) ⟨q_fb, va_recv hK hP (ci := 11) (q0 := 0) rfl rfl, q_ps hPc hK hDc⟩ rfl rfl hl.1 rfl (lv_room (Nat.le_of_ble_eq_true rfl)) dX12_covers_13 ⟨Nat.zero_le _, Nat.zero_le _⟩) (fun hzu_4 H locs hP hD hS => ?_)
    refine lv_goto (tgt := 26) hx hb dX12_covers_16 (by decide) ?_
    obtain rfl := Option.some.inj hF
    exact W.zret (v := u_4) (ty := .boolean) hx hb hr (z_nar hzu_4) (fun t ht hW => ⟨⟨u_4, (), rfl, ⟨rfl, hzu_4⟩, by rw [ht]; exact hP, va_K.moved hW.alike hK, hD⟩, hS.F ht⟩) hS.2.2 dX12_covers_26

-- StrokeOutlinerModel.covering(II)I
def F_X12_covering_j83 (v0_3 : Int32) (v0_12 : Int32) (v0_13 : Int32) (v0_16 : Int32) (v0_17 : Int32) (v0_21 : Int32) (v0_23 : Int32) (v0_6 : Nat → Int32) (v0_7 : Nat → Int32) (v0_8 : Nat → Int32) (v0_9 : Nat → Int32) (v0_10 : Nat → Int32) (v0_11 : Nat → Int32) (v0_14 : Nat → Int32) (v0_15 : Nat → Int32) (v0_18 : Nat → Int32) (v0_19 : Nat → Int32) (v0_20 : Nat → Int32) (v0_22 : Nat → Int32) (x3 : Int32) : Option (Int32 × Int32 × Int32 × Int32 × Int32 × Int32 × Int32 × Int32 × (Nat → Int32) × (Nat → Int32) × (Nat → Int32) × (Nat → Int32) × (Nat → Int32) × (Nat → Int32) × (Nat → Int32) × (Nat → Int32) × (Nat → Int32) × (Nat → Int32) × (Nat → Int32) × (Nat → Int32)) :=
  some (x3, v0_3, v0_12, v0_13, v0_16, v0_17, v0_21, v0_23, v0_6, v0_7, v0_8, v0_9, v0_10, v0_11, v0_14, v0_15, v0_18, v0_19, v0_20, v0_22)
def F_X12_covering_j75 (x4 : Int32) (t0 : Int32) (t1 : Int32) : Option (Sum (Int32 × Int32) (Int32)) :=
  lt (t0 + t1) (fun y_1 => lt (x4 + 1) (fun y_2 => some (.inl (y_1, y_2))))
def F_X12_covering_b49 (n : Nat) (v0_23 : Int32) (v0_0 : Nat → Int32) (v0_22 : Nat → Int32) (x1 : Int32) (x2 : Int32) (s49 : Int32 × Int32) : Option (Sum (Int32 × Int32) (Int32)) :=
  if v0_23 ≤ s49.2 then some (.inr s49.1) else obd (F_X12_covers n v0_0 v0_22 s49.2 x1 x2) (fun u_4 => if u_4 = 0 then F_X12_covering_j75 s49.2 s49.1 0 else F_X12_covering_j75 s49.2 s49.1 1)
def F_X12_covering_j49 (n : Nat) (v0_3 : Int32) (v0_12 : Int32) (v0_13 : Int32) (v0_16 : Int32) (v0_17 : Int32) (v0_21 : Int32) (v0_23 : Int32) (v0_0 : Nat → Int32) (v0_6 : Nat → Int32) (v0_7 : Nat → Int32) (v0_8 : Nat → Int32) (v0_9 : Nat → Int32) (v0_10 : Nat → Int32) (v0_11 : Nat → Int32) (v0_14 : Nat → Int32) (v0_15 : Nat → Int32) (v0_18 : Nat → Int32) (v0_19 : Nat → Int32) (v0_20 : Nat → Int32) (v0_22 : Nat → Int32) (x1 : Int32) (x2 : Int32) (x3 : Int32) (x4 : Int32) : Option (Int32 × Int32 × Int32 × Int32 × Int32 × Int32 × Int32 × Int32 × (Nat → Int32) × (Nat → Int32) × (Nat → Int32) × (Nat → Int32) × (Nat → Int32) × (Nat → Int32) × (Nat → Int32) × (Nat → Int32) × (Nat → Int32) × (Nat → Int32) × (Nat → Int32) × (Nat → Int32)) :=
  obd (lpq (F_X12_covering_b49 n v0_23 v0_0 v0_22 x1 x2) n (x3, x4)) (fun x_49 => F_X12_covering_j83 v0_3 v0_12 v0_13 v0_16 v0_17 v0_21 v0_23 v0_6 v0_7 v0_8 v0_9 v0_10 v0_11 v0_14 v0_15 v0_18 v0_19 v0_20 v0_22 x_49)
def F_X12_covering_j32 (n : Nat) (v0_12 : Int32) (v0_13 : Int32) (v0_16 : Int32) (v0_17 : Int32) (v0_21 : Int32) (v0_23 : Int32) (v0_0 : Nat → Int32) (v0_6 : Nat → Int32) (v0_7 : Nat → Int32) (v0_8 : Nat → Int32) (v0_9 : Nat → Int32) (v0_10 : Nat → Int32) (v0_11 : Nat → Int32) (v0_14 : Nat → Int32) (v0_15 : Nat → Int32) (v0_18 : Nat → Int32) (v0_19 : Nat → Int32) (v0_20 : Nat → Int32) (v0_22 : Nat → Int32) (x1 : Int32) (x2 : Int32) (t1 : Int32) : Option (Int32 × Int32 × Int32 × Int32 × Int32 × Int32 × Int32 × Int32 × (Nat → Int32) × (Nat → Int32) × (Nat → Int32) × (Nat → Int32) × (Nat → Int32) × (Nat → Int32) × (Nat → Int32) × (Nat → Int32) × (Nat → Int32) × (Nat → Int32) × (Nat → Int32) × (Nat → Int32)) :=
  lt (F_X12_refused t1) (fun u_6 => if u_6.1 = 0 then obd (F_X12_laysPieces n v0_12 v0_13 v0_16 v0_17 v0_21 v0_0 v0_6 v0_7 v0_8 v0_9 v0_10 v0_11 v0_14 v0_15 v0_18 v0_19 v0_20 v0_22) (fun u_8 => F_X12_covering_j49 n u_6.2 u_8.1 u_8.2.1 u_8.2.2.1 u_8.2.2.2.1 u_8.2.2.2.2.1 u_8.2.2.2.2.2.1 v0_0 u_8.2.2.2.2.2.2.1 u_8.2.2.2.2.2.2.2.1 u_8.2.2.2.2.2.2.2.2.1 u_8.2.2.2.2.2.2.2.2.2.1 u_8.2.2.2.2.2.2.2.2.2.2.1 u_8.2.2.2.2.2.2.2.2.2.2.2.1 u_8.2.2.2.2.2.2.2.2.2.2.2.2.1 u_8.2.2.2.2.2.2.2.2.2.2.2.2.2.1 u_8.2.2.2.2.2.2.2.2.2.2.2.2.2.2.1 u_8.2.2.2.2.2.2.2.2.2.2.2.2.2.2.2.1 u_8.2.2.2.2.2.2.2.2.2.2.2.2.2.2.2.2.1 u_8.2.2.2.2.2.2.2.2.2.2.2.2.2.2.2.2.2 x1 x2 0 0) else some (0, u_6.2, v0_12, v0_13, v0_16, v0_17, v0_21, v0_23, v0_6, v0_7, v0_8, v0_9, v0_10, v0_11, v0_14, v0_15, v0_18, v0_19, v0_20, v0_22))
def F_X12_covering_j31 (n : Nat) (v0_12 : Int32) (v0_13 : Int32) (v0_16 : Int32) (v0_17 : Int32) (v0_21 : Int32) (v0_23 : Int32) (v0_0 : Nat → Int32) (v0_6 : Nat → Int32) (v0_7 : Nat → Int32) (v0_8 : Nat → Int32) (v0_9 : Nat → Int32) (v0_10 : Nat → Int32) (v0_11 : Nat → Int32) (v0_14 : Nat → Int32) (v0_15 : Nat → Int32) (v0_18 : Nat → Int32) (v0_19 : Nat → Int32) (v0_20 : Nat → Int32) (v0_22 : Nat → Int32) (x1 : Int32) (x2 : Int32) : Option (Int32 × Int32 × Int32 × Int32 × Int32 × Int32 × Int32 × Int32 × (Nat → Int32) × (Nat → Int32) × (Nat → Int32) × (Nat → Int32) × (Nat → Int32) × (Nat → Int32) × (Nat → Int32) × (Nat → Int32) × (Nat → Int32) × (Nat → Int32) × (Nat → Int32) × (Nat → Int32)) :=
  F_X12_covering_j32 n v0_12 v0_13 v0_16 v0_17 v0_21 v0_23 v0_0 v0_6 v0_7 v0_8 v0_9 v0_10 v0_11 v0_14 v0_15 v0_18 v0_19 v0_20 v0_22 x1 x2 1
def F_X12_covering (n : Nat) (v0_12 : Int32) (v0_13 : Int32) (v0_16 : Int32) (v0_17 : Int32) (v0_21 : Int32) (v0_23 : Int32) (v0_0 : Nat → Int32) (v0_6 : Nat → Int32) (v0_7 : Nat → Int32) (v0_8 : Nat → Int32) (v0_9 : Nat → Int32) (v0_10 : Nat → Int32) (v0_11 : Nat → Int32) (v0_14 : Nat → Int32) (v0_15 : Nat → Int32) (v0_18 : Nat → Int32) (v0_19 : Nat → Int32) (v0_20 : Nat → Int32) (v0_22 : Nat → Int32) (p1 : Int32) (p2 : Int32) : Option (Int32 × Int32 × Int32 × Int32 × Int32 × Int32 × Int32 × Int32 × (Nat → Int32) × (Nat → Int32) × (Nat → Int32) × (Nat → Int32) × (Nat → Int32) × (Nat → Int32) × (Nat → Int32) × (Nat → Int32) × (Nat → Int32) × (Nat → Int32) × (Nat → Int32) × (Nat → Int32)) :=
  lt (F_X12_within p1 (-20000) 20000) (fun u_9 => if u_9 = 0 then F_X12_covering_j31 n v0_12 v0_13 v0_16 v0_17 v0_21 v0_23 v0_0 v0_6 v0_7 v0_8 v0_9 v0_10 v0_11 v0_14 v0_15 v0_18 v0_19 v0_20 v0_22 p1 p2 else lt (F_X12_within p2 (-20000) 20000) (fun u_11 => if u_11 = 0 then F_X12_covering_j31 n v0_12 v0_13 v0_16 v0_17 v0_21 v0_23 v0_0 v0_6 v0_7 v0_8 v0_9 v0_10 v0_11 v0_14 v0_15 v0_18 v0_19 v0_20 v0_22 p1 p2 else F_X12_covering_j32 n v0_12 v0_13 v0_16 v0_17 v0_21 v0_23 v0_0 v0_6 v0_7 v0_8 v0_9 v0_10 v0_11 v0_14 v0_15 v0_18 v0_19 v0_20 v0_22 p1 p2 0))
abbrev wd_X12_covering (cI : ClassId) (a0 : Nat → Nat) (v0_2 : Int32) (v0_3 : Int32) (v0_5 : Int32) (v0_12 : Int32) (v0_13 : Int32) (v0_16 : Int32) (v0_17 : Int32) (v0_21 : Int32) (v0_23 : Int32) (v0_24 : Int32) (v0_25 : Int32) (v0_26 : Int32) (v0_29 : Int32) (v0_30 : Int64) (v0_0 : Nat → Int32) (v0_6 : Nat → Int32) (v0_7 : Nat → Int32) (v0_8 : Nat → Int32) (v0_9 : Nat → Int32) (v0_10 : Nat → Int32) (v0_11 : Nat → Int32) (v0_14 : Nat → Int32) (v0_15 : Nat → Int32) (v0_18 : Nat → Int32) (v0_19 : Nat → Int32) (v0_20 : Nat → Int32) (v0_22 : Nat → Int32) : va_W := [(a0 0, .inr (11, [.ref (a0 1), .ref (a0 2), .int v0_2, .int v0_3, .ref (a0 5), .int v0_5, .ref (a0 7), .ref (a0 8), .ref (a0 9), .ref (a0 10), .ref (a0 11), .ref (a0 12), .int v0_12, .int v0_13, .ref (a0 15), .ref (a0 16), .int v0_16, .int v0_17, .ref (a0 19), .ref (a0 20), .ref (a0 21), .int v0_21, .ref (a0 23), .int v0_23, .int v0_24, .int v0_25, .int v0_26, .ref (a0 28), .ref (a0 29), .int v0_29, .long v0_30])), (a0 1, .inl (cI, 86, .inl v0_0)), (a0 7, .inl (cI, 8, .inl v0_6)), (a0 8, .inl (cI, 8, .inl v0_7)), (a0 9, .inl (cI, 8, .inl v0_8)), (a0 10, .inl (cI, 8, .inl v0_9)), (a0 11, .inl (cI, 8, .inl v0_10)), (a0 12, .inl (cI, 8, .inl v0_11)), (a0 15, .inl (cI, 240, .inl v0_14)), (a0 16, .inl (cI, 240, .inl v0_15)), (a0 19, .inl (cI, 20, .inl v0_18)), (a0 20, .inl (cI, 20, .inl v0_19)), (a0 21, .inl (cI, 20, .inl v0_20)), (a0 23, .inl (cI, 27000, .inl v0_22))]
abbrev wz_X12_covering : List Cond := .code yX12_covering cX12_covering 5 (some .int) :: wALL
abbrev rm_X12_covering : Room := { frames := 6, cells := 0, slots := 0, locals := 138 }
abbrev Q_X12_covering (dC : Nat → ClassId) (dI : Nat → Nat → Nat) (cI : ClassId) (a0 : Nat → Nat) (v0_2 : Int32) (v0_5 : Int32) (v0_24 : Int32) (v0_25 : Int32) (v0_26 : Int32) (v0_29 : Int32) (v0_30 : Int64) (v0_0 : Nat → Int32) (u : (Int32 × Int32 × Int32 × Int32 × Int32 × Int32 × Int32 × Int32 × (Nat → Int32) × (Nat → Int32) × (Nat → Int32) × (Nat → Int32) × (Nat → Int32) × (Nat → Int32) × (Nat → Int32) × (Nat → Int32) × (Nat → Int32) × (Nat → Int32) × (Nat → Int32) × (Nat → Int32))) (A : Nat → Prop) : Array Value → State → Outcome → State → Prop := va_Qi (fun (r : Int32) (_ : Unit) => r = u.1) (fun _ => q_at dC dI cI A (wd_X12_covering cI a0 v0_2 u.2.1 v0_5 u.2.2.1 u.2.2.2.1 u.2.2.2.2.1 u.2.2.2.2.2.1 u.2.2.2.2.2.2.1 u.2.2.2.2.2.2.2.1 v0_24 v0_25 v0_26 v0_29 v0_30 v0_0 u.2.2.2.2.2.2.2.2.1 u.2.2.2.2.2.2.2.2.2.1 u.2.2.2.2.2.2.2.2.2.2.1 u.2.2.2.2.2.2.2.2.2.2.2.1 u.2.2.2.2.2.2.2.2.2.2.2.2.1 u.2.2.2.2.2.2.2.2.2.2.2.2.2.1 u.2.2.2.2.2.2.2.2.2.2.2.2.2.2.1 u.2.2.2.2.2.2.2.2.2.2.2.2.2.2.2.1 u.2.2.2.2.2.2.2.2.2.2.2.2.2.2.2.2.1 u.2.2.2.2.2.2.2.2.2.2.2.2.2.2.2.2.2.1 u.2.2.2.2.2.2.2.2.2.2.2.2.2.2.2.2.2.2.1 u.2.2.2.2.2.2.2.2.2.2.2.2.2.2.2.2.2.2.2)) A
set_option maxHeartbeats 4000000 in
set_option maxRecDepth 100000 in
theorem c_X12_covering (l : Launch) (dC : Nat → ClassId) (dI : Nat → Nat → Nat) (cI : ClassId) (sz : Nat) (a0 : Nat → Nat) (v0_2 : Int32) (v0_3 : Int32) (v0_5 : Int32) (v0_12 : Int32) (v0_13 : Int32) (v0_16 : Int32) (v0_17 : Int32) (v0_21 : Int32) (v0_23 : Int32) (v0_24 : Int32) (v0_25 : Int32) (v0_26 : Int32) (v0_29 : Int32) (v0_30 : Int64) (v0_0 : Nat → Int32) (v0_6 : Nat → Int32) (v0_7 : Nat → Int32) (v0_8 : Nat → Int32) (v0_9 : Nat → Int32) (v0_10 : Nat → Int32) (v0_11 : Nat → Int32) (v0_14 : Nat → Int32) (v0_15 : Nat → Int32) (v0_18 : Nat → Int32) (v0_19 : Nat → Int32) (v0_20 : Nat → Int32) (v0_22 : Nat → Int32) (p1 : Int32) (p2 : Int32) (n : Nat) (u : (Int32 × Int32 × Int32 × Int32 × Int32 × Int32 × Int32 × Int32 × (Nat → Int32) × (Nat → Int32) × (Nat → Int32) × (Nat → Int32) × (Nat → Int32) × (Nat → Int32) × (Nat → Int32) × (Nat → Int32) × (Nat → Int32) × (Nat → Int32) × (Nat → Int32) × (Nat → Int32))) (hF : F_X12_covering n v0_12 v0_13 v0_16 v0_17 v0_21 v0_23 v0_0 v0_6 v0_7 v0_8 v0_9 v0_10 v0_11 v0_14 v0_15 v0_18 v0_19 v0_20 v0_22 p1 p2 = some u) : Met l yX12_covering wz_X12_covering rm_X12_covering (va_Pc [.ref (a0 0), .int p1, .int p2] (q_pre dC dI cI (wd_X12_covering cI a0 v0_2 v0_3 v0_5 v0_12 v0_13 v0_16 v0_17 v0_21 v0_23 v0_24 v0_25 v0_26 v0_29 v0_30 v0_0 v0_6 v0_7 v0_8 v0_9 v0_10 v0_11 v0_14 v0_15 v0_18 v0_19 v0_20 v0_22) sz)) (Q_X12_covering dC dI cI a0 v0_2 v0_5 v0_24 v0_25 v0_26 v0_29 v0_30 v0_0 u (va_A (wd_X12_covering cI a0 v0_2 v0_3 v0_5 v0_12 v0_13 v0_16 v0_17 v0_21 v0_23 v0_24 v0_25 v0_26 v0_29 v0_30 v0_0 v0_6 v0_7 v0_8 v0_9 v0_10 v0_11 v0_14 v0_15 v0_18 v0_19 v0_20 v0_22) sz)) 0 0 (va_A (wd_X12_covering cI a0 v0_2 v0_3 v0_5 v0_12 v0_13 v0_16 v0_17 v0_21 v0_23 v0_24 v0_25 v0_26 v0_29 v0_30 v0_0 v0_6 v0_7 v0_8 v0_9 v0_10 v0_11 v0_14 v0_15 v0_18 v0_19 v0_20 v0_22) sz) := by
  refine Met.ofW (cc := cX12_covering) (maxL := 5) (ret := (some .int)) (by decide) rfl ?_
  intro p e s m args below meth c s₁ B hml hv
  obtain ⟨rfl, hsz, hP, hK, hD0⟩ := hv
  have hx := B.exec
  have hb := B.bytes
  have hr := B.returns
  have hts := atoms_spec (ws := wz_X12_covering) B.pre
  have hta := wz_tl hts
  have hown : s.vm.findClass RX12 = some m.cls := findClass_of_methodNamed B.named
  have hlocks := B.notSynchronized
  subst hsz
  have hD := hD0.self (sz := s.heap.size)
  generalize hAe : va_A (wd_X12_covering cI a0 v0_2 v0_3 v0_5 v0_12 v0_13 v0_16 v0_17 v0_21 v0_23 v0_24 v0_25 v0_26 v0_29 v0_30 v0_0 v0_6 v0_7 v0_8 v0_9 v0_10 v0_11 v0_14 v0_15 v0_18 v0_19 v0_20 v0_22) s.heap.size = A at hD ⊢
  have hA : ∀ q : Nat, s.heap.size ≤ q → A q := fun q h => by rw [← hAe]; exact Or.inr h
  have hS : va_S A s.heap s.heap [] := va_S.rf
  have hP : va_P (dC, dI) vwCl (wd_X12_covering cI a0 v0_2 v0_3 v0_5 v0_12 v0_13 v0_16 v0_17 v0_21 v0_23 v0_24 v0_25 v0_26 v0_29 v0_30 v0_0 v0_6 v0_7 v0_8 v0_9 v0_10 v0_11 v0_14 v0_15 v0_18 v0_19 v0_20 v0_22) s.heap := hP
  have hl := lv_entry ([.ref (a0 0), .int p1, .int p2]) (n := 5) (Nat.le_of_ble_eq_true rfl)
  rw [lg_entry_eq]
  generalize (lg_sl ([.ref (a0 0), .int p1, .int p2]) ++ List.replicate (5 - (lg_sl ([.ref (a0 0), .int p1, .int p2])).length) Slot.unset).toArray = ls at hl ⊢
  have hl : lv_has ls 5 [(0, .ref (a0 0)), (1, .int p1), (2, .int p2)] := hl
  obtain ⟨H, hHe⟩ : ∃ H, H = s.heap := ⟨_, rfl⟩
  have hS : va_S A s.heap H [] := by rw [hHe]; exact hS
  have hP : va_P (dC, dI) vwCl (wd_X12_covering cI a0 v0_2 v0_3 v0_5 v0_12 v0_13 v0_16 v0_17 v0_21 v0_23 v0_24 v0_25 v0_26 v0_29 v0_30 v0_0 v0_6 v0_7 v0_8 v0_9 v0_10 v0_11 v0_14 v0_15 v0_18 v0_19 v0_20 v0_22) H := by rw [hHe]; exact hP
  rw [← hHe]
  unfold F_X12_covering at hF
  have j83 : ∀ (v0_3 : Int32) (v0_12 : Int32) (v0_13 : Int32) (v0_16 : Int32) (v0_17 : Int32) (v0_21 : Int32) (v0_23 : Int32) (v0_6 : Nat → Int32) (v0_7 : Nat → Int32) (v0_8 : Nat → Int32) (v0_9 : Nat → Int32) (v0_10 : Nat → Int32) (v0_11 : Nat → Int32) (v0_14 : Nat → Int32) (v0_15 : Nat → Int32) (v0_18 : Nat → Int32) (v0_19 : Nat → Int32) (v0_20 : Nat → Int32) (v0_22 : Nat → Int32) (x3 : Int32), F_X12_covering_j83 v0_3 v0_12 v0_13 v0_16 v0_17 v0_21 v0_23 v0_6 v0_7 v0_8 v0_9 v0_10 v0_11 v0_14 v0_15 v0_18 v0_19 v0_20 v0_22 x3 = some u → ∀ (H : Heap) (locs : List Loc) (ls : Array Slot), va_P (dC, dI) vwCl (wd_X12_covering cI a0 v0_2 v0_3 v0_5 v0_12 v0_13 v0_16 v0_17 v0_21 v0_23 v0_24 v0_25 v0_26 v0_29 v0_30 v0_0 v0_6 v0_7 v0_8 v0_9 v0_10 v0_11 v0_14 v0_15 v0_18 v0_19 v0_20 v0_22) H → va_D A (wd_X12_covering cI a0 v0_2 v0_3 v0_5 v0_12 v0_13 v0_16 v0_17 v0_21 v0_23 v0_24 v0_25 v0_26 v0_29 v0_30 v0_0 v0_6 v0_7 v0_8 v0_9 v0_10 v0_11 v0_14 v0_15 v0_18 v0_19 v0_20 v0_22) → va_S A s.heap H locs → lv_has ls 5 [(3, .int x3)] → W p l e (headSpec wz_X12_covering rm_X12_covering).room s m [.ref (a0 0), .int p1, .int p2].toArray below meth c H locs 0 0 (MQ below (Q_X12_covering dC dI cI a0 v0_2 v0_5 v0_24 v0_25 v0_26 v0_29 v0_30 v0_0 u A) [.ref (a0 0), .int p1, .int p2].toArray s 0 0 A) (F0 m 83 ls []) := by
    intro v0_3 v0_12 v0_13 v0_16 v0_17 v0_21 v0_23 v0_6 v0_7 v0_8 v0_9 v0_10 v0_11 v0_14 v0_15 v0_18 v0_19 v0_20 v0_22 x3 hF H locs ls hP hD hS hl
    unfold F_X12_covering_j83 at hF
    refine lv_iload_n hx hb dX12_covering_83 rfl (lv_at hl 0 rfl) ?_
    obtain rfl := Option.some.inj hF
    exact W.iret (v := x3) hx hb hr (fun t ht hW => ⟨⟨x3, (), rfl, rfl, by rw [ht]; exact hP, va_K.moved hW.alike hK, hD⟩, hS.F ht⟩) hS.2.2 dX12_covering_84
  have j49 : ∀ (v0_3 : Int32) (v0_12 : Int32) (v0_13 : Int32) (v0_16 : Int32) (v0_17 : Int32) (v0_21 : Int32) (v0_23 : Int32) (v0_6 : Nat → Int32) (v0_7 : Nat → Int32) (v0_8 : Nat → Int32) (v0_9 : Nat → Int32) (v0_10 : Nat → Int32) (v0_11 : Nat → Int32) (v0_14 : Nat → Int32) (v0_15 : Nat → Int32) (v0_18 : Nat → Int32) (v0_19 : Nat → Int32) (v0_20 : Nat → Int32) (v0_22 : Nat → Int32) (x1 : Int32) (x2 : Int32) (x3 : Int32) (x4 : Int32), F_X12_covering_j49 n v0_3 v0_12 v0_13 v0_16 v0_17 v0_21 v0_23 v0_0 v0_6 v0_7 v0_8 v0_9 v0_10 v0_11 v0_14 v0_15 v0_18 v0_19 v0_20 v0_22 x1 x2 x3 x4 = some u → ∀ (H : Heap) (locs : List Loc) (ls : Array Slot), va_P (dC, dI) vwCl (wd_X12_covering cI a0 v0_2 v0_3 v0_5 v0_12 v0_13 v0_16 v0_17 v0_21 v0_23 v0_24 v0_25 v0_26 v0_29 v0_30 v0_0 v0_6 v0_7 v0_8 v0_9 v0_10 v0_11 v0_14 v0_15 v0_18 v0_19 v0_20 v0_22) H → va_D A (wd_X12_covering cI a0 v0_2 v0_3 v0_5 v0_12 v0_13 v0_16 v0_17 v0_21 v0_23 v0_24 v0_25 v0_26 v0_29 v0_30 v0_0 v0_6 v0_7 v0_8 v0_9 v0_10 v0_11 v0_14 v0_15 v0_18 v0_19 v0_20 v0_22) → va_S A s.heap H locs → lv_has ls 5 [(0, .ref (a0 0)), (1, .int x1), (2, .int x2), (3, .int x3), (4, .int x4)] → W p l e (headSpec wz_X12_covering rm_X12_covering).room s m [.ref (a0 0), .int p1, .int p2].toArray below meth c H locs 0 0 (MQ below (Q_X12_covering dC dI cI a0 v0_2 v0_5 v0_24 v0_25 v0_26 v0_29 v0_30 v0_0 u A) [.ref (a0 0), .int p1, .int p2].toArray s 0 0 A) (F0 m 49 ls []) := by
    intro v0_3 v0_12 v0_13 v0_16 v0_17 v0_21 v0_23 v0_6 v0_7 v0_8 v0_9 v0_10 v0_11 v0_14 v0_15 v0_18 v0_19 v0_20 v0_22 x1 x2 x3 x4 hF H locs ls hP hD hS hl
    unfold F_X12_covering_j49 at hF
    obtain ⟨x_49, hL_49, hE_49⟩ := obd_some hF
    have kl_49 : ∀ (k : Nat) (s49 : Int32 × Int32), lpq (F_X12_covering_b49 n v0_23 v0_0 v0_22 x1 x2) k s49 = some x_49 → ∀ (H : Heap) (locs : List Loc) (ls : Array Slot), va_P (dC, dI) vwCl (wd_X12_covering cI a0 v0_2 v0_3 v0_5 v0_12 v0_13 v0_16 v0_17 v0_21 v0_23 v0_24 v0_25 v0_26 v0_29 v0_30 v0_0 v0_6 v0_7 v0_8 v0_9 v0_10 v0_11 v0_14 v0_15 v0_18 v0_19 v0_20 v0_22) H → va_D A (wd_X12_covering cI a0 v0_2 v0_3 v0_5 v0_12 v0_13 v0_16 v0_17 v0_21 v0_23 v0_24 v0_25 v0_26 v0_29 v0_30 v0_0 v0_6 v0_7 v0_8 v0_9 v0_10 v0_11 v0_14 v0_15 v0_18 v0_19 v0_20 v0_22) → va_S A s.heap H locs → lv_has ls 5 [(0, .ref (a0 0)), (1, .int x1), (2, .int x2), (3, .int s49.1), (4, .int s49.2)] → W p l e (headSpec wz_X12_covering rm_X12_covering).room s m [.ref (a0 0), .int p1, .int p2].toArray below meth c H locs 0 0 (MQ below (Q_X12_covering dC dI cI a0 v0_2 v0_5 v0_24 v0_25 v0_26 v0_29 v0_30 v0_0 u A) [.ref (a0 0), .int p1, .int p2].toArray s 0 0 A) (F0 m 49 ls []) := by
      intro k
      induction k with
      | zero => intro s49 h; exact absurd h lpq_zero
      | succ k ih_49 =>
        intro s49 h H locs ls hP hD hS hl
        obtain ⟨o_49, hF, hO_49⟩ := lpq_succ h
        unfold F_X12_covering_b49 at hF
        have j75 : ∀ (x4 : Int32) (t0 : Int32) (t1 : Int32), F_X12_covering_j75 x4 t0 t1 = some o_49 → ∀ (H : Heap) (locs : List Loc) (ls : Array Slot), va_P (dC, dI) vwCl (wd_X12_covering cI a0 v0_2 v0_3 v0_5 v0_12 v0_13 v0_16 v0_17 v0_21 v0_23 v0_24 v0_25 v0_26 v0_29 v0_30 v0_0 v0_6 v0_7 v0_8 v0_9 v0_10 v0_11 v0_14 v0_15 v0_18 v0_19 v0_20 v0_22) H → va_D A (wd_X12_covering cI a0 v0_2 v0_3 v0_5 v0_12 v0_13 v0_16 v0_17 v0_21 v0_23 v0_24 v0_25 v0_26 v0_29 v0_30 v0_0 v0_6 v0_7 v0_8 v0_9 v0_10 v0_11 v0_14 v0_15 v0_18 v0_19 v0_20 v0_22) → va_S A s.heap H locs → lv_has ls 5 [(0, .ref (a0 0)), (1, .int x1), (2, .int x2), (4, .int x4)] → W p l e (headSpec wz_X12_covering rm_X12_covering).room s m [.ref (a0 0), .int p1, .int p2].toArray below meth c H locs 0 0 (MQ below (Q_X12_covering dC dI cI a0 v0_2 v0_5 v0_24 v0_25 v0_26 v0_29 v0_30 v0_0 u A) [.ref (a0 0), .int p1, .int p2].toArray s 0 0 A) (F0 m 75 ls [.int t1, .int t0]) := by
          intro x4 t0 t1 hF H locs ls hP hD hS hl
          unfold F_X12_covering_j75 at hF
          refine lv_iadd hx hb dX12_covering_75 ?_
          obtain ⟨y_1, ey_1, hF⟩ := lt_some hF
          refine lv_eqi ey_1 ?_
          refine lv_istore_n (lv' := [(3, .int y_1), (0, .ref (a0 0)), (1, .int x1), (2, .int x2), (4, .int x4)]) hx hb dX12_covering_76 rfl hl (by decide) rfl (fun ls hl => ?_)
          obtain ⟨y_2, ey_2, hF⟩ := lt_some hF
          refine lv_iinc (v := y_2) (lv' := [(4, .int y_2), (3, .int y_1), (0, .ref (a0 0)), (1, .int x1), (2, .int x2)]) hx hb dX12_covering_77 hl (k := 4) rfl (by rw [ey_2]; rfl) (by decide) rfl (fun ls hl => ?_)
          refine lv_goto (tgt := 49) hx hb dX12_covering_80 (by decide) ?_
          obtain rfl := Option.some.inj hF
          exact ih_49 _ hO_49 _ _ _ hP hD hS (lv_sub hl [2, 3, 4, 1, 0] rfl)
        refine lv_iload hx hb dX12_covering_49 (lv_at hl 4 rfl) ?_
        refine lv_aload_n hx hb dX12_covering_51 rfl (lv_at hl 0 rfl) ?_
        refine va_get (D := (dC, dI)) (ci := 11) (v := .int v0_23) (C := RX12) (T := TX12) (N := 31) hx hb hta uw_X12 hown hK hP 0 rfl rfl 23 (by decide) (hta _ mA953) (fun _ h9 => h9) rfl dX12_covering_52 ?_
        refine lv_icmp_ge (tgt := 83) hx hb dX12_covering_55 (by decide) (fun c_3 => ?_) (fun c_3 => ?_)
        · have hF := it_t hF c_3
          obtain rfl := Option.some.inj hF
          obtain rfl := lpq_x hO_49
          have hF := hE_49
          exact j83 v0_3 v0_12 v0_13 v0_16 v0_17 v0_21 v0_23 v0_6 v0_7 v0_8 v0_9 v0_10 v0_11 v0_14 v0_15 v0_18 v0_19 v0_20 v0_22 s49.1 hF _ _ _ hP hD hS (lv_sub hl [3] rfl)
        · have hF := it_f hF c_3
          refine lv_iload_n hx hb dX12_covering_58 rfl (lv_at hl 3 rfl) ?_
          refine lv_aload_n hx hb dX12_covering_59 rfl (lv_at hl 0 rfl) ?_
          refine lv_iload hx hb dX12_covering_60 (lv_at hl 4 rfl) ?_
          refine lv_iload_n hx hb dX12_covering_62 rfl (lv_at hl 1 rfl) ?_
          refine lv_iload_n hx hb dX12_covering_63 rfl (lv_at hl 2 rfl) ?_
          obtain ⟨u_4, hu_4, hF⟩ := obd_some hF
          have hPc := hP.sub (ws' := (wd_X12_covers cI a0 v0_2 v0_3 v0_5 v0_12 v0_13 v0_16 v0_17 v0_21 v0_23 v0_24 v0_25 v0_26 v0_29 v0_30 v0_0 v0_22)) [0, 1, 13] rfl
          have hDc := hD.sub (ws' := (wd_X12_covers cI a0 v0_2 v0_3 v0_5 v0_12 v0_13 v0_16 v0_17 v0_21 v0_23 v0_24 v0_25 v0_26 v0_29 v0_30 v0_0 v0_22)) [0, 1, 13] rfl rfl
          refine q_callz (wc := (wd_X12_covers cI a0 v0_2 v0_3 v0_5 v0_12 v0_13 v0_16 v0_17 v0_21 v0_23 v0_24 v0_25 v0_26 v0_29 v0_30 v0_0 v0_22)) (w1 := (wd_X12_covers cI a0 v0_2 v0_3 v0_5 v0_12 v0_13 v0_16 v0_17 v0_21 v0_23 v0_24 v0_25 v0_26 v0_29 v0_30 v0_0 v0_22)) (ws' := (wd_X12_covering cI a0 v0_2 v0_3 v0_5 v0_12 v0_13 v0_16 v0_17 v0_21 v0_23 v0_24 v0_25 v0_26 v0_29 v0_30 v0_0 v0_6 v0_7 v0_8 v0_9 v0_10 v0_11 v0_14 v0_15 v0_18 v0_19 v0_20 v0_22)) hP hD hS hA [0, 1, 13] [2, 3, 4, 5, 6, 7, 8, 9, 10, 11, 12] [11, 12, 0, 1, 2, 3, 4, 5, 6, 7, 8, 9, 10, 13] rfl rfl rfl (by decide) rfl rfl (va_runV (As := [.int s49.2, .int x1, .int x2]) (rest := [.int s49.1]) ⟨hx, hb, hml, hown, hta⟩ (c_X12_covers l dC dI cI H.size a0 v0_2 v0_3 v0_5 v0_12 v0_13 v0_16 v0_17 v0_21 v0_23 v0_24 v0_25 v0_26 v0_29 v0_30 v0_0 v0_22 s49.2 x1 x2 n u_4 hu_4) (cwV 3 hta (ga_V mA1052 mA1053 mA1054 mA814 mA1044) rfl rfl rfl (by decide +kernel) ⟨Nat.le_of_ble_eq_true rfl, Nat.le_of_ble_eq_true rfl⟩) ⟨q_fb, va_recv hK hP (ci := 11) (q0 := 0) rfl rfl, q_ps hPc hK hDc⟩ rfl rfl hl.1 rfl (lv_room (Nat.le_of_ble_eq_true rfl)) dX12_covering_64 ⟨Nat.zero_le _, Nat.zero_le _⟩) (fun hzu_4 H locs hP hD hS => ?_)
          refine lv_if_eq (tgt := 74) hx hb dX12_covering_67 (by decide) (fun c_5 => ?_) (fun c_5 => ?_)
          · have hF := it_t hF c_5
            refine lv_iconst (v := 0) hx hb dX12_covering_74 (by decide) ?_
            exact j75 s49.2 s49.1 0 hF _ _ _ hP hD hS (lv_sub hl [0, 1, 2, 4] rfl)
          · have hF := it_f hF c_5
            refine lv_iconst (v := 1) hx hb dX12_covering_70 (by decide) ?_
            refine lv_goto (tgt := 75) hx hb dX12_covering_71 (by decide) ?_
            exact j75 s49.2 s49.1 1 hF _ _ _ hP hD hS (lv_sub hl [0, 1, 2, 4] rfl)
    exact kl_49 n _ hL_49 _ _ _ hP hD hS hl
  have j32 : ∀ (v0_3 : Int32) (v0_12 : Int32) (v0_13 : Int32) (v0_16 : Int32) (v0_17 : Int32) (v0_21 : Int32) (v0_23 : Int32) (v0_6 : Nat → Int32) (v0_7 : Nat → Int32) (v0_8 : Nat → Int32) (v0_9 : Nat → Int32) (v0_10 : Nat → Int32) (v0_11 : Nat → Int32) (v0_14 : Nat → Int32) (v0_15 : Nat → Int32) (v0_18 : Nat → Int32) (v0_19 : Nat → Int32) (v0_20 : Nat → Int32) (v0_22 : Nat → Int32) (x1 : Int32) (x2 : Int32) (t1 : Int32), F_X12_covering_j32 n v0_12 v0_13 v0_16 v0_17 v0_21 v0_23 v0_0 v0_6 v0_7 v0_8 v0_9 v0_10 v0_11 v0_14 v0_15 v0_18 v0_19 v0_20 v0_22 x1 x2 t1 = some u → ∀ (H : Heap) (locs : List Loc) (ls : Array Slot), va_P (dC, dI) vwCl (wd_X12_covering cI a0 v0_2 v0_3 v0_5 v0_12 v0_13 v0_16 v0_17 v0_21 v0_23 v0_24 v0_25 v0_26 v0_29 v0_30 v0_0 v0_6 v0_7 v0_8 v0_9 v0_10 v0_11 v0_14 v0_15 v0_18 v0_19 v0_20 v0_22) H → va_D A (wd_X12_covering cI a0 v0_2 v0_3 v0_5 v0_12 v0_13 v0_16 v0_17 v0_21 v0_23 v0_24 v0_25 v0_26 v0_29 v0_30 v0_0 v0_6 v0_7 v0_8 v0_9 v0_10 v0_11 v0_14 v0_15 v0_18 v0_19 v0_20 v0_22) → va_S A s.heap H locs → lv_has ls 5 [(0, .ref (a0 0)), (1, .int x1), (2, .int x2)] → W p l e (headSpec wz_X12_covering rm_X12_covering).room s m [.ref (a0 0), .int p1, .int p2].toArray below meth c H locs 0 0 (MQ below (Q_X12_covering dC dI cI a0 v0_2 v0_5 v0_24 v0_25 v0_26 v0_29 v0_30 v0_0 u A) [.ref (a0 0), .int p1, .int p2].toArray s 0 0 A) (F0 m 32 ls [.int t1, .ref (a0 0)]) := by
    intro v0_3 v0_12 v0_13 v0_16 v0_17 v0_21 v0_23 v0_6 v0_7 v0_8 v0_9 v0_10 v0_11 v0_14 v0_15 v0_18 v0_19 v0_20 v0_22 x1 x2 t1 hF H locs ls hP hD hS hl
    unfold F_X12_covering_j32 at hF
    obtain ⟨u_6, hu_6, hF⟩ := lt_some hF
    have hPc := hP.sub (ws' := (wd_X12_refused cI a0 v0_2 v0_3 v0_5 v0_12 v0_13 v0_16 v0_17 v0_21 v0_23 v0_24 v0_25 v0_26 v0_29 v0_30)) [0] rfl
    have hDc := hD.sub (ws' := (wd_X12_refused cI a0 v0_2 v0_3 v0_5 v0_12 v0_13 v0_16 v0_17 v0_21 v0_23 v0_24 v0_25 v0_26 v0_29 v0_30)) [0] rfl rfl
    refine q_callz (wc := (wd_X12_refused cI a0 v0_2 v0_3 v0_5 v0_12 v0_13 v0_16 v0_17 v0_21 v0_23 v0_24 v0_25 v0_26 v0_29 v0_30)) (w1 := (wd_X12_refused cI a0 v0_2 u_6.2 v0_5 v0_12 v0_13 v0_16 v0_17 v0_21 v0_23 v0_24 v0_25 v0_26 v0_29 v0_30)) (ws' := (wd_X12_covering cI a0 v0_2 u_6.2 v0_5 v0_12 v0_13 v0_16 v0_17 v0_21 v0_23 v0_24 v0_25 v0_26 v0_29 v0_30 v0_0 v0_6 v0_7 v0_8 v0_9 v0_10 v0_11 v0_14 v0_15 v0_18 v0_19 v0_20 v0_22)) hP hD hS hA [0] [1, 2, 3, 4, 5, 6, 7, 8, 9, 10, 11, 12, 13] [13, 0, 1, 2, 3, 4, 5, 6, 7, 8, 9, 10, 11, 12] rfl rfl rfl (by decide) rfl rfl (va_runV (As := [.int t1]) (rest := []) ⟨hx, hb, hml, hown, hta⟩ (c_X12_refused l dC dI cI H.size a0 v0_2 v0_3 v0_5 v0_12 v0_13 v0_16 v0_17 v0_21 v0_23 v0_24 v0_25 v0_26 v0_29 v0_30 t1 u_6 hu_6.symm) (cwV 1 hta (ga_V mA822 mA823 mA824 mA814 mA809) rfl rfl rfl (by decide +kernel) ⟨Nat.le_of_ble_eq_true rfl, Nat.le_of_ble_eq_true rfl⟩) ⟨q_fb, va_recv hK hP (ci := 11) (q0 := 0) rfl rfl, q_ps hPc hK hDc⟩ rfl rfl hl.1 rfl (lv_room (Nat.le_of_ble_eq_true rfl)) dX12_covering_32 ⟨Nat.zero_le _, Nat.zero_le _⟩) (fun hzu_6 H locs hP hD hS => ?_)
    refine lv_if_eq (tgt := 40) hx hb dX12_covering_35 (by decide) (fun c_7 => ?_) (fun c_7 => ?_)
    · have hF := it_t hF c_7
      refine lv_aload_n hx hb dX12_covering_40 rfl (lv_at hl 0 rfl) ?_
      obtain ⟨u_8, hu_8, hF⟩ := obd_some hF
      have hPc := hP.sub (ws' := (wd_X12_laysPieces cI a0 v0_2 u_6.2 v0_5 v0_12 v0_13 v0_16 v0_17 v0_21 v0_23 v0_24 v0_25 v0_26 v0_29 v0_30 v0_0 v0_6 v0_7 v0_8 v0_9 v0_10 v0_11 v0_14 v0_15 v0_18 v0_19 v0_20 v0_22)) [0, 1, 2, 3, 4, 5, 6, 7, 8, 9, 10, 11, 12, 13] rfl
      have hDc := hD.sub (ws' := (wd_X12_laysPieces cI a0 v0_2 u_6.2 v0_5 v0_12 v0_13 v0_16 v0_17 v0_21 v0_23 v0_24 v0_25 v0_26 v0_29 v0_30 v0_0 v0_6 v0_7 v0_8 v0_9 v0_10 v0_11 v0_14 v0_15 v0_18 v0_19 v0_20 v0_22)) [0, 1, 2, 3, 4, 5, 6, 7, 8, 9, 10, 11, 12, 13] rfl rfl
      refine q_callv (wc := (wd_X12_laysPieces cI a0 v0_2 u_6.2 v0_5 v0_12 v0_13 v0_16 v0_17 v0_21 v0_23 v0_24 v0_25 v0_26 v0_29 v0_30 v0_0 v0_6 v0_7 v0_8 v0_9 v0_10 v0_11 v0_14 v0_15 v0_18 v0_19 v0_20 v0_22)) (w1 := (wd_X12_laysPieces cI a0 v0_2 u_6.2 v0_5 u_8.1 u_8.2.1 u_8.2.2.1 u_8.2.2.2.1 u_8.2.2.2.2.1 u_8.2.2.2.2.2.1 v0_24 v0_25 v0_26 v0_29 v0_30 v0_0 u_8.2.2.2.2.2.2.1 u_8.2.2.2.2.2.2.2.1 u_8.2.2.2.2.2.2.2.2.1 u_8.2.2.2.2.2.2.2.2.2.1 u_8.2.2.2.2.2.2.2.2.2.2.1 u_8.2.2.2.2.2.2.2.2.2.2.2.1 u_8.2.2.2.2.2.2.2.2.2.2.2.2.1 u_8.2.2.2.2.2.2.2.2.2.2.2.2.2.1 u_8.2.2.2.2.2.2.2.2.2.2.2.2.2.2.1 u_8.2.2.2.2.2.2.2.2.2.2.2.2.2.2.2.1 u_8.2.2.2.2.2.2.2.2.2.2.2.2.2.2.2.2.1 u_8.2.2.2.2.2.2.2.2.2.2.2.2.2.2.2.2.2)) (ws' := (wd_X12_covering cI a0 v0_2 u_6.2 v0_5 u_8.1 u_8.2.1 u_8.2.2.1 u_8.2.2.2.1 u_8.2.2.2.2.1 u_8.2.2.2.2.2.1 v0_24 v0_25 v0_26 v0_29 v0_30 v0_0 u_8.2.2.2.2.2.2.1 u_8.2.2.2.2.2.2.2.1 u_8.2.2.2.2.2.2.2.2.1 u_8.2.2.2.2.2.2.2.2.2.1 u_8.2.2.2.2.2.2.2.2.2.2.1 u_8.2.2.2.2.2.2.2.2.2.2.2.1 u_8.2.2.2.2.2.2.2.2.2.2.2.2.1 u_8.2.2.2.2.2.2.2.2.2.2.2.2.2.1 u_8.2.2.2.2.2.2.2.2.2.2.2.2.2.2.1 u_8.2.2.2.2.2.2.2.2.2.2.2.2.2.2.2.1 u_8.2.2.2.2.2.2.2.2.2.2.2.2.2.2.2.2.1 u_8.2.2.2.2.2.2.2.2.2.2.2.2.2.2.2.2.2)) hP hD hS hA [0, 1, 2, 3, 4, 5, 6, 7, 8, 9, 10, 11, 12, 13] [] [0, 1, 2, 3, 4, 5, 6, 7, 8, 9, 10, 11, 12, 13] rfl rfl rfl (by decide) rfl rfl (va_runV (As := []) (rest := []) ⟨hx, hb, hml, hown, hta⟩ (c_X12_laysPieces l dC dI cI H.size a0 v0_2 u_6.2 v0_5 v0_12 v0_13 v0_16 v0_17 v0_21 v0_23 v0_24 v0_25 v0_26 v0_29 v0_30 v0_0 v0_6 v0_7 v0_8 v0_9 v0_10 v0_11 v0_14 v0_15 v0_18 v0_19 v0_20 v0_22 n u_8 hu_8) (cwV 0 hta (ga_V mA1024 mA1025 mA1026 mA814 mA1006) rfl rfl rfl (by decide +kernel) ⟨Nat.le_of_ble_eq_true rfl, Nat.le_of_ble_eq_true rfl⟩) ⟨q_fb, va_recv hK hP (ci := 11) (q0 := 0) rfl rfl, q_ps hPc hK hDc⟩ rfl rfl hl.1 rfl (lv_room (Nat.le_of_ble_eq_true rfl)) dX12_covering_41 ⟨Nat.zero_le _, Nat.zero_le _⟩) (fun H locs hP hD hS => ?_)
      refine lv_iconst (v := 0) hx hb dX12_covering_44 (by decide) ?_
      refine lv_istore_n (lv' := [(3, .int 0), (0, .ref (a0 0)), (1, .int x1), (2, .int x2)]) hx hb dX12_covering_45 rfl hl (by decide) rfl (fun ls hl => ?_)
      refine lv_iconst (v := 0) hx hb dX12_covering_46 (by decide) ?_
      refine lv_istore (lv' := [(4, .int 0), (3, .int 0), (0, .ref (a0 0)), (1, .int x1), (2, .int x2)]) hx hb dX12_covering_47 hl (by decide) rfl (fun ls hl => ?_)
      exact j49 u_6.2 u_8.1 u_8.2.1 u_8.2.2.1 u_8.2.2.2.1 u_8.2.2.2.2.1 u_8.2.2.2.2.2.1 u_8.2.2.2.2.2.2.1 u_8.2.2.2.2.2.2.2.1 u_8.2.2.2.2.2.2.2.2.1 u_8.2.2.2.2.2.2.2.2.2.1 u_8.2.2.2.2.2.2.2.2.2.2.1 u_8.2.2.2.2.2.2.2.2.2.2.2.1 u_8.2.2.2.2.2.2.2.2.2.2.2.2.1 u_8.2.2.2.2.2.2.2.2.2.2.2.2.2.1 u_8.2.2.2.2.2.2.2.2.2.2.2.2.2.2.1 u_8.2.2.2.2.2.2.2.2.2.2.2.2.2.2.2.1 u_8.2.2.2.2.2.2.2.2.2.2.2.2.2.2.2.2.1 u_8.2.2.2.2.2.2.2.2.2.2.2.2.2.2.2.2.2 x1 x2 0 0 hF _ _ _ hP hD hS (lv_sub hl [2, 3, 4, 1, 0] rfl)
    · have hF := it_f hF c_7
      refine lv_iconst (v := 0) hx hb dX12_covering_38 (by decide) ?_
      obtain rfl := Option.some.inj hF
      exact W.iret (v := 0) hx hb hr (fun t ht hW => ⟨⟨0, (), rfl, rfl, by rw [ht]; exact hP, va_K.moved hW.alike hK, hD⟩, hS.F ht⟩) hS.2.2 dX12_covering_39
  have j31 : ∀ (v0_3 : Int32) (v0_12 : Int32) (v0_13 : Int32) (v0_16 : Int32) (v0_17 : Int32) (v0_21 : Int32) (v0_23 : Int32) (v0_6 : Nat → Int32) (v0_7 : Nat → Int32) (v0_8 : Nat → Int32) (v0_9 : Nat → Int32) (v0_10 : Nat → Int32) (v0_11 : Nat → Int32) (v0_14 : Nat → Int32) (v0_15 : Nat → Int32) (v0_18 : Nat → Int32) (v0_19 : Nat → Int32) (v0_20 : Nat → Int32) (v0_22 : Nat → Int32) (x1 : Int32) (x2 : Int32), F_X12_covering_j31 n v0_12 v0_13 v0_16 v0_17 v0_21 v0_23 v0_0 v0_6 v0_7 v0_8 v0_9 v0_10 v0_11 v0_14 v0_15 v0_18 v0_19 v0_20 v0_22 x1 x2 = some u → ∀ (H : Heap) (locs : List Loc) (ls : Array Slot), va_P (dC, dI) vwCl (wd_X12_covering cI a0 v0_2 v0_3 v0_5 v0_12 v0_13 v0_16 v0_17 v0_21 v0_23 v0_24 v0_25 v0_26 v0_29 v0_30 v0_0 v0_6 v0_7 v0_8 v0_9 v0_10 v0_11 v0_14 v0_15 v0_18 v0_19 v0_20 v0_22) H → va_D A (wd_X12_covering cI a0 v0_2 v0_3 v0_5 v0_12 v0_13 v0_16 v0_17 v0_21 v0_23 v0_24 v0_25 v0_26 v0_29 v0_30 v0_0 v0_6 v0_7 v0_8 v0_9 v0_10 v0_11 v0_14 v0_15 v0_18 v0_19 v0_20 v0_22) → va_S A s.heap H locs → lv_has ls 5 [(0, .ref (a0 0)), (1, .int x1), (2, .int x2)] → W p l e (headSpec wz_X12_covering rm_X12_covering).room s m [.ref (a0 0), .int p1, .int p2].toArray below meth c H locs 0 0 (MQ below (Q_X12_covering dC dI cI a0 v0_2 v0_5 v0_24 v0_25 v0_26 v0_29 v0_30 v0_0 u A) [.ref (a0 0), .int p1, .int p2].toArray s 0 0 A) (F0 m 31 ls [.ref (a0 0)]) := by
    intro v0_3 v0_12 v0_13 v0_16 v0_17 v0_21 v0_23 v0_6 v0_7 v0_8 v0_9 v0_10 v0_11 v0_14 v0_15 v0_18 v0_19 v0_20 v0_22 x1 x2 hF H locs ls hP hD hS hl
    unfold F_X12_covering_j31 at hF
    refine lv_iconst (v := 1) hx hb dX12_covering_31 (by decide) ?_
    exact j32 v0_3 v0_12 v0_13 v0_16 v0_17 v0_21 v0_23 v0_6 v0_7 v0_8 v0_9 v0_10 v0_11 v0_14 v0_15 v0_18 v0_19 v0_20 v0_22 x1 x2 1 hF _ _ _ hP hD hS (lv_sub hl [0, 1, 2] rfl)
  refine lv_aload_n hx hb dX12_covering_0 rfl (lv_at hl 0 rfl) ?_
  refine lv_iload_n hx hb dX12_covering_1 rfl (lv_at hl 1 rfl) ?_
  refine lv_sipush (v := (-20000)) hx hb dX12_covering_2 (by decide) ?_
  refine lv_sipush (v := 20000) hx hb dX12_covering_5 (by decide) ?_
  obtain ⟨u_9, hu_9, hF⟩ := lt_some hF
  have hPc := hP.sub (ws' := ([] : va_W)) [] rfl
  have hDc := hD.sub (ws' := ([] : va_W)) [] rfl rfl
  refine q_callz (wc := ([] : va_W)) (w1 := ([] : va_W)) (ws' := (wd_X12_covering cI a0 v0_2 v0_3 v0_5 v0_12 v0_13 v0_16 v0_17 v0_21 v0_23 v0_24 v0_25 v0_26 v0_29 v0_30 v0_0 v0_6 v0_7 v0_8 v0_9 v0_10 v0_11 v0_14 v0_15 v0_18 v0_19 v0_20 v0_22)) hP hD hS hA [] [0, 1, 2, 3, 4, 5, 6, 7, 8, 9, 10, 11, 12, 13] [0, 1, 2, 3, 4, 5, 6, 7, 8, 9, 10, 11, 12, 13] rfl rfl rfl (by decide) rfl rfl (va_runS (As := [.int p1, .int (-20000), .int 20000]) (rest := [.ref (a0 0)]) ⟨hx, hb, hml, hown, hta⟩ (c_X12_within l dC dI cI H.size p1 (-20000) 20000 u_9 hu_9.symm) (va_cwS 3 hta (ga_S mA812 mA813 mA814 mA810) rfl rfl rfl (by decide +kernel) ⟨Nat.le_of_ble_eq_true rfl, Nat.le_of_ble_eq_true rfl⟩) ⟨q_fb, q_ps hPc hK hDc⟩ rfl rfl hl.1 rfl (lv_room (Nat.le_of_ble_eq_true rfl)) dX12_covering_8 ⟨Nat.zero_le _, Nat.zero_le _⟩) (fun hzu_9 H locs hP hD hS => ?_)
  refine lv_if_eq (tgt := 31) hx hb dX12_covering_11 (by decide) (fun c_10 => ?_) (fun c_10 => ?_)
  · have hF := it_t hF c_10
    exact j31 v0_3 v0_12 v0_13 v0_16 v0_17 v0_21 v0_23 v0_6 v0_7 v0_8 v0_9 v0_10 v0_11 v0_14 v0_15 v0_18 v0_19 v0_20 v0_22 p1 p2 hF _ _ _ hP hD hS (lv_sub hl [0, 1, 2] rfl)
  · have hF := it_f hF c_10
    refine lv_iload_n hx hb dX12_covering_14 rfl (lv_at hl 2 rfl) ?_
    refine lv_sipush (v := (-20000)) hx hb dX12_covering_15 (by decide) ?_
    refine lv_sipush (v := 20000) hx hb dX12_covering_18 (by decide) ?_
    obtain ⟨u_11, hu_11, hF⟩ := lt_some hF
    have hPc := hP.sub (ws' := ([] : va_W)) [] rfl
    have hDc := hD.sub (ws' := ([] : va_W)) [] rfl rfl
    refine q_callz (wc := ([] : va_W)) (w1 := ([] : va_W)) (ws' := (wd_X12_covering cI a0 v0_2 v0_3 v0_5 v0_12 v0_13 v0_16 v0_17 v0_21 v0_23 v0_24 v0_25 v0_26 v0_29 v0_30 v0_0 v0_6 v0_7 v0_8 v0_9 v0_10 v0_11 v0_14 v0_15 v0_18 v0_19 v0_20 v0_22)) hP hD hS hA [] [0, 1, 2, 3, 4, 5, 6, 7, 8, 9, 10, 11, 12, 13] [0, 1, 2, 3, 4, 5, 6, 7, 8, 9, 10, 11, 12, 13] rfl rfl rfl (by decide) rfl rfl (va_runS (As := [.int p2, .int (-20000), .int 20000]) (rest := [.ref (a0 0)]) ⟨hx, hb, hml, hown, hta⟩ (c_X12_within l dC dI cI H.size p2 (-20000) 20000 u_11 hu_11.symm) (va_cwS 3 hta (ga_S mA812 mA813 mA814 mA810) rfl rfl rfl (by decide +kernel) ⟨Nat.le_of_ble_eq_true rfl, Nat.le_of_ble_eq_true rfl⟩) ⟨q_fb, q_ps hPc hK hDc⟩ rfl rfl hl.1 rfl (lv_room (Nat.le_of_ble_eq_true rfl)) dX12_covering_21 ⟨Nat.zero_le _, Nat.zero_le _⟩) (fun hzu_11 H locs hP hD hS => ?_)
    refine lv_if_eq (tgt := 31) hx hb dX12_covering_24 (by decide) (fun c_12 => ?_) (fun c_12 => ?_)
    · have hF := it_t hF c_12
      exact j31 v0_3 v0_12 v0_13 v0_16 v0_17 v0_21 v0_23 v0_6 v0_7 v0_8 v0_9 v0_10 v0_11 v0_14 v0_15 v0_18 v0_19 v0_20 v0_22 p1 p2 hF _ _ _ hP hD hS (lv_sub hl [0, 1, 2] rfl)
    · have hF := it_f hF c_12
      refine lv_iconst (v := 0) hx hb dX12_covering_27 (by decide) ?_
      refine lv_goto (tgt := 32) hx hb dX12_covering_28 (by decide) ?_
      exact j32 v0_3 v0_12 v0_13 v0_16 v0_17 v0_21 v0_23 v0_6 v0_7 v0_8 v0_9 v0_10 v0_11 v0_14 v0_15 v0_18 v0_19 v0_20 v0_22 p1 p2 0 hF _ _ _ hP hD hS (lv_sub hl [0, 1, 2] rfl)

-- StrokeOutlinerModel.isCovered(II)Z
def F_X12_isCovered_j28  : Option (Int32) :=
  some 0
def F_X12_isCovered_j20  : Option (Int32) :=
  some 1
def F_X12_isCovered_b2 (n : Nat) (v0_23 : Int32) (v0_0 : Nat → Int32) (v0_22 : Nat → Int32) (x1 : Int32) (x2 : Int32) (s2 : Int32) : Option (Sum (Int32) (Sum (Unit) (Unit))) :=
  if v0_23 ≤ s2 then some (.inr (.inr ())) else obd (F_X12_covers n v0_0 v0_22 s2 x1 x2) (fun u_2 => if u_2 = 0 then lt (s2 + 1) (fun y_4 => some (.inl y_4)) else some (.inr (.inl ())))
def F_X12_isCovered_j2 (n : Nat) (v0_23 : Int32) (v0_0 : Nat → Int32) (v0_22 : Nat → Int32) (x1 : Int32) (x2 : Int32) (x3 : Int32) : Option (Int32) :=
  obd (lpq (F_X12_isCovered_b2 n v0_23 v0_0 v0_22 x1 x2) n x3) (fun x_2 => Sum.elim (fun x_2 => F_X12_isCovered_j20) (fun x_2 => F_X12_isCovered_j28) x_2)
def F_X12_isCovered (n : Nat) (v0_23 : Int32) (v0_0 : Nat → Int32) (v0_22 : Nat → Int32) (p1 : Int32) (p2 : Int32) : Option (Int32) :=
  F_X12_isCovered_j2 n v0_23 v0_0 v0_22 p1 p2 0
abbrev wd_X12_isCovered (cI : ClassId) (a0 : Nat → Nat) (v0_2 : Int32) (v0_3 : Int32) (v0_5 : Int32) (v0_12 : Int32) (v0_13 : Int32) (v0_16 : Int32) (v0_17 : Int32) (v0_21 : Int32) (v0_23 : Int32) (v0_24 : Int32) (v0_25 : Int32) (v0_26 : Int32) (v0_29 : Int32) (v0_30 : Int64) (v0_0 : Nat → Int32) (v0_22 : Nat → Int32) : va_W := [(a0 0, .inr (11, [.ref (a0 1), .ref (a0 2), .int v0_2, .int v0_3, .ref (a0 5), .int v0_5, .ref (a0 7), .ref (a0 8), .ref (a0 9), .ref (a0 10), .ref (a0 11), .ref (a0 12), .int v0_12, .int v0_13, .ref (a0 15), .ref (a0 16), .int v0_16, .int v0_17, .ref (a0 19), .ref (a0 20), .ref (a0 21), .int v0_21, .ref (a0 23), .int v0_23, .int v0_24, .int v0_25, .int v0_26, .ref (a0 28), .ref (a0 29), .int v0_29, .long v0_30])), (a0 1, .inl (cI, 86, .inl v0_0)), (a0 23, .inl (cI, 27000, .inl v0_22))]
abbrev wz_X12_isCovered : List Cond := .code yX12_isCovered cX12_isCovered 4 (some .boolean) :: wALL
abbrev rm_X12_isCovered : Room := { frames := 5, cells := 0, slots := 0, locals := 122 }
abbrev Q_X12_isCovered (dC : Nat → ClassId) (dI : Nat → Nat → Nat) (cI : ClassId) (a0 : Nat → Nat) (v0_2 : Int32) (v0_3 : Int32) (v0_5 : Int32) (v0_12 : Int32) (v0_13 : Int32) (v0_16 : Int32) (v0_17 : Int32) (v0_21 : Int32) (v0_23 : Int32) (v0_24 : Int32) (v0_25 : Int32) (v0_26 : Int32) (v0_29 : Int32) (v0_30 : Int64) (v0_0 : Nat → Int32) (v0_22 : Nat → Int32) (u : (Int32)) (A : Nat → Prop) : Array Value → State → Outcome → State → Prop := va_Qi (fun (r : Int32) (_ : Unit) => r = u ∧ (u = 0 ∨ u = 1)) (fun _ => q_at dC dI cI A (wd_X12_isCovered cI a0 v0_2 v0_3 v0_5 v0_12 v0_13 v0_16 v0_17 v0_21 v0_23 v0_24 v0_25 v0_26 v0_29 v0_30 v0_0 v0_22)) A
set_option maxHeartbeats 4000000 in
set_option maxRecDepth 100000 in
theorem c_X12_isCovered (l : Launch) (dC : Nat → ClassId) (dI : Nat → Nat → Nat) (cI : ClassId) (sz : Nat) (a0 : Nat → Nat) (v0_2 : Int32) (v0_3 : Int32) (v0_5 : Int32) (v0_12 : Int32) (v0_13 : Int32) (v0_16 : Int32) (v0_17 : Int32) (v0_21 : Int32) (v0_23 : Int32) (v0_24 : Int32) (v0_25 : Int32) (v0_26 : Int32) (v0_29 : Int32) (v0_30 : Int64) (v0_0 : Nat → Int32) (v0_22 : Nat → Int32) (p1 : Int32) (p2 : Int32) (n : Nat) (u : (Int32)) (hF : F_X12_isCovered n v0_23 v0_0 v0_22 p1 p2 = some u) : Met l yX12_isCovered wz_X12_isCovered rm_X12_isCovered (va_Pc [.ref (a0 0), .int p1, .int p2] (q_pre dC dI cI (wd_X12_isCovered cI a0 v0_2 v0_3 v0_5 v0_12 v0_13 v0_16 v0_17 v0_21 v0_23 v0_24 v0_25 v0_26 v0_29 v0_30 v0_0 v0_22) sz)) (Q_X12_isCovered dC dI cI a0 v0_2 v0_3 v0_5 v0_12 v0_13 v0_16 v0_17 v0_21 v0_23 v0_24 v0_25 v0_26 v0_29 v0_30 v0_0 v0_22 u (va_A (wd_X12_isCovered cI a0 v0_2 v0_3 v0_5 v0_12 v0_13 v0_16 v0_17 v0_21 v0_23 v0_24 v0_25 v0_26 v0_29 v0_30 v0_0 v0_22) sz)) 0 0 (va_A (wd_X12_isCovered cI a0 v0_2 v0_3 v0_5 v0_12 v0_13 v0_16 v0_17 v0_21 v0_23 v0_24 v0_25 v0_26 v0_29 v0_30 v0_0 v0_22) sz) := by
  refine Met.ofW (cc := cX12_isCovered) (maxL := 4) (ret := (some .boolean)) (by decide) rfl ?_
  intro p e s m args below meth c s₁ B hml hv
  obtain ⟨rfl, hsz, hP, hK, hD0⟩ := hv
  have hx := B.exec
  have hb := B.bytes
  have hr := B.returns
  have hts := atoms_spec (ws := wz_X12_isCovered) B.pre
  have hta := wz_tl hts
  have hown : s.vm.findClass RX12 = some m.cls := findClass_of_methodNamed B.named
  have hlocks := B.notSynchronized
  subst hsz
  have hD := hD0.self (sz := s.heap.size)
  generalize hAe : va_A (wd_X12_isCovered cI a0 v0_2 v0_3 v0_5 v0_12 v0_13 v0_16 v0_17 v0_21 v0_23 v0_24 v0_25 v0_26 v0_29 v0_30 v0_0 v0_22) s.heap.size = A at hD ⊢
  have hA : ∀ q : Nat, s.heap.size ≤ q → A q := fun q h => by rw [← hAe]; exact Or.inr h
  have hS : va_S A s.heap s.heap [] := va_S.rf
  have hP : va_P (dC, dI) vwCl (wd_X12_isCovered cI a0 v0_2 v0_3 v0_5 v0_12 v0_13 v0_16 v0_17 v0_21 v0_23 v0_24 v0_25 v0_26 v0_29 v0_30 v0_0 v0_22) s.heap := hP
  have hl := lv_entry ([.ref (a0 0), .int p1, .int p2]) (n := 4) (Nat.le_of_ble_eq_true rfl)
  rw [lg_entry_eq]
  generalize (lg_sl ([.ref (a0 0), .int p1, .int p2]) ++ List.replicate (4 - (lg_sl ([.ref (a0 0), .int p1, .int p2])).length) Slot.unset).toArray = ls at hl ⊢
  have hl : lv_has ls 4 [(0, .ref (a0 0)), (1, .int p1), (2, .int p2)] := hl
  obtain ⟨H, hHe⟩ : ∃ H, H = s.heap := ⟨_, rfl⟩
  have hS : va_S A s.heap H [] := by rw [hHe]; exact hS
  have hP : va_P (dC, dI) vwCl (wd_X12_isCovered cI a0 v0_2 v0_3 v0_5 v0_12 v0_13 v0_16 v0_17 v0_21 v0_23 v0_24 v0_25 v0_26 v0_29 v0_30 v0_0 v0_22) H := by rw [hHe]; exact hP
  rw [← hHe]
  unfold F_X12_isCovered at hF
  have j28 : ∀ (_ : Unit), F_X12_isCovered_j28 = some u → ∀ (H : Heap) (locs : List Loc) (ls : Array Slot), va_P (dC, dI) vwCl (wd_X12_isCovered cI a0 v0_2 v0_3 v0_5 v0_12 v0_13 v0_16 v0_17 v0_21 v0_23 v0_24 v0_25 v0_26 v0_29 v0_30 v0_0 v0_22) H → va_D A (wd_X12_isCovered cI a0 v0_2 v0_3 v0_5 v0_12 v0_13 v0_16 v0_17 v0_21 v0_23 v0_24 v0_25 v0_26 v0_29 v0_30 v0_0 v0_22) → va_S A s.heap H locs → lv_has ls 4 [] → W p l e (headSpec wz_X12_isCovered rm_X12_isCovered).room s m [.ref (a0 0), .int p1, .int p2].toArray below meth c H locs 0 0 (MQ below (Q_X12_isCovered dC dI cI a0 v0_2 v0_3 v0_5 v0_12 v0_13 v0_16 v0_17 v0_21 v0_23 v0_24 v0_25 v0_26 v0_29 v0_30 v0_0 v0_22 u A) [.ref (a0 0), .int p1, .int p2].toArray s 0 0 A) (F0 m 28 ls []) := by
    intro _ hF H locs ls hP hD hS hl
    unfold F_X12_isCovered_j28 at hF
    refine lv_iconst (v := 0) hx hb dX12_isCovered_28 (by decide) ?_
    obtain rfl := Option.some.inj hF
    exact W.zret (v := 0) (ty := .boolean) hx hb hr (z_nar (Or.inl rfl)) (fun t ht hW => ⟨⟨0, (), rfl, ⟨rfl, (Or.inl rfl)⟩, by rw [ht]; exact hP, va_K.moved hW.alike hK, hD⟩, hS.F ht⟩) hS.2.2 dX12_isCovered_29
  have j20 : ∀ (_ : Unit), F_X12_isCovered_j20 = some u → ∀ (H : Heap) (locs : List Loc) (ls : Array Slot), va_P (dC, dI) vwCl (wd_X12_isCovered cI a0 v0_2 v0_3 v0_5 v0_12 v0_13 v0_16 v0_17 v0_21 v0_23 v0_24 v0_25 v0_26 v0_29 v0_30 v0_0 v0_22) H → va_D A (wd_X12_isCovered cI a0 v0_2 v0_3 v0_5 v0_12 v0_13 v0_16 v0_17 v0_21 v0_23 v0_24 v0_25 v0_26 v0_29 v0_30 v0_0 v0_22) → va_S A s.heap H locs → lv_has ls 4 [] → W p l e (headSpec wz_X12_isCovered rm_X12_isCovered).room s m [.ref (a0 0), .int p1, .int p2].toArray below meth c H locs 0 0 (MQ below (Q_X12_isCovered dC dI cI a0 v0_2 v0_3 v0_5 v0_12 v0_13 v0_16 v0_17 v0_21 v0_23 v0_24 v0_25 v0_26 v0_29 v0_30 v0_0 v0_22 u A) [.ref (a0 0), .int p1, .int p2].toArray s 0 0 A) (F0 m 20 ls []) := by
    intro _ hF H locs ls hP hD hS hl
    unfold F_X12_isCovered_j20 at hF
    refine lv_iconst (v := 1) hx hb dX12_isCovered_20 (by decide) ?_
    obtain rfl := Option.some.inj hF
    exact W.zret (v := 1) (ty := .boolean) hx hb hr (z_nar (Or.inr rfl)) (fun t ht hW => ⟨⟨1, (), rfl, ⟨rfl, (Or.inr rfl)⟩, by rw [ht]; exact hP, va_K.moved hW.alike hK, hD⟩, hS.F ht⟩) hS.2.2 dX12_isCovered_21
  have j2 : ∀ (x1 : Int32) (x2 : Int32) (x3 : Int32), F_X12_isCovered_j2 n v0_23 v0_0 v0_22 x1 x2 x3 = some u → ∀ (H : Heap) (locs : List Loc) (ls : Array Slot), va_P (dC, dI) vwCl (wd_X12_isCovered cI a0 v0_2 v0_3 v0_5 v0_12 v0_13 v0_16 v0_17 v0_21 v0_23 v0_24 v0_25 v0_26 v0_29 v0_30 v0_0 v0_22) H → va_D A (wd_X12_isCovered cI a0 v0_2 v0_3 v0_5 v0_12 v0_13 v0_16 v0_17 v0_21 v0_23 v0_24 v0_25 v0_26 v0_29 v0_30 v0_0 v0_22) → va_S A s.heap H locs → lv_has ls 4 [(0, .ref (a0 0)), (1, .int x1), (2, .int x2), (3, .int x3)] → W p l e (headSpec wz_X12_isCovered rm_X12_isCovered).room s m [.ref (a0 0), .int p1, .int p2].toArray below meth c H locs 0 0 (MQ below (Q_X12_isCovered dC dI cI a0 v0_2 v0_3 v0_5 v0_12 v0_13 v0_16 v0_17 v0_21 v0_23 v0_24 v0_25 v0_26 v0_29 v0_30 v0_0 v0_22 u A) [.ref (a0 0), .int p1, .int p2].toArray s 0 0 A) (F0 m 2 ls []) := by
    intro x1 x2 x3 hF H locs ls hP hD hS hl
    unfold F_X12_isCovered_j2 at hF
    obtain ⟨x_2, hL_2, hE_2⟩ := obd_some hF
    have kl_2 : ∀ (k : Nat) (s2 : Int32), lpq (F_X12_isCovered_b2 n v0_23 v0_0 v0_22 x1 x2) k s2 = some x_2 → ∀ (H : Heap) (locs : List Loc) (ls : Array Slot), va_P (dC, dI) vwCl (wd_X12_isCovered cI a0 v0_2 v0_3 v0_5 v0_12 v0_13 v0_16 v0_17 v0_21 v0_23 v0_24 v0_25 v0_26 v0_29 v0_30 v0_0 v0_22) H → va_D A (wd_X12_isCovered cI a0 v0_2 v0_3 v0_5 v0_12 v0_13 v0_16 v0_17 v0_21 v0_23 v0_24 v0_25 v0_26 v0_29 v0_30 v0_0 v0_22) → va_S A s.heap H locs → lv_has ls 4 [(0, .ref (a0 0)), (1, .int x1), (2, .int x2), (3, .int s2)] → W p l e (headSpec wz_X12_isCovered rm_X12_isCovered).room s m [.ref (a0 0), .int p1, .int p2].toArray below meth c H locs 0 0 (MQ below (Q_X12_isCovered dC dI cI a0 v0_2 v0_3 v0_5 v0_12 v0_13 v0_16 v0_17 v0_21 v0_23 v0_24 v0_25 v0_26 v0_29 v0_30 v0_0 v0_22 u A) [.ref (a0 0), .int p1, .int p2].toArray s 0 0 A) (F0 m 2 ls []) := by
      intro k
      induction k with
      | zero => intro s2 h; exact absurd h lpq_zero
      | succ k ih_2 =>
        intro s2 h H locs ls hP hD hS hl
        obtain ⟨o_2, hF, hO_2⟩ := lpq_succ h
        unfold F_X12_isCovered_b2 at hF
        refine lv_iload_n hx hb dX12_isCovered_2 rfl (lv_at hl 3 rfl) ?_
        refine lv_aload_n hx hb dX12_isCovered_3 rfl (lv_at hl 0 rfl) ?_
        refine va_get (D := (dC, dI)) (ci := 11) (v := .int v0_23) (C := RX12) (T := TX12) (N := 31) hx hb hta uw_X12 hown hK hP 0 rfl rfl 23 (by decide) (hta _ mA953) (fun _ h9 => h9) rfl dX12_isCovered_4 ?_
        refine lv_icmp_ge (tgt := 28) hx hb dX12_isCovered_7 (by decide) (fun c_1 => ?_) (fun c_1 => ?_)
        · have hF := it_t hF c_1
          obtain rfl := Option.some.inj hF
          obtain rfl := lpq_x hO_2
          have hF := hE_2
          have hF := el_r hF
          exact j28 () hF _ _ _ hP hD hS (lv_sub hl [] rfl)
        · have hF := it_f hF c_1
          refine lv_aload_n hx hb dX12_isCovered_10 rfl (lv_at hl 0 rfl) ?_
          refine lv_iload_n hx hb dX12_isCovered_11 rfl (lv_at hl 3 rfl) ?_
          refine lv_iload_n hx hb dX12_isCovered_12 rfl (lv_at hl 1 rfl) ?_
          refine lv_iload_n hx hb dX12_isCovered_13 rfl (lv_at hl 2 rfl) ?_
          obtain ⟨u_2, hu_2, hF⟩ := obd_some hF
          have hPc := hP.sub (ws' := (wd_X12_covers cI a0 v0_2 v0_3 v0_5 v0_12 v0_13 v0_16 v0_17 v0_21 v0_23 v0_24 v0_25 v0_26 v0_29 v0_30 v0_0 v0_22)) [0, 1, 2] rfl
          have hDc := hD.sub (ws' := (wd_X12_covers cI a0 v0_2 v0_3 v0_5 v0_12 v0_13 v0_16 v0_17 v0_21 v0_23 v0_24 v0_25 v0_26 v0_29 v0_30 v0_0 v0_22)) [0, 1, 2] rfl rfl
          refine q_callz (wc := (wd_X12_covers cI a0 v0_2 v0_3 v0_5 v0_12 v0_13 v0_16 v0_17 v0_21 v0_23 v0_24 v0_25 v0_26 v0_29 v0_30 v0_0 v0_22)) (w1 := (wd_X12_covers cI a0 v0_2 v0_3 v0_5 v0_12 v0_13 v0_16 v0_17 v0_21 v0_23 v0_24 v0_25 v0_26 v0_29 v0_30 v0_0 v0_22)) (ws' := (wd_X12_isCovered cI a0 v0_2 v0_3 v0_5 v0_12 v0_13 v0_16 v0_17 v0_21 v0_23 v0_24 v0_25 v0_26 v0_29 v0_30 v0_0 v0_22)) hP hD hS hA [0, 1, 2] [] [0, 1, 2] rfl rfl rfl (by decide) rfl rfl (va_runV (As := [.int s2, .int x1, .int x2]) (rest := []) ⟨hx, hb, hml, hown, hta⟩ (c_X12_covers l dC dI cI H.size a0 v0_2 v0_3 v0_5 v0_12 v0_13 v0_16 v0_17 v0_21 v0_23 v0_24 v0_25 v0_26 v0_29 v0_30 v0_0 v0_22 s2 x1 x2 n u_2 hu_2) (cwV 3 hta (ga_V mA1052 mA1053 mA1054 mA814 mA1044) rfl rfl rfl (by decide +kernel) ⟨Nat.le_of_ble_eq_true rfl, Nat.le_of_ble_eq_true rfl⟩) ⟨q_fb, va_recv hK hP (ci := 11) (q0 := 0) rfl rfl, q_ps hPc hK hDc⟩ rfl rfl hl.1 rfl (lv_room (Nat.le_of_ble_eq_true rfl)) dX12_isCovered_14 ⟨Nat.zero_le _, Nat.zero_le _⟩) (fun hzu_2 H locs hP hD hS => ?_)
          refine lv_if_eq (tgt := 22) hx hb dX12_isCovered_17 (by decide) (fun c_3 => ?_) (fun c_3 => ?_)
          · have hF := it_t hF c_3
            obtain ⟨y_4, ey_4, hF⟩ := lt_some hF
            refine lv_iinc (v := y_4) (lv' := [(3, .int y_4), (0, .ref (a0 0)), (1, .int x1), (2, .int x2)]) hx hb dX12_isCovered_22 hl (k := 3) rfl (by rw [ey_4]; rfl) (by decide) rfl (fun ls hl => ?_)
            refine lv_goto (tgt := 2) hx hb dX12_isCovered_25 (by decide) ?_
            obtain rfl := Option.some.inj hF
            exact ih_2 _ hO_2 _ _ _ hP hD hS (lv_sub hl [1, 2, 3, 0] rfl)
          · have hF := it_f hF c_3
            obtain rfl := Option.some.inj hF
            obtain rfl := lpq_x hO_2
            have hF := hE_2
            have hF := el_l hF
            exact j20 () hF _ _ _ hP hD hS (lv_sub hl [] rfl)
    exact kl_2 n _ hL_2 _ _ _ hP hD hS hl
  refine lv_iconst (v := 0) hx hb dX12_isCovered_0 (by decide) ?_
  refine lv_istore_n (lv' := [(3, .int 0), (0, .ref (a0 0)), (1, .int p1), (2, .int p2)]) hx hb dX12_isCovered_1 rfl hl (by decide) rfl (fun ls hl => ?_)
  exact j2 p1 p2 0 hF _ _ _ hP hD hS (lv_sub hl [1, 2, 3, 0] rfl)

-- StrokeOutlinerModel.covered(IIII)I
def F_X12_covered_j112 (v0_3 : Int32) (v0_12 : Int32) (v0_13 : Int32) (v0_16 : Int32) (v0_17 : Int32) (v0_21 : Int32) (v0_23 : Int32) (v0_6 : Nat → Int32) (v0_7 : Nat → Int32) (v0_8 : Nat → Int32) (v0_9 : Nat → Int32) (v0_10 : Nat → Int32) (v0_11 : Nat → Int32) (v0_14 : Nat → Int32) (v0_15 : Nat → Int32) (v0_18 : Nat → Int32) (v0_19 : Nat → Int32) (v0_20 : Nat → Int32) (v0_22 : Nat → Int32) (x5 : Int32) : Option (Int32 × Int32 × Int32 × Int32 × Int32 × Int32 × Int32 × Int32 × (Nat → Int32) × (Nat → Int32) × (Nat → Int32) × (Nat → Int32) × (Nat → Int32) × (Nat → Int32) × (Nat → Int32) × (Nat → Int32) × (Nat → Int32) × (Nat → Int32) × (Nat → Int32) × (Nat → Int32)) :=
  some (x5, v0_3, v0_12, v0_13, v0_16, v0_17, v0_21, v0_23, v0_6, v0_7, v0_8, v0_9, v0_10, v0_11, v0_14, v0_15, v0_18, v0_19, v0_20, v0_22)
def F_X12_covered_j106 (x5 : Int32) (x6 : Int32) : Option (Sum (Int32 × Int32) (Int32)) :=
  lt (x6 + 1) (fun y_1 => some (.inl (x5, y_1)))
def F_X12_covered_j97 (x7 : Int32) (t0 : Int32) (t1 : Int32) : Option (Sum (Int32 × Int32) (Int32)) :=
  lt (t0 + t1) (fun y_2 => lt (x7 + 1) (fun y_3 => some (.inl (y_2, y_3))))
def F_X12_covered_b64 (n : Nat) (v0_23 : Int32) (v0_0 : Nat → Int32) (v0_22 : Nat → Int32) (x2 : Int32) (x4 : Int32) (x6 : Int32) (s64 : Int32 × Int32) : Option (Sum (Int32 × Int32) (Int32)) :=
  if (x2 + x4) < s64.2 then some (.inr s64.1) else obd (F_X12_isCovered n v0_23 v0_0 v0_22 (64 * x6) (64 * s64.2)) (fun u_5 => if u_5 = 0 then F_X12_covered_j97 s64.2 s64.1 0 else F_X12_covered_j97 s64.2 s64.1 1)
def F_X12_covered_j64 (n : Nat) (v0_23 : Int32) (v0_0 : Nat → Int32) (v0_22 : Nat → Int32) (x2 : Int32) (x4 : Int32) (x5 : Int32) (x6 : Int32) (x7 : Int32) : Option (Sum (Int32 × Int32) (Int32)) :=
  obd (lpq (F_X12_covered_b64 n v0_23 v0_0 v0_22 x2 x4 x6) n (x5, x7)) (fun x_64 => F_X12_covered_j106 x_64 x6)
def F_X12_covered_b53 (n : Nat) (v0_23 : Int32) (v0_0 : Nat → Int32) (v0_22 : Nat → Int32) (x1 : Int32) (x2 : Int32) (x3 : Int32) (x4 : Int32) (s53 : Int32 × Int32) : Option (Sum (Int32 × Int32) (Int32)) :=
  if (x1 + x3) < s53.2 then some (.inr s53.1) else F_X12_covered_j64 n v0_23 v0_0 v0_22 x2 x4 s53.1 s53.2 x2
def F_X12_covered_j53 (n : Nat) (v0_3 : Int32) (v0_12 : Int32) (v0_13 : Int32) (v0_16 : Int32) (v0_17 : Int32) (v0_21 : Int32) (v0_23 : Int32) (v0_0 : Nat → Int32) (v0_6 : Nat → Int32) (v0_7 : Nat → Int32) (v0_8 : Nat → Int32) (v0_9 : Nat → Int32) (v0_10 : Nat → Int32) (v0_11 : Nat → Int32) (v0_14 : Nat → Int32) (v0_15 : Nat → Int32) (v0_18 : Nat → Int32) (v0_19 : Nat → Int32) (v0_20 : Nat → Int32) (v0_22 : Nat → Int32) (x1 : Int32) (x2 : Int32) (x3 : Int32) (x4 : Int32) (x5 : Int32) (x6 : Int32) : Option (Int32 × Int32 × Int32 × Int32 × Int32 × Int32 × Int32 × Int32 × (Nat → Int32) × (Nat → Int32) × (Nat → Int32) × (Nat → Int32) × (Nat → Int32) × (Nat → Int32) × (Nat → Int32) × (Nat → Int32) × (Nat → Int32) × (Nat → Int32) × (Nat → Int32) × (Nat → Int32)) :=
  obd (lpq (F_X12_covered_b53 n v0_23 v0_0 v0_22 x1 x2 x3 x4) n (x5, x6)) (fun x_53 => F_X12_covered_j112 v0_3 v0_12 v0_13 v0_16 v0_17 v0_21 v0_23 v0_6 v0_7 v0_8 v0_9 v0_10 v0_11 v0_14 v0_15 v0_18 v0_19 v0_20 v0_22 x_53)
def F_X12_covered_j35 (n : Nat) (v0_12 : Int32) (v0_13 : Int32) (v0_16 : Int32) (v0_17 : Int32) (v0_21 : Int32) (v0_23 : Int32) (v0_0 : Nat → Int32) (v0_6 : Nat → Int32) (v0_7 : Nat → Int32) (v0_8 : Nat → Int32) (v0_9 : Nat → Int32) (v0_10 : Nat → Int32) (v0_11 : Nat → Int32) (v0_14 : Nat → Int32) (v0_15 : Nat → Int32) (v0_18 : Nat → Int32) (v0_19 : Nat → Int32) (v0_20 : Nat → Int32) (v0_22 : Nat → Int32) (x1 : Int32) (x2 : Int32) (x3 : Int32) (x4 : Int32) (t1 : Int32) : Option (Int32 × Int32 × Int32 × Int32 × Int32 × Int32 × Int32 × Int32 × (Nat → Int32) × (Nat → Int32) × (Nat → Int32) × (Nat → Int32) × (Nat → Int32) × (Nat → Int32) × (Nat → Int32) × (Nat → Int32) × (Nat → Int32) × (Nat → Int32) × (Nat → Int32) × (Nat → Int32)) :=
  lt (F_X12_refused t1) (fun u_8 => if u_8.1 = 0 then obd (F_X12_laysPieces n v0_12 v0_13 v0_16 v0_17 v0_21 v0_0 v0_6 v0_7 v0_8 v0_9 v0_10 v0_11 v0_14 v0_15 v0_18 v0_19 v0_20 v0_22) (fun u_10 => F_X12_covered_j53 n u_8.2 u_10.1 u_10.2.1 u_10.2.2.1 u_10.2.2.2.1 u_10.2.2.2.2.1 u_10.2.2.2.2.2.1 v0_0 u_10.2.2.2.2.2.2.1 u_10.2.2.2.2.2.2.2.1 u_10.2.2.2.2.2.2.2.2.1 u_10.2.2.2.2.2.2.2.2.2.1 u_10.2.2.2.2.2.2.2.2.2.2.1 u_10.2.2.2.2.2.2.2.2.2.2.2.1 u_10.2.2.2.2.2.2.2.2.2.2.2.2.1 u_10.2.2.2.2.2.2.2.2.2.2.2.2.2.1 u_10.2.2.2.2.2.2.2.2.2.2.2.2.2.2.1 u_10.2.2.2.2.2.2.2.2.2.2.2.2.2.2.2.1 u_10.2.2.2.2.2.2.2.2.2.2.2.2.2.2.2.2.1 u_10.2.2.2.2.2.2.2.2.2.2.2.2.2.2.2.2.2 x1 x2 x3 x4 0 x1) else some (0, u_8.2, v0_12, v0_13, v0_16, v0_17, v0_21, v0_23, v0_6, v0_7, v0_8, v0_9, v0_10, v0_11, v0_14, v0_15, v0_18, v0_19, v0_20, v0_22))
def F_X12_covered_j34 (n : Nat) (v0_12 : Int32) (v0_13 : Int32) (v0_16 : Int32) (v0_17 : Int32) (v0_21 : Int32) (v0_23 : Int32) (v0_0 : Nat → Int32) (v0_6 : Nat → Int32) (v0_7 : Nat → Int32) (v0_8 : Nat → Int32) (v0_9 : Nat → Int32) (v0_10 : Nat → Int32) (v0_11 : Nat → Int32) (v0_14 : Nat → Int32) (v0_15 : Nat → Int32) (v0_18 : Nat → Int32) (v0_19 : Nat → Int32) (v0_20 : Nat → Int32) (v0_22 : Nat → Int32) (x1 : Int32) (x2 : Int32) (x3 : Int32) (x4 : Int32) : Option (Int32 × Int32 × Int32 × Int32 × Int32 × Int32 × Int32 × Int32 × (Nat → Int32) × (Nat → Int32) × (Nat → Int32) × (Nat → Int32) × (Nat → Int32) × (Nat → Int32) × (Nat → Int32) × (Nat → Int32) × (Nat → Int32) × (Nat → Int32) × (Nat → Int32) × (Nat → Int32)) :=
  F_X12_covered_j35 n v0_12 v0_13 v0_16 v0_17 v0_21 v0_23 v0_0 v0_6 v0_7 v0_8 v0_9 v0_10 v0_11 v0_14 v0_15 v0_18 v0_19 v0_20 v0_22 x1 x2 x3 x4 1
def F_X12_covered (n : Nat) (v0_12 : Int32) (v0_13 : Int32) (v0_16 : Int32) (v0_17 : Int32) (v0_21 : Int32) (v0_23 : Int32) (v0_0 : Nat → Int32) (v0_6 : Nat → Int32) (v0_7 : Nat → Int32) (v0_8 : Nat → Int32) (v0_9 : Nat → Int32) (v0_10 : Nat → Int32) (v0_11 : Nat → Int32) (v0_14 : Nat → Int32) (v0_15 : Nat → Int32) (v0_18 : Nat → Int32) (v0_19 : Nat → Int32) (v0_20 : Nat → Int32) (v0_22 : Nat → Int32) (p1 : Int32) (p2 : Int32) (p3 : Int32) (p4 : Int32) : Option (Int32 × Int32 × Int32 × Int32 × Int32 × Int32 × Int32 × Int32 × (Nat → Int32) × (Nat → Int32) × (Nat → Int32) × (Nat → Int32) × (Nat → Int32) × (Nat → Int32) × (Nat → Int32) × (Nat → Int32) × (Nat → Int32) × (Nat → Int32) × (Nat → Int32) × (Nat → Int32)) :=
  lt (F_X12_isPlace p1 p2) (fun u_11 => if u_11 = 0 then F_X12_covered_j34 n v0_12 v0_13 v0_16 v0_17 v0_21 v0_23 v0_0 v0_6 v0_7 v0_8 v0_9 v0_10 v0_11 v0_14 v0_15 v0_18 v0_19 v0_20 v0_22 p1 p2 p3 p4 else lt (F_X12_within p3 0 20) (fun u_13 => if u_13 = 0 then F_X12_covered_j34 n v0_12 v0_13 v0_16 v0_17 v0_21 v0_23 v0_0 v0_6 v0_7 v0_8 v0_9 v0_10 v0_11 v0_14 v0_15 v0_18 v0_19 v0_20 v0_22 p1 p2 p3 p4 else lt (F_X12_within p4 0 20) (fun u_15 => if u_15 = 0 then F_X12_covered_j34 n v0_12 v0_13 v0_16 v0_17 v0_21 v0_23 v0_0 v0_6 v0_7 v0_8 v0_9 v0_10 v0_11 v0_14 v0_15 v0_18 v0_19 v0_20 v0_22 p1 p2 p3 p4 else F_X12_covered_j35 n v0_12 v0_13 v0_16 v0_17 v0_21 v0_23 v0_0 v0_6 v0_7 v0_8 v0_9 v0_10 v0_11 v0_14 v0_15 v0_18 v0_19 v0_20 v0_22 p1 p2 p3 p4 0)))
abbrev wd_X12_covered (cI : ClassId) (a0 : Nat → Nat) (v0_2 : Int32) (v0_3 : Int32) (v0_5 : Int32) (v0_12 : Int32) (v0_13 : Int32) (v0_16 : Int32) (v0_17 : Int32) (v0_21 : Int32) (v0_23 : Int32) (v0_24 : Int32) (v0_25 : Int32) (v0_26 : Int32) (v0_29 : Int32) (v0_30 : Int64) (v0_0 : Nat → Int32) (v0_6 : Nat → Int32) (v0_7 : Nat → Int32) (v0_8 : Nat → Int32) (v0_9 : Nat → Int32) (v0_10 : Nat → Int32) (v0_11 : Nat → Int32) (v0_14 : Nat → Int32) (v0_15 : Nat → Int32) (v0_18 : Nat → Int32) (v0_19 : Nat → Int32) (v0_20 : Nat → Int32) (v0_22 : Nat → Int32) : va_W := [(a0 0, .inr (11, [.ref (a0 1), .ref (a0 2), .int v0_2, .int v0_3, .ref (a0 5), .int v0_5, .ref (a0 7), .ref (a0 8), .ref (a0 9), .ref (a0 10), .ref (a0 11), .ref (a0 12), .int v0_12, .int v0_13, .ref (a0 15), .ref (a0 16), .int v0_16, .int v0_17, .ref (a0 19), .ref (a0 20), .ref (a0 21), .int v0_21, .ref (a0 23), .int v0_23, .int v0_24, .int v0_25, .int v0_26, .ref (a0 28), .ref (a0 29), .int v0_29, .long v0_30])), (a0 1, .inl (cI, 86, .inl v0_0)), (a0 7, .inl (cI, 8, .inl v0_6)), (a0 8, .inl (cI, 8, .inl v0_7)), (a0 9, .inl (cI, 8, .inl v0_8)), (a0 10, .inl (cI, 8, .inl v0_9)), (a0 11, .inl (cI, 8, .inl v0_10)), (a0 12, .inl (cI, 8, .inl v0_11)), (a0 15, .inl (cI, 240, .inl v0_14)), (a0 16, .inl (cI, 240, .inl v0_15)), (a0 19, .inl (cI, 20, .inl v0_18)), (a0 20, .inl (cI, 20, .inl v0_19)), (a0 21, .inl (cI, 20, .inl v0_20)), (a0 23, .inl (cI, 27000, .inl v0_22))]
abbrev wz_X12_covered : List Cond := .code yX12_covered cX12_covered 8 (some .int) :: wALL
abbrev rm_X12_covered : Room := { frames := 6, cells := 0, slots := 0, locals := 145 }
abbrev Q_X12_covered (dC : Nat → ClassId) (dI : Nat → Nat → Nat) (cI : ClassId) (a0 : Nat → Nat) (v0_2 : Int32) (v0_5 : Int32) (v0_24 : Int32) (v0_25 : Int32) (v0_26 : Int32) (v0_29 : Int32) (v0_30 : Int64) (v0_0 : Nat → Int32) (u : (Int32 × Int32 × Int32 × Int32 × Int32 × Int32 × Int32 × Int32 × (Nat → Int32) × (Nat → Int32) × (Nat → Int32) × (Nat → Int32) × (Nat → Int32) × (Nat → Int32) × (Nat → Int32) × (Nat → Int32) × (Nat → Int32) × (Nat → Int32) × (Nat → Int32) × (Nat → Int32))) (A : Nat → Prop) : Array Value → State → Outcome → State → Prop := va_Qi (fun (r : Int32) (_ : Unit) => r = u.1) (fun _ => q_at dC dI cI A (wd_X12_covered cI a0 v0_2 u.2.1 v0_5 u.2.2.1 u.2.2.2.1 u.2.2.2.2.1 u.2.2.2.2.2.1 u.2.2.2.2.2.2.1 u.2.2.2.2.2.2.2.1 v0_24 v0_25 v0_26 v0_29 v0_30 v0_0 u.2.2.2.2.2.2.2.2.1 u.2.2.2.2.2.2.2.2.2.1 u.2.2.2.2.2.2.2.2.2.2.1 u.2.2.2.2.2.2.2.2.2.2.2.1 u.2.2.2.2.2.2.2.2.2.2.2.2.1 u.2.2.2.2.2.2.2.2.2.2.2.2.2.1 u.2.2.2.2.2.2.2.2.2.2.2.2.2.2.1 u.2.2.2.2.2.2.2.2.2.2.2.2.2.2.2.1 u.2.2.2.2.2.2.2.2.2.2.2.2.2.2.2.2.1 u.2.2.2.2.2.2.2.2.2.2.2.2.2.2.2.2.2.1 u.2.2.2.2.2.2.2.2.2.2.2.2.2.2.2.2.2.2.1 u.2.2.2.2.2.2.2.2.2.2.2.2.2.2.2.2.2.2.2)) A
set_option maxHeartbeats 4000000 in
set_option maxRecDepth 100000 in
theorem c_X12_covered (l : Launch) (dC : Nat → ClassId) (dI : Nat → Nat → Nat) (cI : ClassId) (sz : Nat) (a0 : Nat → Nat) (v0_2 : Int32) (v0_3 : Int32) (v0_5 : Int32) (v0_12 : Int32) (v0_13 : Int32) (v0_16 : Int32) (v0_17 : Int32) (v0_21 : Int32) (v0_23 : Int32) (v0_24 : Int32) (v0_25 : Int32) (v0_26 : Int32) (v0_29 : Int32) (v0_30 : Int64) (v0_0 : Nat → Int32) (v0_6 : Nat → Int32) (v0_7 : Nat → Int32) (v0_8 : Nat → Int32) (v0_9 : Nat → Int32) (v0_10 : Nat → Int32) (v0_11 : Nat → Int32) (v0_14 : Nat → Int32) (v0_15 : Nat → Int32) (v0_18 : Nat → Int32) (v0_19 : Nat → Int32) (v0_20 : Nat → Int32) (v0_22 : Nat → Int32) (p1 : Int32) (p2 : Int32) (p3 : Int32) (p4 : Int32) (n : Nat) (u : (Int32 × Int32 × Int32 × Int32 × Int32 × Int32 × Int32 × Int32 × (Nat → Int32) × (Nat → Int32) × (Nat → Int32) × (Nat → Int32) × (Nat → Int32) × (Nat → Int32) × (Nat → Int32) × (Nat → Int32) × (Nat → Int32) × (Nat → Int32) × (Nat → Int32) × (Nat → Int32))) (hF : F_X12_covered n v0_12 v0_13 v0_16 v0_17 v0_21 v0_23 v0_0 v0_6 v0_7 v0_8 v0_9 v0_10 v0_11 v0_14 v0_15 v0_18 v0_19 v0_20 v0_22 p1 p2 p3 p4 = some u) : Met l yX12_covered wz_X12_covered rm_X12_covered (va_Pc [.ref (a0 0), .int p1, .int p2, .int p3, .int p4] (q_pre dC dI cI (wd_X12_covered cI a0 v0_2 v0_3 v0_5 v0_12 v0_13 v0_16 v0_17 v0_21 v0_23 v0_24 v0_25 v0_26 v0_29 v0_30 v0_0 v0_6 v0_7 v0_8 v0_9 v0_10 v0_11 v0_14 v0_15 v0_18 v0_19 v0_20 v0_22) sz)) (Q_X12_covered dC dI cI a0 v0_2 v0_5 v0_24 v0_25 v0_26 v0_29 v0_30 v0_0 u (va_A (wd_X12_covered cI a0 v0_2 v0_3 v0_5 v0_12 v0_13 v0_16 v0_17 v0_21 v0_23 v0_24 v0_25 v0_26 v0_29 v0_30 v0_0 v0_6 v0_7 v0_8 v0_9 v0_10 v0_11 v0_14 v0_15 v0_18 v0_19 v0_20 v0_22) sz)) 0 0 (va_A (wd_X12_covered cI a0 v0_2 v0_3 v0_5 v0_12 v0_13 v0_16 v0_17 v0_21 v0_23 v0_24 v0_25 v0_26 v0_29 v0_30 v0_0 v0_6 v0_7 v0_8 v0_9 v0_10 v0_11 v0_14 v0_15 v0_18 v0_19 v0_20 v0_22) sz) := by
  refine Met.ofW (cc := cX12_covered) (maxL := 8) (ret := (some .int)) (by decide) rfl ?_
  intro p e s m args below meth c s₁ B hml hv
  obtain ⟨rfl, hsz, hP, hK, hD0⟩ := hv
  have hx := B.exec
  have hb := B.bytes
  have hr := B.returns
  have hts := atoms_spec (ws := wz_X12_covered) B.pre
  have hta := wz_tl hts
  have hown : s.vm.findClass RX12 = some m.cls := findClass_of_methodNamed B.named
  have hlocks := B.notSynchronized
  subst hsz
  have hD := hD0.self (sz := s.heap.size)
  generalize hAe : va_A (wd_X12_covered cI a0 v0_2 v0_3 v0_5 v0_12 v0_13 v0_16 v0_17 v0_21 v0_23 v0_24 v0_25 v0_26 v0_29 v0_30 v0_0 v0_6 v0_7 v0_8 v0_9 v0_10 v0_11 v0_14 v0_15 v0_18 v0_19 v0_20 v0_22) s.heap.size = A at hD ⊢
  have hA : ∀ q : Nat, s.heap.size ≤ q → A q := fun q h => by rw [← hAe]; exact Or.inr h
  have hS : va_S A s.heap s.heap [] := va_S.rf
  have hP : va_P (dC, dI) vwCl (wd_X12_covered cI a0 v0_2 v0_3 v0_5 v0_12 v0_13 v0_16 v0_17 v0_21 v0_23 v0_24 v0_25 v0_26 v0_29 v0_30 v0_0 v0_6 v0_7 v0_8 v0_9 v0_10 v0_11 v0_14 v0_15 v0_18 v0_19 v0_20 v0_22) s.heap := hP
  have hl := lv_entry ([.ref (a0 0), .int p1, .int p2, .int p3, .int p4]) (n := 8) (Nat.le_of_ble_eq_true rfl)
  rw [lg_entry_eq]
  generalize (lg_sl ([.ref (a0 0), .int p1, .int p2, .int p3, .int p4]) ++ List.replicate (8 - (lg_sl ([.ref (a0 0), .int p1, .int p2, .int p3, .int p4])).length) Slot.unset).toArray = ls at hl ⊢
  have hl : lv_has ls 8 [(0, .ref (a0 0)), (1, .int p1), (2, .int p2), (3, .int p3), (4, .int p4)] := hl
  obtain ⟨H, hHe⟩ : ∃ H, H = s.heap := ⟨_, rfl⟩
  have hS : va_S A s.heap H [] := by rw [hHe]; exact hS
  have hP : va_P (dC, dI) vwCl (wd_X12_covered cI a0 v0_2 v0_3 v0_5 v0_12 v0_13 v0_16 v0_17 v0_21 v0_23 v0_24 v0_25 v0_26 v0_29 v0_30 v0_0 v0_6 v0_7 v0_8 v0_9 v0_10 v0_11 v0_14 v0_15 v0_18 v0_19 v0_20 v0_22) H := by rw [hHe]; exact hP
  rw [← hHe]
  unfold F_X12_covered at hF
  have j112 : ∀ (v0_3 : Int32) (v0_12 : Int32) (v0_13 : Int32) (v0_16 : Int32) (v0_17 : Int32) (v0_21 : Int32) (v0_23 : Int32) (v0_6 : Nat → Int32) (v0_7 : Nat → Int32) (v0_8 : Nat → Int32) (v0_9 : Nat → Int32) (v0_10 : Nat → Int32) (v0_11 : Nat → Int32) (v0_14 : Nat → Int32) (v0_15 : Nat → Int32) (v0_18 : Nat → Int32) (v0_19 : Nat → Int32) (v0_20 : Nat → Int32) (v0_22 : Nat → Int32) (x5 : Int32), F_X12_covered_j112 v0_3 v0_12 v0_13 v0_16 v0_17 v0_21 v0_23 v0_6 v0_7 v0_8 v0_9 v0_10 v0_11 v0_14 v0_15 v0_18 v0_19 v0_20 v0_22 x5 = some u → ∀ (H : Heap) (locs : List Loc) (ls : Array Slot), va_P (dC, dI) vwCl (wd_X12_covered cI a0 v0_2 v0_3 v0_5 v0_12 v0_13 v0_16 v0_17 v0_21 v0_23 v0_24 v0_25 v0_26 v0_29 v0_30 v0_0 v0_6 v0_7 v0_8 v0_9 v0_10 v0_11 v0_14 v0_15 v0_18 v0_19 v0_20 v0_22) H → va_D A (wd_X12_covered cI a0 v0_2 v0_3 v0_5 v0_12 v0_13 v0_16 v0_17 v0_21 v0_23 v0_24 v0_25 v0_26 v0_29 v0_30 v0_0 v0_6 v0_7 v0_8 v0_9 v0_10 v0_11 v0_14 v0_15 v0_18 v0_19 v0_20 v0_22) → va_S A s.heap H locs → lv_has ls 8 [(5, .int x5)] → W p l e (headSpec wz_X12_covered rm_X12_covered).room s m [.ref (a0 0), .int p1, .int p2, .int p3, .int p4].toArray below meth c H locs 0 0 (MQ below (Q_X12_covered dC dI cI a0 v0_2 v0_5 v0_24 v0_25 v0_26 v0_29 v0_30 v0_0 u A) [.ref (a0 0), .int p1, .int p2, .int p3, .int p4].toArray s 0 0 A) (F0 m 112 ls []) := by
    intro v0_3 v0_12 v0_13 v0_16 v0_17 v0_21 v0_23 v0_6 v0_7 v0_8 v0_9 v0_10 v0_11 v0_14 v0_15 v0_18 v0_19 v0_20 v0_22 x5 hF H locs ls hP hD hS hl
    unfold F_X12_covered_j112 at hF
    refine lv_iload hx hb dX12_covered_112 (lv_at hl 0 rfl) ?_
    obtain rfl := Option.some.inj hF
    exact W.iret (v := x5) hx hb hr (fun t ht hW => ⟨⟨x5, (), rfl, rfl, by rw [ht]; exact hP, va_K.moved hW.alike hK, hD⟩, hS.F ht⟩) hS.2.2 dX12_covered_114
  have j53 : ∀ (v0_3 : Int32) (v0_12 : Int32) (v0_13 : Int32) (v0_16 : Int32) (v0_17 : Int32) (v0_21 : Int32) (v0_23 : Int32) (v0_6 : Nat → Int32) (v0_7 : Nat → Int32) (v0_8 : Nat → Int32) (v0_9 : Nat → Int32) (v0_10 : Nat → Int32) (v0_11 : Nat → Int32) (v0_14 : Nat → Int32) (v0_15 : Nat → Int32) (v0_18 : Nat → Int32) (v0_19 : Nat → Int32) (v0_20 : Nat → Int32) (v0_22 : Nat → Int32) (x1 : Int32) (x2 : Int32) (x3 : Int32) (x4 : Int32) (x5 : Int32) (x6 : Int32), F_X12_covered_j53 n v0_3 v0_12 v0_13 v0_16 v0_17 v0_21 v0_23 v0_0 v0_6 v0_7 v0_8 v0_9 v0_10 v0_11 v0_14 v0_15 v0_18 v0_19 v0_20 v0_22 x1 x2 x3 x4 x5 x6 = some u → ∀ (H : Heap) (locs : List Loc) (ls : Array Slot), va_P (dC, dI) vwCl (wd_X12_covered cI a0 v0_2 v0_3 v0_5 v0_12 v0_13 v0_16 v0_17 v0_21 v0_23 v0_24 v0_25 v0_26 v0_29 v0_30 v0_0 v0_6 v0_7 v0_8 v0_9 v0_10 v0_11 v0_14 v0_15 v0_18 v0_19 v0_20 v0_22) H → va_D A (wd_X12_covered cI a0 v0_2 v0_3 v0_5 v0_12 v0_13 v0_16 v0_17 v0_21 v0_23 v0_24 v0_25 v0_26 v0_29 v0_30 v0_0 v0_6 v0_7 v0_8 v0_9 v0_10 v0_11 v0_14 v0_15 v0_18 v0_19 v0_20 v0_22) → va_S A s.heap H locs → lv_has ls 8 [(0, .ref (a0 0)), (1, .int x1), (2, .int x2), (3, .int x3), (4, .int x4), (5, .int x5), (6, .int x6)] → W p l e (headSpec wz_X12_covered rm_X12_covered).room s m [.ref (a0 0), .int p1, .int p2, .int p3, .int p4].toArray below meth c H locs 0 0 (MQ below (Q_X12_covered dC dI cI a0 v0_2 v0_5 v0_24 v0_25 v0_26 v0_29 v0_30 v0_0 u A) [.ref (a0 0), .int p1, .int p2, .int p3, .int p4].toArray s 0 0 A) (F0 m 53 ls []) := by
    intro v0_3 v0_12 v0_13 v0_16 v0_17 v0_21 v0_23 v0_6 v0_7 v0_8 v0_9 v0_10 v0_11 v0_14 v0_15 v0_18 v0_19 v0_20 v0_22 x1 x2 x3 x4 x5 x6 hF H locs ls hP hD hS hl
    unfold F_X12_covered_j53 at hF
    obtain ⟨x_53, hL_53, hE_53⟩ := obd_some hF
    have kl_53 : ∀ (k : Nat) (s53 : Int32 × Int32), lpq (F_X12_covered_b53 n v0_23 v0_0 v0_22 x1 x2 x3 x4) k s53 = some x_53 → ∀ (H : Heap) (locs : List Loc) (ls : Array Slot), va_P (dC, dI) vwCl (wd_X12_covered cI a0 v0_2 v0_3 v0_5 v0_12 v0_13 v0_16 v0_17 v0_21 v0_23 v0_24 v0_25 v0_26 v0_29 v0_30 v0_0 v0_6 v0_7 v0_8 v0_9 v0_10 v0_11 v0_14 v0_15 v0_18 v0_19 v0_20 v0_22) H → va_D A (wd_X12_covered cI a0 v0_2 v0_3 v0_5 v0_12 v0_13 v0_16 v0_17 v0_21 v0_23 v0_24 v0_25 v0_26 v0_29 v0_30 v0_0 v0_6 v0_7 v0_8 v0_9 v0_10 v0_11 v0_14 v0_15 v0_18 v0_19 v0_20 v0_22) → va_S A s.heap H locs → lv_has ls 8 [(0, .ref (a0 0)), (1, .int x1), (2, .int x2), (3, .int x3), (4, .int x4), (5, .int s53.1), (6, .int s53.2)] → W p l e (headSpec wz_X12_covered rm_X12_covered).room s m [.ref (a0 0), .int p1, .int p2, .int p3, .int p4].toArray below meth c H locs 0 0 (MQ below (Q_X12_covered dC dI cI a0 v0_2 v0_5 v0_24 v0_25 v0_26 v0_29 v0_30 v0_0 u A) [.ref (a0 0), .int p1, .int p2, .int p3, .int p4].toArray s 0 0 A) (F0 m 53 ls []) := by
      intro k
      induction k with
      | zero => intro s53 h; exact absurd h lpq_zero
      | succ k ih_53 =>
        intro s53 h H locs ls hP hD hS hl
        obtain ⟨o_53, hF, hO_53⟩ := lpq_succ h
        unfold F_X12_covered_b53 at hF
        have j106 : ∀ (x5 : Int32) (x6 : Int32), F_X12_covered_j106 x5 x6 = some o_53 → ∀ (H : Heap) (locs : List Loc) (ls : Array Slot), va_P (dC, dI) vwCl (wd_X12_covered cI a0 v0_2 v0_3 v0_5 v0_12 v0_13 v0_16 v0_17 v0_21 v0_23 v0_24 v0_25 v0_26 v0_29 v0_30 v0_0 v0_6 v0_7 v0_8 v0_9 v0_10 v0_11 v0_14 v0_15 v0_18 v0_19 v0_20 v0_22) H → va_D A (wd_X12_covered cI a0 v0_2 v0_3 v0_5 v0_12 v0_13 v0_16 v0_17 v0_21 v0_23 v0_24 v0_25 v0_26 v0_29 v0_30 v0_0 v0_6 v0_7 v0_8 v0_9 v0_10 v0_11 v0_14 v0_15 v0_18 v0_19 v0_20 v0_22) → va_S A s.heap H locs → lv_has ls 8 [(0, .ref (a0 0)), (1, .int x1), (2, .int x2), (3, .int x3), (4, .int x4), (5, .int x5), (6, .int x6)] → W p l e (headSpec wz_X12_covered rm_X12_covered).room s m [.ref (a0 0), .int p1, .int p2, .int p3, .int p4].toArray below meth c H locs 0 0 (MQ below (Q_X12_covered dC dI cI a0 v0_2 v0_5 v0_24 v0_25 v0_26 v0_29 v0_30 v0_0 u A) [.ref (a0 0), .int p1, .int p2, .int p3, .int p4].toArray s 0 0 A) (F0 m 106 ls []) := by
          intro x5 x6 hF H locs ls hP hD hS hl
          unfold F_X12_covered_j106 at hF
          obtain ⟨y_1, ey_1, hF⟩ := lt_some hF
          refine lv_iinc (v := y_1) (lv' := [(6, .int y_1), (0, .ref (a0 0)), (1, .int x1), (2, .int x2), (3, .int x3), (4, .int x4), (5, .int x5)]) hx hb dX12_covered_106 hl (k := 6) rfl (by rw [ey_1]; rfl) (by decide) rfl (fun ls hl => ?_)
          refine lv_goto (tgt := 53) hx hb dX12_covered_109 (by decide) ?_
          obtain rfl := Option.some.inj hF
          exact ih_53 _ hO_53 _ _ _ hP hD hS (lv_sub hl [1, 2, 3, 4, 5, 6, 0] rfl)
        have j64 : ∀ (x5 : Int32) (x6 : Int32) (x7 : Int32), F_X12_covered_j64 n v0_23 v0_0 v0_22 x2 x4 x5 x6 x7 = some o_53 → ∀ (H : Heap) (locs : List Loc) (ls : Array Slot), va_P (dC, dI) vwCl (wd_X12_covered cI a0 v0_2 v0_3 v0_5 v0_12 v0_13 v0_16 v0_17 v0_21 v0_23 v0_24 v0_25 v0_26 v0_29 v0_30 v0_0 v0_6 v0_7 v0_8 v0_9 v0_10 v0_11 v0_14 v0_15 v0_18 v0_19 v0_20 v0_22) H → va_D A (wd_X12_covered cI a0 v0_2 v0_3 v0_5 v0_12 v0_13 v0_16 v0_17 v0_21 v0_23 v0_24 v0_25 v0_26 v0_29 v0_30 v0_0 v0_6 v0_7 v0_8 v0_9 v0_10 v0_11 v0_14 v0_15 v0_18 v0_19 v0_20 v0_22) → va_S A s.heap H locs → lv_has ls 8 [(0, .ref (a0 0)), (1, .int x1), (2, .int x2), (3, .int x3), (4, .int x4), (5, .int x5), (6, .int x6), (7, .int x7)] → W p l e (headSpec wz_X12_covered rm_X12_covered).room s m [.ref (a0 0), .int p1, .int p2, .int p3, .int p4].toArray below meth c H locs 0 0 (MQ below (Q_X12_covered dC dI cI a0 v0_2 v0_5 v0_24 v0_25 v0_26 v0_29 v0_30 v0_0 u A) [.ref (a0 0), .int p1, .int p2, .int p3, .int p4].toArray s 0 0 A) (F0 m 64 ls []) := by
          intro x5 x6 x7 hF H locs ls hP hD hS hl
          unfold F_X12_covered_j64 at hF
          obtain ⟨x_64, hL_64, hE_64⟩ := obd_some hF
          have kl_64 : ∀ (k : Nat) (s64 : Int32 × Int32), lpq (F_X12_covered_b64 n v0_23 v0_0 v0_22 x2 x4 x6) k s64 = some x_64 → ∀ (H : Heap) (locs : List Loc) (ls : Array Slot), va_P (dC, dI) vwCl (wd_X12_covered cI a0 v0_2 v0_3 v0_5 v0_12 v0_13 v0_16 v0_17 v0_21 v0_23 v0_24 v0_25 v0_26 v0_29 v0_30 v0_0 v0_6 v0_7 v0_8 v0_9 v0_10 v0_11 v0_14 v0_15 v0_18 v0_19 v0_20 v0_22) H → va_D A (wd_X12_covered cI a0 v0_2 v0_3 v0_5 v0_12 v0_13 v0_16 v0_17 v0_21 v0_23 v0_24 v0_25 v0_26 v0_29 v0_30 v0_0 v0_6 v0_7 v0_8 v0_9 v0_10 v0_11 v0_14 v0_15 v0_18 v0_19 v0_20 v0_22) → va_S A s.heap H locs → lv_has ls 8 [(0, .ref (a0 0)), (1, .int x1), (2, .int x2), (3, .int x3), (4, .int x4), (5, .int s64.1), (6, .int x6), (7, .int s64.2)] → W p l e (headSpec wz_X12_covered rm_X12_covered).room s m [.ref (a0 0), .int p1, .int p2, .int p3, .int p4].toArray below meth c H locs 0 0 (MQ below (Q_X12_covered dC dI cI a0 v0_2 v0_5 v0_24 v0_25 v0_26 v0_29 v0_30 v0_0 u A) [.ref (a0 0), .int p1, .int p2, .int p3, .int p4].toArray s 0 0 A) (F0 m 64 ls []) := by
            intro k
            induction k with
            | zero => intro s64 h; exact absurd h lpq_zero
            | succ k ih_64 =>
              intro s64 h H locs ls hP hD hS hl
              obtain ⟨o_64, hF, hO_64⟩ := lpq_succ h
              unfold F_X12_covered_b64 at hF
              have j97 : ∀ (x7 : Int32) (t0 : Int32) (t1 : Int32), F_X12_covered_j97 x7 t0 t1 = some o_64 → ∀ (H : Heap) (locs : List Loc) (ls : Array Slot), va_P (dC, dI) vwCl (wd_X12_covered cI a0 v0_2 v0_3 v0_5 v0_12 v0_13 v0_16 v0_17 v0_21 v0_23 v0_24 v0_25 v0_26 v0_29 v0_30 v0_0 v0_6 v0_7 v0_8 v0_9 v0_10 v0_11 v0_14 v0_15 v0_18 v0_19 v0_20 v0_22) H → va_D A (wd_X12_covered cI a0 v0_2 v0_3 v0_5 v0_12 v0_13 v0_16 v0_17 v0_21 v0_23 v0_24 v0_25 v0_26 v0_29 v0_30 v0_0 v0_6 v0_7 v0_8 v0_9 v0_10 v0_11 v0_14 v0_15 v0_18 v0_19 v0_20 v0_22) → va_S A s.heap H locs → lv_has ls 8 [(0, .ref (a0 0)), (1, .int x1), (2, .int x2), (3, .int x3), (4, .int x4), (6, .int x6), (7, .int x7)] → W p l e (headSpec wz_X12_covered rm_X12_covered).room s m [.ref (a0 0), .int p1, .int p2, .int p3, .int p4].toArray below meth c H locs 0 0 (MQ below (Q_X12_covered dC dI cI a0 v0_2 v0_5 v0_24 v0_25 v0_26 v0_29 v0_30 v0_0 u A) [.ref (a0 0), .int p1, .int p2, .int p3, .int p4].toArray s 0 0 A) (F0 m 97 ls [.int t1, .int t0]) := by
                intro x7 t0 t1 hF H locs ls hP hD hS hl
                unfold F_X12_covered_j97 at hF
                refine lv_iadd hx hb dX12_covered_97 ?_
                obtain ⟨y_2, ey_2, hF⟩ := lt_some hF
                refine lv_eqi ey_2 ?_
                refine lv_istore (lv' := [(5, .int y_2), (0, .ref (a0 0)), (1, .int x1), (2, .int x2), (3, .int x3), (4, .int x4), (6, .int x6), (7, .int x7)]) hx hb dX12_covered_98 hl (by decide) rfl (fun ls hl => ?_)
                obtain ⟨y_3, ey_3, hF⟩ := lt_some hF
                refine lv_iinc (v := y_3) (lv' := [(7, .int y_3), (5, .int y_2), (0, .ref (a0 0)), (1, .int x1), (2, .int x2), (3, .int x3), (4, .int x4), (6, .int x6)]) hx hb dX12_covered_100 hl (k := 7) rfl (by rw [ey_3]; rfl) (by decide) rfl (fun ls hl => ?_)
                refine lv_goto (tgt := 64) hx hb dX12_covered_103 (by decide) ?_
                obtain rfl := Option.some.inj hF
                exact ih_64 _ hO_64 _ _ _ hP hD hS (lv_sub hl [2, 3, 4, 5, 6, 1, 7, 0] rfl)
              refine lv_iload hx hb dX12_covered_64 (lv_at hl 7 rfl) ?_
              refine lv_iload_n hx hb dX12_covered_66 rfl (lv_at hl 2 rfl) ?_
              refine lv_iload hx hb dX12_covered_67 (lv_at hl 4 rfl) ?_
              refine lv_iadd hx hb dX12_covered_69 ?_
              refine lv_icmp_gt (tgt := 106) hx hb dX12_covered_70 (by decide) (fun c_4 => ?_) (fun c_4 => ?_)
              · have hF := it_t hF c_4
                obtain rfl := Option.some.inj hF
                obtain rfl := lpq_x hO_64
                have hF := hE_64
                exact j106 s64.1 x6 hF _ _ _ hP hD hS (lv_sub hl [0, 1, 2, 3, 4, 5, 6] rfl)
              · have hF := it_f hF c_4
                refine lv_iload hx hb dX12_covered_73 (lv_at hl 5 rfl) ?_
                refine lv_aload_n hx hb dX12_covered_75 rfl (lv_at hl 0 rfl) ?_
                refine lv_bipush (v := 64) hx hb dX12_covered_76 (by decide) ?_
                refine lv_iload hx hb dX12_covered_78 (lv_at hl 6 rfl) ?_
                refine lv_imul hx hb dX12_covered_80 ?_
                refine lv_bipush (v := 64) hx hb dX12_covered_81 (by decide) ?_
                refine lv_iload hx hb dX12_covered_83 (lv_at hl 7 rfl) ?_
                refine lv_imul hx hb dX12_covered_85 ?_
                obtain ⟨u_5, hu_5, hF⟩ := obd_some hF
                have hPc := hP.sub (ws' := (wd_X12_isCovered cI a0 v0_2 v0_3 v0_5 v0_12 v0_13 v0_16 v0_17 v0_21 v0_23 v0_24 v0_25 v0_26 v0_29 v0_30 v0_0 v0_22)) [0, 1, 13] rfl
                have hDc := hD.sub (ws' := (wd_X12_isCovered cI a0 v0_2 v0_3 v0_5 v0_12 v0_13 v0_16 v0_17 v0_21 v0_23 v0_24 v0_25 v0_26 v0_29 v0_30 v0_0 v0_22)) [0, 1, 13] rfl rfl
                refine q_callz (wc := (wd_X12_isCovered cI a0 v0_2 v0_3 v0_5 v0_12 v0_13 v0_16 v0_17 v0_21 v0_23 v0_24 v0_25 v0_26 v0_29 v0_30 v0_0 v0_22)) (w1 := (wd_X12_isCovered cI a0 v0_2 v0_3 v0_5 v0_12 v0_13 v0_16 v0_17 v0_21 v0_23 v0_24 v0_25 v0_26 v0_29 v0_30 v0_0 v0_22)) (ws' := (wd_X12_covered cI a0 v0_2 v0_3 v0_5 v0_12 v0_13 v0_16 v0_17 v0_21 v0_23 v0_24 v0_25 v0_26 v0_29 v0_30 v0_0 v0_6 v0_7 v0_8 v0_9 v0_10 v0_11 v0_14 v0_15 v0_18 v0_19 v0_20 v0_22)) hP hD hS hA [0, 1, 13] [2, 3, 4, 5, 6, 7, 8, 9, 10, 11, 12] [11, 12, 0, 1, 2, 3, 4, 5, 6, 7, 8, 9, 10, 13] rfl rfl rfl (by decide) rfl rfl (va_runV (As := [.int (64 * x6), .int (64 * s64.2)]) (rest := [.int s64.1]) ⟨hx, hb, hml, hown, hta⟩ (c_X12_isCovered l dC dI cI H.size a0 v0_2 v0_3 v0_5 v0_12 v0_13 v0_16 v0_17 v0_21 v0_23 v0_24 v0_25 v0_26 v0_29 v0_30 v0_0 v0_22 (64 * x6) (64 * s64.2) n u_5 hu_5) (cwV 2 hta (ga_V mA1057 mA1058 mA1059 mA814 mA1055) rfl rfl rfl (by decide +kernel) ⟨Nat.le_of_ble_eq_true rfl, Nat.le_of_ble_eq_true rfl⟩) ⟨q_fb, va_recv hK hP (ci := 11) (q0 := 0) rfl rfl, q_ps hPc hK hDc⟩ rfl rfl hl.1 rfl (lv_room (Nat.le_of_ble_eq_true rfl)) dX12_covered_86 ⟨Nat.zero_le _, Nat.zero_le _⟩) (fun hzu_5 H locs hP hD hS => ?_)
                refine lv_if_eq (tgt := 96) hx hb dX12_covered_89 (by decide) (fun c_6 => ?_) (fun c_6 => ?_)
                · have hF := it_t hF c_6
                  refine lv_iconst (v := 0) hx hb dX12_covered_96 (by decide) ?_
                  exact j97 s64.2 s64.1 0 hF _ _ _ hP hD hS (lv_sub hl [0, 1, 2, 3, 4, 6, 7] rfl)
                · have hF := it_f hF c_6
                  refine lv_iconst (v := 1) hx hb dX12_covered_92 (by decide) ?_
                  refine lv_goto (tgt := 97) hx hb dX12_covered_93 (by decide) ?_
                  exact j97 s64.2 s64.1 1 hF _ _ _ hP hD hS (lv_sub hl [0, 1, 2, 3, 4, 6, 7] rfl)
          exact kl_64 n _ hL_64 _ _ _ hP hD hS hl
        refine lv_iload hx hb dX12_covered_53 (lv_at hl 6 rfl) ?_
        refine lv_iload_n hx hb dX12_covered_55 rfl (lv_at hl 1 rfl) ?_
        refine lv_iload_n hx hb dX12_covered_56 rfl (lv_at hl 3 rfl) ?_
        refine lv_iadd hx hb dX12_covered_57 ?_
        refine lv_icmp_gt (tgt := 112) hx hb dX12_covered_58 (by decide) (fun c_7 => ?_) (fun c_7 => ?_)
        · have hF := it_t hF c_7
          obtain rfl := Option.some.inj hF
          obtain rfl := lpq_x hO_53
          have hF := hE_53
          exact j112 v0_3 v0_12 v0_13 v0_16 v0_17 v0_21 v0_23 v0_6 v0_7 v0_8 v0_9 v0_10 v0_11 v0_14 v0_15 v0_18 v0_19 v0_20 v0_22 s53.1 hF _ _ _ hP hD hS (lv_sub hl [5] rfl)
        · have hF := it_f hF c_7
          refine lv_iload_n hx hb dX12_covered_61 rfl (lv_at hl 2 rfl) ?_
          refine lv_istore (lv' := [(7, .int x2), (0, .ref (a0 0)), (1, .int x1), (2, .int x2), (3, .int x3), (4, .int x4), (5, .int s53.1), (6, .int s53.2)]) hx hb dX12_covered_62 hl (by decide) rfl (fun ls hl => ?_)
          exact j64 s53.1 s53.2 x2 hF _ _ _ hP hD hS (lv_sub hl [1, 2, 3, 4, 5, 6, 7, 0] rfl)
    exact kl_53 n _ hL_53 _ _ _ hP hD hS hl
  have j35 : ∀ (v0_3 : Int32) (v0_12 : Int32) (v0_13 : Int32) (v0_16 : Int32) (v0_17 : Int32) (v0_21 : Int32) (v0_23 : Int32) (v0_6 : Nat → Int32) (v0_7 : Nat → Int32) (v0_8 : Nat → Int32) (v0_9 : Nat → Int32) (v0_10 : Nat → Int32) (v0_11 : Nat → Int32) (v0_14 : Nat → Int32) (v0_15 : Nat → Int32) (v0_18 : Nat → Int32) (v0_19 : Nat → Int32) (v0_20 : Nat → Int32) (v0_22 : Nat → Int32) (x1 : Int32) (x2 : Int32) (x3 : Int32) (x4 : Int32) (t1 : Int32), F_X12_covered_j35 n v0_12 v0_13 v0_16 v0_17 v0_21 v0_23 v0_0 v0_6 v0_7 v0_8 v0_9 v0_10 v0_11 v0_14 v0_15 v0_18 v0_19 v0_20 v0_22 x1 x2 x3 x4 t1 = some u → ∀ (H : Heap) (locs : List Loc) (ls : Array Slot), va_P (dC, dI) vwCl (wd_X12_covered cI a0 v0_2 v0_3 v0_5 v0_12 v0_13 v0_16 v0_17 v0_21 v0_23 v0_24 v0_25 v0_26 v0_29 v0_30 v0_0 v0_6 v0_7 v0_8 v0_9 v0_10 v0_11 v0_14 v0_15 v0_18 v0_19 v0_20 v0_22) H → va_D A (wd_X12_covered cI a0 v0_2 v0_3 v0_5 v0_12 v0_13 v0_16 v0_17 v0_21 v0_23 v0_24 v0_25 v0_26 v0_29 v0_30 v0_0 v0_6 v0_7 v0_8 v0_9 v0_10 v0_11 v0_14 v0_15 v0_18 v0_19 v0_20 v0_22) → va_S A s.heap H locs → lv_has ls 8 [(0, .ref (a0 0)), (1, .int x1), (2, .int x2), (3, .int x3), (4, .int x4)] → W p l e (headSpec wz_X12_covered rm_X12_covered).room s m [.ref (a0 0), .int p1, .int p2, .int p3, .int p4].toArray below meth c H locs 0 0 (MQ below (Q_X12_covered dC dI cI a0 v0_2 v0_5 v0_24 v0_25 v0_26 v0_29 v0_30 v0_0 u A) [.ref (a0 0), .int p1, .int p2, .int p3, .int p4].toArray s 0 0 A) (F0 m 35 ls [.int t1, .ref (a0 0)]) := by
    intro v0_3 v0_12 v0_13 v0_16 v0_17 v0_21 v0_23 v0_6 v0_7 v0_8 v0_9 v0_10 v0_11 v0_14 v0_15 v0_18 v0_19 v0_20 v0_22 x1 x2 x3 x4 t1 hF H locs ls hP hD hS hl
    unfold F_X12_covered_j35 at hF
    obtain ⟨u_8, hu_8, hF⟩ := lt_some hF
    have hPc := hP.sub (ws' := (wd_X12_refused cI a0 v0_2 v0_3 v0_5 v0_12 v0_13 v0_16 v0_17 v0_21 v0_23 v0_24 v0_25 v0_26 v0_29 v0_30)) [0] rfl
    have hDc := hD.sub (ws' := (wd_X12_refused cI a0 v0_2 v0_3 v0_5 v0_12 v0_13 v0_16 v0_17 v0_21 v0_23 v0_24 v0_25 v0_26 v0_29 v0_30)) [0] rfl rfl
    refine q_callz (wc := (wd_X12_refused cI a0 v0_2 v0_3 v0_5 v0_12 v0_13 v0_16 v0_17 v0_21 v0_23 v0_24 v0_25 v0_26 v0_29 v0_30)) (w1 := (wd_X12_refused cI a0 v0_2 u_8.2 v0_5 v0_12 v0_13 v0_16 v0_17 v0_21 v0_23 v0_24 v0_25 v0_26 v0_29 v0_30)) (ws' := (wd_X12_covered cI a0 v0_2 u_8.2 v0_5 v0_12 v0_13 v0_16 v0_17 v0_21 v0_23 v0_24 v0_25 v0_26 v0_29 v0_30 v0_0 v0_6 v0_7 v0_8 v0_9 v0_10 v0_11 v0_14 v0_15 v0_18 v0_19 v0_20 v0_22)) hP hD hS hA [0] [1, 2, 3, 4, 5, 6, 7, 8, 9, 10, 11, 12, 13] [13, 0, 1, 2, 3, 4, 5, 6, 7, 8, 9, 10, 11, 12] rfl rfl rfl (by decide) rfl rfl (va_runV (As := [.int t1]) (rest := []) ⟨hx, hb, hml, hown, hta⟩ (c_X12_refused l dC dI cI H.size a0 v0_2 v0_3 v0_5 v0_12 v0_13 v0_16 v0_17 v0_21 v0_23 v0_24 v0_25 v0_26 v0_29 v0_30 t1 u_8 hu_8.symm) (cwV 1 hta (ga_V mA822 mA823 mA824 mA814 mA809) rfl rfl rfl (by decide +kernel) ⟨Nat.le_of_ble_eq_true rfl, Nat.le_of_ble_eq_true rfl⟩) ⟨q_fb, va_recv hK hP (ci := 11) (q0 := 0) rfl rfl, q_ps hPc hK hDc⟩ rfl rfl hl.1 rfl (lv_room (Nat.le_of_ble_eq_true rfl)) dX12_covered_35 ⟨Nat.zero_le _, Nat.zero_le _⟩) (fun hzu_8 H locs hP hD hS => ?_)
    refine lv_if_eq (tgt := 43) hx hb dX12_covered_38 (by decide) (fun c_9 => ?_) (fun c_9 => ?_)
    · have hF := it_t hF c_9
      refine lv_aload_n hx hb dX12_covered_43 rfl (lv_at hl 0 rfl) ?_
      obtain ⟨u_10, hu_10, hF⟩ := obd_some hF
      have hPc := hP.sub (ws' := (wd_X12_laysPieces cI a0 v0_2 u_8.2 v0_5 v0_12 v0_13 v0_16 v0_17 v0_21 v0_23 v0_24 v0_25 v0_26 v0_29 v0_30 v0_0 v0_6 v0_7 v0_8 v0_9 v0_10 v0_11 v0_14 v0_15 v0_18 v0_19 v0_20 v0_22)) [0, 1, 2, 3, 4, 5, 6, 7, 8, 9, 10, 11, 12, 13] rfl
      have hDc := hD.sub (ws' := (wd_X12_laysPieces cI a0 v0_2 u_8.2 v0_5 v0_12 v0_13 v0_16 v0_17 v0_21 v0_23 v0_24 v0_25 v0_26 v0_29 v0_30 v0_0 v0_6 v0_7 v0_8 v0_9 v0_10 v0_11 v0_14 v0_15 v0_18 v0_19 v0_20 v0_22)) [0, 1, 2, 3, 4, 5, 6, 7, 8, 9, 10, 11, 12, 13] rfl rfl
      refine q_callv (wc := (wd_X12_laysPieces cI a0 v0_2 u_8.2 v0_5 v0_12 v0_13 v0_16 v0_17 v0_21 v0_23 v0_24 v0_25 v0_26 v0_29 v0_30 v0_0 v0_6 v0_7 v0_8 v0_9 v0_10 v0_11 v0_14 v0_15 v0_18 v0_19 v0_20 v0_22)) (w1 := (wd_X12_laysPieces cI a0 v0_2 u_8.2 v0_5 u_10.1 u_10.2.1 u_10.2.2.1 u_10.2.2.2.1 u_10.2.2.2.2.1 u_10.2.2.2.2.2.1 v0_24 v0_25 v0_26 v0_29 v0_30 v0_0 u_10.2.2.2.2.2.2.1 u_10.2.2.2.2.2.2.2.1 u_10.2.2.2.2.2.2.2.2.1 u_10.2.2.2.2.2.2.2.2.2.1 u_10.2.2.2.2.2.2.2.2.2.2.1 u_10.2.2.2.2.2.2.2.2.2.2.2.1 u_10.2.2.2.2.2.2.2.2.2.2.2.2.1 u_10.2.2.2.2.2.2.2.2.2.2.2.2.2.1 u_10.2.2.2.2.2.2.2.2.2.2.2.2.2.2.1 u_10.2.2.2.2.2.2.2.2.2.2.2.2.2.2.2.1 u_10.2.2.2.2.2.2.2.2.2.2.2.2.2.2.2.2.1 u_10.2.2.2.2.2.2.2.2.2.2.2.2.2.2.2.2.2)) (ws' := (wd_X12_covered cI a0 v0_2 u_8.2 v0_5 u_10.1 u_10.2.1 u_10.2.2.1 u_10.2.2.2.1 u_10.2.2.2.2.1 u_10.2.2.2.2.2.1 v0_24 v0_25 v0_26 v0_29 v0_30 v0_0 u_10.2.2.2.2.2.2.1 u_10.2.2.2.2.2.2.2.1 u_10.2.2.2.2.2.2.2.2.1 u_10.2.2.2.2.2.2.2.2.2.1 u_10.2.2.2.2.2.2.2.2.2.2.1 u_10.2.2.2.2.2.2.2.2.2.2.2.1 u_10.2.2.2.2.2.2.2.2.2.2.2.2.1 u_10.2.2.2.2.2.2.2.2.2.2.2.2.2.1 u_10.2.2.2.2.2.2.2.2.2.2.2.2.2.2.1 u_10.2.2.2.2.2.2.2.2.2.2.2.2.2.2.2.1 u_10.2.2.2.2.2.2.2.2.2.2.2.2.2.2.2.2.1 u_10.2.2.2.2.2.2.2.2.2.2.2.2.2.2.2.2.2)) hP hD hS hA [0, 1, 2, 3, 4, 5, 6, 7, 8, 9, 10, 11, 12, 13] [] [0, 1, 2, 3, 4, 5, 6, 7, 8, 9, 10, 11, 12, 13] rfl rfl rfl (by decide) rfl rfl (va_runV (As := []) (rest := []) ⟨hx, hb, hml, hown, hta⟩ (c_X12_laysPieces l dC dI cI H.size a0 v0_2 u_8.2 v0_5 v0_12 v0_13 v0_16 v0_17 v0_21 v0_23 v0_24 v0_25 v0_26 v0_29 v0_30 v0_0 v0_6 v0_7 v0_8 v0_9 v0_10 v0_11 v0_14 v0_15 v0_18 v0_19 v0_20 v0_22 n u_10 hu_10) (cwV 0 hta (ga_V mA1024 mA1025 mA1026 mA814 mA1006) rfl rfl rfl (by decide +kernel) ⟨Nat.le_of_ble_eq_true rfl, Nat.le_of_ble_eq_true rfl⟩) ⟨q_fb, va_recv hK hP (ci := 11) (q0 := 0) rfl rfl, q_ps hPc hK hDc⟩ rfl rfl hl.1 rfl (lv_room (Nat.le_of_ble_eq_true rfl)) dX12_covered_44 ⟨Nat.zero_le _, Nat.zero_le _⟩) (fun H locs hP hD hS => ?_)
      refine lv_iconst (v := 0) hx hb dX12_covered_47 (by decide) ?_
      refine lv_istore (lv' := [(5, .int 0), (0, .ref (a0 0)), (1, .int x1), (2, .int x2), (3, .int x3), (4, .int x4)]) hx hb dX12_covered_48 hl (by decide) rfl (fun ls hl => ?_)
      refine lv_iload_n hx hb dX12_covered_50 rfl (lv_at hl 2 rfl) ?_
      refine lv_istore (lv' := [(6, .int x1), (5, .int 0), (0, .ref (a0 0)), (1, .int x1), (2, .int x2), (3, .int x3), (4, .int x4)]) hx hb dX12_covered_51 hl (by decide) rfl (fun ls hl => ?_)
      exact j53 u_8.2 u_10.1 u_10.2.1 u_10.2.2.1 u_10.2.2.2.1 u_10.2.2.2.2.1 u_10.2.2.2.2.2.1 u_10.2.2.2.2.2.2.1 u_10.2.2.2.2.2.2.2.1 u_10.2.2.2.2.2.2.2.2.1 u_10.2.2.2.2.2.2.2.2.2.1 u_10.2.2.2.2.2.2.2.2.2.2.1 u_10.2.2.2.2.2.2.2.2.2.2.2.1 u_10.2.2.2.2.2.2.2.2.2.2.2.2.1 u_10.2.2.2.2.2.2.2.2.2.2.2.2.2.1 u_10.2.2.2.2.2.2.2.2.2.2.2.2.2.2.1 u_10.2.2.2.2.2.2.2.2.2.2.2.2.2.2.2.1 u_10.2.2.2.2.2.2.2.2.2.2.2.2.2.2.2.2.1 u_10.2.2.2.2.2.2.2.2.2.2.2.2.2.2.2.2.2 x1 x2 x3 x4 0 x1 hF _ _ _ hP hD hS (lv_sub hl [2, 3, 4, 5, 6, 1, 0] rfl)
    · have hF := it_f hF c_9
      refine lv_iconst (v := 0) hx hb dX12_covered_41 (by decide) ?_
      obtain rfl := Option.some.inj hF
      exact W.iret (v := 0) hx hb hr (fun t ht hW => ⟨⟨0, (), rfl, rfl, by rw [ht]; exact hP, va_K.moved hW.alike hK, hD⟩, hS.F ht⟩) hS.2.2 dX12_covered_42
  have j34 : ∀ (v0_3 : Int32) (v0_12 : Int32) (v0_13 : Int32) (v0_16 : Int32) (v0_17 : Int32) (v0_21 : Int32) (v0_23 : Int32) (v0_6 : Nat → Int32) (v0_7 : Nat → Int32) (v0_8 : Nat → Int32) (v0_9 : Nat → Int32) (v0_10 : Nat → Int32) (v0_11 : Nat → Int32) (v0_14 : Nat → Int32) (v0_15 : Nat → Int32) (v0_18 : Nat → Int32) (v0_19 : Nat → Int32) (v0_20 : Nat → Int32) (v0_22 : Nat → Int32) (x1 : Int32) (x2 : Int32) (x3 : Int32) (x4 : Int32), F_X12_covered_j34 n v0_12 v0_13 v0_16 v0_17 v0_21 v0_23 v0_0 v0_6 v0_7 v0_8 v0_9 v0_10 v0_11 v0_14 v0_15 v0_18 v0_19 v0_20 v0_22 x1 x2 x3 x4 = some u → ∀ (H : Heap) (locs : List Loc) (ls : Array Slot), va_P (dC, dI) vwCl (wd_X12_covered cI a0 v0_2 v0_3 v0_5 v0_12 v0_13 v0_16 v0_17 v0_21 v0_23 v0_24 v0_25 v0_26 v0_29 v0_30 v0_0 v0_6 v0_7 v0_8 v0_9 v0_10 v0_11 v0_14 v0_15 v0_18 v0_19 v0_20 v0_22) H → va_D A (wd_X12_covered cI a0 v0_2 v0_3 v0_5 v0_12 v0_13 v0_16 v0_17 v0_21 v0_23 v0_24 v0_25 v0_26 v0_29 v0_30 v0_0 v0_6 v0_7 v0_8 v0_9 v0_10 v0_11 v0_14 v0_15 v0_18 v0_19 v0_20 v0_22) → va_S A s.heap H locs → lv_has ls 8 [(0, .ref (a0 0)), (1, .int x1), (2, .int x2), (3, .int x3), (4, .int x4)] → W p l e (headSpec wz_X12_covered rm_X12_covered).room s m [.ref (a0 0), .int p1, .int p2, .int p3, .int p4].toArray below meth c H locs 0 0 (MQ below (Q_X12_covered dC dI cI a0 v0_2 v0_5 v0_24 v0_25 v0_26 v0_29 v0_30 v0_0 u A) [.ref (a0 0), .int p1, .int p2, .int p3, .int p4].toArray s 0 0 A) (F0 m 34 ls [.ref (a0 0)]) := by
    intro v0_3 v0_12 v0_13 v0_16 v0_17 v0_21 v0_23 v0_6 v0_7 v0_8 v0_9 v0_10 v0_11 v0_14 v0_15 v0_18 v0_19 v0_20 v0_22 x1 x2 x3 x4 hF H locs ls hP hD hS hl
    unfold F_X12_covered_j34 at hF
    refine lv_iconst (v := 1) hx hb dX12_covered_34 (by decide) ?_
    exact j35 v0_3 v0_12 v0_13 v0_16 v0_17 v0_21 v0_23 v0_6 v0_7 v0_8 v0_9 v0_10 v0_11 v0_14 v0_15 v0_18 v0_19 v0_20 v0_22 x1 x2 x3 x4 1 hF _ _ _ hP hD hS (lv_sub hl [0, 1, 2, 3, 4] rfl)
  refine lv_aload_n hx hb dX12_covered_0 rfl (lv_at hl 0 rfl) ?_
  refine lv_iload_n hx hb dX12_covered_1 rfl (lv_at hl 1 rfl) ?_
  refine lv_iload_n hx hb dX12_covered_2 rfl (lv_at hl 2 rfl) ?_
  obtain ⟨u_11, hu_11, hF⟩ := lt_some hF
  have hPc := hP.sub (ws' := ([] : va_W)) [] rfl
  have hDc := hD.sub (ws' := ([] : va_W)) [] rfl rfl
  refine q_callz (wc := ([] : va_W)) (w1 := ([] : va_W)) (ws' := (wd_X12_covered cI a0 v0_2 v0_3 v0_5 v0_12 v0_13 v0_16 v0_17 v0_21 v0_23 v0_24 v0_25 v0_26 v0_29 v0_30 v0_0 v0_6 v0_7 v0_8 v0_9 v0_10 v0_11 v0_14 v0_15 v0_18 v0_19 v0_20 v0_22)) hP hD hS hA [] [0, 1, 2, 3, 4, 5, 6, 7, 8, 9, 10, 11, 12, 13] [0, 1, 2, 3, 4, 5, 6, 7, 8, 9, 10, 11, 12, 13] rfl rfl rfl (by decide) rfl rfl (va_runS (As := [.int p1, .int p2]) (rest := [.ref (a0 0)]) ⟨hx, hb, hml, hown, hta⟩ (c_X12_isPlace l dC dI cI H.size p1 p2 u_11 hu_11.symm) (va_cwS 2 hta (ga_S mA843 mA844 mA814 mA811) rfl rfl rfl (by decide +kernel) ⟨Nat.le_of_ble_eq_true rfl, Nat.le_of_ble_eq_true rfl⟩) ⟨q_fb, q_ps hPc hK hDc⟩ rfl rfl hl.1 rfl (lv_room (Nat.le_of_ble_eq_true rfl)) dX12_covered_3 ⟨Nat.zero_le _, Nat.zero_le _⟩) (fun hzu_11 H locs hP hD hS => ?_)
  refine lv_if_eq (tgt := 34) hx hb dX12_covered_6 (by decide) (fun c_12 => ?_) (fun c_12 => ?_)
  · have hF := it_t hF c_12
    exact j34 v0_3 v0_12 v0_13 v0_16 v0_17 v0_21 v0_23 v0_6 v0_7 v0_8 v0_9 v0_10 v0_11 v0_14 v0_15 v0_18 v0_19 v0_20 v0_22 p1 p2 p3 p4 hF _ _ _ hP hD hS (lv_sub hl [0, 1, 2, 3, 4] rfl)
  · have hF := it_f hF c_12
    refine lv_iload_n hx hb dX12_covered_9 rfl (lv_at hl 3 rfl) ?_
    refine lv_iconst (v := 0) hx hb dX12_covered_10 (by decide) ?_
    refine lv_bipush (v := 20) hx hb dX12_covered_11 (by decide) ?_
    obtain ⟨u_13, hu_13, hF⟩ := lt_some hF
    have hPc := hP.sub (ws' := ([] : va_W)) [] rfl
    have hDc := hD.sub (ws' := ([] : va_W)) [] rfl rfl
    refine q_callz (wc := ([] : va_W)) (w1 := ([] : va_W)) (ws' := (wd_X12_covered cI a0 v0_2 v0_3 v0_5 v0_12 v0_13 v0_16 v0_17 v0_21 v0_23 v0_24 v0_25 v0_26 v0_29 v0_30 v0_0 v0_6 v0_7 v0_8 v0_9 v0_10 v0_11 v0_14 v0_15 v0_18 v0_19 v0_20 v0_22)) hP hD hS hA [] [0, 1, 2, 3, 4, 5, 6, 7, 8, 9, 10, 11, 12, 13] [0, 1, 2, 3, 4, 5, 6, 7, 8, 9, 10, 11, 12, 13] rfl rfl rfl (by decide) rfl rfl (va_runS (As := [.int p3, .int 0, .int 20]) (rest := [.ref (a0 0)]) ⟨hx, hb, hml, hown, hta⟩ (c_X12_within l dC dI cI H.size p3 0 20 u_13 hu_13.symm) (va_cwS 3 hta (ga_S mA812 mA813 mA814 mA810) rfl rfl rfl (by decide +kernel) ⟨Nat.le_of_ble_eq_true rfl, Nat.le_of_ble_eq_true rfl⟩) ⟨q_fb, q_ps hPc hK hDc⟩ rfl rfl hl.1 rfl (lv_room (Nat.le_of_ble_eq_true rfl)) dX12_covered_13 ⟨Nat.zero_le _, Nat.zero_le _⟩) (fun hzu_13 H locs hP hD hS => ?_)
    refine lv_if_eq (tgt := 34) hx hb dX12_covered_16 (by decide) (fun c_14 => ?_) (fun c_14 => ?_)
    · have hF := it_t hF c_14
      exact j34 v0_3 v0_12 v0_13 v0_16 v0_17 v0_21 v0_23 v0_6 v0_7 v0_8 v0_9 v0_10 v0_11 v0_14 v0_15 v0_18 v0_19 v0_20 v0_22 p1 p2 p3 p4 hF _ _ _ hP hD hS (lv_sub hl [0, 1, 2, 3, 4] rfl)
    · have hF := it_f hF c_14
      refine lv_iload hx hb dX12_covered_19 (lv_at hl 4 rfl) ?_
      refine lv_iconst (v := 0) hx hb dX12_covered_21 (by decide) ?_
      refine lv_bipush (v := 20) hx hb dX12_covered_22 (by decide) ?_
      obtain ⟨u_15, hu_15, hF⟩ := lt_some hF
      have hPc := hP.sub (ws' := ([] : va_W)) [] rfl
      have hDc := hD.sub (ws' := ([] : va_W)) [] rfl rfl
      refine q_callz (wc := ([] : va_W)) (w1 := ([] : va_W)) (ws' := (wd_X12_covered cI a0 v0_2 v0_3 v0_5 v0_12 v0_13 v0_16 v0_17 v0_21 v0_23 v0_24 v0_25 v0_26 v0_29 v0_30 v0_0 v0_6 v0_7 v0_8 v0_9 v0_10 v0_11 v0_14 v0_15 v0_18 v0_19 v0_20 v0_22)) hP hD hS hA [] [0, 1, 2, 3, 4, 5, 6, 7, 8, 9, 10, 11, 12, 13] [0, 1, 2, 3, 4, 5, 6, 7, 8, 9, 10, 11, 12, 13] rfl rfl rfl (by decide) rfl rfl (va_runS (As := [.int p4, .int 0, .int 20]) (rest := [.ref (a0 0)]) ⟨hx, hb, hml, hown, hta⟩ (c_X12_within l dC dI cI H.size p4 0 20 u_15 hu_15.symm) (va_cwS 3 hta (ga_S mA812 mA813 mA814 mA810) rfl rfl rfl (by decide +kernel) ⟨Nat.le_of_ble_eq_true rfl, Nat.le_of_ble_eq_true rfl⟩) ⟨q_fb, q_ps hPc hK hDc⟩ rfl rfl hl.1 rfl (lv_room (Nat.le_of_ble_eq_true rfl)) dX12_covered_24 ⟨Nat.zero_le _, Nat.zero_le _⟩) (fun hzu_15 H locs hP hD hS => ?_)
      refine lv_if_eq (tgt := 34) hx hb dX12_covered_27 (by decide) (fun c_16 => ?_) (fun c_16 => ?_)
      · have hF := it_t hF c_16
        exact j34 v0_3 v0_12 v0_13 v0_16 v0_17 v0_21 v0_23 v0_6 v0_7 v0_8 v0_9 v0_10 v0_11 v0_14 v0_15 v0_18 v0_19 v0_20 v0_22 p1 p2 p3 p4 hF _ _ _ hP hD hS (lv_sub hl [0, 1, 2, 3, 4] rfl)
      · have hF := it_f hF c_16
        refine lv_iconst (v := 0) hx hb dX12_covered_30 (by decide) ?_
        refine lv_goto (tgt := 35) hx hb dX12_covered_31 (by decide) ?_
        exact j35 v0_3 v0_12 v0_13 v0_16 v0_17 v0_21 v0_23 v0_6 v0_7 v0_8 v0_9 v0_10 v0_11 v0_14 v0_15 v0_18 v0_19 v0_20 v0_22 p1 p2 p3 p4 0 hF _ _ _ hP hD hS (lv_sub hl [0, 1, 2, 3, 4] rfl)
