-- StrokeOutliner.setStyle(IIII)I
def F_X11_setStyle (v2_0 : Nat → Int32) (v4_1 : Int32) (v4_0 : Nat → Int32) (v5_3 : Int32) (p1 : Int32) (p2 : Int32) (p3 : Int32) (p4 : Int32) : Option (Sum (Int32 × (Nat → Int32) × Int32 × (Nat → Int32) × Int32) (Nat × (Nat → Int32) × Int32 × (Nat → Int32) × Int32)) :=
  obx (F_X11_checkRange p1 1 40) (fun x_2 => some (.inr (x_2, v2_0, v4_1, v4_0, v5_3))) (fun u_1 => obx (F_X11_checkRange p2 0 2) (fun x_4 => some (.inr (x_4, v2_0, v4_1, v4_0, v5_3))) (fun u_3 => obx (F_X11_checkRange p3 1 10) (fun x_6 => some (.inr (x_6, v2_0, v4_1, v4_0, v5_3))) (fun u_5 => obx (F_X11_checkRange p4 0 2) (fun x_8 => some (.inr (x_8, v2_0, v4_1, v4_0, v5_3))) (fun u_7 => obd (F_X11_saveState v2_0 v4_1 v4_0) (fun u_9 => obd (F_X1_cell v2_0 0) (fun u_10 => obd (F_X1_put v2_0 0 p1) (fun u_11 => obd (F_X1_put u_11 1 p2) (fun u_12 => obd (F_X1_put u_12 2 p3) (fun u_13 => obd (F_X1_put u_13 3 p4) (fun u_14 => some (.inl (u_10, u_14, u_9.1, u_9.2.1, u_9.2.2))))))))))))
abbrev wd_X11_setStyle (cI : ClassId) (a0 : Nat → Nat) (a1 : Nat → Nat) (a2 : Nat → Nat) (a3 : Nat → Nat) (a4 : Nat → Nat) (a5 : Nat → Nat) (a6 : Nat → Nat) (a7 : Nat → Nat) (a8 : Nat → Nat) (a9 : Nat → Nat) (a10 : Nat → Nat) (v2_0 : Nat → Int32) (v4_1 : Int32) (v4_0 : Nat → Int32) (v5_3 : Int32) (v5_4 : Int32) (v5_5 : Int32) (v5_6 : Int32) (v5_7 : Int32) : va_W := [(a0 0, .inr (10, [.ref (a2 0), .ref (a1 0), .ref (a4 0), .ref (a9 0), .ref (a10 0), .ref (a5 0), .ref (a3 0)])), (a2 0, .inr (1, [.ref (a2 1)])), (a2 1, .inl (cI, 86, .inl v2_0)), (a4 0, .inr (3, [.ref (a4 1), .int v4_1])), (a4 1, .inl (cI, 344, .inl v4_0)), (a5 0, .inr (9, [.ref (a8 0), .ref (a7 0), .ref (a6 0), .int v5_3, .int v5_4, .int v5_5, .int v5_6, .int v5_7]))]
abbrev wz_X11_setStyle : List Cond := .code yX11_setStyle cX11_setStyle 6 (some .int) :: wALL
abbrev rm_X11_setStyle : Room := { frames := 4, cells := 0, slots := 0, locals := 89 }
abbrev Q_X11_setStyle (dC : Nat → ClassId) (dI : Nat → Nat → Nat) (cI : ClassId) (a0 : Nat → Nat) (a1 : Nat → Nat) (a2 : Nat → Nat) (a3 : Nat → Nat) (a4 : Nat → Nat) (a5 : Nat → Nat) (a6 : Nat → Nat) (a7 : Nat → Nat) (a8 : Nat → Nat) (a9 : Nat → Nat) (a10 : Nat → Nat) (v5_4 : Int32) (v5_5 : Int32) (v5_6 : Int32) (v5_7 : Int32) (u : (Int32 × (Nat → Int32) × Int32 × (Nat → Int32) × Int32)) (A : Nat → Prop) : Array Value → State → Outcome → State → Prop := va_Qi (fun (r : Int32) (_ : Unit) => r = u.1) (fun _ => q_at dC dI cI A (wd_X11_setStyle cI a0 a1 a2 a3 a4 a5 a6 a7 a8 a9 a10 u.2.1 u.2.2.1 u.2.2.2.1 u.2.2.2.2 v5_4 v5_5 v5_6 v5_7)) A
set_option maxHeartbeats 4000000 in
set_option maxRecDepth 100000 in
theorem c_X11_setStyle (l : Launch) (dC : Nat → ClassId) (dI : Nat → Nat → Nat) (cI : ClassId) (sz : Nat) (a0 : Nat → Nat) (a1 : Nat → Nat) (a2 : Nat → Nat) (a3 : Nat → Nat) (a4 : Nat → Nat) (a5 : Nat → Nat) (a6 : Nat → Nat) (a7 : Nat → Nat) (a8 : Nat → Nat) (a9 : Nat → Nat) (a10 : Nat → Nat) (v2_0 : Nat → Int32) (v4_1 : Int32) (v4_0 : Nat → Int32) (v5_3 : Int32) (v5_4 : Int32) (v5_5 : Int32) (v5_6 : Int32) (v5_7 : Int32) (p1 : Int32) (p2 : Int32) (p3 : Int32) (p4 : Int32) (u : (Int32 × (Nat → Int32) × Int32 × (Nat → Int32) × Int32)) (hF : F_X11_setStyle v2_0 v4_1 v4_0 v5_3 p1 p2 p3 p4 = some (.inl u)) : Met l yX11_setStyle wz_X11_setStyle rm_X11_setStyle (va_Pc [.ref (a0 0), .int p1, .int p2, .int p3, .int p4] (q_pre dC dI cI (wd_X11_setStyle cI a0 a1 a2 a3 a4 a5 a6 a7 a8 a9 a10 v2_0 v4_1 v4_0 v5_3 v5_4 v5_5 v5_6 v5_7) sz)) (Q_X11_setStyle dC dI cI a0 a1 a2 a3 a4 a5 a6 a7 a8 a9 a10 v5_4 v5_5 v5_6 v5_7 u (va_A (wd_X11_setStyle cI a0 a1 a2 a3 a4 a5 a6 a7 a8 a9 a10 v2_0 v4_1 v4_0 v5_3 v5_4 v5_5 v5_6 v5_7) sz)) 0 0 (va_A (wd_X11_setStyle cI a0 a1 a2 a3 a4 a5 a6 a7 a8 a9 a10 v2_0 v4_1 v4_0 v5_3 v5_4 v5_5 v5_6 v5_7) sz) := by
  refine Met.ofW (cc := cX11_setStyle) (maxL := 6) (ret := (some .int)) (by decide) rfl ?_
  intro p e s m args below meth c s₁ B hml hv
  obtain ⟨rfl, hsz, hP, hK, hD0⟩ := hv
  have hx := B.exec
  have hb := B.bytes
  have hr := B.returns
  have hts := atoms_spec (ws := wz_X11_setStyle) B.pre
  have hta := wz_tl hts
  have hown : s.vm.findClass RX11 = some m.cls := findClass_of_methodNamed B.named
  have hlocks := B.notSynchronized
  subst hsz
  have hD := hD0.self (sz := s.heap.size)
  generalize hAe : va_A (wd_X11_setStyle cI a0 a1 a2 a3 a4 a5 a6 a7 a8 a9 a10 v2_0 v4_1 v4_0 v5_3 v5_4 v5_5 v5_6 v5_7) s.heap.size = A at hD ⊢
  have hA : ∀ q : Nat, s.heap.size ≤ q → A q := fun q h => by rw [← hAe]; exact Or.inr h
  have hS : va_S A s.heap s.heap [] := va_S.rf
  have hP : va_P (dC, dI) vwCl (wd_X11_setStyle cI a0 a1 a2 a3 a4 a5 a6 a7 a8 a9 a10 v2_0 v4_1 v4_0 v5_3 v5_4 v5_5 v5_6 v5_7) s.heap := hP
  have hl := lv_entry ([.ref (a0 0), .int p1, .int p2, .int p3, .int p4]) (n := 6) (Nat.le_of_ble_eq_true rfl)
  rw [lg_entry_eq]
  generalize (lg_sl ([.ref (a0 0), .int p1, .int p2, .int p3, .int p4]) ++ List.replicate (6 - (lg_sl ([.ref (a0 0), .int p1, .int p2, .int p3, .int p4])).length) Slot.unset).toArray = ls at hl ⊢
  have hl : lv_has ls 6 [(0, .ref (a0 0)), (1, .int p1), (2, .int p2), (3, .int p3), (4, .int p4)] := hl
  obtain ⟨H, hHe⟩ : ∃ H, H = s.heap := ⟨_, rfl⟩
  have hS : va_S A s.heap H [] := by rw [hHe]; exact hS
  have hP : va_P (dC, dI) vwCl (wd_X11_setStyle cI a0 a1 a2 a3 a4 a5 a6 a7 a8 a9 a10 v2_0 v4_1 v4_0 v5_3 v5_4 v5_5 v5_6 v5_7) H := by rw [hHe]; exact hP
  rw [← hHe]
  unfold F_X11_setStyle at hF
  refine lv_iload_n hx hb dX11_setStyle_0 rfl (lv_at hl 1 rfl) ?_
  refine lv_iconst (v := 1) hx hb dX11_setStyle_1 (by decide) ?_
  refine lv_bipush (v := 40) hx hb dX11_setStyle_2 (by decide) ?_
  refine obx_elim hF (fun x_2 hx_2 hF => ?_) (fun u_1 hu_1 hF => ?_)
  · exact absurd hF no_rl
  have hPc := hP.sub (ws' := ([] : va_W)) [] rfl
  have hDc := hD.sub (ws' := ([] : va_W)) [] rfl rfl
  refine q_callv (wc := ([] : va_W)) (w1 := ([] : va_W)) (ws' := (wd_X11_setStyle cI a0 a1 a2 a3 a4 a5 a6 a7 a8 a9 a10 v2_0 v4_1 v4_0 v5_3 v5_4 v5_5 v5_6 v5_7)) hP hD hS hA [] [0, 1, 2, 3, 4, 5] [0, 1, 2, 3, 4, 5] rfl rfl rfl (by decide) rfl rfl (va_runS (As := [.int p1, .int 1, .int 40]) (rest := []) ⟨hx, hb, hml, hown, hta⟩ (c_X11_checkRange l dC dI cI H.size p1 1 40 u_1 hu_1) (va_cwS 3 hta (ga_S mA106 mA107 mA108 mA109) rfl rfl rfl (by decide +kernel) ⟨Nat.le_of_ble_eq_true rfl, Nat.le_of_ble_eq_true rfl⟩) ⟨q_fb, q_ps hPc hK hDc⟩ rfl rfl hl.1 rfl (lv_room (Nat.le_of_ble_eq_true rfl)) dX11_setStyle_4 ⟨Nat.zero_le _, Nat.zero_le _⟩) (fun H locs hP hD hS => ?_)
  refine lv_iload_n hx hb dX11_setStyle_7 rfl (lv_at hl 2 rfl) ?_
  refine lv_iconst (v := 0) hx hb dX11_setStyle_8 (by decide) ?_
  refine lv_iconst (v := 2) hx hb dX11_setStyle_9 (by decide) ?_
  refine obx_elim hF (fun x_4 hx_4 hF => ?_) (fun u_3 hu_3 hF => ?_)
  · exact absurd hF no_rl
  have hPc := hP.sub (ws' := ([] : va_W)) [] rfl
  have hDc := hD.sub (ws' := ([] : va_W)) [] rfl rfl
  refine q_callv (wc := ([] : va_W)) (w1 := ([] : va_W)) (ws' := (wd_X11_setStyle cI a0 a1 a2 a3 a4 a5 a6 a7 a8 a9 a10 v2_0 v4_1 v4_0 v5_3 v5_4 v5_5 v5_6 v5_7)) hP hD hS hA [] [0, 1, 2, 3, 4, 5] [0, 1, 2, 3, 4, 5] rfl rfl rfl (by decide) rfl rfl (va_runS (As := [.int p2, .int 0, .int 2]) (rest := []) ⟨hx, hb, hml, hown, hta⟩ (c_X11_checkRange l dC dI cI H.size p2 0 2 u_3 hu_3) (va_cwS 3 hta (ga_S mA106 mA107 mA108 mA109) rfl rfl rfl (by decide +kernel) ⟨Nat.le_of_ble_eq_true rfl, Nat.le_of_ble_eq_true rfl⟩) ⟨q_fb, q_ps hPc hK hDc⟩ rfl rfl hl.1 rfl (lv_room (Nat.le_of_ble_eq_true rfl)) dX11_setStyle_10 ⟨Nat.zero_le _, Nat.zero_le _⟩) (fun H locs hP hD hS => ?_)
  refine lv_iload_n hx hb dX11_setStyle_13 rfl (lv_at hl 3 rfl) ?_
  refine lv_iconst (v := 1) hx hb dX11_setStyle_14 (by decide) ?_
  refine lv_bipush (v := 10) hx hb dX11_setStyle_15 (by decide) ?_
  refine obx_elim hF (fun x_6 hx_6 hF => ?_) (fun u_5 hu_5 hF => ?_)
  · exact absurd hF no_rl
  have hPc := hP.sub (ws' := ([] : va_W)) [] rfl
  have hDc := hD.sub (ws' := ([] : va_W)) [] rfl rfl
  refine q_callv (wc := ([] : va_W)) (w1 := ([] : va_W)) (ws' := (wd_X11_setStyle cI a0 a1 a2 a3 a4 a5 a6 a7 a8 a9 a10 v2_0 v4_1 v4_0 v5_3 v5_4 v5_5 v5_6 v5_7)) hP hD hS hA [] [0, 1, 2, 3, 4, 5] [0, 1, 2, 3, 4, 5] rfl rfl rfl (by decide) rfl rfl (va_runS (As := [.int p3, .int 1, .int 10]) (rest := []) ⟨hx, hb, hml, hown, hta⟩ (c_X11_checkRange l dC dI cI H.size p3 1 10 u_5 hu_5) (va_cwS 3 hta (ga_S mA106 mA107 mA108 mA109) rfl rfl rfl (by decide +kernel) ⟨Nat.le_of_ble_eq_true rfl, Nat.le_of_ble_eq_true rfl⟩) ⟨q_fb, q_ps hPc hK hDc⟩ rfl rfl hl.1 rfl (lv_room (Nat.le_of_ble_eq_true rfl)) dX11_setStyle_17 ⟨Nat.zero_le _, Nat.zero_le _⟩) (fun H locs hP hD hS => ?_)
  refine lv_iload hx hb dX11_setStyle_20 (lv_at hl 4 rfl) ?_
  refine lv_iconst (v := 0) hx hb dX11_setStyle_22 (by decide) ?_
  refine lv_iconst (v := 2) hx hb dX11_setStyle_23 (by decide) ?_
  refine obx_elim hF (fun x_8 hx_8 hF => ?_) (fun u_7 hu_7 hF => ?_)
  · exact absurd hF no_rl
  have hPc := hP.sub (ws' := ([] : va_W)) [] rfl
  have hDc := hD.sub (ws' := ([] : va_W)) [] rfl rfl
  refine q_callv (wc := ([] : va_W)) (w1 := ([] : va_W)) (ws' := (wd_X11_setStyle cI a0 a1 a2 a3 a4 a5 a6 a7 a8 a9 a10 v2_0 v4_1 v4_0 v5_3 v5_4 v5_5 v5_6 v5_7)) hP hD hS hA [] [0, 1, 2, 3, 4, 5] [0, 1, 2, 3, 4, 5] rfl rfl rfl (by decide) rfl rfl (va_runS (As := [.int p4, .int 0, .int 2]) (rest := []) ⟨hx, hb, hml, hown, hta⟩ (c_X11_checkRange l dC dI cI H.size p4 0 2 u_7 hu_7) (va_cwS 3 hta (ga_S mA106 mA107 mA108 mA109) rfl rfl rfl (by decide +kernel) ⟨Nat.le_of_ble_eq_true rfl, Nat.le_of_ble_eq_true rfl⟩) ⟨q_fb, q_ps hPc hK hDc⟩ rfl rfl hl.1 rfl (lv_room (Nat.le_of_ble_eq_true rfl)) dX11_setStyle_24 ⟨Nat.zero_le _, Nat.zero_le _⟩) (fun H locs hP hD hS => ?_)
  refine lv_aload_n hx hb dX11_setStyle_27 rfl (lv_at hl 0 rfl) ?_
  obtain ⟨u_9, hu_9, hF⟩ := obd_some hF
  have hPc := hP.sub (ws' := (wd_X11_saveState cI a0 a1 a2 a3 a4 a5 a6 a7 a8 a9 a10 v2_0 v4_1 v4_0 v5_3 v5_4 v5_5 v5_6 v5_7)) [0, 1, 2, 3, 4, 5] rfl
  have hDc := hD.sub (ws' := (wd_X11_saveState cI a0 a1 a2 a3 a4 a5 a6 a7 a8 a9 a10 v2_0 v4_1 v4_0 v5_3 v5_4 v5_5 v5_6 v5_7)) [0, 1, 2, 3, 4, 5] rfl rfl
  refine q_callv (wc := (wd_X11_saveState cI a0 a1 a2 a3 a4 a5 a6 a7 a8 a9 a10 v2_0 v4_1 v4_0 v5_3 v5_4 v5_5 v5_6 v5_7)) (w1 := (wd_X11_saveState cI a0 a1 a2 a3 a4 a5 a6 a7 a8 a9 a10 v2_0 u_9.1 u_9.2.1 u_9.2.2 v5_4 v5_5 v5_6 v5_7)) (ws' := (wd_X11_setStyle cI a0 a1 a2 a3 a4 a5 a6 a7 a8 a9 a10 v2_0 u_9.1 u_9.2.1 u_9.2.2 v5_4 v5_5 v5_6 v5_7)) hP hD hS hA [0, 1, 2, 3, 4, 5] [] [0, 1, 2, 3, 4, 5] rfl rfl rfl (by decide) rfl rfl (va_runV (As := []) (rest := []) ⟨hx, hb, hml, hown, hta⟩ (c_X11_saveState l dC dI cI H.size a0 a1 a2 a3 a4 a5 a6 a7 a8 a9 a10 v2_0 v4_1 v4_0 v5_3 v5_4 v5_5 v5_6 v5_7 u_9 hu_9) (cwV 0 hta (ga_V mA125 mA126 mA127 mA108 mA128) rfl rfl rfl (by decide +kernel) ⟨Nat.le_of_ble_eq_true rfl, Nat.le_of_ble_eq_true rfl⟩) ⟨q_fb, va_recv hK hP (ci := 10) (q0 := 0) rfl rfl, q_ps hPc hK hDc⟩ rfl rfl hl.1 rfl (lv_room (Nat.le_of_ble_eq_true rfl)) dX11_setStyle_28 ⟨Nat.zero_le _, Nat.zero_le _⟩) (fun H locs hP hD hS => ?_)
  refine lv_aload_n hx hb dX11_setStyle_31 rfl (lv_at hl 0 rfl) ?_
  refine va_get (D := (dC, dI)) (ci := 10) (v := .ref (a2 0)) (C := RX11) (T := TX11) (N := 7) hx hb hta uw_X11 hown hK hP 0 rfl rfl 0 (by decide) (hta _ mA7) (fun _ h9 => h9) rfl dX11_setStyle_32 ?_
  refine lv_iconst (v := 0) hx hb dX11_setStyle_35 (by decide) ?_
  obtain ⟨u_10, hu_10, hF⟩ := obd_some hF
  have hPc := hP.sub (ws' := (wd_X1_cell cI a2 v2_0)) [1, 2] rfl
  have hDc := hD.sub (ws' := (wd_X1_cell cI a2 v2_0)) [1, 2] rfl rfl
  refine q_calli (wc := (wd_X1_cell cI a2 v2_0)) (w1 := (wd_X1_cell cI a2 v2_0)) (ws' := (wd_X11_setStyle cI a0 a1 a2 a3 a4 a5 a6 a7 a8 a9 a10 v2_0 u_9.1 u_9.2.1 u_9.2.2 v5_4 v5_5 v5_6 v5_7)) hP hD hS hA [1, 2] [0, 3, 4, 5] [0, 4, 5, 1, 2, 3] rfl rfl rfl (by decide) rfl rfl (va_runV (As := [.int 0]) (rest := []) ⟨hx, hb, hml, hown, hta⟩ (c_X1_cell l dC dI cI H.size a2 v2_0 0 u_10 hu_10) (cwV 1 hta (ga_V mA344 mA117 mA118 mA6 mA119) rfl rfl rfl (by decide +kernel) ⟨Nat.le_of_ble_eq_true rfl, Nat.le_of_ble_eq_true rfl⟩) ⟨q_fb, va_recv hK hP (ci := 1) (q0 := 1) rfl rfl, q_ps hPc hK hDc⟩ rfl rfl hl.1 rfl (lv_room (Nat.le_of_ble_eq_true rfl)) dX11_setStyle_36 ⟨Nat.zero_le _, Nat.zero_le _⟩) (fun H locs hP hD hS => ?_)
  refine lv_istore (lv' := [(5, .int u_10), (0, .ref (a0 0)), (1, .int p1), (2, .int p2), (3, .int p3), (4, .int p4)]) hx hb dX11_setStyle_39 hl (by decide) rfl (fun ls hl => ?_)
  refine lv_aload_n hx hb dX11_setStyle_41 rfl (lv_at hl 1 rfl) ?_
  refine va_get (D := (dC, dI)) (ci := 10) (v := .ref (a2 0)) (C := RX11) (T := TX11) (N := 7) hx hb hta uw_X11 hown hK hP 0 rfl rfl 0 (by decide) (hta _ mA7) (fun _ h9 => h9) rfl dX11_setStyle_42 ?_
  refine lv_iconst (v := 0) hx hb dX11_setStyle_45 (by decide) ?_
  refine lv_iload_n hx hb dX11_setStyle_46 rfl (lv_at hl 2 rfl) ?_
  obtain ⟨u_11, hu_11, hF⟩ := obd_some hF
  have hPc := hP.sub (ws' := (wd_X1_put cI a2 v2_0)) [1, 2] rfl
  have hDc := hD.sub (ws' := (wd_X1_put cI a2 v2_0)) [1, 2] rfl rfl
  refine q_callv (wc := (wd_X1_put cI a2 v2_0)) (w1 := (wd_X1_put cI a2 u_11)) (ws' := (wd_X11_setStyle cI a0 a1 a2 a3 a4 a5 a6 a7 a8 a9 a10 u_11 u_9.1 u_9.2.1 u_9.2.2 v5_4 v5_5 v5_6 v5_7)) hP hD hS hA [1, 2] [0, 3, 4, 5] [0, 4, 5, 1, 2, 3] rfl rfl rfl (by decide) rfl rfl (va_runV (As := [.int 0, .int p1]) (rest := []) ⟨hx, hb, hml, hown, hta⟩ (c_X1_put l dC dI cI H.size a2 v2_0 0 p1 u_11 hu_11) (cwV 2 hta (ga_V mA345 mA154 mA155 mA6 mA156) rfl rfl rfl (by decide +kernel) ⟨Nat.le_of_ble_eq_true rfl, Nat.le_of_ble_eq_true rfl⟩) ⟨q_fb, va_recv hK hP (ci := 1) (q0 := 1) rfl rfl, q_ps hPc hK hDc⟩ rfl rfl hl.1 rfl (lv_room (Nat.le_of_ble_eq_true rfl)) dX11_setStyle_47 ⟨Nat.zero_le _, Nat.zero_le _⟩) (fun H locs hP hD hS => ?_)
  refine lv_aload_n hx hb dX11_setStyle_50 rfl (lv_at hl 1 rfl) ?_
  refine va_get (D := (dC, dI)) (ci := 10) (v := .ref (a2 0)) (C := RX11) (T := TX11) (N := 7) hx hb hta uw_X11 hown hK hP 0 rfl rfl 0 (by decide) (hta _ mA7) (fun _ h9 => h9) rfl dX11_setStyle_51 ?_
  refine lv_iconst (v := 1) hx hb dX11_setStyle_54 (by decide) ?_
  refine lv_iload_n hx hb dX11_setStyle_55 rfl (lv_at hl 3 rfl) ?_
  obtain ⟨u_12, hu_12, hF⟩ := obd_some hF
  have hPc := hP.sub (ws' := (wd_X1_put cI a2 u_11)) [1, 2] rfl
  have hDc := hD.sub (ws' := (wd_X1_put cI a2 u_11)) [1, 2] rfl rfl
  refine q_callv (wc := (wd_X1_put cI a2 u_11)) (w1 := (wd_X1_put cI a2 u_12)) (ws' := (wd_X11_setStyle cI a0 a1 a2 a3 a4 a5 a6 a7 a8 a9 a10 u_12 u_9.1 u_9.2.1 u_9.2.2 v5_4 v5_5 v5_6 v5_7)) hP hD hS hA [1, 2] [0, 3, 4, 5] [0, 4, 5, 1, 2, 3] rfl rfl rfl (by decide) rfl rfl (va_runV (As := [.int 1, .int p2]) (rest := []) ⟨hx, hb, hml, hown, hta⟩ (c_X1_put l dC dI cI H.size a2 u_11 1 p2 u_12 hu_12) (cwV 2 hta (ga_V mA345 mA154 mA155 mA6 mA156) rfl rfl rfl (by decide +kernel) ⟨Nat.le_of_ble_eq_true rfl, Nat.le_of_ble_eq_true rfl⟩) ⟨q_fb, va_recv hK hP (ci := 1) (q0 := 1) rfl rfl, q_ps hPc hK hDc⟩ rfl rfl hl.1 rfl (lv_room (Nat.le_of_ble_eq_true rfl)) dX11_setStyle_56 ⟨Nat.zero_le _, Nat.zero_le _⟩) (fun H locs hP hD hS => ?_)
  refine lv_aload_n hx hb dX11_setStyle_59 rfl (lv_at hl 1 rfl) ?_
  refine va_get (D := (dC, dI)) (ci := 10) (v := .ref (a2 0)) (C := RX11) (T := TX11) (N := 7) hx hb hta uw_X11 hown hK hP 0 rfl rfl 0 (by decide) (hta _ mA7) (fun _ h9 => h9) rfl dX11_setStyle_60 ?_
  refine lv_iconst (v := 2) hx hb dX11_setStyle_63 (by decide) ?_
  refine lv_iload_n hx hb dX11_setStyle_64 rfl (lv_at hl 4 rfl) ?_
  obtain ⟨u_13, hu_13, hF⟩ := obd_some hF
  have hPc := hP.sub (ws' := (wd_X1_put cI a2 u_12)) [1, 2] rfl
  have hDc := hD.sub (ws' := (wd_X1_put cI a2 u_12)) [1, 2] rfl rfl
  refine q_callv (wc := (wd_X1_put cI a2 u_12)) (w1 := (wd_X1_put cI a2 u_13)) (ws' := (wd_X11_setStyle cI a0 a1 a2 a3 a4 a5 a6 a7 a8 a9 a10 u_13 u_9.1 u_9.2.1 u_9.2.2 v5_4 v5_5 v5_6 v5_7)) hP hD hS hA [1, 2] [0, 3, 4, 5] [0, 4, 5, 1, 2, 3] rfl rfl rfl (by decide) rfl rfl (va_runV (As := [.int 2, .int p3]) (rest := []) ⟨hx, hb, hml, hown, hta⟩ (c_X1_put l dC dI cI H.size a2 u_12 2 p3 u_13 hu_13) (cwV 2 hta (ga_V mA345 mA154 mA155 mA6 mA156) rfl rfl rfl (by decide +kernel) ⟨Nat.le_of_ble_eq_true rfl, Nat.le_of_ble_eq_true rfl⟩) ⟨q_fb, va_recv hK hP (ci := 1) (q0 := 1) rfl rfl, q_ps hPc hK hDc⟩ rfl rfl hl.1 rfl (lv_room (Nat.le_of_ble_eq_true rfl)) dX11_setStyle_65 ⟨Nat.zero_le _, Nat.zero_le _⟩) (fun H locs hP hD hS => ?_)
  refine lv_aload_n hx hb dX11_setStyle_68 rfl (lv_at hl 1 rfl) ?_
  refine va_get (D := (dC, dI)) (ci := 10) (v := .ref (a2 0)) (C := RX11) (T := TX11) (N := 7) hx hb hta uw_X11 hown hK hP 0 rfl rfl 0 (by decide) (hta _ mA7) (fun _ h9 => h9) rfl dX11_setStyle_69 ?_
  refine lv_iconst (v := 3) hx hb dX11_setStyle_72 (by decide) ?_
  refine lv_iload hx hb dX11_setStyle_73 (lv_at hl 5 rfl) ?_
  obtain ⟨u_14, hu_14, hF⟩ := obd_some hF
  have hPc := hP.sub (ws' := (wd_X1_put cI a2 u_13)) [1, 2] rfl
  have hDc := hD.sub (ws' := (wd_X1_put cI a2 u_13)) [1, 2] rfl rfl
  refine q_callv (wc := (wd_X1_put cI a2 u_13)) (w1 := (wd_X1_put cI a2 u_14)) (ws' := (wd_X11_setStyle cI a0 a1 a2 a3 a4 a5 a6 a7 a8 a9 a10 u_14 u_9.1 u_9.2.1 u_9.2.2 v5_4 v5_5 v5_6 v5_7)) hP hD hS hA [1, 2] [0, 3, 4, 5] [0, 4, 5, 1, 2, 3] rfl rfl rfl (by decide) rfl rfl (va_runV (As := [.int 3, .int p4]) (rest := []) ⟨hx, hb, hml, hown, hta⟩ (c_X1_put l dC dI cI H.size a2 u_13 3 p4 u_14 hu_14) (cwV 2 hta (ga_V mA345 mA154 mA155 mA6 mA156) rfl rfl rfl (by decide +kernel) ⟨Nat.le_of_ble_eq_true rfl, Nat.le_of_ble_eq_true rfl⟩) ⟨q_fb, va_recv hK hP (ci := 1) (q0 := 1) rfl rfl, q_ps hPc hK hDc⟩ rfl rfl hl.1 rfl (lv_room (Nat.le_of_ble_eq_true rfl)) dX11_setStyle_75 ⟨Nat.zero_le _, Nat.zero_le _⟩) (fun H locs hP hD hS => ?_)
  refine lv_iload hx hb dX11_setStyle_78 (lv_at hl 0 rfl) ?_
  obtain rfl := Sum.inl.inj (Option.some.inj hF)
  exact W.iret (v := u_10) hx hb hr (fun t ht hW => ⟨⟨u_10, (), rfl, rfl, by rw [ht]; exact hP, va_K.moved hW.alike hK, hD⟩, hS.F ht⟩) hS.2.2 dX11_setStyle_80
abbrev rmx_X11_setStyle : Room := { frames := 7, cells := 1, slots := 6, locals := 104 }
abbrev XC_X11_setStyle (dC : Nat → ClassId) (dI : Nat → Nat → Nat) (cI : ClassId) (a0 : Nat → Nat) (a1 : Nat → Nat) (a2 : Nat → Nat) (a3 : Nat → Nat) (a4 : Nat → Nat) (a5 : Nat → Nat) (a6 : Nat → Nat) (a7 : Nat → Nat) (a8 : Nat → Nat) (a9 : Nat → Nat) (a10 : Nat → Nat) (v5_4 : Int32) (v5_5 : Int32) (v5_6 : Int32) (v5_7 : Int32) (x : (Nat × (Nat → Int32) × Int32 × (Nat → Int32) × Int32)) (A : Nat → Prop) : String → State → State → Prop := vx_X (fun (_ : Unit) => True) (fun E _ t => E = exN x.1 ∧ q_at dC dI cI A (wd_X11_setStyle cI a0 a1 a2 a3 a4 a5 a6 a7 a8 a9 a10 x.2.1 x.2.2.1 x.2.2.2.1 x.2.2.2.2 v5_4 v5_5 v5_6 v5_7) t) A
set_option maxHeartbeats 4000000 in
set_option maxRecDepth 100000 in
theorem c_X11_setStyle_x (l : Launch) (hlt : l.stackTraces = false) (S : Nat → Nat) (dC : Nat → ClassId) (dI : Nat → Nat → Nat) (cI : ClassId) (sz : Nat) (a0 : Nat → Nat) (a1 : Nat → Nat) (a2 : Nat → Nat) (a3 : Nat → Nat) (a4 : Nat → Nat) (a5 : Nat → Nat) (a6 : Nat → Nat) (a7 : Nat → Nat) (a8 : Nat → Nat) (a9 : Nat → Nat) (a10 : Nat → Nat) (v2_0 : Nat → Int32) (v4_1 : Int32) (v4_0 : Nat → Int32) (v5_3 : Int32) (v5_4 : Int32) (v5_5 : Int32) (v5_6 : Int32) (v5_7 : Int32) (p1 : Int32) (p2 : Int32) (p3 : Int32) (p4 : Int32) (x : (Nat × (Nat → Int32) × Int32 × (Nat → Int32) × Int32)) (hF : F_X11_setStyle v2_0 v4_1 v4_0 v5_3 p1 p2 p3 p4 = some (.inr x)) : vx_Met l yX11_setStyle wz_X11_setStyle rmx_X11_setStyle (va_Pc [.ref (a0 0), .int p1, .int p2, .int p3, .int p4] (qx_pre S dC dI cI (wd_X11_setStyle cI a0 a1 a2 a3 a4 a5 a6 a7 a8 a9 a10 v2_0 v4_1 v4_0 v5_3 v5_4 v5_5 v5_6 v5_7) sz)) (va_Qv (fun (_ : Unit) => False) (fun _ _ => True) (va_A (wd_X11_setStyle cI a0 a1 a2 a3 a4 a5 a6 a7 a8 a9 a10 v2_0 v4_1 v4_0 v5_3 v5_4 v5_5 v5_6 v5_7) sz)) (XC_X11_setStyle dC dI cI a0 a1 a2 a3 a4 a5 a6 a7 a8 a9 a10 v5_4 v5_5 v5_6 v5_7 x (va_A (wd_X11_setStyle cI a0 a1 a2 a3 a4 a5 a6 a7 a8 a9 a10 v2_0 v4_1 v4_0 v5_3 v5_4 v5_5 v5_6 v5_7) sz)) 1 6 (va_A (wd_X11_setStyle cI a0 a1 a2 a3 a4 a5 a6 a7 a8 a9 a10 v2_0 v4_1 v4_0 v5_3 v5_4 v5_5 v5_6 v5_7) sz) := by
  refine vx_ofW (cc := cX11_setStyle) (maxL := 6) (ret := (some .int)) (by decide) rfl ?_
  intro p e s m args below meth c s₁ B hml hxt hv
  obtain ⟨rfl, ⟨hsz, hP, hK, hD0⟩, hE⟩ := hv
  have hx := B.exec
  have hb := B.bytes
  have hr := B.returns
  have hts := atoms_spec (ws := wz_X11_setStyle) B.pre
  have hta := wz_tl hts
  have hown : s.vm.findClass RX11 = some m.cls := findClass_of_methodNamed B.named
  have hlocks := B.notSynchronized
  subst hsz
  have hD := hD0.self (sz := s.heap.size)
  generalize hAe : va_A (wd_X11_setStyle cI a0 a1 a2 a3 a4 a5 a6 a7 a8 a9 a10 v2_0 v4_1 v4_0 v5_3 v5_4 v5_5 v5_6 v5_7) s.heap.size = A at hD hE ⊢
  have hA : ∀ q : Nat, s.heap.size ≤ q → A q := fun q h => by rw [← hAe]; exact Or.inr h
  have hS : va_S A s.heap s.heap [] := va_S.rf
  have hP : va_P (dC, dI) vwCl (wd_X11_setStyle cI a0 a1 a2 a3 a4 a5 a6 a7 a8 a9 a10 v2_0 v4_1 v4_0 v5_3 v5_4 v5_5 v5_6 v5_7) s.heap := hP
  have hl := lv_entry ([.ref (a0 0), .int p1, .int p2, .int p3, .int p4]) (n := 6) (Nat.le_of_ble_eq_true rfl)
  rw [lg_entry_eq]
  generalize (lg_sl ([.ref (a0 0), .int p1, .int p2, .int p3, .int p4]) ++ List.replicate (6 - (lg_sl ([.ref (a0 0), .int p1, .int p2, .int p3, .int p4])).length) Slot.unset).toArray = ls at hl ⊢
  have hl : lv_has ls 6 [(0, .ref (a0 0)), (1, .int p1), (2, .int p2), (3, .int p3), (4, .int p4)] := hl
  obtain ⟨H, hHe⟩ : ∃ H, H = s.heap := ⟨_, rfl⟩
  have hS : va_S A s.heap H [] := by rw [hHe]; exact hS
  have hP : va_P (dC, dI) vwCl (wd_X11_setStyle cI a0 a1 a2 a3 a4 a5 a6 a7 a8 a9 a10 v2_0 v4_1 v4_0 v5_3 v5_4 v5_5 v5_6 v5_7) H := by rw [hHe]; exact hP
  rw [← hHe]
  unfold F_X11_setStyle at hF
  refine lv_iload_n hx hb dX11_setStyle_0 rfl (lv_at hl 1 rfl) ?_
  refine lv_iconst (v := 1) hx hb dX11_setStyle_1 (by decide) ?_
  refine lv_bipush (v := 40) hx hb dX11_setStyle_2 (by decide) ?_
  refine obx_elim hF (fun x_2 hx_2 hF => ?_) (fun u_1 hu_1 hF => ?_)
  · obtain rfl := Sum.inr.inj (Option.some.inj hF)
    have hPc := hP.sub (ws' := ([] : va_W)) [] rfl
    have hDc := hD.sub (ws' := ([] : va_W)) [] rfl rfl
    refine qx_thr (kd := x_2) hP hD hK hS hA hxt hlocks (vx_runS (As := [.int p1, .int 1, .int 40]) (rest := []) ⟨hx, hb, hml, hown, hta⟩ (c_X11_checkRange_x l hlt S dC dI cI H.size p1 1 40 x_2 hx_2) (va_cwS 3 hta (ga_S mA106 mA107 mA108 mA109) rfl rfl rfl (by decide +kernel) ⟨Nat.le_of_ble_eq_true rfl, Nat.le_of_ble_eq_true rfl⟩) ⟨qx_fb, qx_ps hPc hK hDc hE hS (va_free (wc := ([] : va_W)) hD hS hA [] rfl)⟩ rfl rfl hl.1 rfl (lv_room (Nat.le_of_ble_eq_true rfl)) dX11_setStyle_4 ⟨Nat.le_of_ble_eq_true rfl, Nat.le_of_ble_eq_true rfl⟩) (fun t hP hK hF9 => ⟨(), trivial, ⟨rfl, hP, hK, hD⟩, hF9⟩) (Nat.le_of_ble_eq_true rfl) (Nat.le_of_ble_eq_true rfl)
  have hPc := hP.sub (ws' := ([] : va_W)) [] rfl
  have hDc := hD.sub (ws' := ([] : va_W)) [] rfl rfl
  refine q_callv (wc := ([] : va_W)) (w1 := ([] : va_W)) (ws' := (wd_X11_setStyle cI a0 a1 a2 a3 a4 a5 a6 a7 a8 a9 a10 v2_0 v4_1 v4_0 v5_3 v5_4 v5_5 v5_6 v5_7)) hP hD hS hA [] [0, 1, 2, 3, 4, 5] [0, 1, 2, 3, 4, 5] rfl rfl rfl (by decide) rfl rfl (va_runS (As := [.int p1, .int 1, .int 40]) (rest := []) ⟨hx, hb, hml, hown, hta⟩ (c_X11_checkRange l dC dI cI H.size p1 1 40 u_1 hu_1) (va_cwS 3 hta (ga_S mA106 mA107 mA108 mA109) rfl rfl rfl (by decide +kernel) ⟨Nat.le_of_ble_eq_true rfl, Nat.le_of_ble_eq_true rfl⟩) ⟨q_fb, q_ps hPc hK hDc⟩ rfl rfl hl.1 rfl (lv_room (Nat.le_of_ble_eq_true rfl)) dX11_setStyle_4 ⟨Nat.zero_le _, Nat.zero_le _⟩) (fun H locs hP hD hS => ?_)
  refine lv_iload_n hx hb dX11_setStyle_7 rfl (lv_at hl 2 rfl) ?_
  refine lv_iconst (v := 0) hx hb dX11_setStyle_8 (by decide) ?_
  refine lv_iconst (v := 2) hx hb dX11_setStyle_9 (by decide) ?_
  refine obx_elim hF (fun x_4 hx_4 hF => ?_) (fun u_3 hu_3 hF => ?_)
  · obtain rfl := Sum.inr.inj (Option.some.inj hF)
    have hPc := hP.sub (ws' := ([] : va_W)) [] rfl
    have hDc := hD.sub (ws' := ([] : va_W)) [] rfl rfl
    refine qx_thr (kd := x_4) hP hD hK hS hA hxt hlocks (vx_runS (As := [.int p2, .int 0, .int 2]) (rest := []) ⟨hx, hb, hml, hown, hta⟩ (c_X11_checkRange_x l hlt S dC dI cI H.size p2 0 2 x_4 hx_4) (va_cwS 3 hta (ga_S mA106 mA107 mA108 mA109) rfl rfl rfl (by decide +kernel) ⟨Nat.le_of_ble_eq_true rfl, Nat.le_of_ble_eq_true rfl⟩) ⟨qx_fb, qx_ps hPc hK hDc hE hS (va_free (wc := ([] : va_W)) hD hS hA [] rfl)⟩ rfl rfl hl.1 rfl (lv_room (Nat.le_of_ble_eq_true rfl)) dX11_setStyle_10 ⟨Nat.le_of_ble_eq_true rfl, Nat.le_of_ble_eq_true rfl⟩) (fun t hP hK hF9 => ⟨(), trivial, ⟨rfl, hP, hK, hD⟩, hF9⟩) (Nat.le_of_ble_eq_true rfl) (Nat.le_of_ble_eq_true rfl)
  have hPc := hP.sub (ws' := ([] : va_W)) [] rfl
  have hDc := hD.sub (ws' := ([] : va_W)) [] rfl rfl
  refine q_callv (wc := ([] : va_W)) (w1 := ([] : va_W)) (ws' := (wd_X11_setStyle cI a0 a1 a2 a3 a4 a5 a6 a7 a8 a9 a10 v2_0 v4_1 v4_0 v5_3 v5_4 v5_5 v5_6 v5_7)) hP hD hS hA [] [0, 1, 2, 3, 4, 5] [0, 1, 2, 3, 4, 5] rfl rfl rfl (by decide) rfl rfl (va_runS (As := [.int p2, .int 0, .int 2]) (rest := []) ⟨hx, hb, hml, hown, hta⟩ (c_X11_checkRange l dC dI cI H.size p2 0 2 u_3 hu_3) (va_cwS 3 hta (ga_S mA106 mA107 mA108 mA109) rfl rfl rfl (by decide +kernel) ⟨Nat.le_of_ble_eq_true rfl, Nat.le_of_ble_eq_true rfl⟩) ⟨q_fb, q_ps hPc hK hDc⟩ rfl rfl hl.1 rfl (lv_room (Nat.le_of_ble_eq_true rfl)) dX11_setStyle_10 ⟨Nat.zero_le _, Nat.zero_le _⟩) (fun H locs hP hD hS => ?_)
  refine lv_iload_n hx hb dX11_setStyle_13 rfl (lv_at hl 3 rfl) ?_
  refine lv_iconst (v := 1) hx hb dX11_setStyle_14 (by decide) ?_
  refine lv_bipush (v := 10) hx hb dX11_setStyle_15 (by decide) ?_
  refine obx_elim hF (fun x_6 hx_6 hF => ?_) (fun u_5 hu_5 hF => ?_)
  · obtain rfl := Sum.inr.inj (Option.some.inj hF)
    have hPc := hP.sub (ws' := ([] : va_W)) [] rfl
    have hDc := hD.sub (ws' := ([] : va_W)) [] rfl rfl
    refine qx_thr (kd := x_6) hP hD hK hS hA hxt hlocks (vx_runS (As := [.int p3, .int 1, .int 10]) (rest := []) ⟨hx, hb, hml, hown, hta⟩ (c_X11_checkRange_x l hlt S dC dI cI H.size p3 1 10 x_6 hx_6) (va_cwS 3 hta (ga_S mA106 mA107 mA108 mA109) rfl rfl rfl (by decide +kernel) ⟨Nat.le_of_ble_eq_true rfl, Nat.le_of_ble_eq_true rfl⟩) ⟨qx_fb, qx_ps hPc hK hDc hE hS (va_free (wc := ([] : va_W)) hD hS hA [] rfl)⟩ rfl rfl hl.1 rfl (lv_room (Nat.le_of_ble_eq_true rfl)) dX11_setStyle_17 ⟨Nat.le_of_ble_eq_true rfl, Nat.le_of_ble_eq_true rfl⟩) (fun t hP hK hF9 => ⟨(), trivial, ⟨rfl, hP, hK, hD⟩, hF9⟩) (Nat.le_of_ble_eq_true rfl) (Nat.le_of_ble_eq_true rfl)
  have hPc := hP.sub (ws' := ([] : va_W)) [] rfl
  have hDc := hD.sub (ws' := ([] : va_W)) [] rfl rfl
  refine q_callv (wc := ([] : va_W)) (w1 := ([] : va_W)) (ws' := (wd_X11_setStyle cI a0 a1 a2 a3 a4 a5 a6 a7 a8 a9 a10 v2_0 v4_1 v4_0 v5_3 v5_4 v5_5 v5_6 v5_7)) hP hD hS hA [] [0, 1, 2, 3, 4, 5] [0, 1, 2, 3, 4, 5] rfl rfl rfl (by decide) rfl rfl (va_runS (As := [.int p3, .int 1, .int 10]) (rest := []) ⟨hx, hb, hml, hown, hta⟩ (c_X11_checkRange l dC dI cI H.size p3 1 10 u_5 hu_5) (va_cwS 3 hta (ga_S mA106 mA107 mA108 mA109) rfl rfl rfl (by decide +kernel) ⟨Nat.le_of_ble_eq_true rfl, Nat.le_of_ble_eq_true rfl⟩) ⟨q_fb, q_ps hPc hK hDc⟩ rfl rfl hl.1 rfl (lv_room (Nat.le_of_ble_eq_true rfl)) dX11_setStyle_17 ⟨Nat.zero_le _, Nat.zero_le _⟩) (fun H locs hP hD hS => ?_)
  refine lv_iload hx hb dX11_setStyle_20 (lv_at hl 4 rfl) ?_
  refine lv_iconst (v := 0) hx hb dX11_setStyle_22 (by decide) ?_
  refine lv_iconst (v := 2) hx hb dX11_setStyle_23 (by decide) ?_
  refine obx_elim hF (fun x_8 hx_8 hF => ?_) (fun u_7 hu_7 hF => ?_)
  · obtain rfl := Sum.inr.inj (Option.some.inj hF)
    have hPc := hP.sub (ws' := ([] : va_W)) [] rfl
    have hDc := hD.sub (ws' := ([] : va_W)) [] rfl rfl
    refine qx_thr (kd := x_8) hP hD hK hS hA hxt hlocks (vx_runS (As := [.int p4, .int 0, .int 2]) (rest := []) ⟨hx, hb, hml, hown, hta⟩ (c_X11_checkRange_x l hlt S dC dI cI H.size p4 0 2 x_8 hx_8) (va_cwS 3 hta (ga_S mA106 mA107 mA108 mA109) rfl rfl rfl (by decide +kernel) ⟨Nat.le_of_ble_eq_true rfl, Nat.le_of_ble_eq_true rfl⟩) ⟨qx_fb, qx_ps hPc hK hDc hE hS (va_free (wc := ([] : va_W)) hD hS hA [] rfl)⟩ rfl rfl hl.1 rfl (lv_room (Nat.le_of_ble_eq_true rfl)) dX11_setStyle_24 ⟨Nat.le_of_ble_eq_true rfl, Nat.le_of_ble_eq_true rfl⟩) (fun t hP hK hF9 => ⟨(), trivial, ⟨rfl, hP, hK, hD⟩, hF9⟩) (Nat.le_of_ble_eq_true rfl) (Nat.le_of_ble_eq_true rfl)
  have hPc := hP.sub (ws' := ([] : va_W)) [] rfl
  have hDc := hD.sub (ws' := ([] : va_W)) [] rfl rfl
  refine q_callv (wc := ([] : va_W)) (w1 := ([] : va_W)) (ws' := (wd_X11_setStyle cI a0 a1 a2 a3 a4 a5 a6 a7 a8 a9 a10 v2_0 v4_1 v4_0 v5_3 v5_4 v5_5 v5_6 v5_7)) hP hD hS hA [] [0, 1, 2, 3, 4, 5] [0, 1, 2, 3, 4, 5] rfl rfl rfl (by decide) rfl rfl (va_runS (As := [.int p4, .int 0, .int 2]) (rest := []) ⟨hx, hb, hml, hown, hta⟩ (c_X11_checkRange l dC dI cI H.size p4 0 2 u_7 hu_7) (va_cwS 3 hta (ga_S mA106 mA107 mA108 mA109) rfl rfl rfl (by decide +kernel) ⟨Nat.le_of_ble_eq_true rfl, Nat.le_of_ble_eq_true rfl⟩) ⟨q_fb, q_ps hPc hK hDc⟩ rfl rfl hl.1 rfl (lv_room (Nat.le_of_ble_eq_true rfl)) dX11_setStyle_24 ⟨Nat.zero_le _, Nat.zero_le _⟩) (fun H locs hP hD hS => ?_)
  refine lv_aload_n hx hb dX11_setStyle_27 rfl (lv_at hl 0 rfl) ?_
  obtain ⟨u_9, hu_9, hF⟩ := obd_some hF
  have hPc := hP.sub (ws' := (wd_X11_saveState cI a0 a1 a2 a3 a4 a5 a6 a7 a8 a9 a10 v2_0 v4_1 v4_0 v5_3 v5_4 v5_5 v5_6 v5_7)) [0, 1, 2, 3, 4, 5] rfl
  have hDc := hD.sub (ws' := (wd_X11_saveState cI a0 a1 a2 a3 a4 a5 a6 a7 a8 a9 a10 v2_0 v4_1 v4_0 v5_3 v5_4 v5_5 v5_6 v5_7)) [0, 1, 2, 3, 4, 5] rfl rfl
  refine q_callv (wc := (wd_X11_saveState cI a0 a1 a2 a3 a4 a5 a6 a7 a8 a9 a10 v2_0 v4_1 v4_0 v5_3 v5_4 v5_5 v5_6 v5_7)) (w1 := (wd_X11_saveState cI a0 a1 a2 a3 a4 a5 a6 a7 a8 a9 a10 v2_0 u_9.1 u_9.2.1 u_9.2.2 v5_4 v5_5 v5_6 v5_7)) (ws' := (wd_X11_setStyle cI a0 a1 a2 a3 a4 a5 a6 a7 a8 a9 a10 v2_0 u_9.1 u_9.2.1 u_9.2.2 v5_4 v5_5 v5_6 v5_7)) hP hD hS hA [0, 1, 2, 3, 4, 5] [] [0, 1, 2, 3, 4, 5] rfl rfl rfl (by decide) rfl rfl (va_runV (As := []) (rest := []) ⟨hx, hb, hml, hown, hta⟩ (c_X11_saveState l dC dI cI H.size a0 a1 a2 a3 a4 a5 a6 a7 a8 a9 a10 v2_0 v4_1 v4_0 v5_3 v5_4 v5_5 v5_6 v5_7 u_9 hu_9) (cwV 0 hta (ga_V mA125 mA126 mA127 mA108 mA128) rfl rfl rfl (by decide +kernel) ⟨Nat.le_of_ble_eq_true rfl, Nat.le_of_ble_eq_true rfl⟩) ⟨q_fb, va_recv hK hP (ci := 10) (q0 := 0) rfl rfl, q_ps hPc hK hDc⟩ rfl rfl hl.1 rfl (lv_room (Nat.le_of_ble_eq_true rfl)) dX11_setStyle_28 ⟨Nat.zero_le _, Nat.zero_le _⟩) (fun H locs hP hD hS => ?_)
  refine lv_aload_n hx hb dX11_setStyle_31 rfl (lv_at hl 0 rfl) ?_
  refine va_get (D := (dC, dI)) (ci := 10) (v := .ref (a2 0)) (C := RX11) (T := TX11) (N := 7) hx hb hta uw_X11 hown hK hP 0 rfl rfl 0 (by decide) (hta _ mA7) (fun _ h9 => h9) rfl dX11_setStyle_32 ?_
  refine lv_iconst (v := 0) hx hb dX11_setStyle_35 (by decide) ?_
  obtain ⟨u_10, hu_10, hF⟩ := obd_some hF
  have hPc := hP.sub (ws' := (wd_X1_cell cI a2 v2_0)) [1, 2] rfl
  have hDc := hD.sub (ws' := (wd_X1_cell cI a2 v2_0)) [1, 2] rfl rfl
  refine q_calli (wc := (wd_X1_cell cI a2 v2_0)) (w1 := (wd_X1_cell cI a2 v2_0)) (ws' := (wd_X11_setStyle cI a0 a1 a2 a3 a4 a5 a6 a7 a8 a9 a10 v2_0 u_9.1 u_9.2.1 u_9.2.2 v5_4 v5_5 v5_6 v5_7)) hP hD hS hA [1, 2] [0, 3, 4, 5] [0, 4, 5, 1, 2, 3] rfl rfl rfl (by decide) rfl rfl (va_runV (As := [.int 0]) (rest := []) ⟨hx, hb, hml, hown, hta⟩ (c_X1_cell l dC dI cI H.size a2 v2_0 0 u_10 hu_10) (cwV 1 hta (ga_V mA344 mA117 mA118 mA6 mA119) rfl rfl rfl (by decide +kernel) ⟨Nat.le_of_ble_eq_true rfl, Nat.le_of_ble_eq_true rfl⟩) ⟨q_fb, va_recv hK hP (ci := 1) (q0 := 1) rfl rfl, q_ps hPc hK hDc⟩ rfl rfl hl.1 rfl (lv_room (Nat.le_of_ble_eq_true rfl)) dX11_setStyle_36 ⟨Nat.zero_le _, Nat.zero_le _⟩) (fun H locs hP hD hS => ?_)
  refine lv_istore (lv' := [(5, .int u_10), (0, .ref (a0 0)), (1, .int p1), (2, .int p2), (3, .int p3), (4, .int p4)]) hx hb dX11_setStyle_39 hl (by decide) rfl (fun ls hl => ?_)
  refine lv_aload_n hx hb dX11_setStyle_41 rfl (lv_at hl 1 rfl) ?_
  refine va_get (D := (dC, dI)) (ci := 10) (v := .ref (a2 0)) (C := RX11) (T := TX11) (N := 7) hx hb hta uw_X11 hown hK hP 0 rfl rfl 0 (by decide) (hta _ mA7) (fun _ h9 => h9) rfl dX11_setStyle_42 ?_
  refine lv_iconst (v := 0) hx hb dX11_setStyle_45 (by decide) ?_
  refine lv_iload_n hx hb dX11_setStyle_46 rfl (lv_at hl 2 rfl) ?_
  obtain ⟨u_11, hu_11, hF⟩ := obd_some hF
  have hPc := hP.sub (ws' := (wd_X1_put cI a2 v2_0)) [1, 2] rfl
  have hDc := hD.sub (ws' := (wd_X1_put cI a2 v2_0)) [1, 2] rfl rfl
  refine q_callv (wc := (wd_X1_put cI a2 v2_0)) (w1 := (wd_X1_put cI a2 u_11)) (ws' := (wd_X11_setStyle cI a0 a1 a2 a3 a4 a5 a6 a7 a8 a9 a10 u_11 u_9.1 u_9.2.1 u_9.2.2 v5_4 v5_5 v5_6 v5_7)) hP hD hS hA [1, 2] [0, 3, 4, 5] [0, 4, 5, 1, 2, 3] rfl rfl rfl (by decide) rfl rfl (va_runV (As := [.int 0, .int p1]) (rest := []) ⟨hx, hb, hml, hown, hta⟩ (c_X1_put l dC dI cI H.size a2 v2_0 0 p1 u_11 hu_11) (cwV 2 hta (ga_V mA345 mA154 mA155 mA6 mA156) rfl rfl rfl (by decide +kernel) ⟨Nat.le_of_ble_eq_true rfl, Nat.le_of_ble_eq_true rfl⟩) ⟨q_fb, va_recv hK hP (ci := 1) (q0 := 1) rfl rfl, q_ps hPc hK hDc⟩ rfl rfl hl.1 rfl (lv_room (Nat.le_of_ble_eq_true rfl)) dX11_setStyle_47 ⟨Nat.zero_le _, Nat.zero_le _⟩) (fun H locs hP hD hS => ?_)
  refine lv_aload_n hx hb dX11_setStyle_50 rfl (lv_at hl 1 rfl) ?_
  refine va_get (D := (dC, dI)) (ci := 10) (v := .ref (a2 0)) (C := RX11) (T := TX11) (N := 7) hx hb hta uw_X11 hown hK hP 0 rfl rfl 0 (by decide) (hta _ mA7) (fun _ h9 => h9) rfl dX11_setStyle_51 ?_
  refine lv_iconst (v := 1) hx hb dX11_setStyle_54 (by decide) ?_
  refine lv_iload_n hx hb dX11_setStyle_55 rfl (lv_at hl 3 rfl) ?_
  obtain ⟨u_12, hu_12, hF⟩ := obd_some hF
  have hPc := hP.sub (ws' := (wd_X1_put cI a2 u_11)) [1, 2] rfl
  have hDc := hD.sub (ws' := (wd_X1_put cI a2 u_11)) [1, 2] rfl rfl
  refine q_callv (wc := (wd_X1_put cI a2 u_11)) (w1 := (wd_X1_put cI a2 u_12)) (ws' := (wd_X11_setStyle cI a0 a1 a2 a3 a4 a5 a6 a7 a8 a9 a10 u_12 u_9.1 u_9.2.1 u_9.2.2 v5_4 v5_5 v5_6 v5_7)) hP hD hS hA [1, 2] [0, 3, 4, 5] [0, 4, 5, 1, 2, 3] rfl rfl rfl (by decide) rfl rfl (va_runV (As := [.int 1, .int p2]) (rest := []) ⟨hx, hb, hml, hown, hta⟩ (c_X1_put l dC dI cI H.size a2 u_11 1 p2 u_12 hu_12) (cwV 2 hta (ga_V mA345 mA154 mA155 mA6 mA156) rfl rfl rfl (by decide +kernel) ⟨Nat.le_of_ble_eq_true rfl, Nat.le_of_ble_eq_true rfl⟩) ⟨q_fb, va_recv hK hP (ci := 1) (q0 := 1) rfl rfl, q_ps hPc hK hDc⟩ rfl rfl hl.1 rfl (lv_room (Nat.le_of_ble_eq_true rfl)) dX11_setStyle_56 ⟨Nat.zero_le _, Nat.zero_le _⟩) (fun H locs hP hD hS => ?_)
  refine lv_aload_n hx hb dX11_setStyle_59 rfl (lv_at hl 1 rfl) ?_
  refine va_get (D := (dC, dI)) (ci := 10) (v := .ref (a2 0)) (C := RX11) (T := TX11) (N := 7) hx hb hta uw_X11 hown hK hP 0 rfl rfl 0 (by decide) (hta _ mA7) (fun _ h9 => h9) rfl dX11_setStyle_60 ?_
  refine lv_iconst (v := 2) hx hb dX11_setStyle_63 (by decide) ?_
  refine lv_iload_n hx hb dX11_setStyle_64 rfl (lv_at hl 4 rfl) ?_
  obtain ⟨u_13, hu_13, hF⟩ := obd_some hF
  have hPc := hP.sub (ws' := (wd_X1_put cI a2 u_12)) [1, 2] rfl
  have hDc := hD.sub (ws' := (wd_X1_put cI a2 u_12)) [1, 2] rfl rfl
  refine q_callv (wc := (wd_X1_put cI a2 u_12)) (w1 := (wd_X1_put cI a2 u_13)) (ws' := (wd_X11_setStyle cI a0 a1 a2 a3 a4 a5 a6 a7 a8 a9 a10 u_13 u_9.1 u_9.2.1 u_9.2.2 v5_4 v5_5 v5_6 v5_7)) hP hD hS hA [1, 2] [0, 3, 4, 5] [0, 4, 5, 1, 2, 3] rfl rfl rfl (by decide) rfl rfl (va_runV (As := [.int 2, .int p3]) (rest := []) ⟨hx, hb, hml, hown, hta⟩ (c_X1_put l dC dI cI H.size a2 u_12 2 p3 u_13 hu_13) (cwV 2 hta (ga_V mA345 mA154 mA155 mA6 mA156) rfl rfl rfl (by decide +kernel) ⟨Nat.le_of_ble_eq_true rfl, Nat.le_of_ble_eq_true rfl⟩) ⟨q_fb, va_recv hK hP (ci := 1) (q0 := 1) rfl rfl, q_ps hPc hK hDc⟩ rfl rfl hl.1 rfl (lv_room (Nat.le_of_ble_eq_true rfl)) dX11_setStyle_65 ⟨Nat.zero_le _, Nat.zero_le _⟩) (fun H locs hP hD hS => ?_)
  refine lv_aload_n hx hb dX11_setStyle_68 rfl (lv_at hl 1 rfl) ?_
  refine va_get (D := (dC, dI)) (ci := 10) (v := .ref (a2 0)) (C := RX11) (T := TX11) (N := 7) hx hb hta uw_X11 hown hK hP 0 rfl rfl 0 (by decide) (hta _ mA7) (fun _ h9 => h9) rfl dX11_setStyle_69 ?_
  refine lv_iconst (v := 3) hx hb dX11_setStyle_72 (by decide) ?_
  refine lv_iload hx hb dX11_setStyle_73 (lv_at hl 5 rfl) ?_
  obtain ⟨u_14, hu_14, hF⟩ := obd_some hF
  have hPc := hP.sub (ws' := (wd_X1_put cI a2 u_13)) [1, 2] rfl
  have hDc := hD.sub (ws' := (wd_X1_put cI a2 u_13)) [1, 2] rfl rfl
  refine q_callv (wc := (wd_X1_put cI a2 u_13)) (w1 := (wd_X1_put cI a2 u_14)) (ws' := (wd_X11_setStyle cI a0 a1 a2 a3 a4 a5 a6 a7 a8 a9 a10 u_14 u_9.1 u_9.2.1 u_9.2.2 v5_4 v5_5 v5_6 v5_7)) hP hD hS hA [1, 2] [0, 3, 4, 5] [0, 4, 5, 1, 2, 3] rfl rfl rfl (by decide) rfl rfl (va_runV (As := [.int 3, .int p4]) (rest := []) ⟨hx, hb, hml, hown, hta⟩ (c_X1_put l dC dI cI H.size a2 u_13 3 p4 u_14 hu_14) (cwV 2 hta (ga_V mA345 mA154 mA155 mA6 mA156) rfl rfl rfl (by decide +kernel) ⟨Nat.le_of_ble_eq_true rfl, Nat.le_of_ble_eq_true rfl⟩) ⟨q_fb, va_recv hK hP (ci := 1) (q0 := 1) rfl rfl, q_ps hPc hK hDc⟩ rfl rfl hl.1 rfl (lv_room (Nat.le_of_ble_eq_true rfl)) dX11_setStyle_75 ⟨Nat.zero_le _, Nat.zero_le _⟩) (fun H locs hP hD hS => ?_)
  refine lv_iload hx hb dX11_setStyle_78 (lv_at hl 0 rfl) ?_
  exact absurd hF no_lr

-- StrokeOutliner.setDashes(IZ)I
def F_X11_setDashes_j45 (v2_0 : Nat → Int32) (v4_1 : Int32) (v4_0 : Nat → Int32) (v5_3 : Int32) (x3 : Int32) (t1 : Int32) (t2 : Int32) : Option (Sum (Int32 × (Nat → Int32) × Int32 × (Nat → Int32) × Int32) (Nat × (Nat → Int32) × Int32 × (Nat → Int32) × Int32)) :=
  obd (F_X1_put v2_0 t1 t2) (fun u_1 => obd (F_X1_put u_1 6 0) (fun u_2 => some (.inl (x3, u_2, v4_1, v4_0, v5_3))))
def F_X11_setDashes (v2_0 : Nat → Int32) (v4_1 : Int32) (v4_0 : Nat → Int32) (v5_3 : Int32) (p1 : Int32) (p2 : Int32) : Option (Sum (Int32 × (Nat → Int32) × Int32 × (Nat → Int32) × Int32) (Nat × (Nat → Int32) × Int32 × (Nat → Int32) × Int32)) :=
  obx (F_X11_checkRange p1 0 600) (fun x_4 => some (.inr (x_4, v2_0, v4_1, v4_0, v5_3))) (fun u_3 => obd (F_X11_saveState v2_0 v4_1 v4_0) (fun u_5 => obd (F_X1_cell v2_0 6) (fun u_6 => obd (F_X1_put v2_0 4 p1) (fun u_7 => if p2 = 0 then F_X11_setDashes_j45 u_7 u_5.1 u_5.2.1 u_5.2.2 u_6 5 0 else F_X11_setDashes_j45 u_7 u_5.1 u_5.2.1 u_5.2.2 u_6 5 1))))
abbrev wd_X11_setDashes (cI : ClassId) (a0 : Nat → Nat) (a1 : Nat → Nat) (a2 : Nat → Nat) (a3 : Nat → Nat) (a4 : Nat → Nat) (a5 : Nat → Nat) (a6 : Nat → Nat) (a7 : Nat → Nat) (a8 : Nat → Nat) (a9 : Nat → Nat) (a10 : Nat → Nat) (v2_0 : Nat → Int32) (v4_1 : Int32) (v4_0 : Nat → Int32) (v5_3 : Int32) (v5_4 : Int32) (v5_5 : Int32) (v5_6 : Int32) (v5_7 : Int32) : va_W := [(a0 0, .inr (10, [.ref (a2 0), .ref (a1 0), .ref (a4 0), .ref (a9 0), .ref (a10 0), .ref (a5 0), .ref (a3 0)])), (a2 0, .inr (1, [.ref (a2 1)])), (a2 1, .inl (cI, 86, .inl v2_0)), (a4 0, .inr (3, [.ref (a4 1), .int v4_1])), (a4 1, .inl (cI, 344, .inl v4_0)), (a5 0, .inr (9, [.ref (a8 0), .ref (a7 0), .ref (a6 0), .int v5_3, .int v5_4, .int v5_5, .int v5_6, .int v5_7]))]
abbrev wz_X11_setDashes : List Cond := .code yX11_setDashes cX11_setDashes 4 (some .int) :: wALL
abbrev rm_X11_setDashes : Room := { frames := 4, cells := 0, slots := 0, locals := 89 }
abbrev Q_X11_setDashes (dC : Nat → ClassId) (dI : Nat → Nat → Nat) (cI : ClassId) (a0 : Nat → Nat) (a1 : Nat → Nat) (a2 : Nat → Nat) (a3 : Nat → Nat) (a4 : Nat → Nat) (a5 : Nat → Nat) (a6 : Nat → Nat) (a7 : Nat → Nat) (a8 : Nat → Nat) (a9 : Nat → Nat) (a10 : Nat → Nat) (v5_4 : Int32) (v5_5 : Int32) (v5_6 : Int32) (v5_7 : Int32) (u : (Int32 × (Nat → Int32) × Int32 × (Nat → Int32) × Int32)) (A : Nat → Prop) : Array Value → State → Outcome → State → Prop := va_Qi (fun (r : Int32) (_ : Unit) => r = u.1) (fun _ => q_at dC dI cI A (wd_X11_setDashes cI a0 a1 a2 a3 a4 a5 a6 a7 a8 a9 a10 u.2.1 u.2.2.1 u.2.2.2.1 u.2.2.2.2 v5_4 v5_5 v5_6 v5_7)) A
set_option maxHeartbeats 4000000 in
set_option maxRecDepth 100000 in
theorem c_X11_setDashes (l : Launch) (dC : Nat → ClassId) (dI : Nat → Nat → Nat) (cI : ClassId) (sz : Nat) (a0 : Nat → Nat) (a1 : Nat → Nat) (a2 : Nat → Nat) (a3 : Nat → Nat) (a4 : Nat → Nat) (a5 : Nat → Nat) (a6 : Nat → Nat) (a7 : Nat → Nat) (a8 : Nat → Nat) (a9 : Nat → Nat) (a10 : Nat → Nat) (v2_0 : Nat → Int32) (v4_1 : Int32) (v4_0 : Nat → Int32) (v5_3 : Int32) (v5_4 : Int32) (v5_5 : Int32) (v5_6 : Int32) (v5_7 : Int32) (p1 : Int32) (p2 : Int32) (u : (Int32 × (Nat → Int32) × Int32 × (Nat → Int32) × Int32)) (hF : F_X11_setDashes v2_0 v4_1 v4_0 v5_3 p1 p2 = some (.inl u)) : Met l yX11_setDashes wz_X11_setDashes rm_X11_setDashes (va_Pc [.ref (a0 0), .int p1, .int p2] (q_pre dC dI cI (wd_X11_setDashes cI a0 a1 a2 a3 a4 a5 a6 a7 a8 a9 a10 v2_0 v4_1 v4_0 v5_3 v5_4 v5_5 v5_6 v5_7) sz)) (Q_X11_setDashes dC dI cI a0 a1 a2 a3 a4 a5 a6 a7 a8 a9 a10 v5_4 v5_5 v5_6 v5_7 u (va_A (wd_X11_setDashes cI a0 a1 a2 a3 a4 a5 a6 a7 a8 a9 a10 v2_0 v4_1 v4_0 v5_3 v5_4 v5_5 v5_6 v5_7) sz)) 0 0 (va_A (wd_X11_setDashes cI a0 a1 a2 a3 a4 a5 a6 a7 a8 a9 a10 v2_0 v4_1 v4_0 v5_3 v5_4 v5_5 v5_6 v5_7) sz) := by
  refine Met.ofW (cc := cX11_setDashes) (maxL := 4) (ret := (some .int)) (by decide) rfl ?_
  intro p e s m args below meth c s₁ B hml hv
  obtain ⟨rfl, hsz, hP, hK, hD0⟩ := hv
  have hx := B.exec
  have hb := B.bytes
  have hr := B.returns
  have hts := atoms_spec (ws := wz_X11_setDashes) B.pre
  have hta := wz_tl hts
  have hown : s.vm.findClass RX11 = some m.cls := findClass_of_methodNamed B.named
  have hlocks := B.notSynchronized
  subst hsz
  have hD := hD0.self (sz := s.heap.size)
  generalize hAe : va_A (wd_X11_setDashes cI a0 a1 a2 a3 a4 a5 a6 a7 a8 a9 a10 v2_0 v4_1 v4_0 v5_3 v5_4 v5_5 v5_6 v5_7) s.heap.size = A at hD ⊢
  have hA : ∀ q : Nat, s.heap.size ≤ q → A q := fun q h => by rw [← hAe]; exact Or.inr h
  have hS : va_S A s.heap s.heap [] := va_S.rf
  have hP : va_P (dC, dI) vwCl (wd_X11_setDashes cI a0 a1 a2 a3 a4 a5 a6 a7 a8 a9 a10 v2_0 v4_1 v4_0 v5_3 v5_4 v5_5 v5_6 v5_7) s.heap := hP
  have hl := lv_entry ([.ref (a0 0), .int p1, .int p2]) (n := 4) (Nat.le_of_ble_eq_true rfl)
  rw [lg_entry_eq]
  generalize (lg_sl ([.ref (a0 0), .int p1, .int p2]) ++ List.replicate (4 - (lg_sl ([.ref (a0 0), .int p1, .int p2])).length) Slot.unset).toArray = ls at hl ⊢
  have hl : lv_has ls 4 [(0, .ref (a0 0)), (1, .int p1), (2, .int p2)] := hl
  obtain ⟨H, hHe⟩ : ∃ H, H = s.heap := ⟨_, rfl⟩
  have hS : va_S A s.heap H [] := by rw [hHe]; exact hS
  have hP : va_P (dC, dI) vwCl (wd_X11_setDashes cI a0 a1 a2 a3 a4 a5 a6 a7 a8 a9 a10 v2_0 v4_1 v4_0 v5_3 v5_4 v5_5 v5_6 v5_7) H := by rw [hHe]; exact hP
  rw [← hHe]
  unfold F_X11_setDashes at hF
  have j45 : ∀ (v2_0 : Nat → Int32) (v4_1 : Int32) (v4_0 : Nat → Int32) (v5_3 : Int32) (x3 : Int32) (t1 : Int32) (t2 : Int32), F_X11_setDashes_j45 v2_0 v4_1 v4_0 v5_3 x3 t1 t2 = some (.inl u) → ∀ (H : Heap) (locs : List Loc) (ls : Array Slot), va_P (dC, dI) vwCl (wd_X11_setDashes cI a0 a1 a2 a3 a4 a5 a6 a7 a8 a9 a10 v2_0 v4_1 v4_0 v5_3 v5_4 v5_5 v5_6 v5_7) H → va_D A (wd_X11_setDashes cI a0 a1 a2 a3 a4 a5 a6 a7 a8 a9 a10 v2_0 v4_1 v4_0 v5_3 v5_4 v5_5 v5_6 v5_7) → va_S A s.heap H locs → lv_has ls 4 [(0, .ref (a0 0)), (3, .int x3)] → W p l e (headSpec wz_X11_setDashes rm_X11_setDashes).room s m [.ref (a0 0), .int p1, .int p2].toArray below meth c H locs 0 0 (MQ below (Q_X11_setDashes dC dI cI a0 a1 a2 a3 a4 a5 a6 a7 a8 a9 a10 v5_4 v5_5 v5_6 v5_7 u A) [.ref (a0 0), .int p1, .int p2].toArray s 0 0 A) (F0 m 45 ls [.int t2, .int t1, .ref (a2 0)]) := by
    intro v2_0 v4_1 v4_0 v5_3 x3 t1 t2 hF H locs ls hP hD hS hl
    unfold F_X11_setDashes_j45 at hF
    obtain ⟨u_1, hu_1, hF⟩ := obd_some hF
    have hPc := hP.sub (ws' := (wd_X1_put cI a2 v2_0)) [1, 2] rfl
    have hDc := hD.sub (ws' := (wd_X1_put cI a2 v2_0)) [1, 2] rfl rfl
    refine q_callv (wc := (wd_X1_put cI a2 v2_0)) (w1 := (wd_X1_put cI a2 u_1)) (ws' := (wd_X11_setDashes cI a0 a1 a2 a3 a4 a5 a6 a7 a8 a9 a10 u_1 v4_1 v4_0 v5_3 v5_4 v5_5 v5_6 v5_7)) hP hD hS hA [1, 2] [0, 3, 4, 5] [0, 4, 5, 1, 2, 3] rfl rfl rfl (by decide) rfl rfl (va_runV (As := [.int t1, .int t2]) (rest := []) ⟨hx, hb, hml, hown, hta⟩ (c_X1_put l dC dI cI H.size a2 v2_0 t1 t2 u_1 hu_1) (cwV 2 hta (ga_V mA345 mA154 mA155 mA6 mA156) rfl rfl rfl (by decide +kernel) ⟨Nat.le_of_ble_eq_true rfl, Nat.le_of_ble_eq_true rfl⟩) ⟨q_fb, va_recv hK hP (ci := 1) (q0 := 1) rfl rfl, q_ps hPc hK hDc⟩ rfl rfl hl.1 rfl (lv_room (Nat.le_of_ble_eq_true rfl)) dX11_setDashes_45 ⟨Nat.zero_le _, Nat.zero_le _⟩) (fun H locs hP hD hS => ?_)
    refine lv_aload_n hx hb dX11_setDashes_48 rfl (lv_at hl 0 rfl) ?_
    refine va_get (D := (dC, dI)) (ci := 10) (v := .ref (a2 0)) (C := RX11) (T := TX11) (N := 7) hx hb hta uw_X11 hown hK hP 0 rfl rfl 0 (by decide) (hta _ mA7) (fun _ h9 => h9) rfl dX11_setDashes_49 ?_
    refine lv_bipush (v := 6) hx hb dX11_setDashes_52 (by decide) ?_
    refine lv_iconst (v := 0) hx hb dX11_setDashes_54 (by decide) ?_
    obtain ⟨u_2, hu_2, hF⟩ := obd_some hF
    have hPc := hP.sub (ws' := (wd_X1_put cI a2 u_1)) [1, 2] rfl
    have hDc := hD.sub (ws' := (wd_X1_put cI a2 u_1)) [1, 2] rfl rfl
    refine q_callv (wc := (wd_X1_put cI a2 u_1)) (w1 := (wd_X1_put cI a2 u_2)) (ws' := (wd_X11_setDashes cI a0 a1 a2 a3 a4 a5 a6 a7 a8 a9 a10 u_2 v4_1 v4_0 v5_3 v5_4 v5_5 v5_6 v5_7)) hP hD hS hA [1, 2] [0, 3, 4, 5] [0, 4, 5, 1, 2, 3] rfl rfl rfl (by decide) rfl rfl (va_runV (As := [.int 6, .int 0]) (rest := []) ⟨hx, hb, hml, hown, hta⟩ (c_X1_put l dC dI cI H.size a2 u_1 6 0 u_2 hu_2) (cwV 2 hta (ga_V mA345 mA154 mA155 mA6 mA156) rfl rfl rfl (by decide +kernel) ⟨Nat.le_of_ble_eq_true rfl, Nat.le_of_ble_eq_true rfl⟩) ⟨q_fb, va_recv hK hP (ci := 1) (q0 := 1) rfl rfl, q_ps hPc hK hDc⟩ rfl rfl hl.1 rfl (lv_room (Nat.le_of_ble_eq_true rfl)) dX11_setDashes_55 ⟨Nat.zero_le _, Nat.zero_le _⟩) (fun H locs hP hD hS => ?_)
    refine lv_iload_n hx hb dX11_setDashes_58 rfl (lv_at hl 1 rfl) ?_
    obtain rfl := Sum.inl.inj (Option.some.inj hF)
    exact W.iret (v := x3) hx hb hr (fun t ht hW => ⟨⟨x3, (), rfl, rfl, by rw [ht]; exact hP, va_K.moved hW.alike hK, hD⟩, hS.F ht⟩) hS.2.2 dX11_setDashes_59
  refine lv_iload_n hx hb dX11_setDashes_0 rfl (lv_at hl 1 rfl) ?_
  refine lv_iconst (v := 0) hx hb dX11_setDashes_1 (by decide) ?_
  refine lv_sipush (v := 600) hx hb dX11_setDashes_2 (by decide) ?_
  refine obx_elim hF (fun x_4 hx_4 hF => ?_) (fun u_3 hu_3 hF => ?_)
  · exact absurd hF no_rl
  have hPc := hP.sub (ws' := ([] : va_W)) [] rfl
  have hDc := hD.sub (ws' := ([] : va_W)) [] rfl rfl
  refine q_callv (wc := ([] : va_W)) (w1 := ([] : va_W)) (ws' := (wd_X11_setDashes cI a0 a1 a2 a3 a4 a5 a6 a7 a8 a9 a10 v2_0 v4_1 v4_0 v5_3 v5_4 v5_5 v5_6 v5_7)) hP hD hS hA [] [0, 1, 2, 3, 4, 5] [0, 1, 2, 3, 4, 5] rfl rfl rfl (by decide) rfl rfl (va_runS (As := [.int p1, .int 0, .int 600]) (rest := []) ⟨hx, hb, hml, hown, hta⟩ (c_X11_checkRange l dC dI cI H.size p1 0 600 u_3 hu_3) (va_cwS 3 hta (ga_S mA106 mA107 mA108 mA109) rfl rfl rfl (by decide +kernel) ⟨Nat.le_of_ble_eq_true rfl, Nat.le_of_ble_eq_true rfl⟩) ⟨q_fb, q_ps hPc hK hDc⟩ rfl rfl hl.1 rfl (lv_room (Nat.le_of_ble_eq_true rfl)) dX11_setDashes_5 ⟨Nat.zero_le _, Nat.zero_le _⟩) (fun H locs hP hD hS => ?_)
  refine lv_aload_n hx hb dX11_setDashes_8 rfl (lv_at hl 0 rfl) ?_
  obtain ⟨u_5, hu_5, hF⟩ := obd_some hF
  have hPc := hP.sub (ws' := (wd_X11_saveState cI a0 a1 a2 a3 a4 a5 a6 a7 a8 a9 a10 v2_0 v4_1 v4_0 v5_3 v5_4 v5_5 v5_6 v5_7)) [0, 1, 2, 3, 4, 5] rfl
  have hDc := hD.sub (ws' := (wd_X11_saveState cI a0 a1 a2 a3 a4 a5 a6 a7 a8 a9 a10 v2_0 v4_1 v4_0 v5_3 v5_4 v5_5 v5_6 v5_7)) [0, 1, 2, 3, 4, 5] rfl rfl
  refine q_callv (wc := (wd_X11_saveState cI a0 a1 a2 a3 a4 a5 a6 a7 a8 a9 a10 v2_0 v4_1 v4_0 v5_3 v5_4 v5_5 v5_6 v5_7)) (w1 := (wd_X11_saveState cI a0 a1 a2 a3 a4 a5 a6 a7 a8 a9 a10 v2_0 u_5.1 u_5.2.1 u_5.2.2 v5_4 v5_5 v5_6 v5_7)) (ws' := (wd_X11_setDashes cI a0 a1 a2 a3 a4 a5 a6 a7 a8 a9 a10 v2_0 u_5.1 u_5.2.1 u_5.2.2 v5_4 v5_5 v5_6 v5_7)) hP hD hS hA [0, 1, 2, 3, 4, 5] [] [0, 1, 2, 3, 4, 5] rfl rfl rfl (by decide) rfl rfl (va_runV (As := []) (rest := []) ⟨hx, hb, hml, hown, hta⟩ (c_X11_saveState l dC dI cI H.size a0 a1 a2 a3 a4 a5 a6 a7 a8 a9 a10 v2_0 v4_1 v4_0 v5_3 v5_4 v5_5 v5_6 v5_7 u_5 hu_5) (cwV 0 hta (ga_V mA125 mA126 mA127 mA108 mA128) rfl rfl rfl (by decide +kernel) ⟨Nat.le_of_ble_eq_true rfl, Nat.le_of_ble_eq_true rfl⟩) ⟨q_fb, va_recv hK hP (ci := 10) (q0 := 0) rfl rfl, q_ps hPc hK hDc⟩ rfl rfl hl.1 rfl (lv_room (Nat.le_of_ble_eq_true rfl)) dX11_setDashes_9 ⟨Nat.zero_le _, Nat.zero_le _⟩) (fun H locs hP hD hS => ?_)
  refine lv_aload_n hx hb dX11_setDashes_12 rfl (lv_at hl 0 rfl) ?_
  refine va_get (D := (dC, dI)) (ci := 10) (v := .ref (a2 0)) (C := RX11) (T := TX11) (N := 7) hx hb hta uw_X11 hown hK hP 0 rfl rfl 0 (by decide) (hta _ mA7) (fun _ h9 => h9) rfl dX11_setDashes_13 ?_
  refine lv_bipush (v := 6) hx hb dX11_setDashes_16 (by decide) ?_
  obtain ⟨u_6, hu_6, hF⟩ := obd_some hF
  have hPc := hP.sub (ws' := (wd_X1_cell cI a2 v2_0)) [1, 2] rfl
  have hDc := hD.sub (ws' := (wd_X1_cell cI a2 v2_0)) [1, 2] rfl rfl
  refine q_calli (wc := (wd_X1_cell cI a2 v2_0)) (w1 := (wd_X1_cell cI a2 v2_0)) (ws' := (wd_X11_setDashes cI a0 a1 a2 a3 a4 a5 a6 a7 a8 a9 a10 v2_0 u_5.1 u_5.2.1 u_5.2.2 v5_4 v5_5 v5_6 v5_7)) hP hD hS hA [1, 2] [0, 3, 4, 5] [0, 4, 5, 1, 2, 3] rfl rfl rfl (by decide) rfl rfl (va_runV (As := [.int 6]) (rest := []) ⟨hx, hb, hml, hown, hta⟩ (c_X1_cell l dC dI cI H.size a2 v2_0 6 u_6 hu_6) (cwV 1 hta (ga_V mA344 mA117 mA118 mA6 mA119) rfl rfl rfl (by decide +kernel) ⟨Nat.le_of_ble_eq_true rfl, Nat.le_of_ble_eq_true rfl⟩) ⟨q_fb, va_recv hK hP (ci := 1) (q0 := 1) rfl rfl, q_ps hPc hK hDc⟩ rfl rfl hl.1 rfl (lv_room (Nat.le_of_ble_eq_true rfl)) dX11_setDashes_18 ⟨Nat.zero_le _, Nat.zero_le _⟩) (fun H locs hP hD hS => ?_)
  refine lv_istore_n (lv' := [(3, .int u_6), (0, .ref (a0 0)), (1, .int p1), (2, .int p2)]) hx hb dX11_setDashes_21 rfl hl (by decide) rfl (fun ls hl => ?_)
  refine lv_aload_n hx hb dX11_setDashes_22 rfl (lv_at hl 1 rfl) ?_
  refine va_get (D := (dC, dI)) (ci := 10) (v := .ref (a2 0)) (C := RX11) (T := TX11) (N := 7) hx hb hta uw_X11 hown hK hP 0 rfl rfl 0 (by decide) (hta _ mA7) (fun _ h9 => h9) rfl dX11_setDashes_23 ?_
  refine lv_iconst (v := 4) hx hb dX11_setDashes_26 (by decide) ?_
  refine lv_iload_n hx hb dX11_setDashes_27 rfl (lv_at hl 2 rfl) ?_
  obtain ⟨u_7, hu_7, hF⟩ := obd_some hF
  have hPc := hP.sub (ws' := (wd_X1_put cI a2 v2_0)) [1, 2] rfl
  have hDc := hD.sub (ws' := (wd_X1_put cI a2 v2_0)) [1, 2] rfl rfl
  refine q_callv (wc := (wd_X1_put cI a2 v2_0)) (w1 := (wd_X1_put cI a2 u_7)) (ws' := (wd_X11_setDashes cI a0 a1 a2 a3 a4 a5 a6 a7 a8 a9 a10 u_7 u_5.1 u_5.2.1 u_5.2.2 v5_4 v5_5 v5_6 v5_7)) hP hD hS hA [1, 2] [0, 3, 4, 5] [0, 4, 5, 1, 2, 3] rfl rfl rfl (by decide) rfl rfl (va_runV (As := [.int 4, .int p1]) (rest := []) ⟨hx, hb, hml, hown, hta⟩ (c_X1_put l dC dI cI H.size a2 v2_0 4 p1 u_7 hu_7) (cwV 2 hta (ga_V mA345 mA154 mA155 mA6 mA156) rfl rfl rfl (by decide +kernel) ⟨Nat.le_of_ble_eq_true rfl, Nat.le_of_ble_eq_true rfl⟩) ⟨q_fb, va_recv hK hP (ci := 1) (q0 := 1) rfl rfl, q_ps hPc hK hDc⟩ rfl rfl hl.1 rfl (lv_room (Nat.le_of_ble_eq_true rfl)) dX11_setDashes_28 ⟨Nat.zero_le _, Nat.zero_le _⟩) (fun H locs hP hD hS => ?_)
  refine lv_aload_n hx hb dX11_setDashes_31 rfl (lv_at hl 1 rfl) ?_
  refine va_get (D := (dC, dI)) (ci := 10) (v := .ref (a2 0)) (C := RX11) (T := TX11) (N := 7) hx hb hta uw_X11 hown hK hP 0 rfl rfl 0 (by decide) (hta _ mA7) (fun _ h9 => h9) rfl dX11_setDashes_32 ?_
  refine lv_iconst (v := 5) hx hb dX11_setDashes_35 (by decide) ?_
  refine lv_iload_n hx hb dX11_setDashes_36 rfl (lv_at hl 3 rfl) ?_
  refine lv_if_eq (tgt := 44) hx hb dX11_setDashes_37 (by decide) (fun c_8 => ?_) (fun c_8 => ?_)
  · have hF := it_t hF c_8
    refine lv_iconst (v := 0) hx hb dX11_setDashes_44 (by decide) ?_
    exact j45 u_7 u_5.1 u_5.2.1 u_5.2.2 u_6 5 0 hF _ _ _ hP hD hS (lv_sub hl [1, 0] rfl)
  · have hF := it_f hF c_8
    refine lv_iconst (v := 1) hx hb dX11_setDashes_40 (by decide) ?_
    refine lv_goto (tgt := 45) hx hb dX11_setDashes_41 (by decide) ?_
    exact j45 u_7 u_5.1 u_5.2.1 u_5.2.2 u_6 5 1 hF _ _ _ hP hD hS (lv_sub hl [1, 0] rfl)
abbrev rmx_X11_setDashes : Room := { frames := 7, cells := 1, slots := 6, locals := 104 }
abbrev XC_X11_setDashes (dC : Nat → ClassId) (dI : Nat → Nat → Nat) (cI : ClassId) (a0 : Nat → Nat) (a1 : Nat → Nat) (a2 : Nat → Nat) (a3 : Nat → Nat) (a4 : Nat → Nat) (a5 : Nat → Nat) (a6 : Nat → Nat) (a7 : Nat → Nat) (a8 : Nat → Nat) (a9 : Nat → Nat) (a10 : Nat → Nat) (v5_4 : Int32) (v5_5 : Int32) (v5_6 : Int32) (v5_7 : Int32) (x : (Nat × (Nat → Int32) × Int32 × (Nat → Int32) × Int32)) (A : Nat → Prop) : String → State → State → Prop := vx_X (fun (_ : Unit) => True) (fun E _ t => E = exN x.1 ∧ q_at dC dI cI A (wd_X11_setDashes cI a0 a1 a2 a3 a4 a5 a6 a7 a8 a9 a10 x.2.1 x.2.2.1 x.2.2.2.1 x.2.2.2.2 v5_4 v5_5 v5_6 v5_7) t) A
set_option maxHeartbeats 4000000 in
set_option maxRecDepth 100000 in
theorem c_X11_setDashes_x (l : Launch) (hlt : l.stackTraces = false) (S : Nat → Nat) (dC : Nat → ClassId) (dI : Nat → Nat → Nat) (cI : ClassId) (sz : Nat) (a0 : Nat → Nat) (a1 : Nat → Nat) (a2 : Nat → Nat) (a3 : Nat → Nat) (a4 : Nat → Nat) (a5 : Nat → Nat) (a6 : Nat → Nat) (a7 : Nat → Nat) (a8 : Nat → Nat) (a9 : Nat → Nat) (a10 : Nat → Nat) (v2_0 : Nat → Int32) (v4_1 : Int32) (v4_0 : Nat → Int32) (v5_3 : Int32) (v5_4 : Int32) (v5_5 : Int32) (v5_6 : Int32) (v5_7 : Int32) (p1 : Int32) (p2 : Int32) (x : (Nat × (Nat → Int32) × Int32 × (Nat → Int32) × Int32)) (hF : F_X11_setDashes v2_0 v4_1 v4_0 v5_3 p1 p2 = some (.inr x)) : vx_Met l yX11_setDashes wz_X11_setDashes rmx_X11_setDashes (va_Pc [.ref (a0 0), .int p1, .int p2] (qx_pre S dC dI cI (wd_X11_setDashes cI a0 a1 a2 a3 a4 a5 a6 a7 a8 a9 a10 v2_0 v4_1 v4_0 v5_3 v5_4 v5_5 v5_6 v5_7) sz)) (va_Qv (fun (_ : Unit) => False) (fun _ _ => True) (va_A (wd_X11_setDashes cI a0 a1 a2 a3 a4 a5 a6 a7 a8 a9 a10 v2_0 v4_1 v4_0 v5_3 v5_4 v5_5 v5_6 v5_7) sz)) (XC_X11_setDashes dC dI cI a0 a1 a2 a3 a4 a5 a6 a7 a8 a9 a10 v5_4 v5_5 v5_6 v5_7 x (va_A (wd_X11_setDashes cI a0 a1 a2 a3 a4 a5 a6 a7 a8 a9 a10 v2_0 v4_1 v4_0 v5_3 v5_4 v5_5 v5_6 v5_7) sz)) 1 6 (va_A (wd_X11_setDashes cI a0 a1 a2 a3 a4 a5 a6 a7 a8 a9 a10 v2_0 v4_1 v4_0 v5_3 v5_4 v5_5 v5_6 v5_7) sz) := by
  refine vx_ofW (cc := cX11_setDashes) (maxL := 4) (ret := (some .int)) (by decide) rfl ?_
  intro p e s m args below meth c s₁ B hml hxt hv
  obtain ⟨rfl, ⟨hsz, hP, hK, hD0⟩, hE⟩ := hv
  have hx := B.exec
  have hb := B.bytes
  have hr := B.returns
  have hts := atoms_spec (ws := wz_X11_setDashes) B.pre
  have hta := wz_tl hts
  have hown : s.vm.findClass RX11 = some m.cls := findClass_of_methodNamed B.named
  have hlocks := B.notSynchronized
  subst hsz
  have hD := hD0.self (sz := s.heap.size)
  generalize hAe : va_A (wd_X11_setDashes cI a0 a1 a2 a3 a4 a5 a6 a7 a8 a9 a10 v2_0 v4_1 v4_0 v5_3 v5_4 v5_5 v5_6 v5_7) s.heap.size = A at hD hE ⊢
  have hA : ∀ q : Nat, s.heap.size ≤ q → A q := fun q h => by rw [← hAe]; exact Or.inr h
  have hS : va_S A s.heap s.heap [] := va_S.rf
  have hP : va_P (dC, dI) vwCl (wd_X11_setDashes cI a0 a1 a2 a3 a4 a5 a6 a7 a8 a9 a10 v2_0 v4_1 v4_0 v5_3 v5_4 v5_5 v5_6 v5_7) s.heap := hP
  have hl := lv_entry ([.ref (a0 0), .int p1, .int p2]) (n := 4) (Nat.le_of_ble_eq_true rfl)
  rw [lg_entry_eq]
  generalize (lg_sl ([.ref (a0 0), .int p1, .int p2]) ++ List.replicate (4 - (lg_sl ([.ref (a0 0), .int p1, .int p2])).length) Slot.unset).toArray = ls at hl ⊢
  have hl : lv_has ls 4 [(0, .ref (a0 0)), (1, .int p1), (2, .int p2)] := hl
  obtain ⟨H, hHe⟩ : ∃ H, H = s.heap := ⟨_, rfl⟩
  have hS : va_S A s.heap H [] := by rw [hHe]; exact hS
  have hP : va_P (dC, dI) vwCl (wd_X11_setDashes cI a0 a1 a2 a3 a4 a5 a6 a7 a8 a9 a10 v2_0 v4_1 v4_0 v5_3 v5_4 v5_5 v5_6 v5_7) H := by rw [hHe]; exact hP
  rw [← hHe]
  unfold F_X11_setDashes at hF
  have j45 : ∀ (v2_0 : Nat → Int32) (v4_1 : Int32) (v4_0 : Nat → Int32) (v5_3 : Int32) (x3 : Int32) (t1 : Int32) (t2 : Int32), F_X11_setDashes_j45 v2_0 v4_1 v4_0 v5_3 x3 t1 t2 = some (.inr x) → ∀ (H : Heap) (locs : List Loc) (ls : Array Slot), va_P (dC, dI) vwCl (wd_X11_setDashes cI a0 a1 a2 a3 a4 a5 a6 a7 a8 a9 a10 v2_0 v4_1 v4_0 v5_3 v5_4 v5_5 v5_6 v5_7) H → va_D A (wd_X11_setDashes cI a0 a1 a2 a3 a4 a5 a6 a7 a8 a9 a10 v2_0 v4_1 v4_0 v5_3 v5_4 v5_5 v5_6 v5_7) → va_S A s.heap H locs → lv_has ls 4 [(0, .ref (a0 0)), (3, .int x3)] → W p l e (headSpec wz_X11_setDashes rmx_X11_setDashes).room s m [.ref (a0 0), .int p1, .int p2].toArray below meth c H locs 0 0 (vx_MQ below (va_Qv (fun (_ : Unit) => False) (fun _ _ => True) A) (XC_X11_setDashes dC dI cI a0 a1 a2 a3 a4 a5 a6 a7 a8 a9 a10 v5_4 v5_5 v5_6 v5_7 x A) [.ref (a0 0), .int p1, .int p2].toArray s 1 6 A) (F0 m 45 ls [.int t2, .int t1, .ref (a2 0)]) := by
    intro v2_0 v4_1 v4_0 v5_3 x3 t1 t2 hF H locs ls hP hD hS hl
    unfold F_X11_setDashes_j45 at hF
    obtain ⟨u_1, hu_1, hF⟩ := obd_some hF
    have hPc := hP.sub (ws' := (wd_X1_put cI a2 v2_0)) [1, 2] rfl
    have hDc := hD.sub (ws' := (wd_X1_put cI a2 v2_0)) [1, 2] rfl rfl
    refine q_callv (wc := (wd_X1_put cI a2 v2_0)) (w1 := (wd_X1_put cI a2 u_1)) (ws' := (wd_X11_setDashes cI a0 a1 a2 a3 a4 a5 a6 a7 a8 a9 a10 u_1 v4_1 v4_0 v5_3 v5_4 v5_5 v5_6 v5_7)) hP hD hS hA [1, 2] [0, 3, 4, 5] [0, 4, 5, 1, 2, 3] rfl rfl rfl (by decide) rfl rfl (va_runV (As := [.int t1, .int t2]) (rest := []) ⟨hx, hb, hml, hown, hta⟩ (c_X1_put l dC dI cI H.size a2 v2_0 t1 t2 u_1 hu_1) (cwV 2 hta (ga_V mA345 mA154 mA155 mA6 mA156) rfl rfl rfl (by decide +kernel) ⟨Nat.le_of_ble_eq_true rfl, Nat.le_of_ble_eq_true rfl⟩) ⟨q_fb, va_recv hK hP (ci := 1) (q0 := 1) rfl rfl, q_ps hPc hK hDc⟩ rfl rfl hl.1 rfl (lv_room (Nat.le_of_ble_eq_true rfl)) dX11_setDashes_45 ⟨Nat.zero_le _, Nat.zero_le _⟩) (fun H locs hP hD hS => ?_)
    refine lv_aload_n hx hb dX11_setDashes_48 rfl (lv_at hl 0 rfl) ?_
    refine va_get (D := (dC, dI)) (ci := 10) (v := .ref (a2 0)) (C := RX11) (T := TX11) (N := 7) hx hb hta uw_X11 hown hK hP 0 rfl rfl 0 (by decide) (hta _ mA7) (fun _ h9 => h9) rfl dX11_setDashes_49 ?_
    refine lv_bipush (v := 6) hx hb dX11_setDashes_52 (by decide) ?_
    refine lv_iconst (v := 0) hx hb dX11_setDashes_54 (by decide) ?_
    obtain ⟨u_2, hu_2, hF⟩ := obd_some hF
    have hPc := hP.sub (ws' := (wd_X1_put cI a2 u_1)) [1, 2] rfl
    have hDc := hD.sub (ws' := (wd_X1_put cI a2 u_1)) [1, 2] rfl rfl
    refine q_callv (wc := (wd_X1_put cI a2 u_1)) (w1 := (wd_X1_put cI a2 u_2)) (ws' := (wd_X11_setDashes cI a0 a1 a2 a3 a4 a5 a6 a7 a8 a9 a10 u_2 v4_1 v4_0 v5_3 v5_4 v5_5 v5_6 v5_7)) hP hD hS hA [1, 2] [0, 3, 4, 5] [0, 4, 5, 1, 2, 3] rfl rfl rfl (by decide) rfl rfl (va_runV (As := [.int 6, .int 0]) (rest := []) ⟨hx, hb, hml, hown, hta⟩ (c_X1_put l dC dI cI H.size a2 u_1 6 0 u_2 hu_2) (cwV 2 hta (ga_V mA345 mA154 mA155 mA6 mA156) rfl rfl rfl (by decide +kernel) ⟨Nat.le_of_ble_eq_true rfl, Nat.le_of_ble_eq_true rfl⟩) ⟨q_fb, va_recv hK hP (ci := 1) (q0 := 1) rfl rfl, q_ps hPc hK hDc⟩ rfl rfl hl.1 rfl (lv_room (Nat.le_of_ble_eq_true rfl)) dX11_setDashes_55 ⟨Nat.zero_le _, Nat.zero_le _⟩) (fun H locs hP hD hS => ?_)
    refine lv_iload_n hx hb dX11_setDashes_58 rfl (lv_at hl 1 rfl) ?_
    exact absurd hF no_lr
  refine lv_iload_n hx hb dX11_setDashes_0 rfl (lv_at hl 1 rfl) ?_
  refine lv_iconst (v := 0) hx hb dX11_setDashes_1 (by decide) ?_
  refine lv_sipush (v := 600) hx hb dX11_setDashes_2 (by decide) ?_
  refine obx_elim hF (fun x_4 hx_4 hF => ?_) (fun u_3 hu_3 hF => ?_)
  · obtain rfl := Sum.inr.inj (Option.some.inj hF)
    have hPc := hP.sub (ws' := ([] : va_W)) [] rfl
    have hDc := hD.sub (ws' := ([] : va_W)) [] rfl rfl
    refine qx_thr (kd := x_4) hP hD hK hS hA hxt hlocks (vx_runS (As := [.int p1, .int 0, .int 600]) (rest := []) ⟨hx, hb, hml, hown, hta⟩ (c_X11_checkRange_x l hlt S dC dI cI H.size p1 0 600 x_4 hx_4) (va_cwS 3 hta (ga_S mA106 mA107 mA108 mA109) rfl rfl rfl (by decide +kernel) ⟨Nat.le_of_ble_eq_true rfl, Nat.le_of_ble_eq_true rfl⟩) ⟨qx_fb, qx_ps hPc hK hDc hE hS (va_free (wc := ([] : va_W)) hD hS hA [] rfl)⟩ rfl rfl hl.1 rfl (lv_room (Nat.le_of_ble_eq_true rfl)) dX11_setDashes_5 ⟨Nat.le_of_ble_eq_true rfl, Nat.le_of_ble_eq_true rfl⟩) (fun t hP hK hF9 => ⟨(), trivial, ⟨rfl, hP, hK, hD⟩, hF9⟩) (Nat.le_of_ble_eq_true rfl) (Nat.le_of_ble_eq_true rfl)
  have hPc := hP.sub (ws' := ([] : va_W)) [] rfl
  have hDc := hD.sub (ws' := ([] : va_W)) [] rfl rfl
  refine q_callv (wc := ([] : va_W)) (w1 := ([] : va_W)) (ws' := (wd_X11_setDashes cI a0 a1 a2 a3 a4 a5 a6 a7 a8 a9 a10 v2_0 v4_1 v4_0 v5_3 v5_4 v5_5 v5_6 v5_7)) hP hD hS hA [] [0, 1, 2, 3, 4, 5] [0, 1, 2, 3, 4, 5] rfl rfl rfl (by decide) rfl rfl (va_runS (As := [.int p1, .int 0, .int 600]) (rest := []) ⟨hx, hb, hml, hown, hta⟩ (c_X11_checkRange l dC dI cI H.size p1 0 600 u_3 hu_3) (va_cwS 3 hta (ga_S mA106 mA107 mA108 mA109) rfl rfl rfl (by decide +kernel) ⟨Nat.le_of_ble_eq_true rfl, Nat.le_of_ble_eq_true rfl⟩) ⟨q_fb, q_ps hPc hK hDc⟩ rfl rfl hl.1 rfl (lv_room (Nat.le_of_ble_eq_true rfl)) dX11_setDashes_5 ⟨Nat.zero_le _, Nat.zero_le _⟩) (fun H locs hP hD hS => ?_)
  refine lv_aload_n hx hb dX11_setDashes_8 rfl (lv_at hl 0 rfl) ?_
  obtain ⟨u_5, hu_5, hF⟩ := obd_some hF
  have hPc := hP.sub (ws' := (wd_X11_saveState cI a0 a1 a2 a3 a4 a5 a6 a7 a8 a9 a10 v2_0 v4_1 v4_0 v5_3 v5_4 v5_5 v5_6 v5_7)) [0, 1, 2, 3, 4, 5] rfl
  have hDc := hD.sub (ws' := (wd_X11_saveState cI a0 a1 a2 a3 a4 a5 a6 a7 a8 a9 a10 v2_0 v4_1 v4_0 v5_3 v5_4 v5_5 v5_6 v5_7)) [0, 1, 2, 3, 4, 5] rfl rfl
  refine q_callv (wc := (wd_X11_saveState cI a0 a1 a2 a3 a4 a5 a6 a7 a8 a9 a10 v2_0 v4_1 v4_0 v5_3 v5_4 v5_5 v5_6 v5_7)) (w1 := (wd_X11_saveState cI a0 a1 a2 a3 a4 a5 a6 a7 a8 a9 a10 v2_0 u_5.1 u_5.2.1 u_5.2.2 v5_4 v5_5 v5_6 v5_7)) (ws' := (wd_X11_setDashes cI a0 a1 a2 a3 a4 a5 a6 a7 a8 a9 a10 v2_0 u_5.1 u_5.2.1 u_5.2.2 v5_4 v5_5 v5_6 v5_7)) hP hD hS hA [0, 1, 2, 3, 4, 5] [] [0, 1, 2, 3, 4, 5] rfl rfl rfl (by decide) rfl rfl (va_runV (As := []) (rest := []) ⟨hx, hb, hml, hown, hta⟩ (c_X11_saveState l dC dI cI H.size a0 a1 a2 a3 a4 a5 a6 a7 a8 a9 a10 v2_0 v4_1 v4_0 v5_3 v5_4 v5_5 v5_6 v5_7 u_5 hu_5) (cwV 0 hta (ga_V mA125 mA126 mA127 mA108 mA128) rfl rfl rfl (by decide +kernel) ⟨Nat.le_of_ble_eq_true rfl, Nat.le_of_ble_eq_true rfl⟩) ⟨q_fb, va_recv hK hP (ci := 10) (q0 := 0) rfl rfl, q_ps hPc hK hDc⟩ rfl rfl hl.1 rfl (lv_room (Nat.le_of_ble_eq_true rfl)) dX11_setDashes_9 ⟨Nat.zero_le _, Nat.zero_le _⟩) (fun H locs hP hD hS => ?_)
  refine lv_aload_n hx hb dX11_setDashes_12 rfl (lv_at hl 0 rfl) ?_
  refine va_get (D := (dC, dI)) (ci := 10) (v := .ref (a2 0)) (C := RX11) (T := TX11) (N := 7) hx hb hta uw_X11 hown hK hP 0 rfl rfl 0 (by decide) (hta _ mA7) (fun _ h9 => h9) rfl dX11_setDashes_13 ?_
  refine lv_bipush (v := 6) hx hb dX11_setDashes_16 (by decide) ?_
  obtain ⟨u_6, hu_6, hF⟩ := obd_some hF
  have hPc := hP.sub (ws' := (wd_X1_cell cI a2 v2_0)) [1, 2] rfl
  have hDc := hD.sub (ws' := (wd_X1_cell cI a2 v2_0)) [1, 2] rfl rfl
  refine q_calli (wc := (wd_X1_cell cI a2 v2_0)) (w1 := (wd_X1_cell cI a2 v2_0)) (ws' := (wd_X11_setDashes cI a0 a1 a2 a3 a4 a5 a6 a7 a8 a9 a10 v2_0 u_5.1 u_5.2.1 u_5.2.2 v5_4 v5_5 v5_6 v5_7)) hP hD hS hA [1, 2] [0, 3, 4, 5] [0, 4, 5, 1, 2, 3] rfl rfl rfl (by decide) rfl rfl (va_runV (As := [.int 6]) (rest := []) ⟨hx, hb, hml, hown, hta⟩ (c_X1_cell l dC dI cI H.size a2 v2_0 6 u_6 hu_6) (cwV 1 hta (ga_V mA344 mA117 mA118 mA6 mA119) rfl rfl rfl (by decide +kernel) ⟨Nat.le_of_ble_eq_true rfl, Nat.le_of_ble_eq_true rfl⟩) ⟨q_fb, va_recv hK hP (ci := 1) (q0 := 1) rfl rfl, q_ps hPc hK hDc⟩ rfl rfl hl.1 rfl (lv_room (Nat.le_of_ble_eq_true rfl)) dX11_setDashes_18 ⟨Nat.zero_le _, Nat.zero_le _⟩) (fun H locs hP hD hS => ?_)
  refine lv_istore_n (lv' := [(3, .int u_6), (0, .ref (a0 0)), (1, .int p1), (2, .int p2)]) hx hb dX11_setDashes_21 rfl hl (by decide) rfl (fun ls hl => ?_)
  refine lv_aload_n hx hb dX11_setDashes_22 rfl (lv_at hl 1 rfl) ?_
  refine va_get (D := (dC, dI)) (ci := 10) (v := .ref (a2 0)) (C := RX11) (T := TX11) (N := 7) hx hb hta uw_X11 hown hK hP 0 rfl rfl 0 (by decide) (hta _ mA7) (fun _ h9 => h9) rfl dX11_setDashes_23 ?_
  refine lv_iconst (v := 4) hx hb dX11_setDashes_26 (by decide) ?_
  refine lv_iload_n hx hb dX11_setDashes_27 rfl (lv_at hl 2 rfl) ?_
  obtain ⟨u_7, hu_7, hF⟩ := obd_some hF
  have hPc := hP.sub (ws' := (wd_X1_put cI a2 v2_0)) [1, 2] rfl
  have hDc := hD.sub (ws' := (wd_X1_put cI a2 v2_0)) [1, 2] rfl rfl
  refine q_callv (wc := (wd_X1_put cI a2 v2_0)) (w1 := (wd_X1_put cI a2 u_7)) (ws' := (wd_X11_setDashes cI a0 a1 a2 a3 a4 a5 a6 a7 a8 a9 a10 u_7 u_5.1 u_5.2.1 u_5.2.2 v5_4 v5_5 v5_6 v5_7)) hP hD hS hA [1, 2] [0, 3, 4, 5] [0, 4, 5, 1, 2, 3] rfl rfl rfl (by decide) rfl rfl (va_runV (As := [.int 4, .int p1]) (rest := []) ⟨hx, hb, hml, hown, hta⟩ (c_X1_put l dC dI cI H.size a2 v2_0 4 p1 u_7 hu_7) (cwV 2 hta (ga_V mA345 mA154 mA155 mA6 mA156) rfl rfl rfl (by decide +kernel) ⟨Nat.le_of_ble_eq_true rfl, Nat.le_of_ble_eq_true rfl⟩) ⟨q_fb, va_recv hK hP (ci := 1) (q0 := 1) rfl rfl, q_ps hPc hK hDc⟩ rfl rfl hl.1 rfl (lv_room (Nat.le_of_ble_eq_true rfl)) dX11_setDashes_28 ⟨Nat.zero_le _, Nat.zero_le _⟩) (fun H locs hP hD hS => ?_)
  refine lv_aload_n hx hb dX11_setDashes_31 rfl (lv_at hl 1 rfl) ?_
  refine va_get (D := (dC, dI)) (ci := 10) (v := .ref (a2 0)) (C := RX11) (T := TX11) (N := 7) hx hb hta uw_X11 hown hK hP 0 rfl rfl 0 (by decide) (hta _ mA7) (fun _ h9 => h9) rfl dX11_setDashes_32 ?_
  refine lv_iconst (v := 5) hx hb dX11_setDashes_35 (by decide) ?_
  refine lv_iload_n hx hb dX11_setDashes_36 rfl (lv_at hl 3 rfl) ?_
  refine lv_if_eq (tgt := 44) hx hb dX11_setDashes_37 (by decide) (fun c_8 => ?_) (fun c_8 => ?_)
  · have hF := it_t hF c_8
    refine lv_iconst (v := 0) hx hb dX11_setDashes_44 (by decide) ?_
    exact j45 u_7 u_5.1 u_5.2.1 u_5.2.2 u_6 5 0 hF _ _ _ hP hD hS (lv_sub hl [1, 0] rfl)
  · have hF := it_f hF c_8
    refine lv_iconst (v := 1) hx hb dX11_setDashes_40 (by decide) ?_
    refine lv_goto (tgt := 45) hx hb dX11_setDashes_41 (by decide) ?_
    exact j45 u_7 u_5.1 u_5.2.1 u_5.2.2 u_6 5 1 hF _ _ _ hP hD hS (lv_sub hl [1, 0] rfl)
