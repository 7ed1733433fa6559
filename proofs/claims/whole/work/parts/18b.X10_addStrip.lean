-- StrokeOutliner$Stroke.addStrip(I)V
def F_X10_addStrip (v1_3 : Int32) (v1_4 : Int32) (v1_0 : Nat → Int32) (v1_1 : Nat → Int32) (v1_2 : Nat → Int32) (v2_7 : Nat → Int32) (v2_8 : Nat → Int32) (v2_9 : Nat → Int32) (v4_1 : Nat → Int32) (v4_2 : Nat → Int32) (v4_3 : Nat → Int32) (v4_4 : Nat → Int32) (v4_5 : Nat → Int32) (v4_6 : Nat → Int32) (v4_7 : Nat → Int32) (p1 : Int32) : Option (Int32 × Int32 × (Nat → Int32) × (Nat → Int32) × (Nat → Int32)) :=
  obd (F_X8_segmentOf v2_7 p1) (fun u_1 => obd (F_X8_fromOf v2_8 p1) (fun u_2 => obd (F_X9_xAt v4_1 v4_3 v4_5 u_1 u_2) (fun u_3 => obd (F_X8_fromOf v2_8 p1) (fun u_4 => obd (F_X9_yAt v4_2 v4_4 v4_5 u_1 u_4) (fun u_5 => obd (F_X8_toOf v2_9 p1) (fun u_6 => obd (F_X9_xAt v4_1 v4_3 v4_5 u_1 u_6) (fun u_7 => obd (F_X8_toOf v2_9 p1) (fun u_8 => obd (F_X9_yAt v4_2 v4_4 v4_5 u_1 u_8) (fun u_9 => obd (F_X9_normalX v4_6 u_1) (fun u_10 => obd (F_X9_normalY v4_7 u_1) (fun u_11 => obd (F_X7_start v1_3 v1_4 v1_0 0) (fun u_12 => obd (F_X7_addCorner u_12.1 u_12.2.1 v1_1 v1_2 (u_3 + u_10) (u_5 + u_11)) (fun u_13 => obd (F_X7_addCorner u_12.1 u_13.1 u_13.2.1 u_13.2.2 (u_7 + u_10) (u_9 + u_11)) (fun u_14 => obd (F_X7_addCorner u_12.1 u_14.1 u_14.2.1 u_14.2.2 (u_7 - u_10) (u_9 - u_11)) (fun u_15 => obd (F_X7_addCorner u_12.1 u_15.1 u_15.2.1 u_15.2.2 (u_3 - u_10) (u_5 - u_11)) (fun u_16 => some (u_12.1, u_16.1, u_12.2.2, u_16.2.1, u_16.2.2)))))))))))))))))
abbrev wd_X10_addStrip (cI : ClassId) (a0 : Nat → Nat) (a1 : Nat → Nat) (a2 : Nat → Nat) (a3 : Nat → Nat) (a4 : Nat → Nat) (v0_3 : Int32) (v0_4 : Int32) (v0_5 : Int32) (v0_6 : Int32) (v0_7 : Int32) (v1_3 : Int32) (v1_4 : Int32) (v1_5 : Int32) (v1_0 : Nat → Int32) (v1_1 : Nat → Int32) (v1_2 : Nat → Int32) (v2_10 : Int32) (v2_11 : Int32) (v2_7 : Nat → Int32) (v2_8 : Nat → Int32) (v2_9 : Nat → Int32) (v4_10 : Int32) (v4_1 : Nat → Int32) (v4_2 : Nat → Int32) (v4_3 : Nat → Int32) (v4_4 : Nat → Int32) (v4_5 : Nat → Int32) (v4_6 : Nat → Int32) (v4_7 : Nat → Int32) : va_W := [(a0 0, .inr (9, [.ref (a4 0), .ref (a2 0), .ref (a1 0), .int v0_3, .int v0_4, .int v0_5, .int v0_6, .int v0_7])), (a1 0, .inr (6, [.ref (a1 1), .ref (a1 2), .ref (a1 3), .int v1_3, .int v1_4, .int v1_5])), (a1 1, .inl (cI, 2800, .inl v1_0)), (a1 2, .inl (cI, 11200, .inl v1_1)), (a1 3, .inl (cI, 11200, .inl v1_2)), (a2 0, .inr (7, [.ref (a3 0), .ref (a2 2), .ref (a2 3), .ref (a2 4), .ref (a2 5), .ref (a2 6), .ref (a2 7), .ref (a2 8), .ref (a2 9), .ref (a2 10), .int v2_10, .int v2_11])), (a2 8, .inl (cI, 1024, .inl v2_7)), (a2 9, .inl (cI, 1024, .inl v2_8)), (a2 10, .inl (cI, 1024, .inl v2_9)), (a4 0, .inr (8, [.ref (a4 1), .ref (a4 2), .ref (a4 3), .ref (a4 4), .ref (a4 5), .ref (a4 6), .ref (a4 7), .ref (a4 8), .ref (a4 9), .ref (a4 10), .int v4_10])), (a4 2, .inl (cI, 32, .inl v4_1)), (a4 3, .inl (cI, 32, .inl v4_2)), (a4 4, .inl (cI, 32, .inl v4_3)), (a4 5, .inl (cI, 32, .inl v4_4)), (a4 6, .inl (cI, 32, .inl v4_5)), (a4 7, .inl (cI, 32, .inl v4_6)), (a4 8, .inl (cI, 32, .inl v4_7))]
abbrev wz_X10_addStrip : List Cond := .code yX10_addStrip cX10_addStrip 9 none :: wALL
abbrev rm_X10_addStrip : Room := { frames := 2, cells := 0, slots := 0, locals := 53 }
abbrev Q_X10_addStrip (dC : Nat → ClassId) (dI : Nat → Nat → Nat) (cI : ClassId) (a0 : Nat → Nat) (a1 : Nat → Nat) (a2 : Nat → Nat) (a3 : Nat → Nat) (a4 : Nat → Nat) (v0_3 : Int32) (v0_4 : Int32) (v0_5 : Int32) (v0_6 : Int32) (v0_7 : Int32) (v1_5 : Int32) (v2_10 : Int32) (v2_11 : Int32) (v2_7 : Nat → Int32) (v2_8 : Nat → Int32) (v2_9 : Nat → Int32) (v4_10 : Int32) (v4_1 : Nat → Int32) (v4_2 : Nat → Int32) (v4_3 : Nat → Int32) (v4_4 : Nat → Int32) (v4_5 : Nat → Int32) (v4_6 : Nat → Int32) (v4_7 : Nat → Int32) (u : (Int32 × Int32 × (Nat → Int32) × (Nat → Int32) × (Nat → Int32))) (A : Nat → Prop) : Array Value → State → Outcome → State → Prop := va_Qv (fun (_ : Unit) => True) (fun _ => q_at dC dI cI A (wd_X10_addStrip cI a0 a1 a2 a3 a4 v0_3 v0_4 v0_5 v0_6 v0_7 u.1 u.2.1 v1_5 u.2.2.1 u.2.2.2.1 u.2.2.2.2 v2_10 v2_11 v2_7 v2_8 v2_9 v4_10 v4_1 v4_2 v4_3 v4_4 v4_5 v4_6 v4_7)) A
set_option maxHeartbeats 4000000 in
set_option maxRecDepth 100000 in
theorem c_X10_addStrip (l : Launch) (dC : Nat → ClassId) (dI : Nat → Nat → Nat) (cI : ClassId) (sz : Nat) (a0 : Nat → Nat) (a1 : Nat → Nat) (a2 : Nat → Nat) (a3 : Nat → Nat) (a4 : Nat → Nat) (v0_3 : Int32) (v0_4 : Int32) (v0_5 : Int32) (v0_6 : Int32) (v0_7 : Int32) (v1_3 : Int32) (v1_4 : Int32) (v1_5 : Int32) (v1_0 : Nat → Int32) (v1_1 : Nat → Int32) (v1_2 : Nat → Int32) (v2_10 : Int32) (v2_11 : Int32) (v2_7 : Nat → Int32) (v2_8 : Nat → Int32) (v2_9 : Nat → Int32) (v4_10 : Int32) (v4_1 : Nat → Int32) (v4_2 : Nat → Int32) (v4_3 : Nat → Int32) (v4_4 : Nat → Int32) (v4_5 : Nat → Int32) (v4_6 : Nat → Int32) (v4_7 : Nat → Int32) (p1 : Int32) (u : (Int32 × Int32 × (Nat → Int32) × (Nat → Int32) × (Nat → Int32))) (hF : F_X10_addStrip v1_3 v1_4 v1_0 v1_1 v1_2 v2_7 v2_8 v2_9 v4_1 v4_2 v4_3 v4_4 v4_5 v4_6 v4_7 p1 = some u) : Met l yX10_addStrip wz_X10_addStrip rm_X10_addStrip (va_Pc [.ref (a0 0), .int p1] (q_pre dC dI cI (wd_X10_addStrip cI a0 a1 a2 a3 a4 v0_3 v0_4 v0_5 v0_6 v0_7 v1_3 v1_4 v1_5 v1_0 v1_1 v1_2 v2_10 v2_11 v2_7 v2_8 v2_9 v4_10 v4_1 v4_2 v4_3 v4_4 v4_5 v4_6 v4_7) sz)) (Q_X10_addStrip dC dI cI a0 a1 a2 a3 a4 v0_3 v0_4 v0_5 v0_6 v0_7 v1_5 v2_10 v2_11 v2_7 v2_8 v2_9 v4_10 v4_1 v4_2 v4_3 v4_4 v4_5 v4_6 v4_7 u (va_A (wd_X10_addStrip cI a0 a1 a2 a3 a4 v0_3 v0_4 v0_5 v0_6 v0_7 v1_3 v1_4 v1_5 v1_0 v1_1 v1_2 v2_10 v2_11 v2_7 v2_8 v2_9 v4_10 v4_1 v4_2 v4_3 v4_4 v4_5 v4_6 v4_7) sz)) 0 0 (va_A (wd_X10_addStrip cI a0 a1 a2 a3 a4 v0_3 v0_4 v0_5 v0_6 v0_7 v1_3 v1_4 v1_5 v1_0 v1_1 v1_2 v2_10 v2_11 v2_7 v2_8 v2_9 v4_10 v4_1 v4_2 v4_3 v4_4 v4_5 v4_6 v4_7) sz) := by
  refine Met.ofW (cc := cX10_addStrip) (maxL := 9) (ret := none) (by decide) rfl ?_
  intro p e s m args below meth c s₁ B hml hv
  obtain ⟨rfl, hsz, hP, hK, hD0⟩ := hv
  have hx := B.exec
  have hb := B.bytes
  have hr := B.returns
  have hts := atoms_spec (ws := wz_X10_addStrip) B.pre
  have hta := wz_tl hts
  have hown : s.vm.findClass RX10 = some m.cls := findClass_of_methodNamed B.named
  have hlocks := B.notSynchronized
  subst hsz
  have hD := hD0.self (sz := s.heap.size)
  generalize hAe : va_A (wd_X10_addStrip cI a0 a1 a2 a3 a4 v0_3 v0_4 v0_5 v0_6 v0_7 v1_3 v1_4 v1_5 v1_0 v1_1 v1_2 v2_10 v2_11 v2_7 v2_8 v2_9 v4_10 v4_1 v4_2 v4_3 v4_4 v4_5 v4_6 v4_7) s.heap.size = A at hD ⊢
  have hA : ∀ q : Nat, s.heap.size ≤ q → A q := fun q h => by rw [← hAe]; exact Or.inr h
  have hS : va_S A s.heap s.heap [] := va_S.rf
  have hP : va_P (dC, dI) vwCl (wd_X10_addStrip cI a0 a1 a2 a3 a4 v0_3 v0_4 v0_5 v0_6 v0_7 v1_3 v1_4 v1_5 v1_0 v1_1 v1_2 v2_10 v2_11 v2_7 v2_8 v2_9 v4_10 v4_1 v4_2 v4_3 v4_4 v4_5 v4_6 v4_7) s.heap := hP
  have hl := lv_entry ([.ref (a0 0), .int p1]) (n := 9) (Nat.le_of_ble_eq_true rfl)
  rw [lg_entry_eq]
  generalize (lg_sl ([.ref (a0 0), .int p1]) ++ List.replicate (9 - (lg_sl ([.ref (a0 0), .int p1])).length) Slot.unset).toArray = ls at hl ⊢
  have hl : lv_has ls 9 [(0, .ref (a0 0)), (1, .int p1)] := hl
  obtain ⟨H, hHe⟩ : ∃ H, H = s.heap := ⟨_, rfl⟩
  have hS : va_S A s.heap H [] := by rw [hHe]; exact hS
  have hP : va_P (dC, dI) vwCl (wd_X10_addStrip cI a0 a1 a2 a3 a4 v0_3 v0_4 v0_5 v0_6 v0_7 v1_3 v1_4 v1_5 v1_0 v1_1 v1_2 v2_10 v2_11 v2_7 v2_8 v2_9 v4_10 v4_1 v4_2 v4_3 v4_4 v4_5 v4_6 v4_7) H := by rw [hHe]; exact hP
  rw [← hHe]
  unfold F_X10_addStrip at hF
  refine lv_aload_n hx hb dX10_addStrip_0 rfl (lv_at hl 0 rfl) ?_
  refine va_get (D := (dC, dI)) (ci := 9) (v := .ref (a2 0)) (C := RX10) (T := TX10) (N := 8) hx hb hta uw_X10 hown hK hP 0 rfl rfl 1 (by decide) (hta _ mA57) (fun _ h9 => h9) rfl dX10_addStrip_1 ?_
  refine lv_iload_n hx hb dX10_addStrip_4 rfl (lv_at hl 1 rfl) ?_
  obtain ⟨u_1, hu_1, hF⟩ := obd_some hF
  have hPc := hP.sub (ws' := (wd_X8_segmentOf cI a2 a3 v2_10 v2_11 v2_7)) [5, 6] rfl
  have hDc := hD.sub (ws' := (wd_X8_segmentOf cI a2 a3 v2_10 v2_11 v2_7)) [5, 6] rfl rfl
  refine q_calli (wc := (wd_X8_segmentOf cI a2 a3 v2_10 v2_11 v2_7)) (w1 := (wd_X8_segmentOf cI a2 a3 v2_10 v2_11 v2_7)) (ws' := (wd_X10_addStrip cI a0 a1 a2 a3 a4 v0_3 v0_4 v0_5 v0_6 v0_7 v1_3 v1_4 v1_5 v1_0 v1_1 v1_2 v2_10 v2_11 v2_7 v2_8 v2_9 v4_10 v4_1 v4_2 v4_3 v4_4 v4_5 v4_6 v4_7)) hP hD hS hA [5, 6] [0, 1, 2, 3, 4, 7, 8, 9, 10, 11, 12, 13, 14, 15, 16] [0, 1, 2, 3, 4, 15, 16, 5, 6, 7, 8, 9, 10, 11, 12, 13, 14] rfl rfl rfl (by decide) rfl rfl (va_runV (As := [.int p1]) (rest := []) ⟨hx, hb, hml, hown, hta⟩ (c_X8_segmentOf l dC dI cI H.size a2 a3 v2_10 v2_11 v2_7 p1 u_1 hu_1) (cwV 1 hta (ga_V mA517 mA421 mA422 mA56 mA423) rfl rfl rfl (by decide +kernel) ⟨Nat.le_of_ble_eq_true rfl, Nat.le_of_ble_eq_true rfl⟩) ⟨q_fb, va_recv hK hP (ci := 7) (q0 := 5) rfl rfl, q_ps hPc hK hDc⟩ rfl rfl hl.1 rfl (lv_room (Nat.le_of_ble_eq_true rfl)) dX10_addStrip_5 ⟨Nat.zero_le _, Nat.zero_le _⟩) (fun H locs hP hD hS => ?_)
  refine lv_istore_n (lv' := [(2, .int u_1), (0, .ref (a0 0)), (1, .int p1)]) hx hb dX10_addStrip_8 rfl hl (by decide) rfl (fun ls hl => ?_)
  refine lv_aload_n hx hb dX10_addStrip_9 rfl (lv_at hl 1 rfl) ?_
  refine va_get (D := (dC, dI)) (ci := 9) (v := .ref (a4 0)) (C := RX10) (T := TX10) (N := 8) hx hb hta uw_X10 hown hK hP 0 rfl rfl 0 (by decide) (hta _ mA53) (fun _ h9 => h9) rfl dX10_addStrip_10 ?_
  refine lv_iload_n hx hb dX10_addStrip_13 rfl (lv_at hl 0 rfl) ?_
  refine lv_aload_n hx hb dX10_addStrip_14 rfl (lv_at hl 1 rfl) ?_
  refine va_get (D := (dC, dI)) (ci := 9) (v := .ref (a2 0)) (C := RX10) (T := TX10) (N := 8) hx hb hta uw_X10 hown hK hP 0 rfl rfl 1 (by decide) (hta _ mA57) (fun _ h9 => h9) rfl dX10_addStrip_15 ?_
  refine lv_iload_n hx hb dX10_addStrip_18 rfl (lv_at hl 2 rfl) ?_
  obtain ⟨u_2, hu_2, hF⟩ := obd_some hF
  have hPc := hP.sub (ws' := (wd_X8_fromOf cI a2 a3 v2_10 v2_11 v2_8)) [5, 7] rfl
  have hDc := hD.sub (ws' := (wd_X8_fromOf cI a2 a3 v2_10 v2_11 v2_8)) [5, 7] rfl rfl
  refine q_calli (wc := (wd_X8_fromOf cI a2 a3 v2_10 v2_11 v2_8)) (w1 := (wd_X8_fromOf cI a2 a3 v2_10 v2_11 v2_8)) (ws' := (wd_X10_addStrip cI a0 a1 a2 a3 a4 v0_3 v0_4 v0_5 v0_6 v0_7 v1_3 v1_4 v1_5 v1_0 v1_1 v1_2 v2_10 v2_11 v2_7 v2_8 v2_9 v4_10 v4_1 v4_2 v4_3 v4_4 v4_5 v4_6 v4_7)) hP hD hS hA [5, 7] [0, 1, 2, 3, 4, 6, 8, 9, 10, 11, 12, 13, 14, 15, 16] [0, 1, 2, 3, 4, 15, 5, 16, 6, 7, 8, 9, 10, 11, 12, 13, 14] rfl rfl rfl (by decide) rfl rfl (va_runV (As := [.int p1]) (rest := [.int u_1, .ref (a4 0)]) ⟨hx, hb, hml, hown, hta⟩ (c_X8_fromOf l dC dI cI H.size a2 a3 v2_10 v2_11 v2_8 p1 u_2 hu_2) (cwV 1 hta (ga_V mA518 mA425 mA426 mA56 mA427) rfl rfl rfl (by decide +kernel) ⟨Nat.le_of_ble_eq_true rfl, Nat.le_of_ble_eq_true rfl⟩) ⟨q_fb, va_recv hK hP (ci := 7) (q0 := 5) rfl rfl, q_ps hPc hK hDc⟩ rfl rfl hl.1 rfl (lv_room (Nat.le_of_ble_eq_true rfl)) dX10_addStrip_19 ⟨Nat.zero_le _, Nat.zero_le _⟩) (fun H locs hP hD hS => ?_)
  obtain ⟨u_3, hu_3, hF⟩ := obd_some hF
  have hPc := hP.sub (ws' := (wd_X9_xAt cI a4 v4_10 v4_1 v4_3 v4_5)) [9, 10, 12, 14] rfl
  have hDc := hD.sub (ws' := (wd_X9_xAt cI a4 v4_10 v4_1 v4_3 v4_5)) [9, 10, 12, 14] rfl rfl
  refine q_calli (wc := (wd_X9_xAt cI a4 v4_10 v4_1 v4_3 v4_5)) (w1 := (wd_X9_xAt cI a4 v4_10 v4_1 v4_3 v4_5)) (ws' := (wd_X10_addStrip cI a0 a1 a2 a3 a4 v0_3 v0_4 v0_5 v0_6 v0_7 v1_3 v1_4 v1_5 v1_0 v1_1 v1_2 v2_10 v2_11 v2_7 v2_8 v2_9 v4_10 v4_1 v4_2 v4_3 v4_4 v4_5 v4_6 v4_7)) hP hD hS hA [9, 10, 12, 14] [0, 1, 2, 3, 4, 5, 6, 7, 8, 11, 13, 15, 16] [0, 1, 2, 3, 4, 5, 6, 7, 8, 13, 14, 9, 15, 10, 16, 11, 12] rfl rfl rfl (by decide) rfl rfl (va_runV (As := [.int u_1, .int u_2]) (rest := []) ⟨hx, hb, hml, hown, hta⟩ (c_X9_xAt l dC dI cI H.size a4 v4_10 v4_1 v4_3 v4_5 u_1 u_2 u_3 hu_3) (cwV 2 hta (ga_V mA519 mA340 mA341 mA52 mA342) rfl rfl rfl (by decide +kernel) ⟨Nat.le_of_ble_eq_true rfl, Nat.le_of_ble_eq_true rfl⟩) ⟨q_fb, va_recv hK hP (ci := 8) (q0 := 9) rfl rfl, q_ps hPc hK hDc⟩ rfl rfl hl.1 rfl (lv_room (Nat.le_of_ble_eq_true rfl)) dX10_addStrip_22 ⟨Nat.zero_le _, Nat.zero_le _⟩) (fun H locs hP hD hS => ?_)
  refine lv_istore_n (lv' := [(3, .int u_3), (2, .int u_1), (0, .ref (a0 0)), (1, .int p1)]) hx hb dX10_addStrip_25 rfl hl (by decide) rfl (fun ls hl => ?_)
  refine lv_aload_n hx hb dX10_addStrip_26 rfl (lv_at hl 2 rfl) ?_
  refine va_get (D := (dC, dI)) (ci := 9) (v := .ref (a4 0)) (C := RX10) (T := TX10) (N := 8) hx hb hta uw_X10 hown hK hP 0 rfl rfl 0 (by decide) (hta _ mA53) (fun _ h9 => h9) rfl dX10_addStrip_27 ?_
  refine lv_iload_n hx hb dX10_addStrip_30 rfl (lv_at hl 1 rfl) ?_
  refine lv_aload_n hx hb dX10_addStrip_31 rfl (lv_at hl 2 rfl) ?_
  refine va_get (D := (dC, dI)) (ci := 9) (v := .ref (a2 0)) (C := RX10) (T := TX10) (N := 8) hx hb hta uw_X10 hown hK hP 0 rfl rfl 1 (by decide) (hta _ mA57) (fun _ h9 => h9) rfl dX10_addStrip_32 ?_
  refine lv_iload_n hx hb dX10_addStrip_35 rfl (lv_at hl 3 rfl) ?_
  obtain ⟨u_4, hu_4, hF⟩ := obd_some hF
  have hPc := hP.sub (ws' := (wd_X8_fromOf cI a2 a3 v2_10 v2_11 v2_8)) [5, 7] rfl
  have hDc := hD.sub (ws' := (wd_X8_fromOf cI a2 a3 v2_10 v2_11 v2_8)) [5, 7] rfl rfl
  refine q_calli (wc := (wd_X8_fromOf cI a2 a3 v2_10 v2_11 v2_8)) (w1 := (wd_X8_fromOf cI a2 a3 v2_10 v2_11 v2_8)) (ws' := (wd_X10_addStrip cI a0 a1 a2 a3 a4 v0_3 v0_4 v0_5 v0_6 v0_7 v1_3 v1_4 v1_5 v1_0 v1_1 v1_2 v2_10 v2_11 v2_7 v2_8 v2_9 v4_10 v4_1 v4_2 v4_3 v4_4 v4_5 v4_6 v4_7)) hP hD hS hA [5, 7] [0, 1, 2, 3, 4, 6, 8, 9, 10, 11, 12, 13, 14, 15, 16] [0, 1, 2, 3, 4, 15, 5, 16, 6, 7, 8, 9, 10, 11, 12, 13, 14] rfl rfl rfl (by decide) rfl rfl (va_runV (As := [.int p1]) (rest := [.int u_1, .ref (a4 0)]) ⟨hx, hb, hml, hown, hta⟩ (c_X8_fromOf l dC dI cI H.size a2 a3 v2_10 v2_11 v2_8 p1 u_4 hu_4) (cwV 1 hta (ga_V mA518 mA425 mA426 mA56 mA427) rfl rfl rfl (by decide +kernel) ⟨Nat.le_of_ble_eq_true rfl, Nat.le_of_ble_eq_true rfl⟩) ⟨q_fb, va_recv hK hP (ci := 7) (q0 := 5) rfl rfl, q_ps hPc hK hDc⟩ rfl rfl hl.1 rfl (lv_room (Nat.le_of_ble_eq_true rfl)) dX10_addStrip_36 ⟨Nat.zero_le _, Nat.zero_le _⟩) (fun H locs hP hD hS => ?_)
  obtain ⟨u_5, hu_5, hF⟩ := obd_some hF
  have hPc := hP.sub (ws' := (wd_X9_yAt cI a4 v4_10 v4_2 v4_4 v4_5)) [9, 11, 13, 14] rfl
  have hDc := hD.sub (ws' := (wd_X9_yAt cI a4 v4_10 v4_2 v4_4 v4_5)) [9, 11, 13, 14] rfl rfl
  refine q_calli (wc := (wd_X9_yAt cI a4 v4_10 v4_2 v4_4 v4_5)) (w1 := (wd_X9_yAt cI a4 v4_10 v4_2 v4_4 v4_5)) (ws' := (wd_X10_addStrip cI a0 a1 a2 a3 a4 v0_3 v0_4 v0_5 v0_6 v0_7 v1_3 v1_4 v1_5 v1_0 v1_1 v1_2 v2_10 v2_11 v2_7 v2_8 v2_9 v4_10 v4_1 v4_2 v4_3 v4_4 v4_5 v4_6 v4_7)) hP hD hS hA [9, 11, 13, 14] [0, 1, 2, 3, 4, 5, 6, 7, 8, 10, 12, 15, 16] [0, 1, 2, 3, 4, 5, 6, 7, 8, 13, 9, 14, 10, 15, 16, 11, 12] rfl rfl rfl (by decide) rfl rfl (va_runV (As := [.int u_1, .int u_4]) (rest := []) ⟨hx, hb, hml, hown, hta⟩ (c_X9_yAt l dC dI cI H.size a4 v4_10 v4_2 v4_4 v4_5 u_1 u_4 u_5 hu_5) (cwV 2 hta (ga_V mA520 mA335 mA336 mA52 mA337) rfl rfl rfl (by decide +kernel) ⟨Nat.le_of_ble_eq_true rfl, Nat.le_of_ble_eq_true rfl⟩) ⟨q_fb, va_recv hK hP (ci := 8) (q0 := 9) rfl rfl, q_ps hPc hK hDc⟩ rfl rfl hl.1 rfl (lv_room (Nat.le_of_ble_eq_true rfl)) dX10_addStrip_39 ⟨Nat.zero_le _, Nat.zero_le _⟩) (fun H locs hP hD hS => ?_)
  refine lv_istore (lv' := [(4, .int u_5), (3, .int u_3), (2, .int u_1), (0, .ref (a0 0)), (1, .int p1)]) hx hb dX10_addStrip_42 hl (by decide) rfl (fun ls hl => ?_)
  refine lv_aload_n hx hb dX10_addStrip_44 rfl (lv_at hl 3 rfl) ?_
  refine va_get (D := (dC, dI)) (ci := 9) (v := .ref (a4 0)) (C := RX10) (T := TX10) (N := 8) hx hb hta uw_X10 hown hK hP 0 rfl rfl 0 (by decide) (hta _ mA53) (fun _ h9 => h9) rfl dX10_addStrip_45 ?_
  refine lv_iload_n hx hb dX10_addStrip_48 rfl (lv_at hl 2 rfl) ?_
  refine lv_aload_n hx hb dX10_addStrip_49 rfl (lv_at hl 3 rfl) ?_
  refine va_get (D := (dC, dI)) (ci := 9) (v := .ref (a2 0)) (C := RX10) (T := TX10) (N := 8) hx hb hta uw_X10 hown hK hP 0 rfl rfl 1 (by decide) (hta _ mA57) (fun _ h9 => h9) rfl dX10_addStrip_50 ?_
  refine lv_iload_n hx hb dX10_addStrip_53 rfl (lv_at hl 4 rfl) ?_
  obtain ⟨u_6, hu_6, hF⟩ := obd_some hF
  have hPc := hP.sub (ws' := (wd_X8_toOf cI a2 a3 v2_10 v2_11 v2_9)) [5, 8] rfl
  have hDc := hD.sub (ws' := (wd_X8_toOf cI a2 a3 v2_10 v2_11 v2_9)) [5, 8] rfl rfl
  refine q_calli (wc := (wd_X8_toOf cI a2 a3 v2_10 v2_11 v2_9)) (w1 := (wd_X8_toOf cI a2 a3 v2_10 v2_11 v2_9)) (ws' := (wd_X10_addStrip cI a0 a1 a2 a3 a4 v0_3 v0_4 v0_5 v0_6 v0_7 v1_3 v1_4 v1_5 v1_0 v1_1 v1_2 v2_10 v2_11 v2_7 v2_8 v2_9 v4_10 v4_1 v4_2 v4_3 v4_4 v4_5 v4_6 v4_7)) hP hD hS hA [5, 8] [0, 1, 2, 3, 4, 6, 7, 9, 10, 11, 12, 13, 14, 15, 16] [0, 1, 2, 3, 4, 15, 5, 6, 16, 7, 8, 9, 10, 11, 12, 13, 14] rfl rfl rfl (by decide) rfl rfl (va_runV (As := [.int p1]) (rest := [.int u_1, .ref (a4 0)]) ⟨hx, hb, hml, hown, hta⟩ (c_X8_toOf l dC dI cI H.size a2 a3 v2_10 v2_11 v2_9 p1 u_6 hu_6) (cwV 1 hta (ga_V mA521 mA429 mA430 mA56 mA431) rfl rfl rfl (by decide +kernel) ⟨Nat.le_of_ble_eq_true rfl, Nat.le_of_ble_eq_true rfl⟩) ⟨q_fb, va_recv hK hP (ci := 7) (q0 := 5) rfl rfl, q_ps hPc hK hDc⟩ rfl rfl hl.1 rfl (lv_room (Nat.le_of_ble_eq_true rfl)) dX10_addStrip_54 ⟨Nat.zero_le _, Nat.zero_le _⟩) (fun H locs hP hD hS => ?_)
  obtain ⟨u_7, hu_7, hF⟩ := obd_some hF
  have hPc := hP.sub (ws' := (wd_X9_xAt cI a4 v4_10 v4_1 v4_3 v4_5)) [9, 10, 12, 14] rfl
  have hDc := hD.sub (ws' := (wd_X9_xAt cI a4 v4_10 v4_1 v4_3 v4_5)) [9, 10, 12, 14] rfl rfl
  refine q_calli (wc := (wd_X9_xAt cI a4 v4_10 v4_1 v4_3 v4_5)) (w1 := (wd_X9_xAt cI a4 v4_10 v4_1 v4_3 v4_5)) (ws' := (wd_X10_addStrip cI a0 a1 a2 a3 a4 v0_3 v0_4 v0_5 v0_6 v0_7 v1_3 v1_4 v1_5 v1_0 v1_1 v1_2 v2_10 v2_11 v2_7 v2_8 v2_9 v4_10 v4_1 v4_2 v4_3 v4_4 v4_5 v4_6 v4_7)) hP hD hS hA [9, 10, 12, 14] [0, 1, 2, 3, 4, 5, 6, 7, 8, 11, 13, 15, 16] [0, 1, 2, 3, 4, 5, 6, 7, 8, 13, 14, 9, 15, 10, 16, 11, 12] rfl rfl rfl (by decide) rfl rfl (va_runV (As := [.int u_1, .int u_6]) (rest := []) ⟨hx, hb, hml, hown, hta⟩ (c_X9_xAt l dC dI cI H.size a4 v4_10 v4_1 v4_3 v4_5 u_1 u_6 u_7 hu_7) (cwV 2 hta (ga_V mA519 mA340 mA341 mA52 mA342) rfl rfl rfl (by decide +kernel) ⟨Nat.le_of_ble_eq_true rfl, Nat.le_of_ble_eq_true rfl⟩) ⟨q_fb, va_recv hK hP (ci := 8) (q0 := 9) rfl rfl, q_ps hPc hK hDc⟩ rfl rfl hl.1 rfl (lv_room (Nat.le_of_ble_eq_true rfl)) dX10_addStrip_57 ⟨Nat.zero_le _, Nat.zero_le _⟩) (fun H locs hP hD hS => ?_)
  refine lv_istore (lv' := [(5, .int u_7), (4, .int u_5), (3, .int u_3), (2, .int u_1), (0, .ref (a0 0)), (1, .int p1)]) hx hb dX10_addStrip_60 hl (by decide) rfl (fun ls hl => ?_)
  refine lv_aload_n hx hb dX10_addStrip_62 rfl (lv_at hl 4 rfl) ?_
  refine va_get (D := (dC, dI)) (ci := 9) (v := .ref (a4 0)) (C := RX10) (T := TX10) (N := 8) hx hb hta uw_X10 hown hK hP 0 rfl rfl 0 (by decide) (hta _ mA53) (fun _ h9 => h9) rfl dX10_addStrip_63 ?_
  refine lv_iload_n hx hb dX10_addStrip_66 rfl (lv_at hl 3 rfl) ?_
  refine lv_aload_n hx hb dX10_addStrip_67 rfl (lv_at hl 4 rfl) ?_
  refine va_get (D := (dC, dI)) (ci := 9) (v := .ref (a2 0)) (C := RX10) (T := TX10) (N := 8) hx hb hta uw_X10 hown hK hP 0 rfl rfl 1 (by decide) (hta _ mA57) (fun _ h9 => h9) rfl dX10_addStrip_68 ?_
  refine lv_iload_n hx hb dX10_addStrip_71 rfl (lv_at hl 5 rfl) ?_
  obtain ⟨u_8, hu_8, hF⟩ := obd_some hF
  have hPc := hP.sub (ws' := (wd_X8_toOf cI a2 a3 v2_10 v2_11 v2_9)) [5, 8] rfl
  have hDc := hD.sub (ws' := (wd_X8_toOf cI a2 a3 v2_10 v2_11 v2_9)) [5, 8] rfl rfl
  refine q_calli (wc := (wd_X8_toOf cI a2 a3 v2_10 v2_11 v2_9)) (w1 := (wd_X8_toOf cI a2 a3 v2_10 v2_11 v2_9)) (ws' := (wd_X10_addStrip cI a0 a1 a2 a3 a4 v0_3 v0_4 v0_5 v0_6 v0_7 v1_3 v1_4 v1_5 v1_0 v1_1 v1_2 v2_10 v2_11 v2_7 v2_8 v2_9 v4_10 v4_1 v4_2 v4_3 v4_4 v4_5 v4_6 v4_7)) hP hD hS hA [5, 8] [0, 1, 2, 3, 4, 6, 7, 9, 10, 11, 12, 13, 14, 15, 16] [0, 1, 2, 3, 4, 15, 5, 6, 16, 7, 8, 9, 10, 11, 12, 13, 14] rfl rfl rfl (by decide) rfl rfl (va_runV (As := [.int p1]) (rest := [.int u_1, .ref (a4 0)]) ⟨hx, hb, hml, hown, hta⟩ (c_X8_toOf l dC dI cI H.size a2 a3 v2_10 v2_11 v2_9 p1 u_8 hu_8) (cwV 1 hta (ga_V mA521 mA429 mA430 mA56 mA431) rfl rfl rfl (by decide +kernel) ⟨Nat.le_of_ble_eq_true rfl, Nat.le_of_ble_eq_true rfl⟩) ⟨q_fb, va_recv hK hP (ci := 7) (q0 := 5) rfl rfl, q_ps hPc hK hDc⟩ rfl rfl hl.1 rfl (lv_room (Nat.le_of_ble_eq_true rfl)) dX10_addStrip_72 ⟨Nat.zero_le _, Nat.zero_le _⟩) (fun H locs hP hD hS => ?_)
  obtain ⟨u_9, hu_9, hF⟩ := obd_some hF
  have hPc := hP.sub (ws' := (wd_X9_yAt cI a4 v4_10 v4_2 v4_4 v4_5)) [9, 11, 13, 14] rfl
  have hDc := hD.sub (ws' := (wd_X9_yAt cI a4 v4_10 v4_2 v4_4 v4_5)) [9, 11, 13, 14] rfl rfl
  refine q_calli (wc := (wd_X9_yAt cI a4 v4_10 v4_2 v4_4 v4_5)) (w1 := (wd_X9_yAt cI a4 v4_10 v4_2 v4_4 v4_5)) (ws' := (wd_X10_addStrip cI a0 a1 a2 a3 a4 v0_3 v0_4 v0_5 v0_6 v0_7 v1_3 v1_4 v1_5 v1_0 v1_1 v1_2 v2_10 v2_11 v2_7 v2_8 v2_9 v4_10 v4_1 v4_2 v4_3 v4_4 v4_5 v4_6 v4_7)) hP hD hS hA [9, 11, 13, 14] [0, 1, 2, 3, 4, 5, 6, 7, 8, 10, 12, 15, 16] [0, 1, 2, 3, 4, 5, 6, 7, 8, 13, 9, 14, 10, 15, 16, 11, 12] rfl rfl rfl (by decide) rfl rfl (va_runV (As := [.int u_1, .int u_8]) (rest := []) ⟨hx, hb, hml, hown, hta⟩ (c_X9_yAt l dC dI cI H.size a4 v4_10 v4_2 v4_4 v4_5 u_1 u_8 u_9 hu_9) (cwV 2 hta (ga_V mA520 mA335 mA336 mA52 mA337) rfl rfl rfl (by decide +kernel) ⟨Nat.le_of_ble_eq_true rfl, Nat.le_of_ble_eq_true rfl⟩) ⟨q_fb, va_recv hK hP (ci := 8) (q0 := 9) rfl rfl, q_ps hPc hK hDc⟩ rfl rfl hl.1 rfl (lv_room (Nat.le_of_ble_eq_true rfl)) dX10_addStrip_75 ⟨Nat.zero_le _, Nat.zero_le _⟩) (fun H locs hP hD hS => ?_)
  refine lv_istore (lv' := [(6, .int u_9), (5, .int u_7), (4, .int u_5), (3, .int u_3), (2, .int u_1), (0, .ref (a0 0)), (1, .int p1)]) hx hb dX10_addStrip_78 hl (by decide) rfl (fun ls hl => ?_)
  refine lv_aload_n hx hb dX10_addStrip_80 rfl (lv_at hl 5 rfl) ?_
  refine va_get (D := (dC, dI)) (ci := 9) (v := .ref (a4 0)) (C := RX10) (T := TX10) (N := 8) hx hb hta uw_X10 hown hK hP 0 rfl rfl 0 (by decide) (hta _ mA53) (fun _ h9 => h9) rfl dX10_addStrip_81 ?_
  refine lv_iload_n hx hb dX10_addStrip_84 rfl (lv_at hl 4 rfl) ?_
  obtain ⟨u_10, hu_10, hF⟩ := obd_some hF
  have hPc := hP.sub (ws' := (wd_X9_normalX cI a4 v4_10 v4_6)) [9, 15] rfl
  have hDc := hD.sub (ws' := (wd_X9_normalX cI a4 v4_10 v4_6)) [9, 15] rfl rfl
  refine q_calli (wc := (wd_X9_normalX cI a4 v4_10 v4_6)) (w1 := (wd_X9_normalX cI a4 v4_10 v4_6)) (ws' := (wd_X10_addStrip cI a0 a1 a2 a3 a4 v0_3 v0_4 v0_5 v0_6 v0_7 v1_3 v1_4 v1_5 v1_0 v1_1 v1_2 v2_10 v2_11 v2_7 v2_8 v2_9 v4_10 v4_1 v4_2 v4_3 v4_4 v4_5 v4_6 v4_7)) hP hD hS hA [9, 15] [0, 1, 2, 3, 4, 5, 6, 7, 8, 10, 11, 12, 13, 14, 16] [0, 1, 2, 3, 4, 5, 6, 7, 8, 15, 9, 10, 11, 12, 13, 16, 14] rfl rfl rfl (by decide) rfl rfl (va_runV (As := [.int u_1]) (rest := []) ⟨hx, hb, hml, hown, hta⟩ (c_X9_normalX l dC dI cI H.size a4 v4_10 v4_6 u_1 u_10 hu_10) (cwV 1 hta (ga_V mA522 mA523 mA524 mA52 mA525) rfl rfl rfl (by decide +kernel) ⟨Nat.le_of_ble_eq_true rfl, Nat.le_of_ble_eq_true rfl⟩) ⟨q_fb, va_recv hK hP (ci := 8) (q0 := 9) rfl rfl, q_ps hPc hK hDc⟩ rfl rfl hl.1 rfl (lv_room (Nat.le_of_ble_eq_true rfl)) dX10_addStrip_85 ⟨Nat.zero_le _, Nat.zero_le _⟩) (fun H locs hP hD hS => ?_)
  refine lv_istore (lv' := [(7, .int u_10), (6, .int u_9), (5, .int u_7), (4, .int u_5), (3, .int u_3), (2, .int u_1), (0, .ref (a0 0)), (1, .int p1)]) hx hb dX10_addStrip_88 hl (by decide) rfl (fun ls hl => ?_)
  refine lv_aload_n hx hb dX10_addStrip_90 rfl (lv_at hl 6 rfl) ?_
  refine va_get (D := (dC, dI)) (ci := 9) (v := .ref (a4 0)) (C := RX10) (T := TX10) (N := 8) hx hb hta uw_X10 hown hK hP 0 rfl rfl 0 (by decide) (hta _ mA53) (fun _ h9 => h9) rfl dX10_addStrip_91 ?_
  refine lv_iload_n hx hb dX10_addStrip_94 rfl (lv_at hl 5 rfl) ?_
  obtain ⟨u_11, hu_11, hF⟩ := obd_some hF
  have hPc := hP.sub (ws' := (wd_X9_normalY cI a4 v4_10 v4_7)) [9, 16] rfl
  have hDc := hD.sub (ws' := (wd_X9_normalY cI a4 v4_10 v4_7)) [9, 16] rfl rfl
  refine q_calli (wc := (wd_X9_normalY cI a4 v4_10 v4_7)) (w1 := (wd_X9_normalY cI a4 v4_10 v4_7)) (ws' := (wd_X10_addStrip cI a0 a1 a2 a3 a4 v0_3 v0_4 v0_5 v0_6 v0_7 v1_3 v1_4 v1_5 v1_0 v1_1 v1_2 v2_10 v2_11 v2_7 v2_8 v2_9 v4_10 v4_1 v4_2 v4_3 v4_4 v4_5 v4_6 v4_7)) hP hD hS hA [9, 16] [0, 1, 2, 3, 4, 5, 6, 7, 8, 10, 11, 12, 13, 14, 15] [0, 1, 2, 3, 4, 5, 6, 7, 8, 15, 9, 10, 11, 12, 13, 14, 16] rfl rfl rfl (by decide) rfl rfl (va_runV (As := [.int u_1]) (rest := []) ⟨hx, hb, hml, hown, hta⟩ (c_X9_normalY l dC dI cI H.size a4 v4_10 v4_7 u_1 u_11 hu_11) (cwV 1 hta (ga_V mA526 mA527 mA528 mA52 mA529) rfl rfl rfl (by decide +kernel) ⟨Nat.le_of_ble_eq_true rfl, Nat.le_of_ble_eq_true rfl⟩) ⟨q_fb, va_recv hK hP (ci := 8) (q0 := 9) rfl rfl, q_ps hPc hK hDc⟩ rfl rfl hl.1 rfl (lv_room (Nat.le_of_ble_eq_true rfl)) dX10_addStrip_95 ⟨Nat.zero_le _, Nat.zero_le _⟩) (fun H locs hP hD hS => ?_)
  refine lv_istore (lv' := [(8, .int u_11), (7, .int u_10), (6, .int u_9), (5, .int u_7), (4, .int u_5), (3, .int u_3), (2, .int u_1), (0, .ref (a0 0)), (1, .int p1)]) hx hb dX10_addStrip_98 hl (by decide) rfl (fun ls hl => ?_)
  refine lv_aload_n hx hb dX10_addStrip_100 rfl (lv_at hl 7 rfl) ?_
  refine va_get (D := (dC, dI)) (ci := 9) (v := .ref (a1 0)) (C := RX10) (T := TX10) (N := 8) hx hb hta uw_X10 hown hK hP 0 rfl rfl 2 (by decide) (hta _ mA61) (fun _ h9 => h9) rfl dX10_addStrip_101 ?_
  refine lv_iconst (v := 0) hx hb dX10_addStrip_104 (by decide) ?_
  obtain ⟨u_12, hu_12, hF⟩ := obd_some hF
  have hPc := hP.sub (ws' := (wd_X7_start cI a1 v1_3 v1_4 v1_5 v1_0)) [1, 2] rfl
  have hDc := hD.sub (ws' := (wd_X7_start cI a1 v1_3 v1_4 v1_5 v1_0)) [1, 2] rfl rfl
  refine q_callv (wc := (wd_X7_start cI a1 v1_3 v1_4 v1_5 v1_0)) (w1 := (wd_X7_start cI a1 u_12.1 u_12.2.1 v1_5 u_12.2.2)) (ws' := (wd_X10_addStrip cI a0 a1 a2 a3 a4 v0_3 v0_4 v0_5 v0_6 v0_7 u_12.1 u_12.2.1 v1_5 u_12.2.2 v1_1 v1_2 v2_10 v2_11 v2_7 v2_8 v2_9 v4_10 v4_1 v4_2 v4_3 v4_4 v4_5 v4_6 v4_7)) hP hD hS hA [1, 2] [0, 3, 4, 5, 6, 7, 8, 9, 10, 11, 12, 13, 14, 15, 16] [0, 15, 16, 1, 2, 3, 4, 5, 6, 7, 8, 9, 10, 11, 12, 13, 14] rfl rfl rfl (by decide) rfl rfl (va_runV (As := [.int 0]) (rest := []) ⟨hx, hb, hml, hown, hta⟩ (c_X7_start l dC dI cI H.size a1 v1_3 v1_4 v1_5 v1_0 0 u_12 hu_12) (cwV 1 hta (ga_V mA489 mA490 mA491 mA60 mA492) rfl rfl rfl (by decide +kernel) ⟨Nat.le_of_ble_eq_true rfl, Nat.le_of_ble_eq_true rfl⟩) ⟨q_fb, va_recv hK hP (ci := 6) (q0 := 1) rfl rfl, q_ps hPc hK hDc⟩ rfl rfl hl.1 rfl (lv_room (Nat.le_of_ble_eq_true rfl)) dX10_addStrip_105 ⟨Nat.zero_le _, Nat.zero_le _⟩) (fun H locs hP hD hS => ?_)
  refine lv_aload_n hx hb dX10_addStrip_108 rfl (lv_at hl 7 rfl) ?_
  refine va_get (D := (dC, dI)) (ci := 9) (v := .ref (a1 0)) (C := RX10) (T := TX10) (N := 8) hx hb hta uw_X10 hown hK hP 0 rfl rfl 2 (by decide) (hta _ mA61) (fun _ h9 => h9) rfl dX10_addStrip_109 ?_
  refine lv_iload_n hx hb dX10_addStrip_112 rfl (lv_at hl 5 rfl) ?_
  refine lv_iload hx hb dX10_addStrip_113 (lv_at hl 1 rfl) ?_
  refine lv_iadd hx hb dX10_addStrip_115 ?_
  refine lv_iload hx hb dX10_addStrip_116 (lv_at hl 4 rfl) ?_
  refine lv_iload hx hb dX10_addStrip_118 (lv_at hl 0 rfl) ?_
  refine lv_iadd hx hb dX10_addStrip_120 ?_
  obtain ⟨u_13, hu_13, hF⟩ := obd_some hF
  have hPc := hP.sub (ws' := (wd_X7_addCorner cI a1 u_12.1 u_12.2.1 v1_5 v1_1 v1_2)) [1, 3, 4] rfl
  have hDc := hD.sub (ws' := (wd_X7_addCorner cI a1 u_12.1 u_12.2.1 v1_5 v1_1 v1_2)) [1, 3, 4] rfl rfl
  refine q_callv (wc := (wd_X7_addCorner cI a1 u_12.1 u_12.2.1 v1_5 v1_1 v1_2)) (w1 := (wd_X7_addCorner cI a1 u_12.1 u_13.1 v1_5 u_13.2.1 u_13.2.2)) (ws' := (wd_X10_addStrip cI a0 a1 a2 a3 a4 v0_3 v0_4 v0_5 v0_6 v0_7 u_12.1 u_13.1 v1_5 u_12.2.2 u_13.2.1 u_13.2.2 v2_10 v2_11 v2_7 v2_8 v2_9 v4_10 v4_1 v4_2 v4_3 v4_4 v4_5 v4_6 v4_7)) hP hD hS hA [1, 3, 4] [0, 2, 5, 6, 7, 8, 9, 10, 11, 12, 13, 14, 15, 16] [0, 14, 1, 15, 16, 2, 3, 4, 5, 6, 7, 8, 9, 10, 11, 12, 13] rfl rfl rfl (by decide) rfl rfl (va_runV (As := [.int (u_3 + u_10), .int (u_5 + u_11)]) (rest := []) ⟨hx, hb, hml, hown, hta⟩ (c_X7_addCorner l dC dI cI H.size a1 u_12.1 u_12.2.1 v1_5 v1_1 v1_2 (u_3 + u_10) (u_5 + u_11) u_13 hu_13) (cwV 2 hta (ga_V mA494 mA495 mA496 mA60 mA497) rfl rfl rfl (by decide +kernel) ⟨Nat.le_of_ble_eq_true rfl, Nat.le_of_ble_eq_true rfl⟩) ⟨q_fb, va_recv hK hP (ci := 6) (q0 := 1) rfl rfl, q_ps hPc hK hDc⟩ rfl rfl hl.1 rfl (lv_room (Nat.le_of_ble_eq_true rfl)) dX10_addStrip_121 ⟨Nat.zero_le _, Nat.zero_le _⟩) (fun H locs hP hD hS => ?_)
  refine lv_aload_n hx hb dX10_addStrip_124 rfl (lv_at hl 7 rfl) ?_
  refine va_get (D := (dC, dI)) (ci := 9) (v := .ref (a1 0)) (C := RX10) (T := TX10) (N := 8) hx hb hta uw_X10 hown hK hP 0 rfl rfl 2 (by decide) (hta _ mA61) (fun _ h9 => h9) rfl dX10_addStrip_125 ?_
  refine lv_iload hx hb dX10_addStrip_128 (lv_at hl 3 rfl) ?_
  refine lv_iload hx hb dX10_addStrip_130 (lv_at hl 1 rfl) ?_
  refine lv_iadd hx hb dX10_addStrip_132 ?_
  refine lv_iload hx hb dX10_addStrip_133 (lv_at hl 2 rfl) ?_
  refine lv_iload hx hb dX10_addStrip_135 (lv_at hl 0 rfl) ?_
  refine lv_iadd hx hb dX10_addStrip_137 ?_
  obtain ⟨u_14, hu_14, hF⟩ := obd_some hF
  have hPc := hP.sub (ws' := (wd_X7_addCorner cI a1 u_12.1 u_13.1 v1_5 u_13.2.1 u_13.2.2)) [1, 3, 4] rfl
  have hDc := hD.sub (ws' := (wd_X7_addCorner cI a1 u_12.1 u_13.1 v1_5 u_13.2.1 u_13.2.2)) [1, 3, 4] rfl rfl
  refine q_callv (wc := (wd_X7_addCorner cI a1 u_12.1 u_13.1 v1_5 u_13.2.1 u_13.2.2)) (w1 := (wd_X7_addCorner cI a1 u_12.1 u_14.1 v1_5 u_14.2.1 u_14.2.2)) (ws' := (wd_X10_addStrip cI a0 a1 a2 a3 a4 v0_3 v0_4 v0_5 v0_6 v0_7 u_12.1 u_14.1 v1_5 u_12.2.2 u_14.2.1 u_14.2.2 v2_10 v2_11 v2_7 v2_8 v2_9 v4_10 v4_1 v4_2 v4_3 v4_4 v4_5 v4_6 v4_7)) hP hD hS hA [1, 3, 4] [0, 2, 5, 6, 7, 8, 9, 10, 11, 12, 13, 14, 15, 16] [0, 14, 1, 15, 16, 2, 3, 4, 5, 6, 7, 8, 9, 10, 11, 12, 13] rfl rfl rfl (by decide) rfl rfl (va_runV (As := [.int (u_7 + u_10), .int (u_9 + u_11)]) (rest := []) ⟨hx, hb, hml, hown, hta⟩ (c_X7_addCorner l dC dI cI H.size a1 u_12.1 u_13.1 v1_5 u_13.2.1 u_13.2.2 (u_7 + u_10) (u_9 + u_11) u_14 hu_14) (cwV 2 hta (ga_V mA494 mA495 mA496 mA60 mA497) rfl rfl rfl (by decide +kernel) ⟨Nat.le_of_ble_eq_true rfl, Nat.le_of_ble_eq_true rfl⟩) ⟨q_fb, va_recv hK hP (ci := 6) (q0 := 1) rfl rfl, q_ps hPc hK hDc⟩ rfl rfl hl.1 rfl (lv_room (Nat.le_of_ble_eq_true rfl)) dX10_addStrip_138 ⟨Nat.zero_le _, Nat.zero_le _⟩) (fun H locs hP hD hS => ?_)
  refine lv_aload_n hx hb dX10_addStrip_141 rfl (lv_at hl 7 rfl) ?_
  refine va_get (D := (dC, dI)) (ci := 9) (v := .ref (a1 0)) (C := RX10) (T := TX10) (N := 8) hx hb hta uw_X10 hown hK hP 0 rfl rfl 2 (by decide) (hta _ mA61) (fun _ h9 => h9) rfl dX10_addStrip_142 ?_
  refine lv_iload hx hb dX10_addStrip_145 (lv_at hl 3 rfl) ?_
  refine lv_iload hx hb dX10_addStrip_147 (lv_at hl 1 rfl) ?_
  refine lv_isub hx hb dX10_addStrip_149 ?_
  refine lv_iload hx hb dX10_addStrip_150 (lv_at hl 2 rfl) ?_
  refine lv_iload hx hb dX10_addStrip_152 (lv_at hl 0 rfl) ?_
  refine lv_isub hx hb dX10_addStrip_154 ?_
  obtain ⟨u_15, hu_15, hF⟩ := obd_some hF
  have hPc := hP.sub (ws' := (wd_X7_addCorner cI a1 u_12.1 u_14.1 v1_5 u_14.2.1 u_14.2.2)) [1, 3, 4] rfl
  have hDc := hD.sub (ws' := (wd_X7_addCorner cI a1 u_12.1 u_14.1 v1_5 u_14.2.1 u_14.2.2)) [1, 3, 4] rfl rfl
  refine q_callv (wc := (wd_X7_addCorner cI a1 u_12.1 u_14.1 v1_5 u_14.2.1 u_14.2.2)) (w1 := (wd_X7_addCorner cI a1 u_12.1 u_15.1 v1_5 u_15.2.1 u_15.2.2)) (ws' := (wd_X10_addStrip cI a0 a1 a2 a3 a4 v0_3 v0_4 v0_5 v0_6 v0_7 u_12.1 u_15.1 v1_5 u_12.2.2 u_15.2.1 u_15.2.2 v2_10 v2_11 v2_7 v2_8 v2_9 v4_10 v4_1 v4_2 v4_3 v4_4 v4_5 v4_6 v4_7)) hP hD hS hA [1, 3, 4] [0, 2, 5, 6, 7, 8, 9, 10, 11, 12, 13, 14, 15, 16] [0, 14, 1, 15, 16, 2, 3, 4, 5, 6, 7, 8, 9, 10, 11, 12, 13] rfl rfl rfl (by decide) rfl rfl (va_runV (As := [.int (u_7 - u_10), .int (u_9 - u_11)]) (rest := []) ⟨hx, hb, hml, hown, hta⟩ (c_X7_addCorner l dC dI cI H.size a1 u_12.1 u_14.1 v1_5 u_14.2.1 u_14.2.2 (u_7 - u_10) (u_9 - u_11) u_15 hu_15) (cwV 2 hta (ga_V mA494 mA495 mA496 mA60 mA497) rfl rfl rfl (by decide +kernel) ⟨Nat.le_of_ble_eq_true rfl, Nat.le_of_ble_eq_true rfl⟩) ⟨q_fb, va_recv hK hP (ci := 6) (q0 := 1) rfl rfl, q_ps hPc hK hDc⟩ rfl rfl hl.1 rfl (lv_room (Nat.le_of_ble_eq_true rfl)) dX10_addStrip_155 ⟨Nat.zero_le _, Nat.zero_le _⟩) (fun H locs hP hD hS => ?_)
  refine lv_aload_n hx hb dX10_addStrip_158 rfl (lv_at hl 7 rfl) ?_
  refine va_get (D := (dC, dI)) (ci := 9) (v := .ref (a1 0)) (C := RX10) (T := TX10) (N := 8) hx hb hta uw_X10 hown hK hP 0 rfl rfl 2 (by decide) (hta _ mA61) (fun _ h9 => h9) rfl dX10_addStrip_159 ?_
  refine lv_iload_n hx hb dX10_addStrip_162 rfl (lv_at hl 5 rfl) ?_
  refine lv_iload hx hb dX10_addStrip_163 (lv_at hl 1 rfl) ?_
  refine lv_isub hx hb dX10_addStrip_165 ?_
  refine lv_iload hx hb dX10_addStrip_166 (lv_at hl 4 rfl) ?_
  refine lv_iload hx hb dX10_addStrip_168 (lv_at hl 0 rfl) ?_
  refine lv_isub hx hb dX10_addStrip_170 ?_
  obtain ⟨u_16, hu_16, hF⟩ := obd_some hF
  have hPc := hP.sub (ws' := (wd_X7_addCorner cI a1 u_12.1 u_15.1 v1_5 u_15.2.1 u_15.2.2)) [1, 3, 4] rfl
  have hDc := hD.sub (ws' := (wd_X7_addCorner cI a1 u_12.1 u_15.1 v1_5 u_15.2.1 u_15.2.2)) [1, 3, 4] rfl rfl
  refine q_callv (wc := (wd_X7_addCorner cI a1 u_12.1 u_15.1 v1_5 u_15.2.1 u_15.2.2)) (w1 := (wd_X7_addCorner cI a1 u_12.1 u_16.1 v1_5 u_16.2.1 u_16.2.2)) (ws' := (wd_X10_addStrip cI a0 a1 a2 a3 a4 v0_3 v0_4 v0_5 v0_6 v0_7 u_12.1 u_16.1 v1_5 u_12.2.2 u_16.2.1 u_16.2.2 v2_10 v2_11 v2_7 v2_8 v2_9 v4_10 v4_1 v4_2 v4_3 v4_4 v4_5 v4_6 v4_7)) hP hD hS hA [1, 3, 4] [0, 2, 5, 6, 7, 8, 9, 10, 11, 12, 13, 14, 15, 16] [0, 14, 1, 15, 16, 2, 3, 4, 5, 6, 7, 8, 9, 10, 11, 12, 13] rfl rfl rfl (by decide) rfl rfl (va_runV (As := [.int (u_3 - u_10), .int (u_5 - u_11)]) (rest := []) ⟨hx, hb, hml, hown, hta⟩ (c_X7_addCorner l dC dI cI H.size a1 u_12.1 u_15.1 v1_5 u_15.2.1 u_15.2.2 (u_3 - u_10) (u_5 - u_11) u_16 hu_16) (cwV 2 hta (ga_V mA494 mA495 mA496 mA60 mA497) rfl rfl rfl (by decide +kernel) ⟨Nat.le_of_ble_eq_true rfl, Nat.le_of_ble_eq_true rfl⟩) ⟨q_fb, va_recv hK hP (ci := 6) (q0 := 1) rfl rfl, q_ps hPc hK hDc⟩ rfl rfl hl.1 rfl (lv_room (Nat.le_of_ble_eq_true rfl)) dX10_addStrip_171 ⟨Nat.zero_le _, Nat.zero_le _⟩) (fun H locs hP hD hS => ?_)
  obtain rfl := Option.some.inj hF
  exact W.vret hx hb hr (fun t ht hW => ⟨⟨(), rfl, trivial, by rw [ht]; exact hP, va_K.moved hW.alike hK, hD⟩, hS.F ht⟩) hS.2.2 dX10_addStrip_174

-- StrokeOutliner$Stroke.isInLimit(JJ)Z
def F_X10_isInLimit_j56 (x3 : Int64) (x5 : Int64) (x7 : Int64) (t0 : Int32) (t1 : Int32) : (Int32) :=
  if t0 = t1 then if (lg_cmp x5 0) < 0 then 0 else 1 else lt (x5 * x5) (fun y_2 => lt ((x7 * x7) * x3) (fun y_3 => if 0 ≤ (lg_cmp x5 0) then if (lg_cmp y_2 y_3) < 0 then 0 else 1 else if (lg_cmp y_3 y_2) < 0 then 0 else 1))
def F_X10_isInLimit_j44 (x3 : Int64) (x5 : Int64) (x7 : Int64) (t0 : Int32) : (Int32) :=
  if 0 ≤ (lg_cmp x7 0) then F_X10_isInLimit_j56 x3 x5 x7 t0 0 else F_X10_isInLimit_j56 x3 x5 x7 t0 1
def F_X10_isInLimit (v0_6 : Int32) (p1 : Int64) (p3 : Int64) : (Int32) :=
  lt ((v0_6.toInt64 * v0_6.toInt64) * p1) (fun y_9 => lt ((v0_6.toInt64 * v0_6.toInt64) - 2) (fun y_10 => if 0 ≤ (lg_cmp y_9 0) then F_X10_isInLimit_j44 p3 y_9 y_10 0 else F_X10_isInLimit_j44 p3 y_9 y_10 1))
abbrev wd_X10_isInLimit (cI : ClassId) (a0 : Nat → Nat) (a1 : Nat → Nat) (a2 : Nat → Nat) (a3 : Nat → Nat) (v0_3 : Int32) (v0_4 : Int32) (v0_5 : Int32) (v0_6 : Int32) (v0_7 : Int32) : va_W := [(a0 0, .inr (9, [.ref (a3 0), .ref (a2 0), .ref (a1 0), .int v0_3, .int v0_4, .int v0_5, .int v0_6, .int v0_7]))]
abbrev wz_X10_isInLimit : List Cond := .code yX10_isInLimit cX10_isInLimit 13 (some .boolean) :: wALL
abbrev rm_X10_isInLimit : Room := { frames := 0, cells := 0, slots := 0, locals := 0 }
abbrev Q_X10_isInLimit (dC : Nat → ClassId) (dI : Nat → Nat → Nat) (cI : ClassId) (a0 : Nat → Nat) (a1 : Nat → Nat) (a2 : Nat → Nat) (a3 : Nat → Nat) (v0_3 : Int32) (v0_4 : Int32) (v0_5 : Int32) (v0_6 : Int32) (v0_7 : Int32) (u : (Int32)) (A : Nat → Prop) : Array Value → State → Outcome → State → Prop := va_Qi (fun (r : Int32) (_ : Unit) => r = u ∧ (u = 0 ∨ u = 1)) (fun _ => q_at dC dI cI A (wd_X10_isInLimit cI a0 a1 a2 a3 v0_3 v0_4 v0_5 v0_6 v0_7)) A
set_option maxHeartbeats 4000000 in
set_option maxRecDepth 100000 in
theorem c_X10_isInLimit (l : Launch) (dC : Nat → ClassId) (dI : Nat → Nat → Nat) (cI : ClassId) (sz : Nat) (a0 : Nat → Nat) (a1 : Nat → Nat) (a2 : Nat → Nat) (a3 : Nat → Nat) (v0_3 : Int32) (v0_4 : Int32) (v0_5 : Int32) (v0_6 : Int32) (v0_7 : Int32) (p1 : Int64) (p3 : Int64) (u : (Int32)) (hF : F_X10_isInLimit v0_6 p1 p3 = u) : Met l yX10_isInLimit wz_X10_isInLimit rm_X10_isInLimit (va_Pc [.ref (a0 0), .long p1, .long p3] (q_pre dC dI cI (wd_X10_isInLimit cI a0 a1 a2 a3 v0_3 v0_4 v0_5 v0_6 v0_7) sz)) (Q_X10_isInLimit dC dI cI a0 a1 a2 a3 v0_3 v0_4 v0_5 v0_6 v0_7 u (va_A (wd_X10_isInLimit cI a0 a1 a2 a3 v0_3 v0_4 v0_5 v0_6 v0_7) sz)) 0 0 (va_A (wd_X10_isInLimit cI a0 a1 a2 a3 v0_3 v0_4 v0_5 v0_6 v0_7) sz) := by
  refine Met.ofW (cc := cX10_isInLimit) (maxL := 13) (ret := (some .boolean)) (by decide) rfl ?_
  intro p e s m args below meth c s₁ B hml hv
  obtain ⟨rfl, hsz, hP, hK, hD0⟩ := hv
  have hx := B.exec
  have hb := B.bytes
  have hr := B.returns
  have hts := atoms_spec (ws := wz_X10_isInLimit) B.pre
  have hta := wz_tl hts
  have hown : s.vm.findClass RX10 = some m.cls := findClass_of_methodNamed B.named
  have hlocks := B.notSynchronized
  subst hsz
  have hD := hD0.self (sz := s.heap.size)
  generalize hAe : va_A (wd_X10_isInLimit cI a0 a1 a2 a3 v0_3 v0_4 v0_5 v0_6 v0_7) s.heap.size = A at hD ⊢
  have hA : ∀ q : Nat, s.heap.size ≤ q → A q := fun q h => by rw [← hAe]; exact Or.inr h
  have hS : va_S A s.heap s.heap [] := va_S.rf
  have hP : va_P (dC, dI) vwCl (wd_X10_isInLimit cI a0 a1 a2 a3 v0_3 v0_4 v0_5 v0_6 v0_7) s.heap := hP
  have hl := lv_entry ([.ref (a0 0), .long p1, .long p3]) (n := 13) (Nat.le_of_ble_eq_true rfl)
  rw [lg_entry_eq]
  generalize (lg_sl ([.ref (a0 0), .long p1, .long p3]) ++ List.replicate (13 - (lg_sl ([.ref (a0 0), .long p1, .long p3])).length) Slot.unset).toArray = ls at hl ⊢
  have hl : lv_has ls 13 [(0, .ref (a0 0)), (1, .long p1), (3, .long p3)] := hl
  obtain ⟨H, hHe⟩ : ∃ H, H = s.heap := ⟨_, rfl⟩
  have hS : va_S A s.heap H [] := by rw [hHe]; exact hS
  have hP : va_P (dC, dI) vwCl (wd_X10_isInLimit cI a0 a1 a2 a3 v0_3 v0_4 v0_5 v0_6 v0_7) H := by rw [hHe]; exact hP
  rw [← hHe]
  unfold F_X10_isInLimit at hF
  have j56 : ∀ (x3 : Int64) (x5 : Int64) (x7 : Int64) (t0 : Int32) (t1 : Int32), F_X10_isInLimit_j56 x3 x5 x7 t0 t1 = u → ∀ (H : Heap) (locs : List Loc) (ls : Array Slot), va_P (dC, dI) vwCl (wd_X10_isInLimit cI a0 a1 a2 a3 v0_3 v0_4 v0_5 v0_6 v0_7) H → va_D A (wd_X10_isInLimit cI a0 a1 a2 a3 v0_3 v0_4 v0_5 v0_6 v0_7) → va_S A s.heap H locs → lv_has ls 13 [(3, .long x3), (5, .long x5), (7, .long x7)] → W p l e (headSpec wz_X10_isInLimit rm_X10_isInLimit).room s m [.ref (a0 0), .long p1, .long p3].toArray below meth c H locs 0 0 (MQ below (Q_X10_isInLimit dC dI cI a0 a1 a2 a3 v0_3 v0_4 v0_5 v0_6 v0_7 u A) [.ref (a0 0), .long p1, .long p3].toArray s 0 0 A) (F0 m 56 ls [.int t1, .int t0]) := by
    intro x3 x5 x7 t0 t1 hF H locs ls hP hD hS hl
    unfold F_X10_isInLimit_j56 at hF
    refine lv_icmp_ne (tgt := 72) hx hb dX10_isInLimit_56 (by decide) (fun c_1 => ?_) (fun c_1 => ?_)
    · have hF := it_f hF c_1
      refine lv_lload hx hb dX10_isInLimit_72 (lv_at hl 1 rfl) ?_
      refine lv_lload hx hb dX10_isInLimit_74 (lv_at hl 1 rfl) ?_
      refine lv_lmul hx hb dX10_isInLimit_76 ?_
      obtain ⟨y_2, ey_2, hF⟩ := lt_some hF
      refine lv_eql ey_2 ?_
      refine lv_lstore (lv' := [(9, .long y_2), (3, .long x3), (5, .long x5), (7, .long x7)]) hx hb dX10_isInLimit_77 hl (by decide) rfl (fun ls hl => ?_)
      refine lv_lload hx hb dX10_isInLimit_79 (lv_at hl 3 rfl) ?_
      refine lv_lload hx hb dX10_isInLimit_81 (lv_at hl 3 rfl) ?_
      refine lv_lmul hx hb dX10_isInLimit_83 ?_
      refine lv_lload_n hx hb dX10_isInLimit_84 rfl (lv_at hl 1 rfl) ?_
      refine lv_lmul hx hb dX10_isInLimit_85 ?_
      obtain ⟨y_3, ey_3, hF⟩ := lt_some hF
      refine lv_eql ey_3 ?_
      refine lv_lstore (lv' := [(11, .long y_3), (9, .long y_2), (3, .long x3), (5, .long x5), (7, .long x7)]) hx hb dX10_isInLimit_86 hl (by decide) rfl (fun ls hl => ?_)
      refine lv_lload hx hb dX10_isInLimit_88 (lv_at hl 3 rfl) ?_
      refine lv_lconst (v := 0) hx hb dX10_isInLimit_90 (by decide) ?_
      refine W.lcmp hx hb dX10_isInLimit_91 ?_
      refine lv_if_ge (tgt := 111) hx hb dX10_isInLimit_92 (by decide) (fun c_4 => ?_) (fun c_4 => ?_)
      · have hF := it_t hF c_4
        refine lv_lload hx hb dX10_isInLimit_111 (lv_at hl 1 rfl) ?_
        refine lv_lload hx hb dX10_isInLimit_113 (lv_at hl 0 rfl) ?_
        refine W.lcmp hx hb dX10_isInLimit_115 ?_
        refine lv_if_lt (tgt := 123) hx hb dX10_isInLimit_116 (by decide) (fun c_5 => ?_) (fun c_5 => ?_)
        · have hF := it_t hF c_5
          refine lv_iconst (v := 0) hx hb dX10_isInLimit_123 (by decide) ?_
          subst hF
          exact W.zret (v := 0) (ty := .boolean) hx hb hr (z_nar (Or.inl rfl)) (fun t ht hW => ⟨⟨0, (), rfl, ⟨rfl, (Or.inl rfl)⟩, by rw [ht]; exact hP, va_K.moved hW.alike hK, hD⟩, hS.F ht⟩) hS.2.2 dX10_isInLimit_124
        · have hF := it_f hF c_5
          refine lv_iconst (v := 1) hx hb dX10_isInLimit_119 (by decide) ?_
          refine lv_goto (tgt := 124) hx hb dX10_isInLimit_120 (by decide) ?_
          subst hF
          exact W.zret (v := 1) (ty := .boolean) hx hb hr (z_nar (Or.inr rfl)) (fun t ht hW => ⟨⟨1, (), rfl, ⟨rfl, (Or.inr rfl)⟩, by rw [ht]; exact hP, va_K.moved hW.alike hK, hD⟩, hS.F ht⟩) hS.2.2 dX10_isInLimit_124
      · have hF := it_f hF c_4
        refine lv_lload hx hb dX10_isInLimit_95 (lv_at hl 0 rfl) ?_
        refine lv_lload hx hb dX10_isInLimit_97 (lv_at hl 1 rfl) ?_
        refine W.lcmp hx hb dX10_isInLimit_99 ?_
        refine lv_if_lt (tgt := 107) hx hb dX10_isInLimit_100 (by decide) (fun c_6 => ?_) (fun c_6 => ?_)
        · have hF := it_t hF c_6
          refine lv_iconst (v := 0) hx hb dX10_isInLimit_107 (by decide) ?_
          refine lv_goto (tgt := 124) hx hb dX10_isInLimit_108 (by decide) ?_
          subst hF
          exact W.zret (v := 0) (ty := .boolean) hx hb hr (z_nar (Or.inl rfl)) (fun t ht hW => ⟨⟨0, (), rfl, ⟨rfl, (Or.inl rfl)⟩, by rw [ht]; exact hP, va_K.moved hW.alike hK, hD⟩, hS.F ht⟩) hS.2.2 dX10_isInLimit_124
        · have hF := it_f hF c_6
          refine lv_iconst (v := 1) hx hb dX10_isInLimit_103 (by decide) ?_
          refine lv_goto (tgt := 124) hx hb dX10_isInLimit_104 (by decide) ?_
          subst hF
          exact W.zret (v := 1) (ty := .boolean) hx hb hr (z_nar (Or.inr rfl)) (fun t ht hW => ⟨⟨1, (), rfl, ⟨rfl, (Or.inr rfl)⟩, by rw [ht]; exact hP, va_K.moved hW.alike hK, hD⟩, hS.F ht⟩) hS.2.2 dX10_isInLimit_124
    · have hF := it_t hF c_1
      refine lv_lload hx hb dX10_isInLimit_59 (lv_at hl 1 rfl) ?_
      refine lv_lconst (v := 0) hx hb dX10_isInLimit_61 (by decide) ?_
      refine W.lcmp hx hb dX10_isInLimit_62 ?_
      refine lv_if_lt (tgt := 70) hx hb dX10_isInLimit_63 (by decide) (fun c_7 => ?_) (fun c_7 => ?_)
      · have hF := it_t hF c_7
        refine lv_iconst (v := 0) hx hb dX10_isInLimit_70 (by decide) ?_
        subst hF
        exact W.zret (v := 0) (ty := .boolean) hx hb hr (z_nar (Or.inl rfl)) (fun t ht hW => ⟨⟨0, (), rfl, ⟨rfl, (Or.inl rfl)⟩, by rw [ht]; exact hP, va_K.moved hW.alike hK, hD⟩, hS.F ht⟩) hS.2.2 dX10_isInLimit_71
      · have hF := it_f hF c_7
        refine lv_iconst (v := 1) hx hb dX10_isInLimit_66 (by decide) ?_
        refine lv_goto (tgt := 71) hx hb dX10_isInLimit_67 (by decide) ?_
        subst hF
        exact W.zret (v := 1) (ty := .boolean) hx hb hr (z_nar (Or.inr rfl)) (fun t ht hW => ⟨⟨1, (), rfl, ⟨rfl, (Or.inr rfl)⟩, by rw [ht]; exact hP, va_K.moved hW.alike hK, hD⟩, hS.F ht⟩) hS.2.2 dX10_isInLimit_71
  have j44 : ∀ (x3 : Int64) (x5 : Int64) (x7 : Int64) (t0 : Int32), F_X10_isInLimit_j44 x3 x5 x7 t0 = u → ∀ (H : Heap) (locs : List Loc) (ls : Array Slot), va_P (dC, dI) vwCl (wd_X10_isInLimit cI a0 a1 a2 a3 v0_3 v0_4 v0_5 v0_6 v0_7) H → va_D A (wd_X10_isInLimit cI a0 a1 a2 a3 v0_3 v0_4 v0_5 v0_6 v0_7) → va_S A s.heap H locs → lv_has ls 13 [(3, .long x3), (5, .long x5), (7, .long x7)] → W p l e (headSpec wz_X10_isInLimit rm_X10_isInLimit).room s m [.ref (a0 0), .long p1, .long p3].toArray below meth c H locs 0 0 (MQ below (Q_X10_isInLimit dC dI cI a0 a1 a2 a3 v0_3 v0_4 v0_5 v0_6 v0_7 u A) [.ref (a0 0), .long p1, .long p3].toArray s 0 0 A) (F0 m 44 ls [.int t0]) := by
    intro x3 x5 x7 t0 hF H locs ls hP hD hS hl
    unfold F_X10_isInLimit_j44 at hF
    refine lv_lload hx hb dX10_isInLimit_44 (lv_at hl 2 rfl) ?_
    refine lv_lconst (v := 0) hx hb dX10_isInLimit_46 (by decide) ?_
    refine W.lcmp hx hb dX10_isInLimit_47 ?_
    refine lv_if_ge (tgt := 55) hx hb dX10_isInLimit_48 (by decide) (fun c_8 => ?_) (fun c_8 => ?_)
    · have hF := it_t hF c_8
      refine lv_iconst (v := 0) hx hb dX10_isInLimit_55 (by decide) ?_
      exact j56 x3 x5 x7 t0 0 hF _ _ _ hP hD hS (lv_sub hl [0, 1, 2] rfl)
    · have hF := it_f hF c_8
      refine lv_iconst (v := 1) hx hb dX10_isInLimit_51 (by decide) ?_
      refine lv_goto (tgt := 56) hx hb dX10_isInLimit_52 (by decide) ?_
      exact j56 x3 x5 x7 t0 1 hF _ _ _ hP hD hS (lv_sub hl [0, 1, 2] rfl)
  refine lv_aload_n hx hb dX10_isInLimit_0 rfl (lv_at hl 0 rfl) ?_
  refine va_get (D := (dC, dI)) (ci := 9) (v := .int v0_6) (C := RX10) (T := TX10) (N := 8) hx hb hta uw_X10 hown hK hP 0 rfl rfl 6 (by decide) (hta _ mA467) (fun _ h9 => h9) rfl dX10_isInLimit_1 ?_
  refine lv_i2l hx hb dX10_isInLimit_4 rfl ?_
  refine lv_aload_n hx hb dX10_isInLimit_5 rfl (lv_at hl 0 rfl) ?_
  refine va_get (D := (dC, dI)) (ci := 9) (v := .int v0_6) (C := RX10) (T := TX10) (N := 8) hx hb hta uw_X10 hown hK hP 0 rfl rfl 6 (by decide) (hta _ mA467) (fun _ h9 => h9) rfl dX10_isInLimit_6 ?_
  refine lv_i2l hx hb dX10_isInLimit_9 rfl ?_
  refine lv_lmul hx hb dX10_isInLimit_10 ?_
  refine lv_lload_n hx hb dX10_isInLimit_11 rfl (lv_at hl 1 rfl) ?_
  refine lv_lmul hx hb dX10_isInLimit_12 ?_
  obtain ⟨y_9, ey_9, hF⟩ := lt_some hF
  refine lv_eql ey_9 ?_
  refine lv_lstore (lv' := [(5, .long y_9), (0, .ref (a0 0)), (1, .long p1), (3, .long p3)]) hx hb dX10_isInLimit_13 hl (by decide) rfl (fun ls hl => ?_)
  refine lv_aload_n hx hb dX10_isInLimit_15 rfl (lv_at hl 1 rfl) ?_
  refine va_get (D := (dC, dI)) (ci := 9) (v := .int v0_6) (C := RX10) (T := TX10) (N := 8) hx hb hta uw_X10 hown hK hP 0 rfl rfl 6 (by decide) (hta _ mA467) (fun _ h9 => h9) rfl dX10_isInLimit_16 ?_
  refine lv_i2l hx hb dX10_isInLimit_19 rfl ?_
  refine lv_aload_n hx hb dX10_isInLimit_20 rfl (lv_at hl 1 rfl) ?_
  refine va_get (D := (dC, dI)) (ci := 9) (v := .int v0_6) (C := RX10) (T := TX10) (N := 8) hx hb hta uw_X10 hown hK hP 0 rfl rfl 6 (by decide) (hta _ mA467) (fun _ h9 => h9) rfl dX10_isInLimit_21 ?_
  refine lv_i2l hx hb dX10_isInLimit_24 rfl ?_
  refine lv_lmul hx hb dX10_isInLimit_25 ?_
  refine lv_ldc2 (v := 2) hx hb hown (hta _ mA546) dX10_isInLimit_26 ?_
  refine lv_lsub hx hb dX10_isInLimit_29 ?_
  obtain ⟨y_10, ey_10, hF⟩ := lt_some hF
  refine lv_eql ey_10 ?_
  refine lv_lstore (lv' := [(7, .long y_10), (5, .long y_9), (0, .ref (a0 0)), (1, .long p1), (3, .long p3)]) hx hb dX10_isInLimit_30 hl (by decide) rfl (fun ls hl => ?_)
  refine lv_lload hx hb dX10_isInLimit_32 (lv_at hl 1 rfl) ?_
  refine lv_lconst (v := 0) hx hb dX10_isInLimit_34 (by decide) ?_
  refine W.lcmp hx hb dX10_isInLimit_35 ?_
  refine lv_if_ge (tgt := 43) hx hb dX10_isInLimit_36 (by decide) (fun c_11 => ?_) (fun c_11 => ?_)
  · have hF := it_t hF c_11
    refine lv_iconst (v := 0) hx hb dX10_isInLimit_43 (by decide) ?_
    exact j44 p3 y_9 y_10 0 hF _ _ _ hP hD hS (lv_sub hl [4, 1, 0] rfl)
  · have hF := it_f hF c_11
    refine lv_iconst (v := 1) hx hb dX10_isInLimit_39 (by decide) ?_
    refine lv_goto (tgt := 44) hx hb dX10_isInLimit_40 (by decide) ?_
    exact j44 p3 y_9 y_10 1 hF _ _ _ hP hD hS (lv_sub hl [4, 1, 0] rfl)
