-- StrokeOutliner$Stroke.addTip(IIIJJ)V
def F_X10_addTip (v0_4 : Int32) (v1_3 : Int32) (v1_4 : Int32) (v1_1 : Nat → Int32) (v1_2 : Nat → Int32) (p1 : Int32) (p2 : Int32) (p3 : Int32) (p4 : Int64) (p6 : Int64) : Option (Int32 × (Nat → Int32) × (Nat → Int32)) :=
  lt ((p4 * p4) + (p6 * p6)) (fun y_1 => lt ((2 * v0_4.toInt64) * v0_4.toInt64) (fun y_2 => obd (F_X4_round (y_2 * p4) y_1) (fun u_3 => lt (p3 * u_3) (fun y_4 => obd (F_X4_round (y_2 * p6) y_1) (fun u_5 => lt (p3 * u_5) (fun y_6 => obd (F_X7_addCorner v1_3 v1_4 v1_1 v1_2 (p1 + y_4) (p2 + y_6)) (fun u_7 => some (u_7.1, u_7.2.1, u_7.2.2))))))))
abbrev wd_X10_addTip (cI : ClassId) (a0 : Nat → Nat) (a1 : Nat → Nat) (a2 : Nat → Nat) (a3 : Nat → Nat) (v0_3 : Int32) (v0_4 : Int32) (v0_5 : Int32) (v0_6 : Int32) (v0_7 : Int32) (v1_3 : Int32) (v1_4 : Int32) (v1_5 : Int32) (v1_1 : Nat → Int32) (v1_2 : Nat → Int32) : va_W := [(a0 0, .inr (9, [.ref (a3 0), .ref (a2 0), .ref (a1 0), .int v0_3, .int v0_4, .int v0_5, .int v0_6, .int v0_7])), (a1 0, .inr (6, [.ref (a1 1), .ref (a1 2), .ref (a1 3), .int v1_3, .int v1_4, .int v1_5])), (a1 2, .inl (cI, 11200, .inl v1_1)), (a1 3, .inl (cI, 11200, .inl v1_2))]
abbrev wz_X10_addTip : List Cond := .code yX10_addTip cX10_addTip 14 none :: wALL
abbrev rm_X10_addTip : Room := { frames := 1, cells := 0, slots := 0, locals := 29 }
abbrev Q_X10_addTip (dC : Nat → ClassId) (dI : Nat → Nat → Nat) (cI : ClassId) (a0 : Nat → Nat) (a1 : Nat → Nat) (a2 : Nat → Nat) (a3 : Nat → Nat) (v0_3 : Int32) (v0_4 : Int32) (v0_5 : Int32) (v0_6 : Int32) (v0_7 : Int32) (v1_3 : Int32) (v1_5 : Int32) (u : (Int32 × (Nat → Int32) × (Nat → Int32))) (A : Nat → Prop) : Array Value → State → Outcome → State → Prop := va_Qv (fun (_ : Unit) => True) (fun _ => q_at dC dI cI A (wd_X10_addTip cI a0 a1 a2 a3 v0_3 v0_4 v0_5 v0_6 v0_7 v1_3 u.1 v1_5 u.2.1 u.2.2)) A
set_option maxHeartbeats 4000000 in
set_option maxRecDepth 100000 in
theorem c_X10_addTip (l : Launch) (dC : Nat → ClassId) (dI : Nat → Nat → Nat) (cI : ClassId) (sz : Nat) (a0 : Nat → Nat) (a1 : Nat → Nat) (a2 : Nat → Nat) (a3 : Nat → Nat) (v0_3 : Int32) (v0_4 : Int32) (v0_5 : Int32) (v0_6 : Int32) (v0_7 : Int32) (v1_3 : Int32) (v1_4 : Int32) (v1_5 : Int32) (v1_1 : Nat → Int32) (v1_2 : Nat → Int32) (p1 : Int32) (p2 : Int32) (p3 : Int32) (p4 : Int64) (p6 : Int64) (u : (Int32 × (Nat → Int32) × (Nat → Int32))) (hF : F_X10_addTip v0_4 v1_3 v1_4 v1_1 v1_2 p1 p2 p3 p4 p6 = some u) : Met l yX10_addTip wz_X10_addTip rm_X10_addTip (va_Pc [.ref (a0 0), .int p1, .int p2, .int p3, .long p4, .long p6] (q_pre dC dI cI (wd_X10_addTip cI a0 a1 a2 a3 v0_3 v0_4 v0_5 v0_6 v0_7 v1_3 v1_4 v1_5 v1_1 v1_2) sz)) (Q_X10_addTip dC dI cI a0 a1 a2 a3 v0_3 v0_4 v0_5 v0_6 v0_7 v1_3 v1_5 u (va_A (wd_X10_addTip cI a0 a1 a2 a3 v0_3 v0_4 v0_5 v0_6 v0_7 v1_3 v1_4 v1_5 v1_1 v1_2) sz)) 0 0 (va_A (wd_X10_addTip cI a0 a1 a2 a3 v0_3 v0_4 v0_5 v0_6 v0_7 v1_3 v1_4 v1_5 v1_1 v1_2) sz) := by
  refine Met.ofW (cc := cX10_addTip) (maxL := 14) (ret := none) (by decide) rfl ?_
  intro p e s m args below meth c s₁ B hml hv
  obtain ⟨rfl, hsz, hP, hK, hD0⟩ := hv
  have hx := B.exec
  have hb := B.bytes
  have hr := B.returns
  have hts := atoms_spec (ws := wz_X10_addTip) B.pre
  have hta := wz_tl hts
  have hown : s.vm.findClass RX10 = some m.cls := findClass_of_methodNamed B.named
  have hlocks := B.notSynchronized
  subst hsz
  have hD := hD0.self (sz := s.heap.size)
  generalize hAe : va_A (wd_X10_addTip cI a0 a1 a2 a3 v0_3 v0_4 v0_5 v0_6 v0_7 v1_3 v1_4 v1_5 v1_1 v1_2) s.heap.size = A at hD ⊢
  have hA : ∀ q : Nat, s.heap.size ≤ q → A q := fun q h => by rw [← hAe]; exact Or.inr h
  have hS : va_S A s.heap s.heap [] := va_S.rf
  have hP : va_P (dC, dI) vwCl (wd_X10_addTip cI a0 a1 a2 a3 v0_3 v0_4 v0_5 v0_6 v0_7 v1_3 v1_4 v1_5 v1_1 v1_2) s.heap := hP
  have hl := lv_entry ([.ref (a0 0), .int p1, .int p2, .int p3, .long p4, .long p6]) (n := 14) (Nat.le_of_ble_eq_true rfl)
  rw [lg_entry_eq]
  generalize (lg_sl ([.ref (a0 0), .int p1, .int p2, .int p3, .long p4, .long p6]) ++ List.replicate (14 - (lg_sl ([.ref (a0 0), .int p1, .int p2, .int p3, .long p4, .long p6])).length) Slot.unset).toArray = ls at hl ⊢
  have hl : lv_has ls 14 [(0, .ref (a0 0)), (1, .int p1), (2, .int p2), (3, .int p3), (4, .long p4), (6, .long p6)] := hl
  obtain ⟨H, hHe⟩ : ∃ H, H = s.heap := ⟨_, rfl⟩
  have hS : va_S A s.heap H [] := by rw [hHe]; exact hS
  have hP : va_P (dC, dI) vwCl (wd_X10_addTip cI a0 a1 a2 a3 v0_3 v0_4 v0_5 v0_6 v0_7 v1_3 v1_4 v1_5 v1_1 v1_2) H := by rw [hHe]; exact hP
  rw [← hHe]
  unfold F_X10_addTip at hF
  refine lv_lload hx hb dX10_addTip_0 (lv_at hl 4 rfl) ?_
  refine lv_lload hx hb dX10_addTip_2 (lv_at hl 4 rfl) ?_
  refine lv_lmul hx hb dX10_addTip_4 ?_
  refine lv_lload hx hb dX10_addTip_5 (lv_at hl 5 rfl) ?_
  refine lv_lload hx hb dX10_addTip_7 (lv_at hl 5 rfl) ?_
  refine lv_lmul hx hb dX10_addTip_9 ?_
  refine lv_ladd hx hb dX10_addTip_10 ?_
  obtain ⟨y_1, ey_1, hF⟩ := lt_some hF
  refine lv_eql ey_1 ?_
  refine lv_lstore (lv' := [(8, .long y_1), (0, .ref (a0 0)), (1, .int p1), (2, .int p2), (3, .int p3), (4, .long p4), (6, .long p6)]) hx hb dX10_addTip_11 hl (by decide) rfl (fun ls hl => ?_)
  refine lv_ldc2 (v := 2) hx hb hown (hta _ mA546) dX10_addTip_13 ?_
  refine lv_aload_n hx hb dX10_addTip_16 rfl (lv_at hl 1 rfl) ?_
  refine va_get (D := (dC, dI)) (ci := 9) (v := .int v0_4) (C := RX10) (T := TX10) (N := 8) hx hb hta uw_X10 hown hK hP 0 rfl rfl 4 (by decide) (hta _ mA465) (fun _ h9 => h9) rfl dX10_addTip_17 ?_
  refine lv_i2l hx hb dX10_addTip_20 rfl ?_
  refine lv_lmul hx hb dX10_addTip_21 ?_
  refine lv_aload_n hx hb dX10_addTip_22 rfl (lv_at hl 1 rfl) ?_
  refine va_get (D := (dC, dI)) (ci := 9) (v := .int v0_4) (C := RX10) (T := TX10) (N := 8) hx hb hta uw_X10 hown hK hP 0 rfl rfl 4 (by decide) (hta _ mA465) (fun _ h9 => h9) rfl dX10_addTip_23 ?_
  refine lv_i2l hx hb dX10_addTip_26 rfl ?_
  refine lv_lmul hx hb dX10_addTip_27 ?_
  obtain ⟨y_2, ey_2, hF⟩ := lt_some hF
  refine lv_eql ey_2 ?_
  refine lv_lstore (lv' := [(10, .long y_2), (8, .long y_1), (0, .ref (a0 0)), (1, .int p1), (2, .int p2), (3, .int p3), (4, .long p4), (6, .long p6)]) hx hb dX10_addTip_28 hl (by decide) rfl (fun ls hl => ?_)
  refine lv_iload_n hx hb dX10_addTip_30 rfl (lv_at hl 5 rfl) ?_
  refine lv_lload hx hb dX10_addTip_31 (lv_at hl 0 rfl) ?_
  refine lv_lload hx hb dX10_addTip_33 (lv_at hl 6 rfl) ?_
  refine lv_lmul hx hb dX10_addTip_35 ?_
  refine lv_lload hx hb dX10_addTip_36 (lv_at hl 1 rfl) ?_
  obtain ⟨u_3, hu_3, hF⟩ := obd_some hF
  have hPc := hP.sub (ws' := ([] : va_W)) [] rfl
  have hDc := hD.sub (ws' := ([] : va_W)) [] rfl rfl
  refine q_calli (wc := ([] : va_W)) (w1 := ([] : va_W)) (ws' := (wd_X10_addTip cI a0 a1 a2 a3 v0_3 v0_4 v0_5 v0_6 v0_7 v1_3 v1_4 v1_5 v1_1 v1_2)) hP hD hS hA [] [0, 1, 2, 3] [0, 1, 2, 3] rfl rfl rfl (by decide) rfl rfl (va_runS (As := [.long (y_2 * p4), .long y_1]) (rest := [.int p3]) ⟨hx, hb, hml, hown, hta⟩ (c_X4_round l dC dI cI H.size (y_2 * p4) y_1 u_3 hu_3) (va_cwS 2 hta (ga_S mA551 mA225 mA221 mA226) rfl rfl rfl (by decide +kernel) ⟨Nat.le_of_ble_eq_true rfl, Nat.le_of_ble_eq_true rfl⟩) ⟨q_fb, q_ps hPc hK hDc⟩ rfl rfl hl.1 rfl (lv_room (Nat.le_of_ble_eq_true rfl)) dX10_addTip_38 ⟨Nat.zero_le _, Nat.zero_le _⟩) (fun H locs hP hD hS => ?_)
  refine lv_imul hx hb dX10_addTip_41 ?_
  obtain ⟨y_4, ey_4, hF⟩ := lt_some hF
  refine lv_eqi ey_4 ?_
  refine lv_istore (lv' := [(12, .int y_4), (10, .long y_2), (8, .long y_1), (0, .ref (a0 0)), (1, .int p1), (2, .int p2), (3, .int p3), (4, .long p4), (6, .long p6)]) hx hb dX10_addTip_42 hl (by decide) rfl (fun ls hl => ?_)
  refine lv_iload_n hx hb dX10_addTip_44 rfl (lv_at hl 6 rfl) ?_
  refine lv_lload hx hb dX10_addTip_45 (lv_at hl 1 rfl) ?_
  refine lv_lload hx hb dX10_addTip_47 (lv_at hl 8 rfl) ?_
  refine lv_lmul hx hb dX10_addTip_49 ?_
  refine lv_lload hx hb dX10_addTip_50 (lv_at hl 2 rfl) ?_
  obtain ⟨u_5, hu_5, hF⟩ := obd_some hF
  have hPc := hP.sub (ws' := ([] : va_W)) [] rfl
  have hDc := hD.sub (ws' := ([] : va_W)) [] rfl rfl
  refine q_calli (wc := ([] : va_W)) (w1 := ([] : va_W)) (ws' := (wd_X10_addTip cI a0 a1 a2 a3 v0_3 v0_4 v0_5 v0_6 v0_7 v1_3 v1_4 v1_5 v1_1 v1_2)) hP hD hS hA [] [0, 1, 2, 3] [0, 1, 2, 3] rfl rfl rfl (by decide) rfl rfl (va_runS (As := [.long (y_2 * p6), .long y_1]) (rest := [.int p3]) ⟨hx, hb, hml, hown, hta⟩ (c_X4_round l dC dI cI H.size (y_2 * p6) y_1 u_5 hu_5) (va_cwS 2 hta (ga_S mA551 mA225 mA221 mA226) rfl rfl rfl (by decide +kernel) ⟨Nat.le_of_ble_eq_true rfl, Nat.le_of_ble_eq_true rfl⟩) ⟨q_fb, q_ps hPc hK hDc⟩ rfl rfl hl.1 rfl (lv_room (Nat.le_of_ble_eq_true rfl)) dX10_addTip_52 ⟨Nat.zero_le _, Nat.zero_le _⟩) (fun H locs hP hD hS => ?_)
  refine lv_imul hx hb dX10_addTip_55 ?_
  obtain ⟨y_6, ey_6, hF⟩ := lt_some hF
  refine lv_eqi ey_6 ?_
  refine lv_istore (lv' := [(13, .int y_6), (12, .int y_4), (10, .long y_2), (8, .long y_1), (0, .ref (a0 0)), (1, .int p1), (2, .int p2), (3, .int p3), (4, .long p4), (6, .long p6)]) hx hb dX10_addTip_56 hl (by decide) rfl (fun ls hl => ?_)
  refine lv_aload_n hx hb dX10_addTip_58 rfl (lv_at hl 4 rfl) ?_
  refine va_get (D := (dC, dI)) (ci := 9) (v := .ref (a1 0)) (C := RX10) (T := TX10) (N := 8) hx hb hta uw_X10 hown hK hP 0 rfl rfl 2 (by decide) (hta _ mA61) (fun _ h9 => h9) rfl dX10_addTip_59 ?_
  refine lv_iload_n hx hb dX10_addTip_62 rfl (lv_at hl 5 rfl) ?_
  refine lv_iload hx hb dX10_addTip_63 (lv_at hl 1 rfl) ?_
  refine lv_iadd hx hb dX10_addTip_65 ?_
  refine lv_iload_n hx hb dX10_addTip_66 rfl (lv_at hl 6 rfl) ?_
  refine lv_iload hx hb dX10_addTip_67 (lv_at hl 0 rfl) ?_
  refine lv_iadd hx hb dX10_addTip_69 ?_
  obtain ⟨u_7, hu_7, hF⟩ := obd_some hF
  have hPc := hP.sub (ws' := (wd_X7_addCorner cI a1 v1_3 v1_4 v1_5 v1_1 v1_2)) [1, 2, 3] rfl
  have hDc := hD.sub (ws' := (wd_X7_addCorner cI a1 v1_3 v1_4 v1_5 v1_1 v1_2)) [1, 2, 3] rfl rfl
  refine q_callv (wc := (wd_X7_addCorner cI a1 v1_3 v1_4 v1_5 v1_1 v1_2)) (w1 := (wd_X7_addCorner cI a1 v1_3 u_7.1 v1_5 u_7.2.1 u_7.2.2)) (ws' := (wd_X10_addTip cI a0 a1 a2 a3 v0_3 v0_4 v0_5 v0_6 v0_7 v1_3 u_7.1 v1_5 u_7.2.1 u_7.2.2)) hP hD hS hA [1, 2, 3] [0] [0, 1, 2, 3] rfl rfl rfl (by decide) rfl rfl (va_runV (As := [.int (p1 + y_4), .int (p2 + y_6)]) (rest := []) ⟨hx, hb, hml, hown, hta⟩ (c_X7_addCorner l dC dI cI H.size a1 v1_3 v1_4 v1_5 v1_1 v1_2 (p1 + y_4) (p2 + y_6) u_7 hu_7) (cwV 2 hta (ga_V mA494 mA495 mA496 mA60 mA497) rfl rfl rfl (by decide +kernel) ⟨Nat.le_of_ble_eq_true rfl, Nat.le_of_ble_eq_true rfl⟩) ⟨q_fb, va_recv hK hP (ci := 6) (q0 := 1) rfl rfl, q_ps hPc hK hDc⟩ rfl rfl hl.1 rfl (lv_room (Nat.le_of_ble_eq_true rfl)) dX10_addTip_70 ⟨Nat.zero_le _, Nat.zero_le _⟩) (fun H locs hP hD hS => ?_)
  obtain rfl := Option.some.inj hF
  exact W.vret hx hb hr (fun t ht hW => ⟨⟨(), rfl, trivial, by rw [ht]; exact hP, va_K.moved hW.alike hK, hD⟩, hS.F ht⟩) hS.2.2 dX10_addTip_73
