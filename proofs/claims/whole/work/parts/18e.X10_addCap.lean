-- StrokeOutliner$Stroke.addCap(III)V
def F_X10_addCap (v0_7 : Int32) (v1_3 : Int32) (v1_4 : Int32) (v1_0 : Nat → Int32) (v1_1 : Nat → Int32) (v1_2 : Nat → Int32) (v3_1 : Nat → Int32) (v3_2 : Nat → Int32) (v3_3 : Nat → Int32) (v3_4 : Nat → Int32) (v3_5 : Nat → Int32) (v3_6 : Nat → Int32) (v3_7 : Nat → Int32) (v3_8 : Nat → Int32) (v3_9 : Nat → Int32) (p1 : Int32) (p2 : Int32) (p3 : Int32) : Option (Int32 × Int32 × (Nat → Int32) × (Nat → Int32) × (Nat → Int32)) :=
  obd (F_X9_xAt v3_1 v3_3 v3_5 p1 p2) (fun u_1 => obd (F_X9_yAt v3_2 v3_4 v3_5 p1 p2) (fun u_2 => if v0_7 = 1 then obd (F_X10_addDisc v1_3 v1_4 v1_0 v1_1 v1_2 u_1 u_2) (fun u_16 => some (u_16.1, u_16.2.1, u_16.2.2.1, u_16.2.2.2.1, u_16.2.2.2.2)) else if v0_7 = 2 then obd (F_X9_normalX v3_6 p1) (fun u_5 => obd (F_X9_normalY v3_7 p1) (fun u_6 => obd (F_X9_alongX v3_8 p1) (fun u_7 => lt (p3 * u_7) (fun y_8 => obd (F_X9_alongY v3_9 p1) (fun u_9 => lt (p3 * u_9) (fun y_10 => obd (F_X7_start v1_3 v1_4 v1_0 4) (fun u_11 => obd (F_X7_addCorner u_11.1 u_11.2.1 v1_1 v1_2 (u_1 + u_5) (u_2 + u_6)) (fun u_12 => obd (F_X7_addCorner u_11.1 u_12.1 u_12.2.1 u_12.2.2 ((u_1 + u_5) + y_8) ((u_2 + u_6) + y_10)) (fun u_13 => obd (F_X7_addCorner u_11.1 u_13.1 u_13.2.1 u_13.2.2 ((u_1 - u_5) + y_8) ((u_2 - u_6) + y_10)) (fun u_14 => obd (F_X7_addCorner u_11.1 u_14.1 u_14.2.1 u_14.2.2 (u_1 - u_5) (u_2 - u_6)) (fun u_15 => some (u_11.1, u_15.1, u_11.2.2, u_15.2.1, u_15.2.2)))))))))))) else some (v1_3, v1_4, v1_0, v1_1, v1_2)))
abbrev wd_X10_addCap (cI : ClassId) (a0 : Nat → Nat) (a1 : Nat → Nat) (a2 : Nat → Nat) (a3 : Nat → Nat) (v0_3 : Int32) (v0_4 : Int32) (v0_5 : Int32) (v0_6 : Int32) (v0_7 : Int32) (v1_3 : Int32) (v1_4 : Int32) (v1_5 : Int32) (v1_0 : Nat → Int32) (v1_1 : Nat → Int32) (v1_2 : Nat → Int32) (v3_10 : Int32) (v3_1 : Nat → Int32) (v3_2 : Nat → Int32) (v3_3 : Nat → Int32) (v3_4 : Nat → Int32) (v3_5 : Nat → Int32) (v3_6 : Nat → Int32) (v3_7 : Nat → Int32) (v3_8 : Nat → Int32) (v3_9 : Nat → Int32) : va_W := [(a0 0, .inr (9, [.ref (a3 0), .ref (a2 0), .ref (a1 0), .int v0_3, .int v0_4, .int v0_5, .int v0_6, .int v0_7])), (a1 0, .inr (6, [.ref (a1 1), .ref (a1 2), .ref (a1 3), .int v1_3, .int v1_4, .int v1_5])), (a1 1, .inl (cI, 2800, .inl v1_0)), (a1 2, .inl (cI, 11200, .inl v1_1)), (a1 3, .inl (cI, 11200, .inl v1_2)), (a3 0, .inr (8, [.ref (a3 1), .ref (a3 2), .ref (a3 3), .ref (a3 4), .ref (a3 5), .ref (a3 6), .ref (a3 7), .ref (a3 8), .ref (a3 9), .ref (a3 10), .int v3_10])), (a3 2, .inl (cI, 32, .inl v3_1)), (a3 3, .inl (cI, 32, .inl v3_2)), (a3 4, .inl (cI, 32, .inl v3_3)), (a3 5, .inl (cI, 32, .inl v3_4)), (a3 6, .inl (cI, 32, .inl v3_5)), (a3 7, .inl (cI, 32, .inl v3_6)), (a3 8, .inl (cI, 32, .inl v3_7)), (a3 9, .inl (cI, 32, .inl v3_8)), (a3 10, .inl (cI, 32, .inl v3_9))]
abbrev wz_X10_addCap : List Cond := .code yX10_addCap cX10_addCap 10 none :: wALL
abbrev rm_X10_addCap : Room := { frames := 2, cells := 0, slots := 0, locals := 53 }
abbrev Q_X10_addCap (dC : Nat → ClassId) (dI : Nat → Nat → Nat) (cI : ClassId) (a0 : Nat → Nat) (a1 : Nat → Nat) (a2 : Nat → Nat) (a3 : Nat → Nat) (v0_3 : Int32) (v0_4 : Int32) (v0_5 : Int32) (v0_6 : Int32) (v0_7 : Int32) (v1_5 : Int32) (v3_10 : Int32) (v3_1 : Nat → Int32) (v3_2 : Nat → Int32) (v3_3 : Nat → Int32) (v3_4 : Nat → Int32) (v3_5 : Nat → Int32) (v3_6 : Nat → Int32) (v3_7 : Nat → Int32) (v3_8 : Nat → Int32) (v3_9 : Nat → Int32) (u : (Int32 × Int32 × (Nat → Int32) × (Nat → Int32) × (Nat → Int32))) (A : Nat → Prop) : Array Value → State → Outcome → State → Prop := va_Qv (fun (_ : Unit) => True) (fun _ => q_at dC dI cI A (wd_X10_addCap cI a0 a1 a2 a3 v0_3 v0_4 v0_5 v0_6 v0_7 u.1 u.2.1 v1_5 u.2.2.1 u.2.2.2.1 u.2.2.2.2 v3_10 v3_1 v3_2 v3_3 v3_4 v3_5 v3_6 v3_7 v3_8 v3_9)) A
set_option maxHeartbeats 4000000 in
set_option maxRecDepth 100000 in
theorem c_X10_addCap (l : Launch) (dC : Nat → ClassId) (dI : Nat → Nat → Nat) (cI : ClassId) (sz : Nat) (a0 : Nat → Nat) (a1 : Nat → Nat) (a2 : Nat → Nat) (a3 : Nat → Nat) (v0_3 : Int32) (v0_4 : Int32) (v0_5 : Int32) (v0_6 : Int32) (v0_7 : Int32) (v1_3 : Int32) (v1_4 : Int32) (v1_5 : Int32) (v1_0 : Nat → Int32) (v1_1 : Nat → Int32) (v1_2 : Nat → Int32) (v3_10 : Int32) (v3_1 : Nat → Int32) (v3_2 : Nat → Int32) (v3_3 : Nat → Int32) (v3_4 : Nat → Int32) (v3_5 : Nat → Int32) (v3_6 : Nat → Int32) (v3_7 : Nat → Int32) (v3_8 : Nat → Int32) (v3_9 : Nat → Int32) (p1 : Int32) (p2 : Int32) (p3 : Int32) (u : (Int32 × Int32 × (Nat → Int32) × (Nat → Int32) × (Nat → Int32))) (hF : F_X10_addCap v0_7 v1_3 v1_4 v1_0 v1_1 v1_2 v3_1 v3_2 v3_3 v3_4 v3_5 v3_6 v3_7 v3_8 v3_9 p1 p2 p3 = some u) : Met l yX10_addCap wz_X10_addCap rm_X10_addCap (va_Pc [.ref (a0 0), .int p1, .int p2, .int p3] (q_pre dC dI cI (wd_X10_addCap cI a0 a1 a2 a3 v0_3 v0_4 v0_5 v0_6 v0_7 v1_3 v1_4 v1_5 v1_0 v1_1 v1_2 v3_10 v3_1 v3_2 v3_3 v3_4 v3_5 v3_6 v3_7 v3_8 v3_9) sz)) (Q_X10_addCap dC dI cI a0 a1 a2 a3 v0_3 v0_4 v0_5 v0_6 v0_7 v1_5 v3_10 v3_1 v3_2 v3_3 v3_4 v3_5 v3_6 v3_7 v3_8 v3_9 u (va_A (wd_X10_addCap cI a0 a1 a2 a3 v0_3 v0_4 v0_5 v0_6 v0_7 v1_3 v1_4 v1_5 v1_0 v1_1 v1_2 v3_10 v3_1 v3_2 v3_3 v3_4 v3_5 v3_6 v3_7 v3_8 v3_9) sz)) 0 0 (va_A (wd_X10_addCap cI a0 a1 a2 a3 v0_3 v0_4 v0_5 v0_6 v0_7 v1_3 v1_4 v1_5 v1_0 v1_1 v1_2 v3_10 v3_1 v3_2 v3_3 v3_4 v3_5 v3_6 v3_7 v3_8 v3_9) sz) := by
  refine Met.ofW (cc := cX10_addCap) (maxL := 10) (ret := none) (by decide) rfl ?_
  intro p e s m args below meth c s₁ B hml hv
  obtain ⟨rfl, hsz, hP, hK, hD0⟩ := hv
  have hx := B.exec
  have hb := B.bytes
  have hr := B.returns
  have hts := atoms_spec (ws := wz_X10_addCap) B.pre
  have hta := wz_tl hts
  have hown : s.vm.findClass RX10 = some m.cls := findClass_of_methodNamed B.named
  have hlocks := B.notSynchronized
  subst hsz
  have hD := hD0.self (sz := s.heap.size)
  generalize hAe : va_A (wd_X10_addCap cI a0 a1 a2 a3 v0_3 v0_4 v0_5 v0_6 v0_7 v1_3 v1_4 v1_5 v1_0 v1_1 v1_2 v3_10 v3_1 v3_2 v3_3 v3_4 v3_5 v3_6 v3_7 v3_8 v3_9) s.heap.size = A at hD ⊢
  have hA : ∀ q : Nat, s.heap.size ≤ q → A q := fun q h => by rw [← hAe]; exact Or.inr h
  have hS : va_S A s.heap s.heap [] := va_S.rf
  have hP : va_P (dC, dI) vwCl (wd_X10_addCap cI a0 a1 a2 a3 v0_3 v0_4 v0_5 v0_6 v0_7 v1_3 v1_4 v1_5 v1_0 v1_1 v1_2 v3_10 v3_1 v3_2 v3_3 v3_4 v3_5 v3_6 v3_7 v3_8 v3_9) s.heap := hP
  have hl := lv_entry ([.ref (a0 0), .int p1, .int p2, .int p3]) (n := 10) (Nat.le_of_ble_eq_true rfl)
  rw [lg_entry_eq]
  generalize (lg_sl ([.ref (a0 0), .int p1, .int p2, .int p3]) ++ List.replicate (10 - (lg_sl ([.ref (a0 0), .int p1, .int p2, .int p3])).length) Slot.unset).toArray = ls at hl ⊢
  have hl : lv_has ls 10 [(0, .ref (a0 0)), (1, .int p1), (2, .int p2), (3, .int p3)] := hl
  obtain ⟨H, hHe⟩ : ∃ H, H = s.heap := ⟨_, rfl⟩
  have hS : va_S A s.heap H [] := by rw [hHe]; exact hS
  have hP : va_P (dC, dI) vwCl (wd_X10_addCap cI a0 a1 a2 a3 v0_3 v0_4 v0_5 v0_6 v0_7 v1_3 v1_4 v1_5 v1_0 v1_1 v1_2 v3_10 v3_1 v3_2 v3_3 v3_4 v3_5 v3_6 v3_7 v3_8 v3_9) H := by rw [hHe]; exact hP
  rw [← hHe]
  unfold F_X10_addCap at hF
  refine lv_aload_n hx hb dX10_addCap_0 rfl (lv_at hl 0 rfl) ?_
  refine va_get (D := (dC, dI)) (ci := 9) (v := .ref (a3 0)) (C := RX10) (T := TX10) (N := 8) hx hb hta uw_X10 hown hK hP 0 rfl rfl 0 (by decide) (hta _ mA53) (fun _ h9 => h9) rfl dX10_addCap_1 ?_
  refine lv_iload_n hx hb dX10_addCap_4 rfl (lv_at hl 1 rfl) ?_
  refine lv_iload_n hx hb dX10_addCap_5 rfl (lv_at hl 2 rfl) ?_
  obtain ⟨u_1, hu_1, hF⟩ := obd_some hF
  have hPc := hP.sub (ws' := (wd_X9_xAt cI a3 v3_10 v3_1 v3_3 v3_5)) [5, 6, 8, 10] rfl
  have hDc := hD.sub (ws' := (wd_X9_xAt cI a3 v3_10 v3_1 v3_3 v3_5)) [5, 6, 8, 10] rfl rfl
  refine q_calli (wc := (wd_X9_xAt cI a3 v3_10 v3_1 v3_3 v3_5)) (w1 := (wd_X9_xAt cI a3 v3_10 v3_1 v3_3 v3_5)) (ws' := (wd_X10_addCap cI a0 a1 a2 a3 v0_3 v0_4 v0_5 v0_6 v0_7 v1_3 v1_4 v1_5 v1_0 v1_1 v1_2 v3_10 v3_1 v3_2 v3_3 v3_4 v3_5 v3_6 v3_7 v3_8 v3_9)) hP hD hS hA [5, 6, 8, 10] [0, 1, 2, 3, 4, 7, 9, 11, 12, 13, 14] [0, 1, 2, 3, 4, 11, 12, 5, 13, 6, 14, 7, 8, 9, 10] rfl rfl rfl (by decide) rfl rfl (va_runV (As := [.int p1, .int p2]) (rest := []) ⟨hx, hb, hml, hown, hta⟩ (c_X9_xAt l dC dI cI H.size a3 v3_10 v3_1 v3_3 v3_5 p1 p2 u_1 hu_1) (cwV 2 hta (ga_V mA519 mA340 mA341 mA52 mA342) rfl rfl rfl (by decide +kernel) ⟨Nat.le_of_ble_eq_true rfl, Nat.le_of_ble_eq_true rfl⟩) ⟨q_fb, va_recv hK hP (ci := 8) (q0 := 5) rfl rfl, q_ps hPc hK hDc⟩ rfl rfl hl.1 rfl (lv_room (Nat.le_of_ble_eq_true rfl)) dX10_addCap_6 ⟨Nat.zero_le _, Nat.zero_le _⟩) (fun H locs hP hD hS => ?_)
  refine lv_istore (lv' := [(4, .int u_1), (0, .ref (a0 0)), (1, .int p1), (2, .int p2), (3, .int p3)]) hx hb dX10_addCap_9 hl (by decide) rfl (fun ls hl => ?_)
  refine lv_aload_n hx hb dX10_addCap_11 rfl (lv_at hl 1 rfl) ?_
  refine va_get (D := (dC, dI)) (ci := 9) (v := .ref (a3 0)) (C := RX10) (T := TX10) (N := 8) hx hb hta uw_X10 hown hK hP 0 rfl rfl 0 (by decide) (hta _ mA53) (fun _ h9 => h9) rfl dX10_addCap_12 ?_
  refine lv_iload_n hx hb dX10_addCap_15 rfl (lv_at hl 2 rfl) ?_
  refine lv_iload_n hx hb dX10_addCap_16 rfl (lv_at hl 3 rfl) ?_
  obtain ⟨u_2, hu_2, hF⟩ := obd_some hF
  have hPc := hP.sub (ws' := (wd_X9_yAt cI a3 v3_10 v3_2 v3_4 v3_5)) [5, 7, 9, 10] rfl
  have hDc := hD.sub (ws' := (wd_X9_yAt cI a3 v3_10 v3_2 v3_4 v3_5)) [5, 7, 9, 10] rfl rfl
  refine q_calli (wc := (wd_X9_yAt cI a3 v3_10 v3_2 v3_4 v3_5)) (w1 := (wd_X9_yAt cI a3 v3_10 v3_2 v3_4 v3_5)) (ws' := (wd_X10_addCap cI a0 a1 a2 a3 v0_3 v0_4 v0_5 v0_6 v0_7 v1_3 v1_4 v1_5 v1_0 v1_1 v1_2 v3_10 v3_1 v3_2 v3_3 v3_4 v3_5 v3_6 v3_7 v3_8 v3_9)) hP hD hS hA [5, 7, 9, 10] [0, 1, 2, 3, 4, 6, 8, 11, 12, 13, 14] [0, 1, 2, 3, 4, 11, 5, 12, 6, 13, 14, 7, 8, 9, 10] rfl rfl rfl (by decide) rfl rfl (va_runV (As := [.int p1, .int p2]) (rest := []) ⟨hx, hb, hml, hown, hta⟩ (c_X9_yAt l dC dI cI H.size a3 v3_10 v3_2 v3_4 v3_5 p1 p2 u_2 hu_2) (cwV 2 hta (ga_V mA520 mA335 mA336 mA52 mA337) rfl rfl rfl (by decide +kernel) ⟨Nat.le_of_ble_eq_true rfl, Nat.le_of_ble_eq_true rfl⟩) ⟨q_fb, va_recv hK hP (ci := 8) (q0 := 5) rfl rfl, q_ps hPc hK hDc⟩ rfl rfl hl.1 rfl (lv_room (Nat.le_of_ble_eq_true rfl)) dX10_addCap_17 ⟨Nat.zero_le _, Nat.zero_le _⟩) (fun H locs hP hD hS => ?_)
  refine lv_istore (lv' := [(5, .int u_2), (4, .int u_1), (0, .ref (a0 0)), (1, .int p1), (2, .int p2), (3, .int p3)]) hx hb dX10_addCap_20 hl (by decide) rfl (fun ls hl => ?_)
  refine lv_aload_n hx hb dX10_addCap_22 rfl (lv_at hl 2 rfl) ?_
  refine va_get (D := (dC, dI)) (ci := 9) (v := .int v0_7) (C := RX10) (T := TX10) (N := 8) hx hb hta uw_X10 hown hK hP 0 rfl rfl 7 (by decide) (hta _ mA468) (fun _ h9 => h9) rfl dX10_addCap_23 ?_
  refine lv_iconst (v := 1) hx hb dX10_addCap_26 (by decide) ?_
  refine lv_icmp_ne (tgt := 41) hx hb dX10_addCap_27 (by decide) (fun c_3 => ?_) (fun c_3 => ?_)
  · have hF := it_f hF c_3
    refine lv_aload_n hx hb dX10_addCap_41 rfl (lv_at hl 2 rfl) ?_
    refine va_get (D := (dC, dI)) (ci := 9) (v := .int v0_7) (C := RX10) (T := TX10) (N := 8) hx hb hta uw_X10 hown hK hP 0 rfl rfl 7 (by decide) (hta _ mA468) (fun _ h9 => h9) rfl dX10_addCap_42 ?_
    refine lv_iconst (v := 2) hx hb dX10_addCap_45 (by decide) ?_
    refine lv_icmp_ne (tgt := 181) hx hb dX10_addCap_46 (by decide) (fun c_4 => ?_) (fun c_4 => ?_)
    · have hF := it_f hF c_4
      obtain rfl := Option.some.inj hF
      exact W.vret hx hb hr (fun t ht hW => ⟨⟨(), rfl, trivial, by rw [ht]; exact hP, va_K.moved hW.alike hK, hD⟩, hS.F ht⟩) hS.2.2 dX10_addCap_181
    · have hF := it_t hF c_4
      refine lv_aload_n hx hb dX10_addCap_49 rfl (lv_at hl 2 rfl) ?_
      refine va_get (D := (dC, dI)) (ci := 9) (v := .ref (a3 0)) (C := RX10) (T := TX10) (N := 8) hx hb hta uw_X10 hown hK hP 0 rfl rfl 0 (by decide) (hta _ mA53) (fun _ h9 => h9) rfl dX10_addCap_50 ?_
      refine lv_iload_n hx hb dX10_addCap_53 rfl (lv_at hl 3 rfl) ?_
      obtain ⟨u_5, hu_5, hF⟩ := obd_some hF
      have hPc := hP.sub (ws' := (wd_X9_normalX cI a3 v3_10 v3_6)) [5, 11] rfl
      have hDc := hD.sub (ws' := (wd_X9_normalX cI a3 v3_10 v3_6)) [5, 11] rfl rfl
      refine q_calli (wc := (wd_X9_normalX cI a3 v3_10 v3_6)) (w1 := (wd_X9_normalX cI a3 v3_10 v3_6)) (ws' := (wd_X10_addCap cI a0 a1 a2 a3 v0_3 v0_4 v0_5 v0_6 v0_7 v1_3 v1_4 v1_5 v1_0 v1_1 v1_2 v3_10 v3_1 v3_2 v3_3 v3_4 v3_5 v3_6 v3_7 v3_8 v3_9)) hP hD hS hA [5, 11] [0, 1, 2, 3, 4, 6, 7, 8, 9, 10, 12, 13, 14] [0, 1, 2, 3, 4, 13, 5, 6, 7, 8, 9, 14, 10, 11, 12] rfl rfl rfl (by decide) rfl rfl (va_runV (As := [.int p1]) (rest := []) ⟨hx, hb, hml, hown, hta⟩ (c_X9_normalX l dC dI cI H.size a3 v3_10 v3_6 p1 u_5 hu_5) (cwV 1 hta (ga_V mA522 mA523 mA524 mA52 mA525) rfl rfl rfl (by decide +kernel) ⟨Nat.le_of_ble_eq_true rfl, Nat.le_of_ble_eq_true rfl⟩) ⟨q_fb, va_recv hK hP (ci := 8) (q0 := 5) rfl rfl, q_ps hPc hK hDc⟩ rfl rfl hl.1 rfl (lv_room (Nat.le_of_ble_eq_true rfl)) dX10_addCap_54 ⟨Nat.zero_le _, Nat.zero_le _⟩) (fun H locs hP hD hS => ?_)
      refine lv_istore (lv' := [(6, .int u_5), (5, .int u_2), (4, .int u_1), (0, .ref (a0 0)), (1, .int p1), (2, .int p2), (3, .int p3)]) hx hb dX10_addCap_57 hl (by decide) rfl (fun ls hl => ?_)
      refine lv_aload_n hx hb dX10_addCap_59 rfl (lv_at hl 3 rfl) ?_
      refine va_get (D := (dC, dI)) (ci := 9) (v := .ref (a3 0)) (C := RX10) (T := TX10) (N := 8) hx hb hta uw_X10 hown hK hP 0 rfl rfl 0 (by decide) (hta _ mA53) (fun _ h9 => h9) rfl dX10_addCap_60 ?_
      refine lv_iload_n hx hb dX10_addCap_63 rfl (lv_at hl 4 rfl) ?_
      obtain ⟨u_6, hu_6, hF⟩ := obd_some hF
      have hPc := hP.sub (ws' := (wd_X9_normalY cI a3 v3_10 v3_7)) [5, 12] rfl
      have hDc := hD.sub (ws' := (wd_X9_normalY cI a3 v3_10 v3_7)) [5, 12] rfl rfl
      refine q_calli (wc := (wd_X9_normalY cI a3 v3_10 v3_7)) (w1 := (wd_X9_normalY cI a3 v3_10 v3_7)) (ws' := (wd_X10_addCap cI a0 a1 a2 a3 v0_3 v0_4 v0_5 v0_6 v0_7 v1_3 v1_4 v1_5 v1_0 v1_1 v1_2 v3_10 v3_1 v3_2 v3_3 v3_4 v3_5 v3_6 v3_7 v3_8 v3_9)) hP hD hS hA [5, 12] [0, 1, 2, 3, 4, 6, 7, 8, 9, 10, 11, 13, 14] [0, 1, 2, 3, 4, 13, 5, 6, 7, 8, 9, 10, 14, 11, 12] rfl rfl rfl (by decide) rfl rfl (va_runV (As := [.int p1]) (rest := []) ⟨hx, hb, hml, hown, hta⟩ (c_X9_normalY l dC dI cI H.size a3 v3_10 v3_7 p1 u_6 hu_6) (cwV 1 hta (ga_V mA526 mA527 mA528 mA52 mA529) rfl rfl rfl (by decide +kernel) ⟨Nat.le_of_ble_eq_true rfl, Nat.le_of_ble_eq_true rfl⟩) ⟨q_fb, va_recv hK hP (ci := 8) (q0 := 5) rfl rfl, q_ps hPc hK hDc⟩ rfl rfl hl.1 rfl (lv_room (Nat.le_of_ble_eq_true rfl)) dX10_addCap_64 ⟨Nat.zero_le _, Nat.zero_le _⟩) (fun H locs hP hD hS => ?_)
      refine lv_istore (lv' := [(7, .int u_6), (6, .int u_5), (5, .int u_2), (4, .int u_1), (0, .ref (a0 0)), (1, .int p1), (2, .int p2), (3, .int p3)]) hx hb dX10_addCap_67 hl (by decide) rfl (fun ls hl => ?_)
      refine lv_iload_n hx hb dX10_addCap_69 rfl (lv_at hl 7 rfl) ?_
      refine lv_aload_n hx hb dX10_addCap_70 rfl (lv_at hl 4 rfl) ?_
      refine va_get (D := (dC, dI)) (ci := 9) (v := .ref (a3 0)) (C := RX10) (T := TX10) (N := 8) hx hb hta uw_X10 hown hK hP 0 rfl rfl 0 (by decide) (hta _ mA53) (fun _ h9 => h9) rfl dX10_addCap_71 ?_
      refine lv_iload_n hx hb dX10_addCap_74 rfl (lv_at hl 5 rfl) ?_
      obtain ⟨u_7, hu_7, hF⟩ := obd_some hF
      have hPc := hP.sub (ws' := (wd_X9_alongX cI a3 v3_10 v3_8)) [5, 13] rfl
      have hDc := hD.sub (ws' := (wd_X9_alongX cI a3 v3_10 v3_8)) [5, 13] rfl rfl
      refine q_calli (wc := (wd_X9_alongX cI a3 v3_10 v3_8)) (w1 := (wd_X9_alongX cI a3 v3_10 v3_8)) (ws' := (wd_X10_addCap cI a0 a1 a2 a3 v0_3 v0_4 v0_5 v0_6 v0_7 v1_3 v1_4 v1_5 v1_0 v1_1 v1_2 v3_10 v3_1 v3_2 v3_3 v3_4 v3_5 v3_6 v3_7 v3_8 v3_9)) hP hD hS hA [5, 13] [0, 1, 2, 3, 4, 6, 7, 8, 9, 10, 11, 12, 14] [0, 1, 2, 3, 4, 13, 5, 6, 7, 8, 9, 10, 11, 14, 12] rfl rfl rfl (by decide) rfl rfl (va_runV (As := [.int p1]) (rest := [.int p3]) ⟨hx, hb, hml, hown, hta⟩ (c_X9_alongX l dC dI cI H.size a3 v3_10 v3_8 p1 u_7 hu_7) (cwV 1 hta (ga_V mA556 mA557 mA558 mA52 mA559) rfl rfl rfl (by decide +kernel) ⟨Nat.le_of_ble_eq_true rfl, Nat.le_of_ble_eq_true rfl⟩) ⟨q_fb, va_recv hK hP (ci := 8) (q0 := 5) rfl rfl, q_ps hPc hK hDc⟩ rfl rfl hl.1 rfl (lv_room (Nat.le_of_ble_eq_true rfl)) dX10_addCap_75 ⟨Nat.zero_le _, Nat.zero_le _⟩) (fun H locs hP hD hS => ?_)
      refine lv_imul hx hb dX10_addCap_78 ?_
      obtain ⟨y_8, ey_8, hF⟩ := lt_some hF
      refine lv_eqi ey_8 ?_
      refine lv_istore (lv' := [(8, .int y_8), (7, .int u_6), (6, .int u_5), (5, .int u_2), (4, .int u_1), (0, .ref (a0 0)), (1, .int p1), (2, .int p2), (3, .int p3)]) hx hb dX10_addCap_79 hl (by decide) rfl (fun ls hl => ?_)
      refine lv_iload_n hx hb dX10_addCap_81 rfl (lv_at hl 8 rfl) ?_
      refine lv_aload_n hx hb dX10_addCap_82 rfl (lv_at hl 5 rfl) ?_
      refine va_get (D := (dC, dI)) (ci := 9) (v := .ref (a3 0)) (C := RX10) (T := TX10) (N := 8) hx hb hta uw_X10 hown hK hP 0 rfl rfl 0 (by decide) (hta _ mA53) (fun _ h9 => h9) rfl dX10_addCap_83 ?_
      refine lv_iload_n hx hb dX10_addCap_86 rfl (lv_at hl 6 rfl) ?_
      obtain ⟨u_9, hu_9, hF⟩ := obd_some hF
      have hPc := hP.sub (ws' := (wd_X9_alongY cI a3 v3_10 v3_9)) [5, 14] rfl
      have hDc := hD.sub (ws' := (wd_X9_alongY cI a3 v3_10 v3_9)) [5, 14] rfl rfl
      refine q_calli (wc := (wd_X9_alongY cI a3 v3_10 v3_9)) (w1 := (wd_X9_alongY cI a3 v3_10 v3_9)) (ws' := (wd_X10_addCap cI a0 a1 a2 a3 v0_3 v0_4 v0_5 v0_6 v0_7 v1_3 v1_4 v1_5 v1_0 v1_1 v1_2 v3_10 v3_1 v3_2 v3_3 v3_4 v3_5 v3_6 v3_7 v3_8 v3_9)) hP hD hS hA [5, 14] [0, 1, 2, 3, 4, 6, 7, 8, 9, 10, 11, 12, 13] [0, 1, 2, 3, 4, 13, 5, 6, 7, 8, 9, 10, 11, 12, 14] rfl rfl rfl (by decide) rfl rfl (va_runV (As := [.int p1]) (rest := [.int p3]) ⟨hx, hb, hml, hown, hta⟩ (c_X9_alongY l dC dI cI H.size a3 v3_10 v3_9 p1 u_9 hu_9) (cwV 1 hta (ga_V mA560 mA561 mA562 mA52 mA563) rfl rfl rfl (by decide +kernel) ⟨Nat.le_of_ble_eq_true rfl, Nat.le_of_ble_eq_true rfl⟩) ⟨q_fb, va_recv hK hP (ci := 8) (q0 := 5) rfl rfl, q_ps hPc hK hDc⟩ rfl rfl hl.1 rfl (lv_room (Nat.le_of_ble_eq_true rfl)) dX10_addCap_87 ⟨Nat.zero_le _, Nat.zero_le _⟩) (fun H locs hP hD hS => ?_)
      refine lv_imul hx hb dX10_addCap_90 ?_
      obtain ⟨y_10, ey_10, hF⟩ := lt_some hF
      refine lv_eqi ey_10 ?_
      refine lv_istore (lv' := [(9, .int y_10), (8, .int y_8), (7, .int u_6), (6, .int u_5), (5, .int u_2), (4, .int u_1), (0, .ref (a0 0)), (1, .int p1), (2, .int p2), (3, .int p3)]) hx hb dX10_addCap_91 hl (by decide) rfl (fun ls hl => ?_)
      refine lv_aload_n hx hb dX10_addCap_93 rfl (lv_at hl 6 rfl) ?_
      refine va_get (D := (dC, dI)) (ci := 9) (v := .ref (a1 0)) (C := RX10) (T := TX10) (N := 8) hx hb hta uw_X10 hown hK hP 0 rfl rfl 2 (by decide) (hta _ mA61) (fun _ h9 => h9) rfl dX10_addCap_94 ?_
      refine lv_iconst (v := 4) hx hb dX10_addCap_97 (by decide) ?_
      obtain ⟨u_11, hu_11, hF⟩ := obd_some hF
      have hPc := hP.sub (ws' := (wd_X7_start cI a1 v1_3 v1_4 v1_5 v1_0)) [1, 2] rfl
      have hDc := hD.sub (ws' := (wd_X7_start cI a1 v1_3 v1_4 v1_5 v1_0)) [1, 2] rfl rfl
      refine q_callv (wc := (wd_X7_start cI a1 v1_3 v1_4 v1_5 v1_0)) (w1 := (wd_X7_start cI a1 u_11.1 u_11.2.1 v1_5 u_11.2.2)) (ws' := (wd_X10_addCap cI a0 a1 a2 a3 v0_3 v0_4 v0_5 v0_6 v0_7 u_11.1 u_11.2.1 v1_5 u_11.2.2 v1_1 v1_2 v3_10 v3_1 v3_2 v3_3 v3_4 v3_5 v3_6 v3_7 v3_8 v3_9)) hP hD hS hA [1, 2] [0, 3, 4, 5, 6, 7, 8, 9, 10, 11, 12, 13, 14] [0, 13, 14, 1, 2, 3, 4, 5, 6, 7, 8, 9, 10, 11, 12] rfl rfl rfl (by decide) rfl rfl (va_runV (As := [.int 4]) (rest := []) ⟨hx, hb, hml, hown, hta⟩ (c_X7_start l dC dI cI H.size a1 v1_3 v1_4 v1_5 v1_0 4 u_11 hu_11) (cwV 1 hta (ga_V mA489 mA490 mA491 mA60 mA492) rfl rfl rfl (by decide +kernel) ⟨Nat.le_of_ble_eq_true rfl, Nat.le_of_ble_eq_true rfl⟩) ⟨q_fb, va_recv hK hP (ci := 6) (q0 := 1) rfl rfl, q_ps hPc hK hDc⟩ rfl rfl hl.1 rfl (lv_room (Nat.le_of_ble_eq_true rfl)) dX10_addCap_98 ⟨Nat.zero_le _, Nat.zero_le _⟩) (fun H locs hP hD hS => ?_)
      refine lv_aload_n hx hb dX10_addCap_101 rfl (lv_at hl 6 rfl) ?_
      refine va_get (D := (dC, dI)) (ci := 9) (v := .ref (a1 0)) (C := RX10) (T := TX10) (N := 8) hx hb hta uw_X10 hown hK hP 0 rfl rfl 2 (by decide) (hta _ mA61) (fun _ h9 => h9) rfl dX10_addCap_102 ?_
      refine lv_iload hx hb dX10_addCap_105 (lv_at hl 5 rfl) ?_
      refine lv_iload hx hb dX10_addCap_107 (lv_at hl 3 rfl) ?_
      refine lv_iadd hx hb dX10_addCap_109 ?_
      refine lv_iload hx hb dX10_addCap_110 (lv_at hl 4 rfl) ?_
      refine lv_iload hx hb dX10_addCap_112 (lv_at hl 2 rfl) ?_
      refine lv_iadd hx hb dX10_addCap_114 ?_
      obtain ⟨u_12, hu_12, hF⟩ := obd_some hF
      have hPc := hP.sub (ws' := (wd_X7_addCorner cI a1 u_11.1 u_11.2.1 v1_5 v1_1 v1_2)) [1, 3, 4] rfl
      have hDc := hD.sub (ws' := (wd_X7_addCorner cI a1 u_11.1 u_11.2.1 v1_5 v1_1 v1_2)) [1, 3, 4] rfl rfl
      refine q_callv (wc := (wd_X7_addCorner cI a1 u_11.1 u_11.2.1 v1_5 v1_1 v1_2)) (w1 := (wd_X7_addCorner cI a1 u_11.1 u_12.1 v1_5 u_12.2.1 u_12.2.2)) (ws' := (wd_X10_addCap cI a0 a1 a2 a3 v0_3 v0_4 v0_5 v0_6 v0_7 u_11.1 u_12.1 v1_5 u_11.2.2 u_12.2.1 u_12.2.2 v3_10 v3_1 v3_2 v3_3 v3_4 v3_5 v3_6 v3_7 v3_8 v3_9)) hP hD hS hA [1, 3, 4] [0, 2, 5, 6, 7, 8, 9, 10, 11, 12, 13, 14] [0, 12, 1, 13, 14, 2, 3, 4, 5, 6, 7, 8, 9, 10, 11] rfl rfl rfl (by decide) rfl rfl (va_runV (As := [.int (u_1 + u_5), .int (u_2 + u_6)]) (rest := []) ⟨hx, hb, hml, hown, hta⟩ (c_X7_addCorner l dC dI cI H.size a1 u_11.1 u_11.2.1 v1_5 v1_1 v1_2 (u_1 + u_5) (u_2 + u_6) u_12 hu_12) (cwV 2 hta (ga_V mA494 mA495 mA496 mA60 mA497) rfl rfl rfl (by decide +kernel) ⟨Nat.le_of_ble_eq_true rfl, Nat.le_of_ble_eq_true rfl⟩) ⟨q_fb, va_recv hK hP (ci := 6) (q0 := 1) rfl rfl, q_ps hPc hK hDc⟩ rfl rfl hl.1 rfl (lv_room (Nat.le_of_ble_eq_true rfl)) dX10_addCap_115 ⟨Nat.zero_le _, Nat.zero_le _⟩) (fun H locs hP hD hS => ?_)
      refine lv_aload_n hx hb dX10_addCap_118 rfl (lv_at hl 6 rfl) ?_
      refine va_get (D := (dC, dI)) (ci := 9) (v := .ref (a1 0)) (C := RX10) (T := TX10) (N := 8) hx hb hta uw_X10 hown hK hP 0 rfl rfl 2 (by decide) (hta _ mA61) (fun _ h9 => h9) rfl dX10_addCap_119 ?_
      refine lv_iload hx hb dX10_addCap_122 (lv_at hl 5 rfl) ?_
      refine lv_iload hx hb dX10_addCap_124 (lv_at hl 3 rfl) ?_
      refine lv_iadd hx hb dX10_addCap_126 ?_
      refine lv_iload hx hb dX10_addCap_127 (lv_at hl 1 rfl) ?_
      refine lv_iadd hx hb dX10_addCap_129 ?_
      refine lv_iload hx hb dX10_addCap_130 (lv_at hl 4 rfl) ?_
      refine lv_iload hx hb dX10_addCap_132 (lv_at hl 2 rfl) ?_
      refine lv_iadd hx hb dX10_addCap_134 ?_
      refine lv_iload hx hb dX10_addCap_135 (lv_at hl 0 rfl) ?_
      refine lv_iadd hx hb dX10_addCap_137 ?_
      obtain ⟨u_13, hu_13, hF⟩ := obd_some hF
      have hPc := hP.sub (ws' := (wd_X7_addCorner cI a1 u_11.1 u_12.1 v1_5 u_12.2.1 u_12.2.2)) [1, 3, 4] rfl
      have hDc := hD.sub (ws' := (wd_X7_addCorner cI a1 u_11.1 u_12.1 v1_5 u_12.2.1 u_12.2.2)) [1, 3, 4] rfl rfl
      refine q_callv (wc := (wd_X7_addCorner cI a1 u_11.1 u_12.1 v1_5 u_12.2.1 u_12.2.2)) (w1 := (wd_X7_addCorner cI a1 u_11.1 u_13.1 v1_5 u_13.2.1 u_13.2.2)) (ws' := (wd_X10_addCap cI a0 a1 a2 a3 v0_3 v0_4 v0_5 v0_6 v0_7 u_11.1 u_13.1 v1_5 u_11.2.2 u_13.2.1 u_13.2.2 v3_10 v3_1 v3_2 v3_3 v3_4 v3_5 v3_6 v3_7 v3_8 v3_9)) hP hD hS hA [1, 3, 4] [0, 2, 5, 6, 7, 8, 9, 10, 11, 12, 13, 14] [0, 12, 1, 13, 14, 2, 3, 4, 5, 6, 7, 8, 9, 10, 11] rfl rfl rfl (by decide) rfl rfl (va_runV (As := [.int ((u_1 + u_5) + y_8), .int ((u_2 + u_6) + y_10)]) (rest := []) ⟨hx, hb, hml, hown, hta⟩ (c_X7_addCorner l dC dI cI H.size a1 u_11.1 u_12.1 v1_5 u_12.2.1 u_12.2.2 ((u_1 + u_5) + y_8) ((u_2 + u_6) + y_10) u_13 hu_13) (cwV 2 hta (ga_V mA494 mA495 mA496 mA60 mA497) rfl rfl rfl (by decide +kernel) ⟨Nat.le_of_ble_eq_true rfl, Nat.le_of_ble_eq_true rfl⟩) ⟨q_fb, va_recv hK hP (ci := 6) (q0 := 1) rfl rfl, q_ps hPc hK hDc⟩ rfl rfl hl.1 rfl (lv_room (Nat.le_of_ble_eq_true rfl)) dX10_addCap_138 ⟨Nat.zero_le _, Nat.zero_le _⟩) (fun H locs hP hD hS => ?_)
      refine lv_aload_n hx hb dX10_addCap_141 rfl (lv_at hl 6 rfl) ?_
      refine va_get (D := (dC, dI)) (ci := 9) (v := .ref (a1 0)) (C := RX10) (T := TX10) (N := 8) hx hb hta uw_X10 hown hK hP 0 rfl rfl 2 (by decide) (hta _ mA61) (fun _ h9 => h9) rfl dX10_addCap_142 ?_
      refine lv_iload hx hb dX10_addCap_145 (lv_at hl 5 rfl) ?_
      refine lv_iload hx hb dX10_addCap_147 (lv_at hl 3 rfl) ?_
      refine lv_isub hx hb dX10_addCap_149 ?_
      refine lv_iload hx hb dX10_addCap_150 (lv_at hl 1 rfl) ?_
      refine lv_iadd hx hb dX10_addCap_152 ?_
      refine lv_iload hx hb dX10_addCap_153 (lv_at hl 4 rfl) ?_
      refine lv_iload hx hb dX10_addCap_155 (lv_at hl 2 rfl) ?_
      refine lv_isub hx hb dX10_addCap_157 ?_
      refine lv_iload hx hb dX10_addCap_158 (lv_at hl 0 rfl) ?_
      refine lv_iadd hx hb dX10_addCap_160 ?_
      obtain ⟨u_14, hu_14, hF⟩ := obd_some hF
      have hPc := hP.sub (ws' := (wd_X7_addCorner cI a1 u_11.1 u_13.1 v1_5 u_13.2.1 u_13.2.2)) [1, 3, 4] rfl
      have hDc := hD.sub (ws' := (wd_X7_addCorner cI a1 u_11.1 u_13.1 v1_5 u_13.2.1 u_13.2.2)) [1, 3, 4] rfl rfl
      refine q_callv (wc := (wd_X7_addCorner cI a1 u_11.1 u_13.1 v1_5 u_13.2.1 u_13.2.2)) (w1 := (wd_X7_addCorner cI a1 u_11.1 u_14.1 v1_5 u_14.2.1 u_14.2.2)) (ws' := (wd_X10_addCap cI a0 a1 a2 a3 v0_3 v0_4 v0_5 v0_6 v0_7 u_11.1 u_14.1 v1_5 u_11.2.2 u_14.2.1 u_14.2.2 v3_10 v3_1 v3_2 v3_3 v3_4 v3_5 v3_6 v3_7 v3_8 v3_9)) hP hD hS hA [1, 3, 4] [0, 2, 5, 6, 7, 8, 9, 10, 11, 12, 13, 14] [0, 12, 1, 13, 14, 2, 3, 4, 5, 6, 7, 8, 9, 10, 11] rfl rfl rfl (by decide) rfl rfl (va_runV (As := [.int ((u_1 - u_5) + y_8), .int ((u_2 - u_6) + y_10)]) (rest := []) ⟨hx, hb, hml, hown, hta⟩ (c_X7_addCorner l dC dI cI H.size a1 u_11.1 u_13.1 v1_5 u_13.2.1 u_13.2.2 ((u_1 - u_5) + y_8) ((u_2 - u_6) + y_10) u_14 hu_14) (cwV 2 hta (ga_V mA494 mA495 mA496 mA60 mA497) rfl rfl rfl (by decide +kernel) ⟨Nat.le_of_ble_eq_true rfl, Nat.le_of_ble_eq_true rfl⟩) ⟨q_fb, va_recv hK hP (ci := 6) (q0 := 1) rfl rfl, q_ps hPc hK hDc⟩ rfl rfl hl.1 rfl (lv_room (Nat.le_of_ble_eq_true rfl)) dX10_addCap_161 ⟨Nat.zero_le _, Nat.zero_le _⟩) (fun H locs hP hD hS => ?_)
      refine lv_aload_n hx hb dX10_addCap_164 rfl (lv_at hl 6 rfl) ?_
      refine va_get (D := (dC, dI)) (ci := 9) (v := .ref (a1 0)) (C := RX10) (T := TX10) (N := 8) hx hb hta uw_X10 hown hK hP 0 rfl rfl 2 (by decide) (hta _ mA61) (fun _ h9 => h9) rfl dX10_addCap_165 ?_
      refine lv_iload hx hb dX10_addCap_168 (lv_at hl 5 rfl) ?_
      refine lv_iload hx hb dX10_addCap_170 (lv_at hl 3 rfl) ?_
      refine lv_isub hx hb dX10_addCap_172 ?_
      refine lv_iload hx hb dX10_addCap_173 (lv_at hl 4 rfl) ?_
      refine lv_iload hx hb dX10_addCap_175 (lv_at hl 2 rfl) ?_
      refine lv_isub hx hb dX10_addCap_177 ?_
      obtain ⟨u_15, hu_15, hF⟩ := obd_some hF
      have hPc := hP.sub (ws' := (wd_X7_addCorner cI a1 u_11.1 u_14.1 v1_5 u_14.2.1 u_14.2.2)) [1, 3, 4] rfl
      have hDc := hD.sub (ws' := (wd_X7_addCorner cI a1 u_11.1 u_14.1 v1_5 u_14.2.1 u_14.2.2)) [1, 3, 4] rfl rfl
      refine q_callv (wc := (wd_X7_addCorner cI a1 u_11.1 u_14.1 v1_5 u_14.2.1 u_14.2.2)) (w1 := (wd_X7_addCorner cI a1 u_11.1 u_15.1 v1_5 u_15.2.1 u_15.2.2)) (ws' := (wd_X10_addCap cI a0 a1 a2 a3 v0_3 v0_4 v0_5 v0_6 v0_7 u_11.1 u_15.1 v1_5 u_11.2.2 u_15.2.1 u_15.2.2 v3_10 v3_1 v3_2 v3_3 v3_4 v3_5 v3_6 v3_7 v3_8 v3_9)) hP hD hS hA [1, 3, 4] [0, 2, 5, 6, 7, 8, 9, 10, 11, 12, 13, 14] [0, 12, 1, 13, 14, 2, 3, 4, 5, 6, 7, 8, 9, 10, 11] rfl rfl rfl (by decide) rfl rfl (va_runV (As := [.int (u_1 - u_5), .int (u_2 - u_6)]) (rest := []) ⟨hx, hb, hml, hown, hta⟩ (c_X7_addCorner l dC dI cI H.size a1 u_11.1 u_14.1 v1_5 u_14.2.1 u_14.2.2 (u_1 - u_5) (u_2 - u_6) u_15 hu_15) (cwV 2 hta (ga_V mA494 mA495 mA496 mA60 mA497) rfl rfl rfl (by decide +kernel) ⟨Nat.le_of_ble_eq_true rfl, Nat.le_of_ble_eq_true rfl⟩) ⟨q_fb, va_recv hK hP (ci := 6) (q0 := 1) rfl rfl, q_ps hPc hK hDc⟩ rfl rfl hl.1 rfl (lv_room (Nat.le_of_ble_eq_true rfl)) dX10_addCap_178 ⟨Nat.zero_le _, Nat.zero_le _⟩) (fun H locs hP hD hS => ?_)
      obtain rfl := Option.some.inj hF
      exact W.vret hx hb hr (fun t ht hW => ⟨⟨(), rfl, trivial, by rw [ht]; exact hP, va_K.moved hW.alike hK, hD⟩, hS.F ht⟩) hS.2.2 dX10_addCap_181
  · have hF := it_t hF c_3
    refine lv_aload_n hx hb dX10_addCap_30 rfl (lv_at hl 2 rfl) ?_
    refine lv_iload hx hb dX10_addCap_31 (lv_at hl 1 rfl) ?_
    refine lv_iload hx hb dX10_addCap_33 (lv_at hl 0 rfl) ?_
    obtain ⟨u_16, hu_16, hF⟩ := obd_some hF
    have hPc := hP.sub (ws' := (wd_X10_addDisc cI a0 a1 a2 a3 v0_3 v0_4 v0_5 v0_6 v0_7 v1_3 v1_4 v1_5 v1_0 v1_1 v1_2)) [0, 1, 2, 3, 4] rfl
    have hDc := hD.sub (ws' := (wd_X10_addDisc cI a0 a1 a2 a3 v0_3 v0_4 v0_5 v0_6 v0_7 v1_3 v1_4 v1_5 v1_0 v1_1 v1_2)) [0, 1, 2, 3, 4] rfl rfl
    refine q_callv (wc := (wd_X10_addDisc cI a0 a1 a2 a3 v0_3 v0_4 v0_5 v0_6 v0_7 v1_3 v1_4 v1_5 v1_0 v1_1 v1_2)) (w1 := (wd_X10_addDisc cI a0 a1 a2 a3 v0_3 v0_4 v0_5 v0_6 v0_7 u_16.1 u_16.2.1 v1_5 u_16.2.2.1 u_16.2.2.2.1 u_16.2.2.2.2)) (ws' := (wd_X10_addCap cI a0 a1 a2 a3 v0_3 v0_4 v0_5 v0_6 v0_7 u_16.1 u_16.2.1 v1_5 u_16.2.2.1 u_16.2.2.2.1 u_16.2.2.2.2 v3_10 v3_1 v3_2 v3_3 v3_4 v3_5 v3_6 v3_7 v3_8 v3_9)) hP hD hS hA [0, 1, 2, 3, 4] [5, 6, 7, 8, 9, 10, 11, 12, 13, 14] [10, 11, 12, 13, 14, 0, 1, 2, 3, 4, 5, 6, 7, 8, 9] rfl rfl rfl (by decide) rfl rfl (va_runV (As := [.int u_1, .int u_2]) (rest := []) ⟨hx, hb, hml, hown, hta⟩ (c_X10_addDisc l dC dI cI H.size a0 a1 a2 a3 v0_3 v0_4 v0_5 v0_6 v0_7 v1_3 v1_4 v1_5 v1_0 v1_1 v1_2 u_1 u_2 u_16 hu_16) (cwV 2 hta (ga_V mA485 mA486 mA487 mA23 mA488) rfl rfl rfl (by decide +kernel) ⟨Nat.le_of_ble_eq_true rfl, Nat.le_of_ble_eq_true rfl⟩) ⟨q_fb, va_recv hK hP (ci := 9) (q0 := 0) rfl rfl, q_ps hPc hK hDc⟩ rfl rfl hl.1 rfl (lv_room (Nat.le_of_ble_eq_true rfl)) dX10_addCap_35 ⟨Nat.zero_le _, Nat.zero_le _⟩) (fun H locs hP hD hS => ?_)
    refine lv_goto (tgt := 181) hx hb dX10_addCap_38 (by decide) ?_
    obtain rfl := Option.some.inj hF
    exact W.vret hx hb hr (fun t ht hW => ⟨⟨(), rfl, trivial, by rw [ht]; exact hP, va_K.moved hW.alike hK, hD⟩, hS.F ht⟩) hS.2.2 dX10_addCap_181
