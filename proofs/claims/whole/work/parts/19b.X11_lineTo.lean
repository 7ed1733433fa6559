-- StrokeOutliner.lineTo(II)I
def F_X11_lineTo_j57 (v2_0 : Nat → Int32) (v4_1 : Int32) (v4_0 : Nat → Int32) (v5_3 : Int32) (x1 : Int32) (x2 : Int32) (x3 : Int32) (t0 : Int32) : Option (Sum (Int32 × (Nat → Int32) × Int32 × (Nat → Int32) × Int32) (Nat × (Nat → Int32) × Int32 × (Nat → Int32) × Int32)) :=
  obx (F_X11_checkState t0) (fun x_2 => some (.inr (x_2, v2_0, v4_1, v4_0, v5_3))) (fun u_1 => obd (F_X11_saveState v2_0 v4_1 v4_0) (fun u_3 => obd (F_X1_addPoint v2_0 x1 x2) (fun u_4 => obd (F_X1_pointCount u_4 x3) (fun u_5 => some (.inl (u_5, u_4, u_3.1, u_3.2.1, u_3.2.2))))))
def F_X11_lineTo_j56 (v2_0 : Nat → Int32) (v4_1 : Int32) (v4_0 : Nat → Int32) (v5_3 : Int32) (x1 : Int32) (x2 : Int32) (x3 : Int32) : Option (Sum (Int32 × (Nat → Int32) × Int32 × (Nat → Int32) × Int32) (Nat × (Nat → Int32) × Int32 × (Nat → Int32) × Int32)) :=
  F_X11_lineTo_j57 v2_0 v4_1 v4_0 v5_3 x1 x2 x3 0
def F_X11_lineTo (v2_0 : Nat → Int32) (v4_1 : Int32) (v4_0 : Nat → Int32) (v5_3 : Int32) (p1 : Int32) (p2 : Int32) : Option (Sum (Int32 × (Nat → Int32) × Int32 × (Nat → Int32) × Int32) (Nat × (Nat → Int32) × Int32 × (Nat → Int32) × Int32)) :=
  obx (F_X11_checkRange p1 (-100) 100) (fun x_7 => some (.inr (x_7, v2_0, v4_1, v4_0, v5_3))) (fun u_6 => obx (F_X11_checkRange p2 (-100) 100) (fun x_9 => some (.inr (x_9, v2_0, v4_1, v4_0, v5_3))) (fun u_8 => obd (F_X1_lastSubpath v2_0) (fun u_10 => if u_10 < 0 then F_X11_lineTo_j56 v2_0 v4_1 v4_0 v5_3 p1 p2 u_10 else obd (F_X1_isClosed v2_0 u_10) (fun u_12 => if u_12 = 0 then obd (F_X1_pointCount v2_0 u_10) (fun u_14 => if 8 ≤ u_14 then F_X11_lineTo_j56 v2_0 v4_1 v4_0 v5_3 p1 p2 u_10 else F_X11_lineTo_j57 v2_0 v4_1 v4_0 v5_3 p1 p2 u_10 1) else F_X11_lineTo_j56 v2_0 v4_1 v4_0 v5_3 p1 p2 u_10))))
abbrev wd_X11_lineTo (cI : ClassId) (a0 : Nat → Nat) (a1 : Nat → Nat) (a2 : Nat → Nat) (a3 : Nat → Nat) (a4 : Nat → Nat) (a5 : Nat → Nat) (a6 : Nat → Nat) (a7 : Nat → Nat) (a8 : Nat → Nat) (a9 : Nat → Nat) (a10 : Nat → Nat) (v2_0 : Nat → Int32) (v4_1 : Int32) (v4_0 : Nat → Int32) (v5_3 : Int32) (v5_4 : Int32) (v5_5 : Int32) (v5_6 : Int32) (v5_7 : Int32) : va_W := [(a0 0, .inr (10, [.ref (a2 0), .ref (a1 0), .ref (a4 0), .ref (a9 0), .ref (a10 0), .ref (a5 0), .ref (a3 0)])), (a2 0, .inr (1, [.ref (a2 1)])), (a2 1, .inl (cI, 86, .inl v2_0)), (a4 0, .inr (3, [.ref (a4 1), .int v4_1])), (a4 1, .inl (cI, 344, .inl v4_0)), (a5 0, .inr (9, [.ref (a8 0), .ref (a7 0), .ref (a6 0), .int v5_3, .int v5_4, .int v5_5, .int v5_6, .int v5_7]))]
abbrev wz_X11_lineTo : List Cond := .code yX11_lineTo cX11_lineTo 4 (some .int) :: wALL
abbrev rm_X11_lineTo : Room := { frames := 4, cells := 0, slots := 0, locals := 89 }
abbrev Q_X11_lineTo (dC : Nat → ClassId) (dI : Nat → Nat → Nat) (cI : ClassId) (a0 : Nat → Nat) (a1 : Nat → Nat) (a2 : Nat → Nat) (a3 : Nat → Nat) (a4 : Nat → Nat) (a5 : Nat → Nat) (a6 : Nat → Nat) (a7 : Nat → Nat) (a8 : Nat → Nat) (a9 : Nat → Nat) (a10 : Nat → Nat) (v5_4 : Int32) (v5_5 : Int32) (v5_6 : Int32) (v5_7 : Int32) (u : (Int32 × (Nat → Int32) × Int32 × (Nat → Int32) × Int32)) (A : Nat → Prop) : Array Value → State → Outcome → State → Prop := va_Qi (fun (r : Int32) (_ : Unit) => r = u.1) (fun _ => q_at dC dI cI A (wd_X11_lineTo cI a0 a1 a2 a3 a4 a5 a6 a7 a8 a9 a10 u.2.1 u.2.2.1 u.2.2.2.1 u.2.2.2.2 v5_4 v5_5 v5_6 v5_7)) A
set_option maxHeartbeats 4000000 in
set_option maxRecDepth 100000 in
theorem c_X11_lineTo (l : Launch) (dC : Nat → ClassId) (dI : Nat → Nat → Nat) (cI : ClassId) (sz : Nat) (a0 : Nat → Nat) (a1 : Nat → Nat) (a2 : Nat → Nat) (a3 : Nat → Nat) (a4 : Nat → Nat) (a5 : Nat → Nat) (a6 : Nat → Nat) (a7 : Nat → Nat) (a8 : Nat → Nat) (a9 : Nat → Nat) (a10 : Nat → Nat) (v2_0 : Nat → Int32) (v4_1 : Int32) (v4_0 : Nat → Int32) (v5_3 : Int32) (v5_4 : Int32) (v5_5 : Int32) (v5_6 : Int32) (v5_7 : Int32) (p1 : Int32) (p2 : Int32) (u : (Int32 × (Nat → Int32) × Int32 × (Nat → Int32) × Int32)) (hF : F_X11_lineTo v2_0 v4_1 v4_0 v5_3 p1 p2 = some (.inl u)) : Met l yX11_lineTo wz_X11_lineTo rm_X11_lineTo (va_Pc [.ref (a0 0), .int p1, .int p2] (q_pre dC dI cI (wd_X11_lineTo cI a0 a1 a2 a3 a4 a5 a6 a7 a8 a9 a10 v2_0 v4_1 v4_0 v5_3 v5_4 v5_5 v5_6 v5_7) sz)) (Q_X11_lineTo dC dI cI a0 a1 a2 a3 a4 a5 a6 a7 a8 a9 a10 v5_4 v5_5 v5_6 v5_7 u (va_A (wd_X11_lineTo cI a0 a1 a2 a3 a4 a5 a6 a7 a8 a9 a10 v2_0 v4_1 v4_0 v5_3 v5_4 v5_5 v5_6 v5_7) sz)) 0 0 (va_A (wd_X11_lineTo cI a0 a1 a2 a3 a4 a5 a6 a7 a8 a9 a10 v2_0 v4_1 v4_0 v5_3 v5_4 v5_5 v5_6 v5_7) sz) := by
  refine Met.ofW (cc := cX11_lineTo) (maxL := 4) (ret := (some .int)) (by decide) rfl ?_
  intro p e s m args below meth c s₁ B hml hv
  obtain ⟨rfl, hsz, hP, hK, hD0⟩ := hv
  have hx := B.exec
  have hb := B.bytes
  have hr := B.returns
  have hts := atoms_spec (ws := wz_X11_lineTo) B.pre
  have hta := wz_tl hts
  have hown : s.vm.findClass RX11 = some m.cls := findClass_of_methodNamed B.named
  have hlocks := B.notSynchronized
  subst hsz
  have hD := hD0.self (sz := s.heap.size)
  generalize hAe : va_A (wd_X11_lineTo cI a0 a1 a2 a3 a4 a5 a6 a7 a8 a9 a10 v2_0 v4_1 v4_0 v5_3 v5_4 v5_5 v5_6 v5_7) s.heap.size = A at hD ⊢
  have hA : ∀ q : Nat, s.heap.size ≤ q → A q := fun q h => by rw [← hAe]; exact Or.inr h
  have hS : va_S A s.heap s.heap [] := va_S.rf
  have hP : va_P (dC, dI) vwCl (wd_X11_lineTo cI a0 a1 a2 a3 a4 a5 a6 a7 a8 a9 a10 v2_0 v4_1 v4_0 v5_3 v5_4 v5_5 v5_6 v5_7) s.heap := hP
  have hl := lv_entry ([.ref (a0 0), .int p1, .int p2]) (n := 4) (Nat.le_of_ble_eq_true rfl)
  rw [lg_entry_eq]
  generalize (lg_sl ([.ref (a0 0), .int p1, .int p2]) ++ List.replicate (4 - (lg_sl ([.ref (a0 0), .int p1, .int p2])).length) Slot.unset).toArray = ls at hl ⊢
  have hl : lv_has ls 4 [(0, .ref (a0 0)), (1, .int p1), (2, .int p2)] := hl
  obtain ⟨H, hHe⟩ : ∃ H, H = s.heap := ⟨_, rfl⟩
  have hS : va_S A s.heap H [] := by rw [hHe]; exact hS
  have hP : va_P (dC, dI) vwCl (wd_X11_lineTo cI a0 a1 a2 a3 a4 a5 a6 a7 a8 a9 a10 v2_0 v4_1 v4_0 v5_3 v5_4 v5_5 v5_6 v5_7) H := by rw [hHe]; exact hP
  rw [← hHe]
  unfold F_X11_lineTo at hF
  have j57 : ∀ (v2_0 : Nat → Int32) (v4_1 : Int32) (v4_0 : Nat → Int32) (v5_3 : Int32) (x1 : Int32) (x2 : Int32) (x3 : Int32) (t0 : Int32), F_X11_lineTo_j57 v2_0 v4_1 v4_0 v5_3 x1 x2 x3 t0 = some (.inl u) → ∀ (H : Heap) (locs : List Loc) (ls : Array Slot), va_P (dC, dI) vwCl (wd_X11_lineTo cI a0 a1 a2 a3 a4 a5 a6 a7 a8 a9 a10 v2_0 v4_1 v4_0 v5_3 v5_4 v5_5 v5_6 v5_7) H → va_D A (wd_X11_lineTo cI a0 a1 a2 a3 a4 a5 a6 a7 a8 a9 a10 v2_0 v4_1 v4_0 v5_3 v5_4 v5_5 v5_6 v5_7) → va_S A s.heap H locs → lv_has ls 4 [(0, .ref (a0 0)), (1, .int x1), (2, .int x2), (3, .int x3)] → W p l e (headSpec wz_X11_lineTo rm_X11_lineTo).room s m [.ref (a0 0), .int p1, .int p2].toArray below meth c H locs 0 0 (MQ below (Q_X11_lineTo dC dI cI a0 a1 a2 a3 a4 a5 a6 a7 a8 a9 a10 v5_4 v5_5 v5_6 v5_7 u A) [.ref (a0 0), .int p1, .int p2].toArray s 0 0 A) (F0 m 57 ls [.int t0]) := by
    intro v2_0 v4_1 v4_0 v5_3 x1 x2 x3 t0 hF H locs ls hP hD hS hl
    unfold F_X11_lineTo_j57 at hF
    refine obx_elim hF (fun x_2 hx_2 hF => ?_) (fun u_1 hu_1 hF => ?_)
    · exact absurd hF no_rl
    have hPc := hP.sub (ws' := ([] : va_W)) [] rfl
    have hDc := hD.sub (ws' := ([] : va_W)) [] rfl rfl
    refine q_callv (wc := ([] : va_W)) (w1 := ([] : va_W)) (ws' := (wd_X11_lineTo cI a0 a1 a2 a3 a4 a5 a6 a7 a8 a9 a10 v2_0 v4_1 v4_0 v5_3 v5_4 v5_5 v5_6 v5_7)) hP hD hS hA [] [0, 1, 2, 3, 4, 5] [0, 1, 2, 3, 4, 5] rfl rfl rfl (by decide) rfl rfl (va_runS (As := [.int t0]) (rest := []) ⟨hx, hb, hml, hown, hta⟩ (c_X11_checkState l dC dI cI H.size t0 u_1 hu_1) (va_cwS 1 hta (ga_S mA120 mA121 mA108 mA122) rfl rfl rfl (by decide +kernel) ⟨Nat.le_of_ble_eq_true rfl, Nat.le_of_ble_eq_true rfl⟩) ⟨q_fb, q_ps hPc hK hDc⟩ rfl rfl hl.1 rfl (lv_room (Nat.le_of_ble_eq_true rfl)) dX11_lineTo_57 ⟨Nat.zero_le _, Nat.zero_le _⟩) (fun H locs hP hD hS => ?_)
    refine lv_aload_n hx hb dX11_lineTo_60 rfl (lv_at hl 0 rfl) ?_
    obtain ⟨u_3, hu_3, hF⟩ := obd_some hF
    have hPc := hP.sub (ws' := (wd_X11_saveState cI a0 a1 a2 a3 a4 a5 a6 a7 a8 a9 a10 v2_0 v4_1 v4_0 v5_3 v5_4 v5_5 v5_6 v5_7)) [0, 1, 2, 3, 4, 5] rfl
    have hDc := hD.sub (ws' := (wd_X11_saveState cI a0 a1 a2 a3 a4 a5 a6 a7 a8 a9 a10 v2_0 v4_1 v4_0 v5_3 v5_4 v5_5 v5_6 v5_7)) [0, 1, 2, 3, 4, 5] rfl rfl
    refine q_callv (wc := (wd_X11_saveState cI a0 a1 a2 a3 a4 a5 a6 a7 a8 a9 a10 v2_0 v4_1 v4_0 v5_3 v5_4 v5_5 v5_6 v5_7)) (w1 := (wd_X11_saveState cI a0 a1 a2 a3 a4 a5 a6 a7 a8 a9 a10 v2_0 u_3.1 u_3.2.1 u_3.2.2 v5_4 v5_5 v5_6 v5_7)) (ws' := (wd_X11_lineTo cI a0 a1 a2 a3 a4 a5 a6 a7 a8 a9 a10 v2_0 u_3.1 u_3.2.1 u_3.2.2 v5_4 v5_5 v5_6 v5_7)) hP hD hS hA [0, 1, 2, 3, 4, 5] [] [0, 1, 2, 3, 4, 5] rfl rfl rfl (by decide) rfl rfl (va_runV (As := []) (rest := []) ⟨hx, hb, hml, hown, hta⟩ (c_X11_saveState l dC dI cI H.size a0 a1 a2 a3 a4 a5 a6 a7 a8 a9 a10 v2_0 v4_1 v4_0 v5_3 v5_4 v5_5 v5_6 v5_7 u_3 hu_3) (cwV 0 hta (ga_V mA125 mA126 mA127 mA108 mA128) rfl rfl rfl (by decide +kernel) ⟨Nat.le_of_ble_eq_true rfl, Nat.le_of_ble_eq_true rfl⟩) ⟨q_fb, va_recv hK hP (ci := 10) (q0 := 0) rfl rfl, q_ps hPc hK hDc⟩ rfl rfl hl.1 rfl (lv_room (Nat.le_of_ble_eq_true rfl)) dX11_lineTo_61 ⟨Nat.zero_le _, Nat.zero_le _⟩) (fun H locs hP hD hS => ?_)
    refine lv_aload_n hx hb dX11_lineTo_64 rfl (lv_at hl 0 rfl) ?_
    refine va_get (D := (dC, dI)) (ci := 10) (v := .ref (a2 0)) (C := RX11) (T := TX11) (N := 7) hx hb hta uw_X11 hown hK hP 0 rfl rfl 0 (by decide) (hta _ mA7) (fun _ h9 => h9) rfl dX11_lineTo_65 ?_
    refine lv_iload_n hx hb dX11_lineTo_68 rfl (lv_at hl 1 rfl) ?_
    refine lv_iload_n hx hb dX11_lineTo_69 rfl (lv_at hl 2 rfl) ?_
    obtain ⟨u_4, hu_4, hF⟩ := obd_some hF
    have hPc := hP.sub (ws' := (wd_X1_addPoint cI a2 v2_0)) [1, 2] rfl
    have hDc := hD.sub (ws' := (wd_X1_addPoint cI a2 v2_0)) [1, 2] rfl rfl
    refine q_callv (wc := (wd_X1_addPoint cI a2 v2_0)) (w1 := (wd_X1_addPoint cI a2 u_4)) (ws' := (wd_X11_lineTo cI a0 a1 a2 a3 a4 a5 a6 a7 a8 a9 a10 u_4 u_3.1 u_3.2.1 u_3.2.2 v5_4 v5_5 v5_6 v5_7)) hP hD hS hA [1, 2] [0, 3, 4, 5] [0, 4, 5, 1, 2, 3] rfl rfl rfl (by decide) rfl rfl (va_runV (As := [.int x1, .int x2]) (rest := []) ⟨hx, hb, hml, hown, hta⟩ (c_X1_addPoint l dC dI cI H.size a2 v2_0 x1 x2 u_4 hu_4) (cwV 2 hta (ga_V mA186 mA161 mA162 mA6 mA163) rfl rfl rfl (by decide +kernel) ⟨Nat.le_of_ble_eq_true rfl, Nat.le_of_ble_eq_true rfl⟩) ⟨q_fb, va_recv hK hP (ci := 1) (q0 := 1) rfl rfl, q_ps hPc hK hDc⟩ rfl rfl hl.1 rfl (lv_room (Nat.le_of_ble_eq_true rfl)) dX11_lineTo_70 ⟨Nat.zero_le _, Nat.zero_le _⟩) (fun H locs hP hD hS => ?_)
    refine lv_aload_n hx hb dX11_lineTo_73 rfl (lv_at hl 0 rfl) ?_
    refine va_get (D := (dC, dI)) (ci := 10) (v := .ref (a2 0)) (C := RX11) (T := TX11) (N := 7) hx hb hta uw_X11 hown hK hP 0 rfl rfl 0 (by decide) (hta _ mA7) (fun _ h9 => h9) rfl dX11_lineTo_74 ?_
    refine lv_iload_n hx hb dX11_lineTo_77 rfl (lv_at hl 3 rfl) ?_
    obtain ⟨u_5, hu_5, hF⟩ := obd_some hF
    have hPc := hP.sub (ws' := (wd_X1_pointCount cI a2 u_4)) [1, 2] rfl
    have hDc := hD.sub (ws' := (wd_X1_pointCount cI a2 u_4)) [1, 2] rfl rfl
    refine q_calli (wc := (wd_X1_pointCount cI a2 u_4)) (w1 := (wd_X1_pointCount cI a2 u_4)) (ws' := (wd_X11_lineTo cI a0 a1 a2 a3 a4 a5 a6 a7 a8 a9 a10 u_4 u_3.1 u_3.2.1 u_3.2.2 v5_4 v5_5 v5_6 v5_7)) hP hD hS hA [1, 2] [0, 3, 4, 5] [0, 4, 5, 1, 2, 3] rfl rfl rfl (by decide) rfl rfl (va_runV (As := [.int x3]) (rest := []) ⟨hx, hb, hml, hown, hta⟩ (c_X1_pointCount l dC dI cI H.size a2 u_4 x3 u_5 hu_5) (cwV 1 hta (ga_V mA185 mA169 mA170 mA6 mA171) rfl rfl rfl (by decide +kernel) ⟨Nat.le_of_ble_eq_true rfl, Nat.le_of_ble_eq_true rfl⟩) ⟨q_fb, va_recv hK hP (ci := 1) (q0 := 1) rfl rfl, q_ps hPc hK hDc⟩ rfl rfl hl.1 rfl (lv_room (Nat.le_of_ble_eq_true rfl)) dX11_lineTo_78 ⟨Nat.zero_le _, Nat.zero_le _⟩) (fun H locs hP hD hS => ?_)
    obtain rfl := Sum.inl.inj (Option.some.inj hF)
    exact W.iret (v := u_5) hx hb hr (fun t ht hW => ⟨⟨u_5, (), rfl, rfl, by rw [ht]; exact hP, va_K.moved hW.alike hK, hD⟩, hS.F ht⟩) hS.2.2 dX11_lineTo_81
  have j56 : ∀ (v2_0 : Nat → Int32) (v4_1 : Int32) (v4_0 : Nat → Int32) (v5_3 : Int32) (x1 : Int32) (x2 : Int32) (x3 : Int32), F_X11_lineTo_j56 v2_0 v4_1 v4_0 v5_3 x1 x2 x3 = some (.inl u) → ∀ (H : Heap) (locs : List Loc) (ls : Array Slot), va_P (dC, dI) vwCl (wd_X11_lineTo cI a0 a1 a2 a3 a4 a5 a6 a7 a8 a9 a10 v2_0 v4_1 v4_0 v5_3 v5_4 v5_5 v5_6 v5_7) H → va_D A (wd_X11_lineTo cI a0 a1 a2 a3 a4 a5 a6 a7 a8 a9 a10 v2_0 v4_1 v4_0 v5_3 v5_4 v5_5 v5_6 v5_7) → va_S A s.heap H locs → lv_has ls 4 [(0, .ref (a0 0)), (1, .int x1), (2, .int x2), (3, .int x3)] → W p l e (headSpec wz_X11_lineTo rm_X11_lineTo).room s m [.ref (a0 0), .int p1, .int p2].toArray below meth c H locs 0 0 (MQ below (Q_X11_lineTo dC dI cI a0 a1 a2 a3 a4 a5 a6 a7 a8 a9 a10 v5_4 v5_5 v5_6 v5_7 u A) [.ref (a0 0), .int p1, .int p2].toArray s 0 0 A) (F0 m 56 ls []) := by
    intro v2_0 v4_1 v4_0 v5_3 x1 x2 x3 hF H locs ls hP hD hS hl
    unfold F_X11_lineTo_j56 at hF
    refine lv_iconst (v := 0) hx hb dX11_lineTo_56 (by decide) ?_
    exact j57 v2_0 v4_1 v4_0 v5_3 x1 x2 x3 0 hF _ _ _ hP hD hS (lv_sub hl [0, 1, 2, 3] rfl)
  refine lv_iload_n hx hb dX11_lineTo_0 rfl (lv_at hl 1 rfl) ?_
  refine lv_bipush (v := (-100)) hx hb dX11_lineTo_1 (by decide) ?_
  refine lv_bipush (v := 100) hx hb dX11_lineTo_3 (by decide) ?_
  refine obx_elim hF (fun x_7 hx_7 hF => ?_) (fun u_6 hu_6 hF => ?_)
  · exact absurd hF no_rl
  have hPc := hP.sub (ws' := ([] : va_W)) [] rfl
  have hDc := hD.sub (ws' := ([] : va_W)) [] rfl rfl
  refine q_callv (wc := ([] : va_W)) (w1 := ([] : va_W)) (ws' := (wd_X11_lineTo cI a0 a1 a2 a3 a4 a5 a6 a7 a8 a9 a10 v2_0 v4_1 v4_0 v5_3 v5_4 v5_5 v5_6 v5_7)) hP hD hS hA [] [0, 1, 2, 3, 4, 5] [0, 1, 2, 3, 4, 5] rfl rfl rfl (by decide) rfl rfl (va_runS (As := [.int p1, .int (-100), .int 100]) (rest := []) ⟨hx, hb, hml, hown, hta⟩ (c_X11_checkRange l dC dI cI H.size p1 (-100) 100 u_6 hu_6) (va_cwS 3 hta (ga_S mA106 mA107 mA108 mA109) rfl rfl rfl (by decide +kernel) ⟨Nat.le_of_ble_eq_true rfl, Nat.le_of_ble_eq_true rfl⟩) ⟨q_fb, q_ps hPc hK hDc⟩ rfl rfl hl.1 rfl (lv_room (Nat.le_of_ble_eq_true rfl)) dX11_lineTo_5 ⟨Nat.zero_le _, Nat.zero_le _⟩) (fun H locs hP hD hS => ?_)
  refine lv_iload_n hx hb dX11_lineTo_8 rfl (lv_at hl 2 rfl) ?_
  refine lv_bipush (v := (-100)) hx hb dX11_lineTo_9 (by decide) ?_
  refine lv_bipush (v := 100) hx hb dX11_lineTo_11 (by decide) ?_
  refine obx_elim hF (fun x_9 hx_9 hF => ?_) (fun u_8 hu_8 hF => ?_)
  · exact absurd hF no_rl
  have hPc := hP.sub (ws' := ([] : va_W)) [] rfl
  have hDc := hD.sub (ws' := ([] : va_W)) [] rfl rfl
  refine q_callv (wc := ([] : va_W)) (w1 := ([] : va_W)) (ws' := (wd_X11_lineTo cI a0 a1 a2 a3 a4 a5 a6 a7 a8 a9 a10 v2_0 v4_1 v4_0 v5_3 v5_4 v5_5 v5_6 v5_7)) hP hD hS hA [] [0, 1, 2, 3, 4, 5] [0, 1, 2, 3, 4, 5] rfl rfl rfl (by decide) rfl rfl (va_runS (As := [.int p2, .int (-100), .int 100]) (rest := []) ⟨hx, hb, hml, hown, hta⟩ (c_X11_checkRange l dC dI cI H.size p2 (-100) 100 u_8 hu_8) (va_cwS 3 hta (ga_S mA106 mA107 mA108 mA109) rfl rfl rfl (by decide +kernel) ⟨Nat.le_of_ble_eq_true rfl, Nat.le_of_ble_eq_true rfl⟩) ⟨q_fb, q_ps hPc hK hDc⟩ rfl rfl hl.1 rfl (lv_room (Nat.le_of_ble_eq_true rfl)) dX11_lineTo_13 ⟨Nat.zero_le _, Nat.zero_le _⟩) (fun H locs hP hD hS => ?_)
  refine lv_aload_n hx hb dX11_lineTo_16 rfl (lv_at hl 0 rfl) ?_
  refine va_get (D := (dC, dI)) (ci := 10) (v := .ref (a2 0)) (C := RX11) (T := TX11) (N := 7) hx hb hta uw_X11 hown hK hP 0 rfl rfl 0 (by decide) (hta _ mA7) (fun _ h9 => h9) rfl dX11_lineTo_17 ?_
  obtain ⟨u_10, hu_10, hF⟩ := obd_some hF
  have hPc := hP.sub (ws' := (wd_X1_lastSubpath cI a2 v2_0)) [1, 2] rfl
  have hDc := hD.sub (ws' := (wd_X1_lastSubpath cI a2 v2_0)) [1, 2] rfl rfl
  refine q_calli (wc := (wd_X1_lastSubpath cI a2 v2_0)) (w1 := (wd_X1_lastSubpath cI a2 v2_0)) (ws' := (wd_X11_lineTo cI a0 a1 a2 a3 a4 a5 a6 a7 a8 a9 a10 v2_0 v4_1 v4_0 v5_3 v5_4 v5_5 v5_6 v5_7)) hP hD hS hA [1, 2] [0, 3, 4, 5] [0, 4, 5, 1, 2, 3] rfl rfl rfl (by decide) rfl rfl (va_runV (As := []) (rest := []) ⟨hx, hb, hml, hown, hta⟩ (c_X1_lastSubpath l dC dI cI H.size a2 v2_0 u_10 hu_10) (cwV 0 hta (ga_V mA179 mA165 mA166 mA6 mA167) rfl rfl rfl (by decide +kernel) ⟨Nat.le_of_ble_eq_true rfl, Nat.le_of_ble_eq_true rfl⟩) ⟨q_fb, va_recv hK hP (ci := 1) (q0 := 1) rfl rfl, q_ps hPc hK hDc⟩ rfl rfl hl.1 rfl (lv_room (Nat.le_of_ble_eq_true rfl)) dX11_lineTo_20 ⟨Nat.zero_le _, Nat.zero_le _⟩) (fun H locs hP hD hS => ?_)
  refine lv_istore_n (lv' := [(3, .int u_10), (0, .ref (a0 0)), (1, .int p1), (2, .int p2)]) hx hb dX11_lineTo_23 rfl hl (by decide) rfl (fun ls hl => ?_)
  refine lv_iload_n hx hb dX11_lineTo_24 rfl (lv_at hl 0 rfl) ?_
  refine lv_if_lt (tgt := 56) hx hb dX11_lineTo_25 (by decide) (fun c_11 => ?_) (fun c_11 => ?_)
  · have hF := it_t hF c_11
    exact j56 v2_0 v4_1 v4_0 v5_3 p1 p2 u_10 hF _ _ _ hP hD hS (lv_sub hl [1, 2, 3, 0] rfl)
  · have hF := it_f hF c_11
    refine lv_aload_n hx hb dX11_lineTo_28 rfl (lv_at hl 1 rfl) ?_
    refine va_get (D := (dC, dI)) (ci := 10) (v := .ref (a2 0)) (C := RX11) (T := TX11) (N := 7) hx hb hta uw_X11 hown hK hP 0 rfl rfl 0 (by decide) (hta _ mA7) (fun _ h9 => h9) rfl dX11_lineTo_29 ?_
    refine lv_iload_n hx hb dX11_lineTo_32 rfl (lv_at hl 0 rfl) ?_
    obtain ⟨u_12, hu_12, hF⟩ := obd_some hF
    have hPc := hP.sub (ws' := (wd_X1_isClosed cI a2 v2_0)) [1, 2] rfl
    have hDc := hD.sub (ws' := (wd_X1_isClosed cI a2 v2_0)) [1, 2] rfl rfl
    refine q_callz (wc := (wd_X1_isClosed cI a2 v2_0)) (w1 := (wd_X1_isClosed cI a2 v2_0)) (ws' := (wd_X11_lineTo cI a0 a1 a2 a3 a4 a5 a6 a7 a8 a9 a10 v2_0 v4_1 v4_0 v5_3 v5_4 v5_5 v5_6 v5_7)) hP hD hS hA [1, 2] [0, 3, 4, 5] [0, 4, 5, 1, 2, 3] rfl rfl rfl (by decide) rfl rfl (va_runV (As := [.int u_10]) (rest := []) ⟨hx, hb, hml, hown, hta⟩ (c_X1_isClosed l dC dI cI H.size a2 v2_0 u_10 u_12 hu_12) (cwV 1 hta (ga_V mA181 mA182 mA183 mA6 mA184) rfl rfl rfl (by decide +kernel) ⟨Nat.le_of_ble_eq_true rfl, Nat.le_of_ble_eq_true rfl⟩) ⟨q_fb, va_recv hK hP (ci := 1) (q0 := 1) rfl rfl, q_ps hPc hK hDc⟩ rfl rfl hl.1 rfl (lv_room (Nat.le_of_ble_eq_true rfl)) dX11_lineTo_33 ⟨Nat.zero_le _, Nat.zero_le _⟩) (fun hzu_12 H locs hP hD hS => ?_)
    refine lv_if_ne (tgt := 56) hx hb dX11_lineTo_36 (by decide) (fun c_13 => ?_) (fun c_13 => ?_)
    · have hF := it_f hF c_13
      exact j56 v2_0 v4_1 v4_0 v5_3 p1 p2 u_10 hF _ _ _ hP hD hS (lv_sub hl [1, 2, 3, 0] rfl)
    · have hF := it_t hF c_13
      refine lv_aload_n hx hb dX11_lineTo_39 rfl (lv_at hl 1 rfl) ?_
      refine va_get (D := (dC, dI)) (ci := 10) (v := .ref (a2 0)) (C := RX11) (T := TX11) (N := 7) hx hb hta uw_X11 hown hK hP 0 rfl rfl 0 (by decide) (hta _ mA7) (fun _ h9 => h9) rfl dX11_lineTo_40 ?_
      refine lv_iload_n hx hb dX11_lineTo_43 rfl (lv_at hl 0 rfl) ?_
      obtain ⟨u_14, hu_14, hF⟩ := obd_some hF
      have hPc := hP.sub (ws' := (wd_X1_pointCount cI a2 v2_0)) [1, 2] rfl
      have hDc := hD.sub (ws' := (wd_X1_pointCount cI a2 v2_0)) [1, 2] rfl rfl
      refine q_calli (wc := (wd_X1_pointCount cI a2 v2_0)) (w1 := (wd_X1_pointCount cI a2 v2_0)) (ws' := (wd_X11_lineTo cI a0 a1 a2 a3 a4 a5 a6 a7 a8 a9 a10 v2_0 v4_1 v4_0 v5_3 v5_4 v5_5 v5_6 v5_7)) hP hD hS hA [1, 2] [0, 3, 4, 5] [0, 4, 5, 1, 2, 3] rfl rfl rfl (by decide) rfl rfl (va_runV (As := [.int u_10]) (rest := []) ⟨hx, hb, hml, hown, hta⟩ (c_X1_pointCount l dC dI cI H.size a2 v2_0 u_10 u_14 hu_14) (cwV 1 hta (ga_V mA185 mA169 mA170 mA6 mA171) rfl rfl rfl (by decide +kernel) ⟨Nat.le_of_ble_eq_true rfl, Nat.le_of_ble_eq_true rfl⟩) ⟨q_fb, va_recv hK hP (ci := 1) (q0 := 1) rfl rfl, q_ps hPc hK hDc⟩ rfl rfl hl.1 rfl (lv_room (Nat.le_of_ble_eq_true rfl)) dX11_lineTo_44 ⟨Nat.zero_le _, Nat.zero_le _⟩) (fun H locs hP hD hS => ?_)
      refine lv_bipush (v := 8) hx hb dX11_lineTo_47 (by decide) ?_
      refine lv_icmp_ge (tgt := 56) hx hb dX11_lineTo_49 (by decide) (fun c_15 => ?_) (fun c_15 => ?_)
      · have hF := it_t hF c_15
        exact j56 v2_0 v4_1 v4_0 v5_3 p1 p2 u_10 hF _ _ _ hP hD hS (lv_sub hl [1, 2, 3, 0] rfl)
      · have hF := it_f hF c_15
        refine lv_iconst (v := 1) hx hb dX11_lineTo_52 (by decide) ?_
        refine lv_goto (tgt := 57) hx hb dX11_lineTo_53 (by decide) ?_
        exact j57 v2_0 v4_1 v4_0 v5_3 p1 p2 u_10 1 hF _ _ _ hP hD hS (lv_sub hl [1, 2, 3, 0] rfl)
abbrev rmx_X11_lineTo : Room := { frames := 7, cells := 1, slots := 6, locals := 104 }
abbrev XC_X11_lineTo (dC : Nat → ClassId) (dI : Nat → Nat → Nat) (cI : ClassId) (a0 : Nat → Nat) (a1 : Nat → Nat) (a2 : Nat → Nat) (a3 : Nat → Nat) (a4 : Nat → Nat) (a5 : Nat → Nat) (a6 : Nat → Nat) (a7 : Nat → Nat) (a8 : Nat → Nat) (a9 : Nat → Nat) (a10 : Nat → Nat) (v5_4 : Int32) (v5_5 : Int32) (v5_6 : Int32) (v5_7 : Int32) (x : (Nat × (Nat → Int32) × Int32 × (Nat → Int32) × Int32)) (A : Nat → Prop) : String → State → State → Prop := vx_X (fun (_ : Unit) => True) (fun E _ t => E = exN x.1 ∧ q_at dC dI cI A (wd_X11_lineTo cI a0 a1 a2 a3 a4 a5 a6 a7 a8 a9 a10 x.2.1 x.2.2.1 x.2.2.2.1 x.2.2.2.2 v5_4 v5_5 v5_6 v5_7) t) A
set_option maxHeartbeats 4000000 in
set_option maxRecDepth 100000 in
theorem c_X11_lineTo_x (l : Launch) (hlt : l.stackTraces = false) (S : Nat → Nat) (dC : Nat → ClassId) (dI : Nat → Nat → Nat) (cI : ClassId) (sz : Nat) (a0 : Nat → Nat) (a1 : Nat → Nat) (a2 : Nat → Nat) (a3 : Nat → Nat) (a4 : Nat → Nat) (a5 : Nat → Nat) (a6 : Nat → Nat) (a7 : Nat → Nat) (a8 : Nat → Nat) (a9 : Nat → Nat) (a10 : Nat → Nat) (v2_0 : Nat → Int32) (v4_1 : Int32) (v4_0 : Nat → Int32) (v5_3 : Int32) (v5_4 : Int32) (v5_5 : Int32) (v5_6 : Int32) (v5_7 : Int32) (p1 : Int32) (p2 : Int32) (x : (Nat × (Nat → Int32) × Int32 × (Nat → Int32) × Int32)) (hF : F_X11_lineTo v2_0 v4_1 v4_0 v5_3 p1 p2 = some (.inr x)) : vx_Met l yX11_lineTo wz_X11_lineTo rmx_X11_lineTo (va_Pc [.ref (a0 0), .int p1, .int p2] (qx_pre S dC dI cI (wd_X11_lineTo cI a0 a1 a2 a3 a4 a5 a6 a7 a8 a9 a10 v2_0 v4_1 v4_0 v5_3 v5_4 v5_5 v5_6 v5_7) sz)) (va_Qv (fun (_ : Unit) => False) (fun _ _ => True) (va_A (wd_X11_lineTo cI a0 a1 a2 a3 a4 a5 a6 a7 a8 a9 a10 v2_0 v4_1 v4_0 v5_3 v5_4 v5_5 v5_6 v5_7) sz)) (XC_X11_lineTo dC dI cI a0 a1 a2 a3 a4 a5 a6 a7 a8 a9 a10 v5_4 v5_5 v5_6 v5_7 x (va_A (wd_X11_lineTo cI a0 a1 a2 a3 a4 a5 a6 a7 a8 a9 a10 v2_0 v4_1 v4_0 v5_3 v5_4 v5_5 v5_6 v5_7) sz)) 1 6 (va_A (wd_X11_lineTo cI a0 a1 a2 a3 a4 a5 a6 a7 a8 a9 a10 v2_0 v4_1 v4_0 v5_3 v5_4 v5_5 v5_6 v5_7) sz) := by
  refine vx_ofW (cc := cX11_lineTo) (maxL := 4) (ret := (some .int)) (by decide) rfl ?_
  intro p e s m args below meth c s₁ B hml hxt hv
  obtain ⟨rfl, ⟨hsz, hP, hK, hD0⟩, hE⟩ := hv
  have hx := B.exec
  have hb := B.bytes
  have hr := B.returns
  have hts := atoms_spec (ws := wz_X11_lineTo) B.pre
  have hta := wz_tl hts
  have hown : s.vm.findClass RX11 = some m.cls := findClass_of_methodNamed B.named
  have hlocks := B.notSynchronized
  subst hsz
  have hD := hD0.self (sz := s.heap.size)
  generalize hAe : va_A (wd_X11_lineTo cI a0 a1 a2 a3 a4 a5 a6 a7 a8 a9 a10 v2_0 v4_1 v4_0 v5_3 v5_4 v5_5 v5_6 v5_7) s.heap.size = A at hD hE ⊢
  have hA : ∀ q : Nat, s.heap.size ≤ q → A q := fun q h => by rw [← hAe]; exact Or.inr h
  have hS : va_S A s.heap s.heap [] := va_S.rf
  have hP : va_P (dC, dI) vwCl (wd_X11_lineTo cI a0 a1 a2 a3 a4 a5 a6 a7 a8 a9 a10 v2_0 v4_1 v4_0 v5_3 v5_4 v5_5 v5_6 v5_7) s.heap := hP
  have hl := lv_entry ([.ref (a0 0), .int p1, .int p2]) (n := 4) (Nat.le_of_ble_eq_true rfl)
  rw [lg_entry_eq]
  generalize (lg_sl ([.ref (a0 0), .int p1, .int p2]) ++ List.replicate (4 - (lg_sl ([.ref (a0 0), .int p1, .int p2])).length) Slot.unset).toArray = ls at hl ⊢
  have hl : lv_has ls 4 [(0, .ref (a0 0)), (1, .int p1), (2, .int p2)] := hl
  obtain ⟨H, hHe⟩ : ∃ H, H = s.heap := ⟨_, rfl⟩
  have hS : va_S A s.heap H [] := by rw [hHe]; exact hS
  have hP : va_P (dC, dI) vwCl (wd_X11_lineTo cI a0 a1 a2 a3 a4 a5 a6 a7 a8 a9 a10 v2_0 v4_1 v4_0 v5_3 v5_4 v5_5 v5_6 v5_7) H := by rw [hHe]; exact hP
  rw [← hHe]
  unfold F_X11_lineTo at hF
  have j57 : ∀ (v2_0 : Nat → Int32) (v4_1 : Int32) (v4_0 : Nat → Int32) (v5_3 : Int32) (x1 : Int32) (x2 : Int32) (x3 : Int32) (t0 : Int32), F_X11_lineTo_j57 v2_0 v4_1 v4_0 v5_3 x1 x2 x3 t0 = some (.inr x) → ∀ (H : Heap) (locs : List Loc) (ls : Array Slot), va_P (dC, dI) vwCl (wd_X11_lineTo cI a0 a1 a2 a3 a4 a5 a6 a7 a8 a9 a10 v2_0 v4_1 v4_0 v5_3 v5_4 v5_5 v5_6 v5_7) H → va_D A (wd_X11_lineTo cI a0 a1 a2 a3 a4 a5 a6 a7 a8 a9 a10 v2_0 v4_1 v4_0 v5_3 v5_4 v5_5 v5_6 v5_7) → va_S A s.heap H locs → lv_has ls 4 [(0, .ref (a0 0)), (1, .int x1), (2, .int x2), (3, .int x3)] → W p l e (headSpec wz_X11_lineTo rmx_X11_lineTo).room s m [.ref (a0 0), .int p1, .int p2].toArray below meth c H locs 0 0 (vx_MQ below (va_Qv (fun (_ : Unit) => False) (fun _ _ => True) A) (XC_X11_lineTo dC dI cI a0 a1 a2 a3 a4 a5 a6 a7 a8 a9 a10 v5_4 v5_5 v5_6 v5_7 x A) [.ref (a0 0), .int p1, .int p2].toArray s 1 6 A) (F0 m 57 ls [.int t0]) := by
    intro v2_0 v4_1 v4_0 v5_3 x1 x2 x3 t0 hF H locs ls hP hD hS hl
    unfold F_X11_lineTo_j57 at hF
    refine obx_elim hF (fun x_2 hx_2 hF => ?_) (fun u_1 hu_1 hF => ?_)
    · obtain rfl := Sum.inr.inj (Option.some.inj hF)
      have hPc := hP.sub (ws' := ([] : va_W)) [] rfl
      have hDc := hD.sub (ws' := ([] : va_W)) [] rfl rfl
      refine qx_thr (kd := x_2) hP hD hK hS hA hxt hlocks (vx_runS (As := [.int t0]) (rest := []) ⟨hx, hb, hml, hown, hta⟩ (c_X11_checkState_x l hlt S dC dI cI H.size t0 x_2 hx_2) (va_cwS 1 hta (ga_S mA120 mA121 mA108 mA122) rfl rfl rfl (by decide +kernel) ⟨Nat.le_of_ble_eq_true rfl, Nat.le_of_ble_eq_true rfl⟩) ⟨qx_fb, qx_ps hPc hK hDc hE hS (va_free (wc := ([] : va_W)) hD hS hA [] rfl)⟩ rfl rfl hl.1 rfl (lv_room (Nat.le_of_ble_eq_true rfl)) dX11_lineTo_57 ⟨Nat.le_of_ble_eq_true rfl, Nat.le_of_ble_eq_true rfl⟩) (fun t hP hK hF9 => ⟨(), trivial, ⟨rfl, hP, hK, hD⟩, hF9⟩) (Nat.le_of_ble_eq_true rfl) (Nat.le_of_ble_eq_true rfl)
    have hPc := hP.sub (ws' := ([] : va_W)) [] rfl
    have hDc := hD.sub (ws' := ([] : va_W)) [] rfl rfl
    refine q_callv (wc := ([] : va_W)) (w1 := ([] : va_W)) (ws' := (wd_X11_lineTo cI a0 a1 a2 a3 a4 a5 a6 a7 a8 a9 a10 v2_0 v4_1 v4_0 v5_3 v5_4 v5_5 v5_6 v5_7)) hP hD hS hA [] [0, 1, 2, 3, 4, 5] [0, 1, 2, 3, 4, 5] rfl rfl rfl (by decide) rfl rfl (va_runS (As := [.int t0]) (rest := []) ⟨hx, hb, hml, hown, hta⟩ (c_X11_checkState l dC dI cI H.size t0 u_1 hu_1) (va_cwS 1 hta (ga_S mA120 mA121 mA108 mA122) rfl rfl rfl (by decide +kernel) ⟨Nat.le_of_ble_eq_true rfl, Nat.le_of_ble_eq_true rfl⟩) ⟨q_fb, q_ps hPc hK hDc⟩ rfl rfl hl.1 rfl (lv_room (Nat.le_of_ble_eq_true rfl)) dX11_lineTo_57 ⟨Nat.zero_le _, Nat.zero_le _⟩) (fun H locs hP hD hS => ?_)
    refine lv_aload_n hx hb dX11_lineTo_60 rfl (lv_at hl 0 rfl) ?_
    obtain ⟨u_3, hu_3, hF⟩ := obd_some hF
    have hPc := hP.sub (ws' := (wd_X11_saveState cI a0 a1 a2 a3 a4 a5 a6 a7 a8 a9 a10 v2_0 v4_1 v4_0 v5_3 v5_4 v5_5 v5_6 v5_7)) [0, 1, 2, 3, 4, 5] rfl
    have hDc := hD.sub (ws' := (wd_X11_saveState cI a0 a1 a2 a3 a4 a5 a6 a7 a8 a9 a10 v2_0 v4_1 v4_0 v5_3 v5_4 v5_5 v5_6 v5_7)) [0, 1, 2, 3, 4, 5] rfl rfl
    refine q_callv (wc := (wd_X11_saveState cI a0 a1 a2 a3 a4 a5 a6 a7 a8 a9 a10 v2_0 v4_1 v4_0 v5_3 v5_4 v5_5 v5_6 v5_7)) (w1 := (wd_X11_saveState cI a0 a1 a2 a3 a4 a5 a6 a7 a8 a9 a10 v2_0 u_3.1 u_3.2.1 u_3.2.2 v5_4 v5_5 v5_6 v5_7)) (ws' := (wd_X11_lineTo cI a0 a1 a2 a3 a4 a5 a6 a7 a8 a9 a10 v2_0 u_3.1 u_3.2.1 u_3.2.2 v5_4 v5_5 v5_6 v5_7)) hP hD hS hA [0, 1, 2, 3, 4, 5] [] [0, 1, 2, 3, 4, 5] rfl rfl rfl (by decide) rfl rfl (va_runV (As := []) (rest := []) ⟨hx, hb, hml, hown, hta⟩ (c_X11_saveState l dC dI cI H.size a0 a1 a2 a3 a4 a5 a6 a7 a8 a9 a10 v2_0 v4_1 v4_0 v5_3 v5_4 v5_5 v5_6 v5_7 u_3 hu_3) (cwV 0 hta (ga_V mA125 mA126 mA127 mA108 mA128) rfl rfl rfl (by decide +kernel) ⟨Nat.le_of_ble_eq_true rfl, Nat.le_of_ble_eq_true rfl⟩) ⟨q_fb, va_recv hK hP (ci := 10) (q0 := 0) rfl rfl, q_ps hPc hK hDc⟩ rfl rfl hl.1 rfl (lv_room (Nat.le_of_ble_eq_true rfl)) dX11_lineTo_61 ⟨Nat.zero_le _, Nat.zero_le _⟩) (fun H locs hP hD hS => ?_)
    refine lv_aload_n hx hb dX11_lineTo_64 rfl (lv_at hl 0 rfl) ?_
    refine va_get (D := (dC, dI)) (ci := 10) (v := .ref (a2 0)) (C := RX11) (T := TX11) (N := 7) hx hb hta uw_X11 hown hK hP 0 rfl rfl 0 (by decide) (hta _ mA7) (fun _ h9 => h9) rfl dX11_lineTo_65 ?_
    refine lv_iload_n hx hb dX11_lineTo_68 rfl (lv_at hl 1 rfl) ?_
    refine lv_iload_n hx hb dX11_lineTo_69 rfl (lv_at hl 2 rfl) ?_
    obtain ⟨u_4, hu_4, hF⟩ := obd_some hF
    have hPc := hP.sub (ws' := (wd_X1_addPoint cI a2 v2_0)) [1, 2] rfl
    have hDc := hD.sub (ws' := (wd_X1_addPoint cI a2 v2_0)) [1, 2] rfl rfl
    refine q_callv (wc := (wd_X1_addPoint cI a2 v2_0)) (w1 := (wd_X1_addPoint cI a2 u_4)) (ws' := (wd_X11_lineTo cI a0 a1 a2 a3 a4 a5 a6 a7 a8 a9 a10 u_4 u_3.1 u_3.2.1 u_3.2.2 v5_4 v5_5 v5_6 v5_7)) hP hD hS hA [1, 2] [0, 3, 4, 5] [0, 4, 5, 1, 2, 3] rfl rfl rfl (by decide) rfl rfl (va_runV (As := [.int x1, .int x2]) (rest := []) ⟨hx, hb, hml, hown, hta⟩ (c_X1_addPoint l dC dI cI H.size a2 v2_0 x1 x2 u_4 hu_4) (cwV 2 hta (ga_V mA186 mA161 mA162 mA6 mA163) rfl rfl rfl (by decide +kernel) ⟨Nat.le_of_ble_eq_true rfl, Nat.le_of_ble_eq_true rfl⟩) ⟨q_fb, va_recv hK hP (ci := 1) (q0 := 1) rfl rfl, q_ps hPc hK hDc⟩ rfl rfl hl.1 rfl (lv_room (Nat.le_of_ble_eq_true rfl)) dX11_lineTo_70 ⟨Nat.zero_le _, Nat.zero_le _⟩) (fun H locs hP hD hS => ?_)
    refine lv_aload_n hx hb dX11_lineTo_73 rfl (lv_at hl 0 rfl) ?_
    refine va_get (D := (dC, dI)) (ci := 10) (v := .ref (a2 0)) (C := RX11) (T := TX11) (N := 7) hx hb hta uw_X11 hown hK hP 0 rfl rfl 0 (by decide) (hta _ mA7) (fun _ h9 => h9) rfl dX11_lineTo_74 ?_
    refine lv_iload_n hx hb dX11_lineTo_77 rfl (lv_at hl 3 rfl) ?_
    obtain ⟨u_5, hu_5, hF⟩ := obd_some hF
    have hPc := hP.sub (ws' := (wd_X1_pointCount cI a2 u_4)) [1, 2] rfl
    have hDc := hD.sub (ws' := (wd_X1_pointCount cI a2 u_4)) [1, 2] rfl rfl
    refine q_calli (wc := (wd_X1_pointCount cI a2 u_4)) (w1 := (wd_X1_pointCount cI a2 u_4)) (ws' := (wd_X11_lineTo cI a0 a1 a2 a3 a4 a5 a6 a7 a8 a9 a10 u_4 u_3.1 u_3.2.1 u_3.2.2 v5_4 v5_5 v5_6 v5_7)) hP hD hS hA [1, 2] [0, 3, 4, 5] [0, 4, 5, 1, 2, 3] rfl rfl rfl (by decide) rfl rfl (va_runV (As := [.int x3]) (rest := []) ⟨hx, hb, hml, hown, hta⟩ (c_X1_pointCount l dC dI cI H.size a2 u_4 x3 u_5 hu_5) (cwV 1 hta (ga_V mA185 mA169 mA170 mA6 mA171) rfl rfl rfl (by decide +kernel) ⟨Nat.le_of_ble_eq_true rfl, Nat.le_of_ble_eq_true rfl⟩) ⟨q_fb, va_recv hK hP (ci := 1) (q0 := 1) rfl rfl, q_ps hPc hK hDc⟩ rfl rfl hl.1 rfl (lv_room (Nat.le_of_ble_eq_true rfl)) dX11_lineTo_78 ⟨Nat.zero_le _, Nat.zero_le _⟩) (fun H locs hP hD hS => ?_)
    exact absurd hF no_lr
  have j56 : ∀ (v2_0 : Nat → Int32) (v4_1 : Int32) (v4_0 : Nat → Int32) (v5_3 : Int32) (x1 : Int32) (x2 : Int32) (x3 : Int32), F_X11_lineTo_j56 v2_0 v4_1 v4_0 v5_3 x1 x2 x3 = some (.inr x) → ∀ (H : Heap) (locs : List Loc) (ls : Array Slot), va_P (dC, dI) vwCl (wd_X11_lineTo cI a0 a1 a2 a3 a4 a5 a6 a7 a8 a9 a10 v2_0 v4_1 v4_0 v5_3 v5_4 v5_5 v5_6 v5_7) H → va_D A (wd_X11_lineTo cI a0 a1 a2 a3 a4 a5 a6 a7 a8 a9 a10 v2_0 v4_1 v4_0 v5_3 v5_4 v5_5 v5_6 v5_7) → va_S A s.heap H locs → lv_has ls 4 [(0, .ref (a0 0)), (1, .int x1), (2, .int x2), (3, .int x3)] → W p l e (headSpec wz_X11_lineTo rmx_X11_lineTo).room s m [.ref (a0 0), .int p1, .int p2].toArray below meth c H locs 0 0 (vx_MQ below (va_Qv (fun (_ : Unit) => False) (fun _ _ => True) A) (XC_X11_lineTo dC dI cI a0 a1 a2 a3 a4 a5 a6 a7 a8 a9 a10 v5_4 v5_5 v5_6 v5_7 x A) [.ref (a0 0), .int p1, .int p2].toArray s 1 6 A) (F0 m 56 ls []) := by
    intro v2_0 v4_1 v4_0 v5_3 x1 x2 x3 hF H locs ls hP hD hS hl
    unfold F_X11_lineTo_j56 at hF
    refine lv_iconst (v := 0) hx hb dX11_lineTo_56 (by decide) ?_
    exact j57 v2_0 v4_1 v4_0 v5_3 x1 x2 x3 0 hF _ _ _ hP hD hS (lv_sub hl [0, 1, 2, 3] rfl)
  refine lv_iload_n hx hb dX11_lineTo_0 rfl (lv_at hl 1 rfl) ?_
  refine lv_bipush (v := (-100)) hx hb dX11_lineTo_1 (by decide) ?_
  refine lv_bipush (v := 100) hx hb dX11_lineTo_3 (by decide) ?_
  refine obx_elim hF (fun x_7 hx_7 hF => ?_) (fun u_6 hu_6 hF => ?_)
  · obtain rfl := Sum.inr.inj (Option.some.inj hF)
    have hPc := hP.sub (ws' := ([] : va_W)) [] rfl
    have hDc := hD.sub (ws' := ([] : va_W)) [] rfl rfl
    refine qx_thr (kd := x_7) hP hD hK hS hA hxt hlocks (vx_runS (As := [.int p1, .int (-100), .int 100]) (rest := []) ⟨hx, hb, hml, hown, hta⟩ (c_X11_checkRange_x l hlt S dC dI cI H.size p1 (-100) 100 x_7 hx_7) (va_cwS 3 hta (ga_S mA106 mA107 mA108 mA109) rfl rfl rfl (by decide +kernel) ⟨Nat.le_of_ble_eq_true rfl, Nat.le_of_ble_eq_true rfl⟩) ⟨qx_fb, qx_ps hPc hK hDc hE hS (va_free (wc := ([] : va_W)) hD hS hA [] rfl)⟩ rfl rfl hl.1 rfl (lv_room (Nat.le_of_ble_eq_true rfl)) dX11_lineTo_5 ⟨Nat.le_of_ble_eq_true rfl, Nat.le_of_ble_eq_true rfl⟩) (fun t hP hK hF9 => ⟨(), trivial, ⟨rfl, hP, hK, hD⟩, hF9⟩) (Nat.le_of_ble_eq_true rfl) (Nat.le_of_ble_eq_true rfl)
  have hPc := hP.sub (ws' := ([] : va_W)) [] rfl
  have hDc := hD.sub (ws' := ([] : va_W)) [] rfl rfl
  refine q_callv (wc := ([] : va_W)) (w1 := ([] : va_W)) (ws' := (wd_X11_lineTo cI a0 a1 a2 a3 a4 a5 a6 a7 a8 a9 a10 v2_0 v4_1 v4_0 v5_3 v5_4 v5_5 v5_6 v5_7)) hP hD hS hA [] [0, 1, 2, 3, 4, 5] [0, 1, 2, 3, 4, 5] rfl rfl rfl (by decide) rfl rfl (va_runS (As := [.int p1, .int (-100), .int 100]) (rest := []) ⟨hx, hb, hml, hown, hta⟩ (c_X11_checkRange l dC dI cI H.size p1 (-100) 100 u_6 hu_6) (va_cwS 3 hta (ga_S mA106 mA107 mA108 mA109) rfl rfl rfl (by decide +kernel) ⟨Nat.le_of_ble_eq_true rfl, Nat.le_of_ble_eq_true rfl⟩) ⟨q_fb, q_ps hPc hK hDc⟩ rfl rfl hl.1 rfl (lv_room (Nat.le_of_ble_eq_true rfl)) dX11_lineTo_5 ⟨Nat.zero_le _, Nat.zero_le _⟩) (fun H locs hP hD hS => ?_)
  refine lv_iload_n hx hb dX11_lineTo_8 rfl (lv_at hl 2 rfl) ?_
  refine lv_bipush (v := (-100)) hx hb dX11_lineTo_9 (by decide) ?_
  refine lv_bipush (v := 100) hx hb dX11_lineTo_11 (by decide) ?_
  refine obx_elim hF (fun x_9 hx_9 hF => ?_) (fun u_8 hu_8 hF => ?_)
  · obtain rfl := Sum.inr.inj (Option.some.inj hF)
    have hPc := hP.sub (ws' := ([] : va_W)) [] rfl
    have hDc := hD.sub (ws' := ([] : va_W)) [] rfl rfl
    refine qx_thr (kd := x_9) hP hD hK hS hA hxt hlocks (vx_runS (As := [.int p2, .int (-100), .int 100]) (rest := []) ⟨hx, hb, hml, hown, hta⟩ (c_X11_checkRange_x l hlt S dC dI cI H.size p2 (-100) 100 x_9 hx_9) (va_cwS 3 hta (ga_S mA106 mA107 mA108 mA109) rfl rfl rfl (by decide +kernel) ⟨Nat.le_of_ble_eq_true rfl, Nat.le_of_ble_eq_true rfl⟩) ⟨qx_fb, qx_ps hPc hK hDc hE hS (va_free (wc := ([] : va_W)) hD hS hA [] rfl)⟩ rfl rfl hl.1 rfl (lv_room (Nat.le_of_ble_eq_true rfl)) dX11_lineTo_13 ⟨Nat.le_of_ble_eq_true rfl, Nat.le_of_ble_eq_true rfl⟩) (fun t hP hK hF9 => ⟨(), trivial, ⟨rfl, hP, hK, hD⟩, hF9⟩) (Nat.le_of_ble_eq_true rfl) (Nat.le_of_ble_eq_true rfl)
  have hPc := hP.sub (ws' := ([] : va_W)) [] rfl
  have hDc := hD.sub (ws' := ([] : va_W)) [] rfl rfl
  refine q_callv (wc := ([] : va_W)) (w1 := ([] : va_W)) (ws' := (wd_X11_lineTo cI a0 a1 a2 a3 a4 a5 a6 a7 a8 a9 a10 v2_0 v4_1 v4_0 v5_3 v5_4 v5_5 v5_6 v5_7)) hP hD hS hA [] [0, 1, 2, 3, 4, 5] [0, 1, 2, 3, 4, 5] rfl rfl rfl (by decide) rfl rfl (va_runS (As := [.int p2, .int (-100), .int 100]) (rest := []) ⟨hx, hb, hml, hown, hta⟩ (c_X11_checkRange l dC dI cI H.size p2 (-100) 100 u_8 hu_8) (va_cwS 3 hta (ga_S mA106 mA107 mA108 mA109) rfl rfl rfl (by decide +kernel) ⟨Nat.le_of_ble_eq_true rfl, Nat.le_of_ble_eq_true rfl⟩) ⟨q_fb, q_ps hPc hK hDc⟩ rfl rfl hl.1 rfl (lv_room (Nat.le_of_ble_eq_true rfl)) dX11_lineTo_13 ⟨Nat.zero_le _, Nat.zero_le _⟩) (fun H locs hP hD hS => ?_)
  refine lv_aload_n hx hb dX11_lineTo_16 rfl (lv_at hl 0 rfl) ?_
  refine va_get (D := (dC, dI)) (ci := 10) (v := .ref (a2 0)) (C := RX11) (T := TX11) (N := 7) hx hb hta uw_X11 hown hK hP 0 rfl rfl 0 (by decide) (hta _ mA7) (fun _ h9 => h9) rfl dX11_lineTo_17 ?_
  obtain ⟨u_10, hu_10, hF⟩ := obd_some hF
  have hPc := hP.sub (ws' := (wd_X1_lastSubpath cI a2 v2_0)) [1, 2] rfl
  have hDc := hD.sub (ws' := (wd_X1_lastSubpath cI a2 v2_0)) [1, 2] rfl rfl
  refine q_calli (wc := (wd_X1_lastSubpath cI a2 v2_0)) (w1 := (wd_X1_lastSubpath cI a2 v2_0)) (ws' := (wd_X11_lineTo cI a0 a1 a2 a3 a4 a5 a6 a7 a8 a9 a10 v2_0 v4_1 v4_0 v5_3 v5_4 v5_5 v5_6 v5_7)) hP hD hS hA [1, 2] [0, 3, 4, 5] [0, 4, 5, 1, 2, 3] rfl rfl rfl (by decide) rfl rfl (va_runV (As := []) (rest := []) ⟨hx, hb, hml, hown, hta⟩ (c_X1_lastSubpath l dC dI cI H.size a2 v2_0 u_10 hu_10) (cwV 0 hta (ga_V mA179 mA165 mA166 mA6 mA167) rfl rfl rfl (by decide +kernel) ⟨Nat.le_of_ble_eq_true rfl, Nat.le_of_ble_eq_true rfl⟩) ⟨q_fb, va_recv hK hP (ci := 1) (q0 := 1) rfl rfl, q_ps hPc hK hDc⟩ rfl rfl hl.1 rfl (lv_room (Nat.le_of_ble_eq_true rfl)) dX11_lineTo_20 ⟨Nat.zero_le _, Nat.zero_le _⟩) (fun H locs hP hD hS => ?_)
  refine lv_istore_n (lv' := [(3, .int u_10), (0, .ref (a0 0)), (1, .int p1), (2, .int p2)]) hx hb dX11_lineTo_23 rfl hl (by decide) rfl (fun ls hl => ?_)
  refine lv_iload_n hx hb dX11_lineTo_24 rfl (lv_at hl 0 rfl) ?_
  refine lv_if_lt (tgt := 56) hx hb dX11_lineTo_25 (by decide) (fun c_11 => ?_) (fun c_11 => ?_)
  · have hF := it_t hF c_11
    exact j56 v2_0 v4_1 v4_0 v5_3 p1 p2 u_10 hF _ _ _ hP hD hS (lv_sub hl [1, 2, 3, 0] rfl)
  · have hF := it_f hF c_11
    refine lv_aload_n hx hb dX11_lineTo_28 rfl (lv_at hl 1 rfl) ?_
    refine va_get (D := (dC, dI)) (ci := 10) (v := .ref (a2 0)) (C := RX11) (T := TX11) (N := 7) hx hb hta uw_X11 hown hK hP 0 rfl rfl 0 (by decide) (hta _ mA7) (fun _ h9 => h9) rfl dX11_lineTo_29 ?_
    refine lv_iload_n hx hb dX11_lineTo_32 rfl (lv_at hl 0 rfl) ?_
    obtain ⟨u_12, hu_12, hF⟩ := obd_some hF
    have hPc := hP.sub (ws' := (wd_X1_isClosed cI a2 v2_0)) [1, 2] rfl
    have hDc := hD.sub (ws' := (wd_X1_isClosed cI a2 v2_0)) [1, 2] rfl rfl
    refine q_callz (wc := (wd_X1_isClosed cI a2 v2_0)) (w1 := (wd_X1_isClosed cI a2 v2_0)) (ws' := (wd_X11_lineTo cI a0 a1 a2 a3 a4 a5 a6 a7 a8 a9 a10 v2_0 v4_1 v4_0 v5_3 v5_4 v5_5 v5_6 v5_7)) hP hD hS hA [1, 2] [0, 3, 4, 5] [0, 4, 5, 1, 2, 3] rfl rfl rfl (by decide) rfl rfl (va_runV (As := [.int u_10]) (rest := []) ⟨hx, hb, hml, hown, hta⟩ (c_X1_isClosed l dC dI cI H.size a2 v2_0 u_10 u_12 hu_12) (cwV 1 hta (ga_V mA181 mA182 mA183 mA6 mA184) rfl rfl rfl (by decide +kernel) ⟨Nat.le_of_ble_eq_true rfl, Nat.le_of_ble_eq_true rfl⟩) ⟨q_fb, va_recv hK hP (ci := 1) (q0 := 1) rfl rfl, q_ps hPc hK hDc⟩ rfl rfl hl.1 rfl (lv_room (Nat.le_of_ble_eq_true rfl)) dX11_lineTo_33 ⟨Nat.zero_le _, Nat.zero_le _⟩) (fun hzu_12 H locs hP hD hS => ?_)
    refine lv_if_ne (tgt := 56) hx hb dX11_lineTo_36 (by decide) (fun c_13 => ?_) (fun c_13 => ?_)
    · have hF := it_f hF c_13
      exact j56 v2_0 v4_1 v4_0 v5_3 p1 p2 u_10 hF _ _ _ hP hD hS (lv_sub hl [1, 2, 3, 0] rfl)
    · have hF := it_t hF c_13
      refine lv_aload_n hx hb dX11_lineTo_39 rfl (lv_at hl 1 rfl) ?_
      refine va_get (D := (dC, dI)) (ci := 10) (v := .ref (a2 0)) (C := RX11) (T := TX11) (N := 7) hx hb hta uw_X11 hown hK hP 0 rfl rfl 0 (by decide) (hta _ mA7) (fun _ h9 => h9) rfl dX11_lineTo_40 ?_
      refine lv_iload_n hx hb dX11_lineTo_43 rfl (lv_at hl 0 rfl) ?_
      obtain ⟨u_14, hu_14, hF⟩ := obd_some hF
      have hPc := hP.sub (ws' := (wd_X1_pointCount cI a2 v2_0)) [1, 2] rfl
      have hDc := hD.sub (ws' := (wd_X1_pointCount cI a2 v2_0)) [1, 2] rfl rfl
      refine q_calli (wc := (wd_X1_pointCount cI a2 v2_0)) (w1 := (wd_X1_pointCount cI a2 v2_0)) (ws' := (wd_X11_lineTo cI a0 a1 a2 a3 a4 a5 a6 a7 a8 a9 a10 v2_0 v4_1 v4_0 v5_3 v5_4 v5_5 v5_6 v5_7)) hP hD hS hA [1, 2] [0, 3, 4, 5] [0, 4, 5, 1, 2, 3] rfl rfl rfl (by decide) rfl rfl (va_runV (As := [.int u_10]) (rest := []) ⟨hx, hb, hml, hown, hta⟩ (c_X1_pointCount l dC dI cI H.size a2 v2_0 u_10 u_14 hu_14) (cwV 1 hta (ga_V mA185 mA169 mA170 mA6 mA171) rfl rfl rfl (by decide +kernel) ⟨Nat.le_of_ble_eq_true rfl, Nat.le_of_ble_eq_true rfl⟩) ⟨q_fb, va_recv hK hP (ci := 1) (q0 := 1) rfl rfl, q_ps hPc hK hDc⟩ rfl rfl hl.1 rfl (lv_room (Nat.le_of_ble_eq_true rfl)) dX11_lineTo_44 ⟨Nat.zero_le _, Nat.zero_le _⟩) (fun H locs hP hD hS => ?_)
      refine lv_bipush (v := 8) hx hb dX11_lineTo_47 (by decide) ?_
      refine lv_icmp_ge (tgt := 56) hx hb dX11_lineTo_49 (by decide) (fun c_15 => ?_) (fun c_15 => ?_)
      · have hF := it_t hF c_15
        exact j56 v2_0 v4_1 v4_0 v5_3 p1 p2 u_10 hF _ _ _ hP hD hS (lv_sub hl [1, 2, 3, 0] rfl)
      · have hF := it_f hF c_15
        refine lv_iconst (v := 1) hx hb dX11_lineTo_52 (by decide) ?_
        refine lv_goto (tgt := 57) hx hb dX11_lineTo_53 (by decide) ?_
        exact j57 v2_0 v4_1 v4_0 v5_3 p1 p2 u_10 1 hF _ _ _ hP hD hS (lv_sub hl [1, 2, 3, 0] rfl)
