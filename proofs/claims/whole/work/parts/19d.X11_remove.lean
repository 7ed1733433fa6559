-- StrokeOutliner.remove(I)I
def F_X11_remove (n : Nat) (v2_0 : Nat → Int32) (v4_1 : Int32) (v4_0 : Nat → Int32) (v5_3 : Int32) (p1 : Int32) : Option (Sum (Int32 × (Nat → Int32) × Int32 × (Nat → Int32) × Int32) (Nat × (Nat → Int32) × Int32 × (Nat → Int32) × Int32)) :=
  obd (F_X1_subpathCount v2_0) (fun u_1 => obx (F_X11_checkIndex p1 u_1) (fun x_3 => some (.inr (x_3, v2_0, v4_1, v4_0, v5_3))) (fun u_2 => obd (F_X11_saveState v2_0 v4_1 v4_0) (fun u_4 => obd (F_X1_dropSubpath n v2_0 p1) (fun u_5 => obd (F_X1_subpathCount u_5) (fun u_6 => some (.inl (u_6, u_5, u_4.1, u_4.2.1, u_4.2.2)))))))
abbrev wd_X11_remove (cI : ClassId) (a0 : Nat → Nat) (a1 : Nat → Nat) (a2 : Nat → Nat) (a3 : Nat → Nat) (a4 : Nat → Nat) (a5 : Nat → Nat) (a6 : Nat → Nat) (a7 : Nat → Nat) (a8 : Nat → Nat) (a9 : Nat → Nat) (a10 : Nat → Nat) (v2_0 : Nat → Int32) (v4_1 : Int32) (v4_0 : Nat → Int32) (v5_3 : Int32) (v5_4 : Int32) (v5_5 : Int32) (v5_6 : Int32) (v5_7 : Int32) : va_W := [(a0 0, .inr (10, [.ref (a2 0), .ref (a1 0), .ref (a4 0), .ref (a9 0), .ref (a10 0), .ref (a5 0), .ref (a3 0)])), (a2 0, .inr (1, [.ref (a2 1)])), (a2 1, .inl (cI, 86, .inl v2_0)), (a4 0, .inr (3, [.ref (a4 1), .int v4_1])), (a4 1, .inl (cI, 344, .inl v4_0)), (a5 0, .inr (9, [.ref (a8 0), .ref (a7 0), .ref (a6 0), .int v5_3, .int v5_4, .int v5_5, .int v5_6, .int v5_7]))]
abbrev wz_X11_remove : List Cond := .code yX11_remove cX11_remove 2 (some .int) :: wALL
abbrev rm_X11_remove : Room := { frames := 4, cells := 0, slots := 0, locals := 89 }
abbrev Q_X11_remove (dC : Nat → ClassId) (dI : Nat → Nat → Nat) (cI : ClassId) (a0 : Nat → Nat) (a1 : Nat → Nat) (a2 : Nat → Nat) (a3 : Nat → Nat) (a4 : Nat → Nat) (a5 : Nat → Nat) (a6 : Nat → Nat) (a7 : Nat → Nat) (a8 : Nat → Nat) (a9 : Nat → Nat) (a10 : Nat → Nat) (v5_4 : Int32) (v5_5 : Int32) (v5_6 : Int32) (v5_7 : Int32) (u : (Int32 × (Nat → Int32) × Int32 × (Nat → Int32) × Int32)) (A : Nat → Prop) : Array Value → State → Outcome → State → Prop := va_Qi (fun (r : Int32) (_ : Unit) => r = u.1) (fun _ => q_at dC dI cI A (wd_X11_remove cI a0 a1 a2 a3 a4 a5 a6 a7 a8 a9 a10 u.2.1 u.2.2.1 u.2.2.2.1 u.2.2.2.2 v5_4 v5_5 v5_6 v5_7)) A
set_option maxHeartbeats 4000000 in
set_option maxRecDepth 100000 in
theorem c_X11_remove (l : Launch) (dC : Nat → ClassId) (dI : Nat → Nat → Nat) (cI : ClassId) (sz : Nat) (a0 : Nat → Nat) (a1 : Nat → Nat) (a2 : Nat → Nat) (a3 : Nat → Nat) (a4 : Nat → Nat) (a5 : Nat → Nat) (a6 : Nat → Nat) (a7 : Nat → Nat) (a8 : Nat → Nat) (a9 : Nat → Nat) (a10 : Nat → Nat) (v2_0 : Nat → Int32) (v4_1 : Int32) (v4_0 : Nat → Int32) (v5_3 : Int32) (v5_4 : Int32) (v5_5 : Int32) (v5_6 : Int32) (v5_7 : Int32) (p1 : Int32) (n : Nat) (u : (Int32 × (Nat → Int32) × Int32 × (Nat → Int32) × Int32)) (hF : F_X11_remove n v2_0 v4_1 v4_0 v5_3 p1 = some (.inl u)) : Met l yX11_remove wz_X11_remove rm_X11_remove (va_Pc [.ref (a0 0), .int p1] (q_pre dC dI cI (wd_X11_remove cI a0 a1 a2 a3 a4 a5 a6 a7 a8 a9 a10 v2_0 v4_1 v4_0 v5_3 v5_4 v5_5 v5_6 v5_7) sz)) (Q_X11_remove dC dI cI a0 a1 a2 a3 a4 a5 a6 a7 a8 a9 a10 v5_4 v5_5 v5_6 v5_7 u (va_A (wd_X11_remove cI a0 a1 a2 a3 a4 a5 a6 a7 a8 a9 a10 v2_0 v4_1 v4_0 v5_3 v5_4 v5_5 v5_6 v5_7) sz)) 0 0 (va_A (wd_X11_remove cI a0 a1 a2 a3 a4 a5 a6 a7 a8 a9 a10 v2_0 v4_1 v4_0 v5_3 v5_4 v5_5 v5_6 v5_7) sz) := by
  refine Met.ofW (cc := cX11_remove) (maxL := 2) (ret := (some .int)) (by decide) rfl ?_
  intro p e s m args below meth c s₁ B hml hv
  obtain ⟨rfl, hsz, hP, hK, hD0⟩ := hv
  have hx := B.exec
  have hb := B.bytes
  have hr := B.returns
  have hts := atoms_spec (ws := wz_X11_remove) B.pre
  have hta := wz_tl hts
  have hown : s.vm.findClass RX11 = some m.cls := findClass_of_methodNamed B.named
  have hlocks := B.notSynchronized
  subst hsz
  have hD := hD0.self (sz := s.heap.size)
  generalize hAe : va_A (wd_X11_remove cI a0 a1 a2 a3 a4 a5 a6 a7 a8 a9 a10 v2_0 v4_1 v4_0 v5_3 v5_4 v5_5 v5_6 v5_7) s.heap.size = A at hD ⊢
  have hA : ∀ q : Nat, s.heap.size ≤ q → A q := fun q h => by rw [← hAe]; exact Or.inr h
  have hS : va_S A s.heap s.heap [] := va_S.rf
  have hP : va_P (dC, dI) vwCl (wd_X11_remove cI a0 a1 a2 a3 a4 a5 a6 a7 a8 a9 a10 v2_0 v4_1 v4_0 v5_3 v5_4 v5_5 v5_6 v5_7) s.heap := hP
  have hl := lv_entry ([.ref (a0 0), .int p1]) (n := 2) (Nat.le_of_ble_eq_true rfl)
  rw [lg_entry_eq]
  generalize (lg_sl ([.ref (a0 0), .int p1]) ++ List.replicate (2 - (lg_sl ([.ref (a0 0), .int p1])).length) Slot.unset).toArray = ls at hl ⊢
  have hl : lv_has ls 2 [(0, .ref (a0 0)), (1, .int p1)] := hl
  obtain ⟨H, hHe⟩ : ∃ H, H = s.heap := ⟨_, rfl⟩
  have hS : va_S A s.heap H [] := by rw [hHe]; exact hS
  have hP : va_P (dC, dI) vwCl (wd_X11_remove cI a0 a1 a2 a3 a4 a5 a6 a7 a8 a9 a10 v2_0 v4_1 v4_0 v5_3 v5_4 v5_5 v5_6 v5_7) H := by rw [hHe]; exact hP
  rw [← hHe]
  unfold F_X11_remove at hF
  refine lv_iload_n hx hb dX11_remove_0 rfl (lv_at hl 1 rfl) ?_
  refine lv_aload_n hx hb dX11_remove_1 rfl (lv_at hl 0 rfl) ?_
  refine va_get (D := (dC, dI)) (ci := 10) (v := .ref (a2 0)) (C := RX11) (T := TX11) (N := 7) hx hb hta uw_X11 hown hK hP 0 rfl rfl 0 (by decide) (hta _ mA7) (fun _ h9 => h9) rfl dX11_remove_2 ?_
  obtain ⟨u_1, hu_1, hF⟩ := obd_some hF
  have hPc := hP.sub (ws' := (wd_X1_subpathCount cI a2 v2_0)) [1, 2] rfl
  have hDc := hD.sub (ws' := (wd_X1_subpathCount cI a2 v2_0)) [1, 2] rfl rfl
  refine q_calli (wc := (wd_X1_subpathCount cI a2 v2_0)) (w1 := (wd_X1_subpathCount cI a2 v2_0)) (ws' := (wd_X11_remove cI a0 a1 a2 a3 a4 a5 a6 a7 a8 a9 a10 v2_0 v4_1 v4_0 v5_3 v5_4 v5_5 v5_6 v5_7)) hP hD hS hA [1, 2] [0, 3, 4, 5] [0, 4, 5, 1, 2, 3] rfl rfl rfl (by decide) rfl rfl (va_runV (As := []) (rest := [.int p1]) ⟨hx, hb, hml, hown, hta⟩ (c_X1_subpathCount l dC dI cI H.size a2 v2_0 u_1 hu_1) (cwV 0 hta (ga_V mA112 mA113 mA114 mA6 mA115) rfl rfl rfl (by decide +kernel) ⟨Nat.le_of_ble_eq_true rfl, Nat.le_of_ble_eq_true rfl⟩) ⟨q_fb, va_recv hK hP (ci := 1) (q0 := 1) rfl rfl, q_ps hPc hK hDc⟩ rfl rfl hl.1 rfl (lv_room (Nat.le_of_ble_eq_true rfl)) dX11_remove_5 ⟨Nat.zero_le _, Nat.zero_le _⟩) (fun H locs hP hD hS => ?_)
  refine obx_elim hF (fun x_3 hx_3 hF => ?_) (fun u_2 hu_2 hF => ?_)
  · exact absurd hF no_rl
  have hPc := hP.sub (ws' := ([] : va_W)) [] rfl
  have hDc := hD.sub (ws' := ([] : va_W)) [] rfl rfl
  refine q_callv (wc := ([] : va_W)) (w1 := ([] : va_W)) (ws' := (wd_X11_remove cI a0 a1 a2 a3 a4 a5 a6 a7 a8 a9 a10 v2_0 v4_1 v4_0 v5_3 v5_4 v5_5 v5_6 v5_7)) hP hD hS hA [] [0, 1, 2, 3, 4, 5] [0, 1, 2, 3, 4, 5] rfl rfl rfl (by decide) rfl rfl (va_runS (As := [.int p1, .int u_1]) (rest := []) ⟨hx, hb, hml, hown, hta⟩ (c_X11_checkIndex l dC dI cI H.size p1 u_1 u_2 hu_2) (va_cwS 2 hta (ga_S mA244 mA245 mA108 mA246) rfl rfl rfl (by decide +kernel) ⟨Nat.le_of_ble_eq_true rfl, Nat.le_of_ble_eq_true rfl⟩) ⟨q_fb, q_ps hPc hK hDc⟩ rfl rfl hl.1 rfl (lv_room (Nat.le_of_ble_eq_true rfl)) dX11_remove_8 ⟨Nat.zero_le _, Nat.zero_le _⟩) (fun H locs hP hD hS => ?_)
  refine lv_aload_n hx hb dX11_remove_11 rfl (lv_at hl 0 rfl) ?_
  obtain ⟨u_4, hu_4, hF⟩ := obd_some hF
  have hPc := hP.sub (ws' := (wd_X11_saveState cI a0 a1 a2 a3 a4 a5 a6 a7 a8 a9 a10 v2_0 v4_1 v4_0 v5_3 v5_4 v5_5 v5_6 v5_7)) [0, 1, 2, 3, 4, 5] rfl
  have hDc := hD.sub (ws' := (wd_X11_saveState cI a0 a1 a2 a3 a4 a5 a6 a7 a8 a9 a10 v2_0 v4_1 v4_0 v5_3 v5_4 v5_5 v5_6 v5_7)) [0, 1, 2, 3, 4, 5] rfl rfl
  refine q_callv (wc := (wd_X11_saveState cI a0 a1 a2 a3 a4 a5 a6 a7 a8 a9 a10 v2_0 v4_1 v4_0 v5_3 v5_4 v5_5 v5_6 v5_7)) (w1 := (wd_X11_saveState cI a0 a1 a2 a3 a4 a5 a6 a7 a8 a9 a10 v2_0 u_4.1 u_4.2.1 u_4.2.2 v5_4 v5_5 v5_6 v5_7)) (ws' := (wd_X11_remove cI a0 a1 a2 a3 a4 a5 a6 a7 a8 a9 a10 v2_0 u_4.1 u_4.2.1 u_4.2.2 v5_4 v5_5 v5_6 v5_7)) hP hD hS hA [0, 1, 2, 3, 4, 5] [] [0, 1, 2, 3, 4, 5] rfl rfl rfl (by decide) rfl rfl (va_runV (As := []) (rest := []) ⟨hx, hb, hml, hown, hta⟩ (c_X11_saveState l dC dI cI H.size a0 a1 a2 a3 a4 a5 a6 a7 a8 a9 a10 v2_0 v4_1 v4_0 v5_3 v5_4 v5_5 v5_6 v5_7 u_4 hu_4) (cwV 0 hta (ga_V mA125 mA126 mA127 mA108 mA128) rfl rfl rfl (by decide +kernel) ⟨Nat.le_of_ble_eq_true rfl, Nat.le_of_ble_eq_true rfl⟩) ⟨q_fb, va_recv hK hP (ci := 10) (q0 := 0) rfl rfl, q_ps hPc hK hDc⟩ rfl rfl hl.1 rfl (lv_room (Nat.le_of_ble_eq_true rfl)) dX11_remove_12 ⟨Nat.zero_le _, Nat.zero_le _⟩) (fun H locs hP hD hS => ?_)
  refine lv_aload_n hx hb dX11_remove_15 rfl (lv_at hl 0 rfl) ?_
  refine va_get (D := (dC, dI)) (ci := 10) (v := .ref (a2 0)) (C := RX11) (T := TX11) (N := 7) hx hb hta uw_X11 hown hK hP 0 rfl rfl 0 (by decide) (hta _ mA7) (fun _ h9 => h9) rfl dX11_remove_16 ?_
  refine lv_iload_n hx hb dX11_remove_19 rfl (lv_at hl 1 rfl) ?_
  obtain ⟨u_5, hu_5, hF⟩ := obd_some hF
  have hPc := hP.sub (ws' := (wd_X1_dropSubpath cI a2 v2_0)) [1, 2] rfl
  have hDc := hD.sub (ws' := (wd_X1_dropSubpath cI a2 v2_0)) [1, 2] rfl rfl
  refine q_callv (wc := (wd_X1_dropSubpath cI a2 v2_0)) (w1 := (wd_X1_dropSubpath cI a2 u_5)) (ws' := (wd_X11_remove cI a0 a1 a2 a3 a4 a5 a6 a7 a8 a9 a10 u_5 u_4.1 u_4.2.1 u_4.2.2 v5_4 v5_5 v5_6 v5_7)) hP hD hS hA [1, 2] [0, 3, 4, 5] [0, 4, 5, 1, 2, 3] rfl rfl rfl (by decide) rfl rfl (va_runV (As := [.int p1]) (rest := []) ⟨hx, hb, hml, hown, hta⟩ (c_X1_dropSubpath l dC dI cI H.size a2 v2_0 p1 n u_5 hu_5) (cwV 1 hta (ga_V mA249 mA250 mA251 mA6 mA252) rfl rfl rfl (by decide +kernel) ⟨Nat.le_of_ble_eq_true rfl, Nat.le_of_ble_eq_true rfl⟩) ⟨q_fb, va_recv hK hP (ci := 1) (q0 := 1) rfl rfl, q_ps hPc hK hDc⟩ rfl rfl hl.1 rfl (lv_room (Nat.le_of_ble_eq_true rfl)) dX11_remove_20 ⟨Nat.zero_le _, Nat.zero_le _⟩) (fun H locs hP hD hS => ?_)
  refine lv_aload_n hx hb dX11_remove_23 rfl (lv_at hl 0 rfl) ?_
  refine va_get (D := (dC, dI)) (ci := 10) (v := .ref (a2 0)) (C := RX11) (T := TX11) (N := 7) hx hb hta uw_X11 hown hK hP 0 rfl rfl 0 (by decide) (hta _ mA7) (fun _ h9 => h9) rfl dX11_remove_24 ?_
  obtain ⟨u_6, hu_6, hF⟩ := obd_some hF
  have hPc := hP.sub (ws' := (wd_X1_subpathCount cI a2 u_5)) [1, 2] rfl
  have hDc := hD.sub (ws' := (wd_X1_subpathCount cI a2 u_5)) [1, 2] rfl rfl
  refine q_calli (wc := (wd_X1_subpathCount cI a2 u_5)) (w1 := (wd_X1_subpathCount cI a2 u_5)) (ws' := (wd_X11_remove cI a0 a1 a2 a3 a4 a5 a6 a7 a8 a9 a10 u_5 u_4.1 u_4.2.1 u_4.2.2 v5_4 v5_5 v5_6 v5_7)) hP hD hS hA [1, 2] [0, 3, 4, 5] [0, 4, 5, 1, 2, 3] rfl rfl rfl (by decide) rfl rfl (va_runV (As := []) (rest := []) ⟨hx, hb, hml, hown, hta⟩ (c_X1_subpathCount l dC dI cI H.size a2 u_5 u_6 hu_6) (cwV 0 hta (ga_V mA112 mA113 mA114 mA6 mA115) rfl rfl rfl (by decide +kernel) ⟨Nat.le_of_ble_eq_true rfl, Nat.le_of_ble_eq_true rfl⟩) ⟨q_fb, va_recv hK hP (ci := 1) (q0 := 1) rfl rfl, q_ps hPc hK hDc⟩ rfl rfl hl.1 rfl (lv_room (Nat.le_of_ble_eq_true rfl)) dX11_remove_27 ⟨Nat.zero_le _, Nat.zero_le _⟩) (fun H locs hP hD hS => ?_)
  obtain rfl := Sum.inl.inj (Option.some.inj hF)
  exact W.iret (v := u_6) hx hb hr (fun t ht hW => ⟨⟨u_6, (), rfl, rfl, by rw [ht]; exact hP, va_K.moved hW.alike hK, hD⟩, hS.F ht⟩) hS.2.2 dX11_remove_30
abbrev rmx_X11_remove : Room := { frames := 7, cells := 1, slots := 6, locals := 103 }
abbrev XC_X11_remove (dC : Nat → ClassId) (dI : Nat → Nat → Nat) (cI : ClassId) (a0 : Nat → Nat) (a1 : Nat → Nat) (a2 : Nat → Nat) (a3 : Nat → Nat) (a4 : Nat → Nat) (a5 : Nat → Nat) (a6 : Nat → Nat) (a7 : Nat → Nat) (a8 : Nat → Nat) (a9 : Nat → Nat) (a10 : Nat → Nat) (v5_4 : Int32) (v5_5 : Int32) (v5_6 : Int32) (v5_7 : Int32) (x : (Nat × (Nat → Int32) × Int32 × (Nat → Int32) × Int32)) (A : Nat → Prop) : String → State → State → Prop := vx_X (fun (_ : Unit) => True) (fun E _ t => E = exN x.1 ∧ q_at dC dI cI A (wd_X11_remove cI a0 a1 a2 a3 a4 a5 a6 a7 a8 a9 a10 x.2.1 x.2.2.1 x.2.2.2.1 x.2.2.2.2 v5_4 v5_5 v5_6 v5_7) t) A
set_option maxHeartbeats 4000000 in
set_option maxRecDepth 100000 in
theorem c_X11_remove_x (l : Launch) (hlt : l.stackTraces = false) (S : Nat → Nat) (dC : Nat → ClassId) (dI : Nat → Nat → Nat) (cI : ClassId) (sz : Nat) (a0 : Nat → Nat) (a1 : Nat → Nat) (a2 : Nat → Nat) (a3 : Nat → Nat) (a4 : Nat → Nat) (a5 : Nat → Nat) (a6 : Nat → Nat) (a7 : Nat → Nat) (a8 : Nat → Nat) (a9 : Nat → Nat) (a10 : Nat → Nat) (v2_0 : Nat → Int32) (v4_1 : Int32) (v4_0 : Nat → Int32) (v5_3 : Int32) (v5_4 : Int32) (v5_5 : Int32) (v5_6 : Int32) (v5_7 : Int32) (p1 : Int32) (n : Nat) (x : (Nat × (Nat → Int32) × Int32 × (Nat → Int32) × Int32)) (hF : F_X11_remove n v2_0 v4_1 v4_0 v5_3 p1 = some (.inr x)) : vx_Met l yX11_remove wz_X11_remove rmx_X11_remove (va_Pc [.ref (a0 0), .int p1] (qx_pre S dC dI cI (wd_X11_remove cI a0 a1 a2 a3 a4 a5 a6 a7 a8 a9 a10 v2_0 v4_1 v4_0 v5_3 v5_4 v5_5 v5_6 v5_7) sz)) (va_Qv (fun (_ : Unit) => False) (fun _ _ => True) (va_A (wd_X11_remove cI a0 a1 a2 a3 a4 a5 a6 a7 a8 a9 a10 v2_0 v4_1 v4_0 v5_3 v5_4 v5_5 v5_6 v5_7) sz)) (XC_X11_remove dC dI cI a0 a1 a2 a3 a4 a5 a6 a7 a8 a9 a10 v5_4 v5_5 v5_6 v5_7 x (va_A (wd_X11_remove cI a0 a1 a2 a3 a4 a5 a6 a7 a8 a9 a10 v2_0 v4_1 v4_0 v5_3 v5_4 v5_5 v5_6 v5_7) sz)) 1 6 (va_A (wd_X11_remove cI a0 a1 a2 a3 a4 a5 a6 a7 a8 a9 a10 v2_0 v4_1 v4_0 v5_3 v5_4 v5_5 v5_6 v5_7) sz) := by
  refine vx_ofW (cc := cX11_remove) (maxL := 2) (ret := (some .int)) (by decide) rfl ?_
  intro p e s m args below meth c s₁ B hml hxt hv
  obtain ⟨rfl, ⟨hsz, hP, hK, hD0⟩, hE⟩ := hv
  have hx := B.exec
  have hb := B.bytes
  have hr := B.returns
  have hts := atoms_spec (ws := wz_X11_remove) B.pre
  have hta := wz_tl hts
  have hown : s.vm.findClass RX11 = some m.cls := findClass_of_methodNamed B.named
  have hlocks := B.notSynchronized
  subst hsz
  have hD := hD0.self (sz := s.heap.size)
  generalize hAe : va_A (wd_X11_remove cI a0 a1 a2 a3 a4 a5 a6 a7 a8 a9 a10 v2_0 v4_1 v4_0 v5_3 v5_4 v5_5 v5_6 v5_7) s.heap.size = A at hD hE ⊢
  have hA : ∀ q : Nat, s.heap.size ≤ q → A q := fun q h => by rw [← hAe]; exact Or.inr h
  have hS : va_S A s.heap s.heap [] := va_S.rf
  have hP : va_P (dC, dI) vwCl (wd_X11_remove cI a0 a1 a2 a3 a4 a5 a6 a7 a8 a9 a10 v2_0 v4_1 v4_0 v5_3 v5_4 v5_5 v5_6 v5_7) s.heap := hP
  have hl := lv_entry ([.ref (a0 0), .int p1]) (n := 2) (Nat.le_of_ble_eq_true rfl)
  rw [lg_entry_eq]
  generalize (lg_sl ([.ref (a0 0), .int p1]) ++ List.replicate (2 - (lg_sl ([.ref (a0 0), .int p1])).length) Slot.unset).toArray = ls at hl ⊢
  have hl : lv_has ls 2 [(0, .ref (a0 0)), (1, .int p1)] := hl
  obtain ⟨H, hHe⟩ : ∃ H, H = s.heap := ⟨_, rfl⟩
  have hS : va_S A s.heap H [] := by rw [hHe]; exact hS
  have hP : va_P (dC, dI) vwCl (wd_X11_remove cI a0 a1 a2 a3 a4 a5 a6 a7 a8 a9 a10 v2_0 v4_1 v4_0 v5_3 v5_4 v5_5 v5_6 v5_7) H := by rw [hHe]; exact hP
  rw [← hHe]
  unfold F_X11_remove at hF
  refine lv_iload_n hx hb dX11_remove_0 rfl (lv_at hl 1 rfl) ?_
  refine lv_aload_n hx hb dX11_remove_1 rfl (lv_at hl 0 rfl) ?_
  refine va_get (D := (dC, dI)) (ci := 10) (v := .ref (a2 0)) (C := RX11) (T := TX11) (N := 7) hx hb hta uw_X11 hown hK hP 0 rfl rfl 0 (by decide) (hta _ mA7) (fun _ h9 => h9) rfl dX11_remove_2 ?_
  obtain ⟨u_1, hu_1, hF⟩ := obd_some hF
  have hPc := hP.sub (ws' := (wd_X1_subpathCount cI a2 v2_0)) [1, 2] rfl
  have hDc := hD.sub (ws' := (wd_X1_subpathCount cI a2 v2_0)) [1, 2] rfl rfl
  refine q_calli (wc := (wd_X1_subpathCount cI a2 v2_0)) (w1 := (wd_X1_subpathCount cI a2 v2_0)) (ws' := (wd_X11_remove cI a0 a1 a2 a3 a4 a5 a6 a7 a8 a9 a10 v2_0 v4_1 v4_0 v5_3 v5_4 v5_5 v5_6 v5_7)) hP hD hS hA [1, 2] [0, 3, 4, 5] [0, 4, 5, 1, 2, 3] rfl rfl rfl (by decide) rfl rfl (va_runV (As := []) (rest := [.int p1]) ⟨hx, hb, hml, hown, hta⟩ (c_X1_subpathCount l dC dI cI H.size a2 v2_0 u_1 hu_1) (cwV 0 hta (ga_V mA112 mA113 mA114 mA6 mA115) rfl rfl rfl (by decide +kernel) ⟨Nat.le_of_ble_eq_true rfl, Nat.le_of_ble_eq_true rfl⟩) ⟨q_fb, va_recv hK hP (ci := 1) (q0 := 1) rfl rfl, q_ps hPc hK hDc⟩ rfl rfl hl.1 rfl (lv_room (Nat.le_of_ble_eq_true rfl)) dX11_remove_5 ⟨Nat.zero_le _, Nat.zero_le _⟩) (fun H locs hP hD hS => ?_)
  refine obx_elim hF (fun x_3 hx_3 hF => ?_) (fun u_2 hu_2 hF => ?_)
  · obtain rfl := Sum.inr.inj (Option.some.inj hF)
    have hPc := hP.sub (ws' := ([] : va_W)) [] rfl
    have hDc := hD.sub (ws' := ([] : va_W)) [] rfl rfl
    refine qx_thr (kd := x_3) hP hD hK hS hA hxt hlocks (vx_runS (As := [.int p1, .int u_1]) (rest := []) ⟨hx, hb, hml, hown, hta⟩ (c_X11_checkIndex_x l hlt S dC dI cI H.size p1 u_1 x_3 hx_3) (va_cwS 2 hta (ga_S mA244 mA245 mA108 mA246) rfl rfl rfl (by decide +kernel) ⟨Nat.le_of_ble_eq_true rfl, Nat.le_of_ble_eq_true rfl⟩) ⟨qx_fb, qx_ps hPc hK hDc hE hS (va_free (wc := ([] : va_W)) hD hS hA [] rfl)⟩ rfl rfl hl.1 rfl (lv_room (Nat.le_of_ble_eq_true rfl)) dX11_remove_8 ⟨Nat.le_of_ble_eq_true rfl, Nat.le_of_ble_eq_true rfl⟩) (fun t hP hK hF9 => ⟨(), trivial, ⟨rfl, hP, hK, hD⟩, hF9⟩) (Nat.le_of_ble_eq_true rfl) (Nat.le_of_ble_eq_true rfl)
  have hPc := hP.sub (ws' := ([] : va_W)) [] rfl
  have hDc := hD.sub (ws' := ([] : va_W)) [] rfl rfl
  refine q_callv (wc := ([] : va_W)) (w1 := ([] : va_W)) (ws' := (wd_X11_remove cI a0 a1 a2 a3 a4 a5 a6 a7 a8 a9 a10 v2_0 v4_1 v4_0 v5_3 v5_4 v5_5 v5_6 v5_7)) hP hD hS hA [] [0, 1, 2, 3, 4, 5] [0, 1, 2, 3, 4, 5] rfl rfl rfl (by decide) rfl rfl (va_runS (As := [.int p1, .int u_1]) (rest := []) ⟨hx, hb, hml, hown, hta⟩ (c_X11_checkIndex l dC dI cI H.size p1 u_1 u_2 hu_2) (va_cwS 2 hta (ga_S mA244 mA245 mA108 mA246) rfl rfl rfl (by decide +kernel) ⟨Nat.le_of_ble_eq_true rfl, Nat.le_of_ble_eq_true rfl⟩) ⟨q_fb, q_ps hPc hK hDc⟩ rfl rfl hl.1 rfl (lv_room (Nat.le_of_ble_eq_true rfl)) dX11_remove_8 ⟨Nat.zero_le _, Nat.zero_le _⟩) (fun H locs hP hD hS => ?_)
  refine lv_aload_n hx hb dX11_remove_11 rfl (lv_at hl 0 rfl) ?_
  obtain ⟨u_4, hu_4, hF⟩ := obd_some hF
  have hPc := hP.sub (ws' := (wd_X11_saveState cI a0 a1 a2 a3 a4 a5 a6 a7 a8 a9 a10 v2_0 v4_1 v4_0 v5_3 v5_4 v5_5 v5_6 v5_7)) [0, 1, 2, 3, 4, 5] rfl
  have hDc := hD.sub (ws' := (wd_X11_saveState cI a0 a1 a2 a3 a4 a5 a6 a7 a8 a9 a10 v2_0 v4_1 v4_0 v5_3 v5_4 v5_5 v5_6 v5_7)) [0, 1, 2, 3, 4, 5] rfl rfl
  refine q_callv (wc := (wd_X11_saveState cI a0 a1 a2 a3 a4 a5 a6 a7 a8 a9 a10 v2_0 v4_1 v4_0 v5_3 v5_4 v5_5 v5_6 v5_7)) (w1 := (wd_X11_saveState cI a0 a1 a2 a3 a4 a5 a6 a7 a8 a9 a10 v2_0 u_4.1 u_4.2.1 u_4.2.2 v5_4 v5_5 v5_6 v5_7)) (ws' := (wd_X11_remove cI a0 a1 a2 a3 a4 a5 a6 a7 a8 a9 a10 v2_0 u_4.1 u_4.2.1 u_4.2.2 v5_4 v5_5 v5_6 v5_7)) hP hD hS hA [0, 1, 2, 3, 4, 5] [] [0, 1, 2, 3, 4, 5] rfl rfl rfl (by decide) rfl rfl (va_runV (As := []) (rest := []) ⟨hx, hb, hml, hown, hta⟩ (c_X11_saveState l dC dI cI H.size a0 a1 a2 a3 a4 a5 a6 a7 a8 a9 a10 v2_0 v4_1 v4_0 v5_3 v5_4 v5_5 v5_6 v5_7 u_4 hu_4) (cwV 0 hta (ga_V mA125 mA126 mA127 mA108 mA128) rfl rfl rfl (by decide +kernel) ⟨Nat.le_of_ble_eq_true rfl, Nat.le_of_ble_eq_true rfl⟩) ⟨q_fb, va_recv hK hP (ci := 10) (q0 := 0) rfl rfl, q_ps hPc hK hDc⟩ rfl rfl hl.1 rfl (lv_room (Nat.le_of_ble_eq_true rfl)) dX11_remove_12 ⟨Nat.zero_le _, Nat.zero_le _⟩) (fun H locs hP hD hS => ?_)
  refine lv_aload_n hx hb dX11_remove_15 rfl (lv_at hl 0 rfl) ?_
  refine va_get (D := (dC, dI)) (ci := 10) (v := .ref (a2 0)) (C := RX11) (T := TX11) (N := 7) hx hb hta uw_X11 hown hK hP 0 rfl rfl 0 (by decide) (hta _ mA7) (fun _ h9 => h9) rfl dX11_remove_16 ?_
  refine lv_iload_n hx hb dX11_remove_19 rfl (lv_at hl 1 rfl) ?_
  obtain ⟨u_5, hu_5, hF⟩ := obd_some hF
  have hPc := hP.sub (ws' := (wd_X1_dropSubpath cI a2 v2_0)) [1, 2] rfl
  have hDc := hD.sub (ws' := (wd_X1_dropSubpath cI a2 v2_0)) [1, 2] rfl rfl
  refine q_callv (wc := (wd_X1_dropSubpath cI a2 v2_0)) (w1 := (wd_X1_dropSubpath cI a2 u_5)) (ws' := (wd_X11_remove cI a0 a1 a2 a3 a4 a5 a6 a7 a8 a9 a10 u_5 u_4.1 u_4.2.1 u_4.2.2 v5_4 v5_5 v5_6 v5_7)) hP hD hS hA [1, 2] [0, 3, 4, 5] [0, 4, 5, 1, 2, 3] rfl rfl rfl (by decide) rfl rfl (va_runV (As := [.int p1]) (rest := []) ⟨hx, hb, hml, hown, hta⟩ (c_X1_dropSubpath l dC dI cI H.size a2 v2_0 p1 n u_5 hu_5) (cwV 1 hta (ga_V mA249 mA250 mA251 mA6 mA252) rfl rfl rfl (by decide +kernel) ⟨Nat.le_of_ble_eq_true rfl, Nat.le_of_ble_eq_true rfl⟩) ⟨q_fb, va_recv hK hP (ci := 1) (q0 := 1) rfl rfl, q_ps hPc hK hDc⟩ rfl rfl hl.1 rfl (lv_room (Nat.le_of_ble_eq_true rfl)) dX11_remove_20 ⟨Nat.zero_le _, Nat.zero_le _⟩) (fun H locs hP hD hS => ?_)
  refine lv_aload_n hx hb dX11_remove_23 rfl (lv_at hl 0 rfl) ?_
  refine va_get (D := (dC, dI)) (ci := 10) (v := .ref (a2 0)) (C := RX11) (T := TX11) (N := 7) hx hb hta uw_X11 hown hK hP 0 rfl rfl 0 (by decide) (hta _ mA7) (fun _ h9 => h9) rfl dX11_remove_24 ?_
  obtain ⟨u_6, hu_6, hF⟩ := obd_some hF
  have hPc := hP.sub (ws' := (wd_X1_subpathCount cI a2 u_5)) [1, 2] rfl
  have hDc := hD.sub (ws' := (wd_X1_subpathCount cI a2 u_5)) [1, 2] rfl rfl
  refine q_calli (wc := (wd_X1_subpathCount cI a2 u_5)) (w1 := (wd_X1_subpathCount cI a2 u_5)) (ws' := (wd_X11_remove cI a0 a1 a2 a3 a4 a5 a6 a7 a8 a9 a10 u_5 u_4.1 u_4.2.1 u_4.2.2 v5_4 v5_5 v5_6 v5_7)) hP hD hS hA [1, 2] [0, 3, 4, 5] [0, 4, 5, 1, 2, 3] rfl rfl rfl (by decide) rfl rfl (va_runV (As := []) (rest := []) ⟨hx, hb, hml, hown, hta⟩ (c_X1_subpathCount l dC dI cI H.size a2 u_5 u_6 hu_6) (cwV 0 hta (ga_V mA112 mA113 mA114 mA6 mA115) rfl rfl rfl (by decide +kernel) ⟨Nat.le_of_ble_eq_true rfl, Nat.le_of_ble_eq_true rfl⟩) ⟨q_fb, va_recv hK hP (ci := 1) (q0 := 1) rfl rfl, q_ps hPc hK hDc⟩ rfl rfl hl.1 rfl (lv_room (Nat.le_of_ble_eq_true rfl)) dX11_remove_27 ⟨Nat.zero_le _, Nat.zero_le _⟩) (fun H locs hP hD hS => ?_)
  exact absurd hF no_lr

-- StrokeOutliner.reverse(I)I
def F_X11_reverse (n : Nat) (v2_0 : Nat → Int32) (v4_1 : Int32) (v4_0 : Nat → Int32) (v5_3 : Int32) (p1 : Int32) : Option (Sum (Int32 × (Nat → Int32) × Int32 × (Nat → Int32) × Int32) (Nat × (Nat → Int32) × Int32 × (Nat → Int32) × Int32)) :=
  obd (F_X1_subpathCount v2_0) (fun u_1 => obx (F_X11_checkIndex p1 u_1) (fun x_3 => some (.inr (x_3, v2_0, v4_1, v4_0, v5_3))) (fun u_2 => obd (F_X11_saveState v2_0 v4_1 v4_0) (fun u_4 => obd (F_X1_turnAround n v2_0 p1) (fun u_5 => obd (F_X1_pointCount u_5 p1) (fun u_6 => some (.inl (u_6, u_5, u_4.1, u_4.2.1, u_4.2.2)))))))
abbrev wd_X11_reverse (cI : ClassId) (a0 : Nat → Nat) (a1 : Nat → Nat) (a2 : Nat → Nat) (a3 : Nat → Nat) (a4 : Nat → Nat) (a5 : Nat → Nat) (a6 : Nat → Nat) (a7 : Nat → Nat) (a8 : Nat → Nat) (a9 : Nat → Nat) (a10 : Nat → Nat) (v2_0 : Nat → Int32) (v4_1 : Int32) (v4_0 : Nat → Int32) (v5_3 : Int32) (v5_4 : Int32) (v5_5 : Int32) (v5_6 : Int32) (v5_7 : Int32) : va_W := [(a0 0, .inr (10, [.ref (a2 0), .ref (a1 0), .ref (a4 0), .ref (a9 0), .ref (a10 0), .ref (a5 0), .ref (a3 0)])), (a2 0, .inr (1, [.ref (a2 1)])), (a2 1, .inl (cI, 86, .inl v2_0)), (a4 0, .inr (3, [.ref (a4 1), .int v4_1])), (a4 1, .inl (cI, 344, .inl v4_0)), (a5 0, .inr (9, [.ref (a8 0), .ref (a7 0), .ref (a6 0), .int v5_3, .int v5_4, .int v5_5, .int v5_6, .int v5_7]))]
abbrev wz_X11_reverse : List Cond := .code yX11_reverse cX11_reverse 2 (some .int) :: wALL
abbrev rm_X11_reverse : Room := { frames := 4, cells := 0, slots := 0, locals := 89 }
abbrev Q_X11_reverse (dC : Nat → ClassId) (dI : Nat → Nat → Nat) (cI : ClassId) (a0 : Nat → Nat) (a1 : Nat → Nat) (a2 : Nat → Nat) (a3 : Nat → Nat) (a4 : Nat → Nat) (a5 : Nat → Nat) (a6 : Nat → Nat) (a7 : Nat → Nat) (a8 : Nat → Nat) (a9 : Nat → Nat) (a10 : Nat → Nat) (v5_4 : Int32) (v5_5 : Int32) (v5_6 : Int32) (v5_7 : Int32) (u : (Int32 × (Nat → Int32) × Int32 × (Nat → Int32) × Int32)) (A : Nat → Prop) : Array Value → State → Outcome → State → Prop := va_Qi (fun (r : Int32) (_ : Unit) => r = u.1) (fun _ => q_at dC dI cI A (wd_X11_reverse cI a0 a1 a2 a3 a4 a5 a6 a7 a8 a9 a10 u.2.1 u.2.2.1 u.2.2.2.1 u.2.2.2.2 v5_4 v5_5 v5_6 v5_7)) A
set_option maxHeartbeats 4000000 in
set_option maxRecDepth 100000 in
theorem c_X11_reverse (l : Launch) (dC : Nat → ClassId) (dI : Nat → Nat → Nat) (cI : ClassId) (sz : Nat) (a0 : Nat → Nat) (a1 : Nat → Nat) (a2 : Nat → Nat) (a3 : Nat → Nat) (a4 : Nat → Nat) (a5 : Nat → Nat) (a6 : Nat → Nat) (a7 : Nat → Nat) (a8 : Nat → Nat) (a9 : Nat → Nat) (a10 : Nat → Nat) (v2_0 : Nat → Int32) (v4_1 : Int32) (v4_0 : Nat → Int32) (v5_3 : Int32) (v5_4 : Int32) (v5_5 : Int32) (v5_6 : Int32) (v5_7 : Int32) (p1 : Int32) (n : Nat) (u : (Int32 × (Nat → Int32) × Int32 × (Nat → Int32) × Int32)) (hF : F_X11_reverse n v2_0 v4_1 v4_0 v5_3 p1 = some (.inl u)) : Met l yX11_reverse wz_X11_reverse rm_X11_reverse (va_Pc [.ref (a0 0), .int p1] (q_pre dC dI cI (wd_X11_reverse cI a0 a1 a2 a3 a4 a5 a6 a7 a8 a9 a10 v2_0 v4_1 v4_0 v5_3 v5_4 v5_5 v5_6 v5_7) sz)) (Q_X11_reverse dC dI cI a0 a1 a2 a3 a4 a5 a6 a7 a8 a9 a10 v5_4 v5_5 v5_6 v5_7 u (va_A (wd_X11_reverse cI a0 a1 a2 a3 a4 a5 a6 a7 a8 a9 a10 v2_0 v4_1 v4_0 v5_3 v5_4 v5_5 v5_6 v5_7) sz)) 0 0 (va_A (wd_X11_reverse cI a0 a1 a2 a3 a4 a5 a6 a7 a8 a9 a10 v2_0 v4_1 v4_0 v5_3 v5_4 v5_5 v5_6 v5_7) sz) := by
  refine Met.ofW (cc := cX11_reverse) (maxL := 2) (ret := (some .int)) (by decide) rfl ?_
  intro p e s m args below meth c s₁ B hml hv
  obtain ⟨rfl, hsz, hP, hK, hD0⟩ := hv
  have hx := B.exec
  have hb := B.bytes
  have hr := B.returns
  have hts := atoms_spec (ws := wz_X11_reverse) B.pre
  have hta := wz_tl hts
  have hown : s.vm.findClass RX11 = some m.cls := findClass_of_methodNamed B.named
  have hlocks := B.notSynchronized
  subst hsz
  have hD := hD0.self (sz := s.heap.size)
  generalize hAe : va_A (wd_X11_reverse cI a0 a1 a2 a3 a4 a5 a6 a7 a8 a9 a10 v2_0 v4_1 v4_0 v5_3 v5_4 v5_5 v5_6 v5_7) s.heap.size = A at hD ⊢
  have hA : ∀ q : Nat, s.heap.size ≤ q → A q := fun q h => by rw [← hAe]; exact Or.inr h
  have hS : va_S A s.heap s.heap [] := va_S.rf
  have hP : va_P (dC, dI) vwCl (wd_X11_reverse cI a0 a1 a2 a3 a4 a5 a6 a7 a8 a9 a10 v2_0 v4_1 v4_0 v5_3 v5_4 v5_5 v5_6 v5_7) s.heap := hP
  have hl := lv_entry ([.ref (a0 0), .int p1]) (n := 2) (Nat.le_of_ble_eq_true rfl)
  rw [lg_entry_eq]
  generalize (lg_sl ([.ref (a0 0), .int p1]) ++ List.replicate (2 - (lg_sl ([.ref (a0 0), .int p1])).length) Slot.unset).toArray = ls at hl ⊢
  have hl : lv_has ls 2 [(0, .ref (a0 0)), (1, .int p1)] := hl
  obtain ⟨H, hHe⟩ : ∃ H, H = s.heap := ⟨_, rfl⟩
  have hS : va_S A s.heap H [] := by rw [hHe]; exact hS
  have hP : va_P (dC, dI) vwCl (wd_X11_reverse cI a0 a1 a2 a3 a4 a5 a6 a7 a8 a9 a10 v2_0 v4_1 v4_0 v5_3 v5_4 v5_5 v5_6 v5_7) H := by rw [hHe]; exact hP
  rw [← hHe]
  unfold F_X11_reverse at hF
  refine lv_iload_n hx hb dX11_reverse_0 rfl (lv_at hl 1 rfl) ?_
  refine lv_aload_n hx hb dX11_reverse_1 rfl (lv_at hl 0 rfl) ?_
  refine va_get (D := (dC, dI)) (ci := 10) (v := .ref (a2 0)) (C := RX11) (T := TX11) (N := 7) hx hb hta uw_X11 hown hK hP 0 rfl rfl 0 (by decide) (hta _ mA7) (fun _ h9 => h9) rfl dX11_reverse_2 ?_
  obtain ⟨u_1, hu_1, hF⟩ := obd_some hF
  have hPc := hP.sub (ws' := (wd_X1_subpathCount cI a2 v2_0)) [1, 2] rfl
  have hDc := hD.sub (ws' := (wd_X1_subpathCount cI a2 v2_0)) [1, 2] rfl rfl
  refine q_calli (wc := (wd_X1_subpathCount cI a2 v2_0)) (w1 := (wd_X1_subpathCount cI a2 v2_0)) (ws' := (wd_X11_reverse cI a0 a1 a2 a3 a4 a5 a6 a7 a8 a9 a10 v2_0 v4_1 v4_0 v5_3 v5_4 v5_5 v5_6 v5_7)) hP hD hS hA [1, 2] [0, 3, 4, 5] [0, 4, 5, 1, 2, 3] rfl rfl rfl (by decide) rfl rfl (va_runV (As := []) (rest := [.int p1]) ⟨hx, hb, hml, hown, hta⟩ (c_X1_subpathCount l dC dI cI H.size a2 v2_0 u_1 hu_1) (cwV 0 hta (ga_V mA112 mA113 mA114 mA6 mA115) rfl rfl rfl (by decide +kernel) ⟨Nat.le_of_ble_eq_true rfl, Nat.le_of_ble_eq_true rfl⟩) ⟨q_fb, va_recv hK hP (ci := 1) (q0 := 1) rfl rfl, q_ps hPc hK hDc⟩ rfl rfl hl.1 rfl (lv_room (Nat.le_of_ble_eq_true rfl)) dX11_reverse_5 ⟨Nat.zero_le _, Nat.zero_le _⟩) (fun H locs hP hD hS => ?_)
  refine obx_elim hF (fun x_3 hx_3 hF => ?_) (fun u_2 hu_2 hF => ?_)
  · exact absurd hF no_rl
  have hPc := hP.sub (ws' := ([] : va_W)) [] rfl
  have hDc := hD.sub (ws' := ([] : va_W)) [] rfl rfl
  refine q_callv (wc := ([] : va_W)) (w1 := ([] : va_W)) (ws' := (wd_X11_reverse cI a0 a1 a2 a3 a4 a5 a6 a7 a8 a9 a10 v2_0 v4_1 v4_0 v5_3 v5_4 v5_5 v5_6 v5_7)) hP hD hS hA [] [0, 1, 2, 3, 4, 5] [0, 1, 2, 3, 4, 5] rfl rfl rfl (by decide) rfl rfl (va_runS (As := [.int p1, .int u_1]) (rest := []) ⟨hx, hb, hml, hown, hta⟩ (c_X11_checkIndex l dC dI cI H.size p1 u_1 u_2 hu_2) (va_cwS 2 hta (ga_S mA244 mA245 mA108 mA246) rfl rfl rfl (by decide +kernel) ⟨Nat.le_of_ble_eq_true rfl, Nat.le_of_ble_eq_true rfl⟩) ⟨q_fb, q_ps hPc hK hDc⟩ rfl rfl hl.1 rfl (lv_room (Nat.le_of_ble_eq_true rfl)) dX11_reverse_8 ⟨Nat.zero_le _, Nat.zero_le _⟩) (fun H locs hP hD hS => ?_)
  refine lv_aload_n hx hb dX11_reverse_11 rfl (lv_at hl 0 rfl) ?_
  obtain ⟨u_4, hu_4, hF⟩ := obd_some hF
  have hPc := hP.sub (ws' := (wd_X11_saveState cI a0 a1 a2 a3 a4 a5 a6 a7 a8 a9 a10 v2_0 v4_1 v4_0 v5_3 v5_4 v5_5 v5_6 v5_7)) [0, 1, 2, 3, 4, 5] rfl
  have hDc := hD.sub (ws' := (wd_X11_saveState cI a0 a1 a2 a3 a4 a5 a6 a7 a8 a9 a10 v2_0 v4_1 v4_0 v5_3 v5_4 v5_5 v5_6 v5_7)) [0, 1, 2, 3, 4, 5] rfl rfl
  refine q_callv (wc := (wd_X11_saveState cI a0 a1 a2 a3 a4 a5 a6 a7 a8 a9 a10 v2_0 v4_1 v4_0 v5_3 v5_4 v5_5 v5_6 v5_7)) (w1 := (wd_X11_saveState cI a0 a1 a2 a3 a4 a5 a6 a7 a8 a9 a10 v2_0 u_4.1 u_4.2.1 u_4.2.2 v5_4 v5_5 v5_6 v5_7)) (ws' := (wd_X11_reverse cI a0 a1 a2 a3 a4 a5 a6 a7 a8 a9 a10 v2_0 u_4.1 u_4.2.1 u_4.2.2 v5_4 v5_5 v5_6 v5_7)) hP hD hS hA [0, 1, 2, 3, 4, 5] [] [0, 1, 2, 3, 4, 5] rfl rfl rfl (by decide) rfl rfl (va_runV (As := []) (rest := []) ⟨hx, hb, hml, hown, hta⟩ (c_X11_saveState l dC dI cI H.size a0 a1 a2 a3 a4 a5 a6 a7 a8 a9 a10 v2_0 v4_1 v4_0 v5_3 v5_4 v5_5 v5_6 v5_7 u_4 hu_4) (cwV 0 hta (ga_V mA125 mA126 mA127 mA108 mA128) rfl rfl rfl (by decide +kernel) ⟨Nat.le_of_ble_eq_true rfl, Nat.le_of_ble_eq_true rfl⟩) ⟨q_fb, va_recv hK hP (ci := 10) (q0 := 0) rfl rfl, q_ps hPc hK hDc⟩ rfl rfl hl.1 rfl (lv_room (Nat.le_of_ble_eq_true rfl)) dX11_reverse_12 ⟨Nat.zero_le _, Nat.zero_le _⟩) (fun H locs hP hD hS => ?_)
  refine lv_aload_n hx hb dX11_reverse_15 rfl (lv_at hl 0 rfl) ?_
  refine va_get (D := (dC, dI)) (ci := 10) (v := .ref (a2 0)) (C := RX11) (T := TX11) (N := 7) hx hb hta uw_X11 hown hK hP 0 rfl rfl 0 (by decide) (hta _ mA7) (fun _ h9 => h9) rfl dX11_reverse_16 ?_
  refine lv_iload_n hx hb dX11_reverse_19 rfl (lv_at hl 1 rfl) ?_
  obtain ⟨u_5, hu_5, hF⟩ := obd_some hF
  have hPc := hP.sub (ws' := (wd_X1_turnAround cI a2 v2_0)) [1, 2] rfl
  have hDc := hD.sub (ws' := (wd_X1_turnAround cI a2 v2_0)) [1, 2] rfl rfl
  refine q_callv (wc := (wd_X1_turnAround cI a2 v2_0)) (w1 := (wd_X1_turnAround cI a2 u_5)) (ws' := (wd_X11_reverse cI a0 a1 a2 a3 a4 a5 a6 a7 a8 a9 a10 u_5 u_4.1 u_4.2.1 u_4.2.2 v5_4 v5_5 v5_6 v5_7)) hP hD hS hA [1, 2] [0, 3, 4, 5] [0, 4, 5, 1, 2, 3] rfl rfl rfl (by decide) rfl rfl (va_runV (As := [.int p1]) (rest := []) ⟨hx, hb, hml, hown, hta⟩ (c_X1_turnAround l dC dI cI H.size a2 v2_0 p1 n u_5 hu_5) (cwV 1 hta (ga_V mA254 mA255 mA256 mA6 mA257) rfl rfl rfl (by decide +kernel) ⟨Nat.le_of_ble_eq_true rfl, Nat.le_of_ble_eq_true rfl⟩) ⟨q_fb, va_recv hK hP (ci := 1) (q0 := 1) rfl rfl, q_ps hPc hK hDc⟩ rfl rfl hl.1 rfl (lv_room (Nat.le_of_ble_eq_true rfl)) dX11_reverse_20 ⟨Nat.zero_le _, Nat.zero_le _⟩) (fun H locs hP hD hS => ?_)
  refine lv_aload_n hx hb dX11_reverse_23 rfl (lv_at hl 0 rfl) ?_
  refine va_get (D := (dC, dI)) (ci := 10) (v := .ref (a2 0)) (C := RX11) (T := TX11) (N := 7) hx hb hta uw_X11 hown hK hP 0 rfl rfl 0 (by decide) (hta _ mA7) (fun _ h9 => h9) rfl dX11_reverse_24 ?_
  refine lv_iload_n hx hb dX11_reverse_27 rfl (lv_at hl 1 rfl) ?_
  obtain ⟨u_6, hu_6, hF⟩ := obd_some hF
  have hPc := hP.sub (ws' := (wd_X1_pointCount cI a2 u_5)) [1, 2] rfl
  have hDc := hD.sub (ws' := (wd_X1_pointCount cI a2 u_5)) [1, 2] rfl rfl
  refine q_calli (wc := (wd_X1_pointCount cI a2 u_5)) (w1 := (wd_X1_pointCount cI a2 u_5)) (ws' := (wd_X11_reverse cI a0 a1 a2 a3 a4 a5 a6 a7 a8 a9 a10 u_5 u_4.1 u_4.2.1 u_4.2.2 v5_4 v5_5 v5_6 v5_7)) hP hD hS hA [1, 2] [0, 3, 4, 5] [0, 4, 5, 1, 2, 3] rfl rfl rfl (by decide) rfl rfl (va_runV (As := [.int p1]) (rest := []) ⟨hx, hb, hml, hown, hta⟩ (c_X1_pointCount l dC dI cI H.size a2 u_5 p1 u_6 hu_6) (cwV 1 hta (ga_V mA185 mA169 mA170 mA6 mA171) rfl rfl rfl (by decide +kernel) ⟨Nat.le_of_ble_eq_true rfl, Nat.le_of_ble_eq_true rfl⟩) ⟨q_fb, va_recv hK hP (ci := 1) (q0 := 1) rfl rfl, q_ps hPc hK hDc⟩ rfl rfl hl.1 rfl (lv_room (Nat.le_of_ble_eq_true rfl)) dX11_reverse_28 ⟨Nat.zero_le _, Nat.zero_le _⟩) (fun H locs hP hD hS => ?_)
  obtain rfl := Sum.inl.inj (Option.some.inj hF)
  exact W.iret (v := u_6) hx hb hr (fun t ht hW => ⟨⟨u_6, (), rfl, rfl, by rw [ht]; exact hP, va_K.moved hW.alike hK, hD⟩, hS.F ht⟩) hS.2.2 dX11_reverse_31
abbrev rmx_X11_reverse : Room := { frames := 7, cells := 1, slots := 6, locals := 103 }
abbrev XC_X11_reverse (dC : Nat → ClassId) (dI : Nat → Nat → Nat) (cI : ClassId) (a0 : Nat → Nat) (a1 : Nat → Nat) (a2 : Nat → Nat) (a3 : Nat → Nat) (a4 : Nat → Nat) (a5 : Nat → Nat) (a6 : Nat → Nat) (a7 : Nat → Nat) (a8 : Nat → Nat) (a9 : Nat → Nat) (a10 : Nat → Nat) (v5_4 : Int32) (v5_5 : Int32) (v5_6 : Int32) (v5_7 : Int32) (x : (Nat × (Nat → Int32) × Int32 × (Nat → Int32) × Int32)) (A : Nat → Prop) : String → State → State → Prop := vx_X (fun (_ : Unit) => True) (fun E _ t => E = exN x.1 ∧ q_at dC dI cI A (wd_X11_reverse cI a0 a1 a2 a3 a4 a5 a6 a7 a8 a9 a10 x.2.1 x.2.2.1 x.2.2.2.1 x.2.2.2.2 v5_4 v5_5 v5_6 v5_7) t) A
set_option maxHeartbeats 4000000 in
set_option maxRecDepth 100000 in
theorem c_X11_reverse_x (l : Launch) (hlt : l.stackTraces = false) (S : Nat → Nat) (dC : Nat → ClassId) (dI : Nat → Nat → Nat) (cI : ClassId) (sz : Nat) (a0 : Nat → Nat) (a1 : Nat → Nat) (a2 : Nat → Nat) (a3 : Nat → Nat) (a4 : Nat → Nat) (a5 : Nat → Nat) (a6 : Nat → Nat) (a7 : Nat → Nat) (a8 : Nat → Nat) (a9 : Nat → Nat) (a10 : Nat → Nat) (v2_0 : Nat → Int32) (v4_1 : Int32) (v4_0 : Nat → Int32) (v5_3 : Int32) (v5_4 : Int32) (v5_5 : Int32) (v5_6 : Int32) (v5_7 : Int32) (p1 : Int32) (n : Nat) (x : (Nat × (Nat → Int32) × Int32 × (Nat → Int32) × Int32)) (hF : F_X11_reverse n v2_0 v4_1 v4_0 v5_3 p1 = some (.inr x)) : vx_Met l yX11_reverse wz_X11_reverse rmx_X11_reverse (va_Pc [.ref (a0 0), .int p1] (qx_pre S dC dI cI (wd_X11_reverse cI a0 a1 a2 a3 a4 a5 a6 a7 a8 a9 a10 v2_0 v4_1 v4_0 v5_3 v5_4 v5_5 v5_6 v5_7) sz)) (va_Qv (fun (_ : Unit) => False) (fun _ _ => True) (va_A (wd_X11_reverse cI a0 a1 a2 a3 a4 a5 a6 a7 a8 a9 a10 v2_0 v4_1 v4_0 v5_3 v5_4 v5_5 v5_6 v5_7) sz)) (XC_X11_reverse dC dI cI a0 a1 a2 a3 a4 a5 a6 a7 a8 a9 a10 v5_4 v5_5 v5_6 v5_7 x (va_A (wd_X11_reverse cI a0 a1 a2 a3 a4 a5 a6 a7 a8 a9 a10 v2_0 v4_1 v4_0 v5_3 v5_4 v5_5 v5_6 v5_7) sz)) 1 6 (va_A (wd_X11_reverse cI a0 a1 a2 a3 a4 a5 a6 a7 a8 a9 a10 v2_0 v4_1 v4_0 v5_3 v5_4 v5_5 v5_6 v5_7) sz) := by
  refine vx_ofW (cc := cX11_reverse) (maxL := 2) (ret := (some .int)) (by decide) rfl ?_
  intro p e s m args below meth c s₁ B hml hxt hv
  obtain ⟨rfl, ⟨hsz, hP, hK, hD0⟩, hE⟩ := hv
  have hx := B.exec
  have hb := B.bytes
  have hr := B.returns
  have hts := atoms_spec (ws := wz_X11_reverse) B.pre
  have hta := wz_tl hts
  have hown : s.vm.findClass RX11 = some m.cls := findClass_of_methodNamed B.named
  have hlocks := B.notSynchronized
  subst hsz
  have hD := hD0.self (sz := s.heap.size)
  generalize hAe : va_A (wd_X11_reverse cI a0 a1 a2 a3 a4 a5 a6 a7 a8 a9 a10 v2_0 v4_1 v4_0 v5_3 v5_4 v5_5 v5_6 v5_7) s.heap.size = A at hD hE ⊢
  have hA : ∀ q : Nat, s.heap.size ≤ q → A q := fun q h => by rw [← hAe]; exact Or.inr h
  have hS : va_S A s.heap s.heap [] := va_S.rf
  have hP : va_P (dC, dI) vwCl (wd_X11_reverse cI a0 a1 a2 a3 a4 a5 a6 a7 a8 a9 a10 v2_0 v4_1 v4_0 v5_3 v5_4 v5_5 v5_6 v5_7) s.heap := hP
  have hl := lv_entry ([.ref (a0 0), .int p1]) (n := 2) (Nat.le_of_ble_eq_true rfl)
  rw [lg_entry_eq]
  generalize (lg_sl ([.ref (a0 0), .int p1]) ++ List.replicate (2 - (lg_sl ([.ref (a0 0), .int p1])).length) Slot.unset).toArray = ls at hl ⊢
  have hl : lv_has ls 2 [(0, .ref (a0 0)), (1, .int p1)] := hl
  obtain ⟨H, hHe⟩ : ∃ H, H = s.heap := ⟨_, rfl⟩
  have hS : va_S A s.heap H [] := by rw [hHe]; exact hS
  have hP : va_P (dC, dI) vwCl (wd_X11_reverse cI a0 a1 a2 a3 a4 a5 a6 a7 a8 a9 a10 v2_0 v4_1 v4_0 v5_3 v5_4 v5_5 v5_6 v5_7) H := by rw [hHe]; exact hP
  rw [← hHe]
  unfold F_X11_reverse at hF
  refine lv_iload_n hx hb dX11_reverse_0 rfl (lv_at hl 1 rfl) ?_
  refine lv_aload_n hx hb dX11_reverse_1 rfl (lv_at hl 0 rfl) ?_
  refine va_get (D := (dC, dI)) (ci := 10) (v := .ref (a2 0)) (C := RX11) (T := TX11) (N := 7) hx hb hta uw_X11 hown hK hP 0 rfl rfl 0 (by decide) (hta _ mA7) (fun _ h9 => h9) rfl dX11_reverse_2 ?_
  obtain ⟨u_1, hu_1, hF⟩ := obd_some hF
  have hPc := hP.sub (ws' := (wd_X1_subpathCount cI a2 v2_0)) [1, 2] rfl
  have hDc := hD.sub (ws' := (wd_X1_subpathCount cI a2 v2_0)) [1, 2] rfl rfl
  refine q_calli (wc := (wd_X1_subpathCount cI a2 v2_0)) (w1 := (wd_X1_subpathCount cI a2 v2_0)) (ws' := (wd_X11_reverse cI a0 a1 a2 a3 a4 a5 a6 a7 a8 a9 a10 v2_0 v4_1 v4_0 v5_3 v5_4 v5_5 v5_6 v5_7)) hP hD hS hA [1, 2] [0, 3, 4, 5] [0, 4, 5, 1, 2, 3] rfl rfl rfl (by decide) rfl rfl (va_runV (As := []) (rest := [.int p1]) ⟨hx, hb, hml, hown, hta⟩ (c_X1_subpathCount l dC dI cI H.size a2 v2_0 u_1 hu_1) (cwV 0 hta (ga_V mA112 mA113 mA114 mA6 mA115) rfl rfl rfl (by decide +kernel) ⟨Nat.le_of_ble_eq_true rfl, Nat.le_of_ble_eq_true rfl⟩) ⟨q_fb, va_recv hK hP (ci := 1) (q0 := 1) rfl rfl, q_ps hPc hK hDc⟩ rfl rfl hl.1 rfl (lv_room (Nat.le_of_ble_eq_true rfl)) dX11_reverse_5 ⟨Nat.zero_le _, Nat.zero_le _⟩) (fun H locs hP hD hS => ?_)
  refine obx_elim hF (fun x_3 hx_3 hF => ?_) (fun u_2 hu_2 hF => ?_)
  · obtain rfl := Sum.inr.inj (Option.some.inj hF)
    have hPc := hP.sub (ws' := ([] : va_W)) [] rfl
    have hDc := hD.sub (ws' := ([] : va_W)) [] rfl rfl
    refine qx_thr (kd := x_3) hP hD hK hS hA hxt hlocks (vx_runS (As := [.int p1, .int u_1]) (rest := []) ⟨hx, hb, hml, hown, hta⟩ (c_X11_checkIndex_x l hlt S dC dI cI H.size p1 u_1 x_3 hx_3) (va_cwS 2 hta (ga_S mA244 mA245 mA108 mA246) rfl rfl rfl (by decide +kernel) ⟨Nat.le_of_ble_eq_true rfl, Nat.le_of_ble_eq_true rfl⟩) ⟨qx_fb, qx_ps hPc hK hDc hE hS (va_free (wc := ([] : va_W)) hD hS hA [] rfl)⟩ rfl rfl hl.1 rfl (lv_room (Nat.le_of_ble_eq_true rfl)) dX11_reverse_8 ⟨Nat.le_of_ble_eq_true rfl, Nat.le_of_ble_eq_true rfl⟩) (fun t hP hK hF9 => ⟨(), trivial, ⟨rfl, hP, hK, hD⟩, hF9⟩) (Nat.le_of_ble_eq_true rfl) (Nat.le_of_ble_eq_true rfl)
  have hPc := hP.sub (ws' := ([] : va_W)) [] rfl
  have hDc := hD.sub (ws' := ([] : va_W)) [] rfl rfl
  refine q_callv (wc := ([] : va_W)) (w1 := ([] : va_W)) (ws' := (wd_X11_reverse cI a0 a1 a2 a3 a4 a5 a6 a7 a8 a9 a10 v2_0 v4_1 v4_0 v5_3 v5_4 v5_5 v5_6 v5_7)) hP hD hS hA [] [0, 1, 2, 3, 4, 5] [0, 1, 2, 3, 4, 5] rfl rfl rfl (by decide) rfl rfl (va_runS (As := [.int p1, .int u_1]) (rest := []) ⟨hx, hb, hml, hown, hta⟩ (c_X11_checkIndex l dC dI cI H.size p1 u_1 u_2 hu_2) (va_cwS 2 hta (ga_S mA244 mA245 mA108 mA246) rfl rfl rfl (by decide +kernel) ⟨Nat.le_of_ble_eq_true rfl, Nat.le_of_ble_eq_true rfl⟩) ⟨q_fb, q_ps hPc hK hDc⟩ rfl rfl hl.1 rfl (lv_room (Nat.le_of_ble_eq_true rfl)) dX11_reverse_8 ⟨Nat.zero_le _, Nat.zero_le _⟩) (fun H locs hP hD hS => ?_)
  refine lv_aload_n hx hb dX11_reverse_11 rfl (lv_at hl 0 rfl) ?_
  obtain ⟨u_4, hu_4, hF⟩ := obd_some hF
  have hPc := hP.sub (ws' := (wd_X11_saveState cI a0 a1 a2 a3 a4 a5 a6 a7 a8 a9 a10 v2_0 v4_1 v4_0 v5_3 v5_4 v5_5 v5_6 v5_7)) [0, 1, 2, 3, 4, 5] rfl
  have hDc := hD.sub (ws' := (wd_X11_saveState cI a0 a1 a2 a3 a4 a5 a6 a7 a8 a9 a10 v2_0 v4_1 v4_0 v5_3 v5_4 v5_5 v5_6 v5_7)) [0, 1, 2, 3, 4, 5] rfl rfl
  refine q_callv (wc := (wd_X11_saveState cI a0 a1 a2 a3 a4 a5 a6 a7 a8 a9 a10 v2_0 v4_1 v4_0 v5_3 v5_4 v5_5 v5_6 v5_7)) (w1 := (wd_X11_saveState cI a0 a1 a2 a3 a4 a5 a6 a7 a8 a9 a10 v2_0 u_4.1 u_4.2.1 u_4.2.2 v5_4 v5_5 v5_6 v5_7)) (ws' := (wd_X11_reverse cI a0 a1 a2 a3 a4 a5 a6 a7 a8 a9 a10 v2_0 u_4.1 u_4.2.1 u_4.2.2 v5_4 v5_5 v5_6 v5_7)) hP hD hS hA [0, 1, 2, 3, 4, 5] [] [0, 1, 2, 3, 4, 5] rfl rfl rfl (by decide) rfl rfl (va_runV (As := []) (rest := []) ⟨hx, hb, hml, hown, hta⟩ (c_X11_saveState l dC dI cI H.size a0 a1 a2 a3 a4 a5 a6 a7 a8 a9 a10 v2_0 v4_1 v4_0 v5_3 v5_4 v5_5 v5_6 v5_7 u_4 hu_4) (cwV 0 hta (ga_V mA125 mA126 mA127 mA108 mA128) rfl rfl rfl (by decide +kernel) ⟨Nat.le_of_ble_eq_true rfl, Nat.le_of_ble_eq_true rfl⟩) ⟨q_fb, va_recv hK hP (ci := 10) (q0 := 0) rfl rfl, q_ps hPc hK hDc⟩ rfl rfl hl.1 rfl (lv_room (Nat.le_of_ble_eq_true rfl)) dX11_reverse_12 ⟨Nat.zero_le _, Nat.zero_le _⟩) (fun H locs hP hD hS => ?_)
  refine lv_aload_n hx hb dX11_reverse_15 rfl (lv_at hl 0 rfl) ?_
  refine va_get (D := (dC, dI)) (ci := 10) (v := .ref (a2 0)) (C := RX11) (T := TX11) (N := 7) hx hb hta uw_X11 hown hK hP 0 rfl rfl 0 (by decide) (hta _ mA7) (fun _ h9 => h9) rfl dX11_reverse_16 ?_
  refine lv_iload_n hx hb dX11_reverse_19 rfl (lv_at hl 1 rfl) ?_
  obtain ⟨u_5, hu_5, hF⟩ := obd_some hF
  have hPc := hP.sub (ws' := (wd_X1_turnAround cI a2 v2_0)) [1, 2] rfl
  have hDc := hD.sub (ws' := (wd_X1_turnAround cI a2 v2_0)) [1, 2] rfl rfl
  refine q_callv (wc := (wd_X1_turnAround cI a2 v2_0)) (w1 := (wd_X1_turnAround cI a2 u_5)) (ws' := (wd_X11_reverse cI a0 a1 a2 a3 a4 a5 a6 a7 a8 a9 a10 u_5 u_4.1 u_4.2.1 u_4.2.2 v5_4 v5_5 v5_6 v5_7)) hP hD hS hA [1, 2] [0, 3, 4, 5] [0, 4, 5, 1, 2, 3] rfl rfl rfl (by decide) rfl rfl (va_runV (As := [.int p1]) (rest := []) ⟨hx, hb, hml, hown, hta⟩ (c_X1_turnAround l dC dI cI H.size a2 v2_0 p1 n u_5 hu_5) (cwV 1 hta (ga_V mA254 mA255 mA256 mA6 mA257) rfl rfl rfl (by decide +kernel) ⟨Nat.le_of_ble_eq_true rfl, Nat.le_of_ble_eq_true rfl⟩) ⟨q_fb, va_recv hK hP (ci := 1) (q0 := 1) rfl rfl, q_ps hPc hK hDc⟩ rfl rfl hl.1 rfl (lv_room (Nat.le_of_ble_eq_true rfl)) dX11_reverse_20 ⟨Nat.zero_le _, Nat.zero_le _⟩) (fun H locs hP hD hS => ?_)
  refine lv_aload_n hx hb dX11_reverse_23 rfl (lv_at hl 0 rfl) ?_
  refine va_get (D := (dC, dI)) (ci := 10) (v := .ref (a2 0)) (C := RX11) (T := TX11) (N := 7) hx hb hta uw_X11 hown hK hP 0 rfl rfl 0 (by decide) (hta _ mA7) (fun _ h9 => h9) rfl dX11_reverse_24 ?_
  refine lv_iload_n hx hb dX11_reverse_27 rfl (lv_at hl 1 rfl) ?_
  obtain ⟨u_6, hu_6, hF⟩ := obd_some hF
  have hPc := hP.sub (ws' := (wd_X1_pointCount cI a2 u_5)) [1, 2] rfl
  have hDc := hD.sub (ws' := (wd_X1_pointCount cI a2 u_5)) [1, 2] rfl rfl
  refine q_calli (wc := (wd_X1_pointCount cI a2 u_5)) (w1 := (wd_X1_pointCount cI a2 u_5)) (ws' := (wd_X11_reverse cI a0 a1 a2 a3 a4 a5 a6 a7 a8 a9 a10 u_5 u_4.1 u_4.2.1 u_4.2.2 v5_4 v5_5 v5_6 v5_7)) hP hD hS hA [1, 2] [0, 3, 4, 5] [0, 4, 5, 1, 2, 3] rfl rfl rfl (by decide) rfl rfl (va_runV (As := [.int p1]) (rest := []) ⟨hx, hb, hml, hown, hta⟩ (c_X1_pointCount l dC dI cI H.size a2 u_5 p1 u_6 hu_6) (cwV 1 hta (ga_V mA185 mA169 mA170 mA6 mA171) rfl rfl rfl (by decide +kernel) ⟨Nat.le_of_ble_eq_true rfl, Nat.le_of_ble_eq_true rfl⟩) ⟨q_fb, va_recv hK hP (ci := 1) (q0 := 1) rfl rfl, q_ps hPc hK hDc⟩ rfl rfl hl.1 rfl (lv_room (Nat.le_of_ble_eq_true rfl)) dX11_reverse_28 ⟨Nat.zero_le _, Nat.zero_le _⟩) (fun H locs hP hD hS => ?_)
  exact absurd hF no_lr

-- StrokeOutliner.simplify(I)I
def F_X11_simplify (n : Nat) (v2_0 : Nat → Int32) (v4_1 : Int32) (v4_0 : Nat → Int32) (v5_3 : Int32) (p1 : Int32) : Option (Sum (Int32 × (Nat → Int32) × Int32 × (Nat → Int32) × Int32) (Nat × (Nat → Int32) × Int32 × (Nat → Int32) × Int32)) :=
  obd (F_X1_subpathCount v2_0) (fun u_1 => obx (F_X11_checkIndex p1 u_1) (fun x_3 => some (.inr (x_3, v2_0, v4_1, v4_0, v5_3))) (fun u_2 => obd (F_X11_saveState v2_0 v4_1 v4_0) (fun u_4 => obd (F_X1_dropIdlePoints n v2_0 p1) (fun u_5 => some (.inl (u_5.1, u_5.2, u_4.1, u_4.2.1, u_4.2.2))))))
abbrev wd_X11_simplify (cI : ClassId) (a0 : Nat → Nat) (a1 : Nat → Nat) (a2 : Nat → Nat) (a3 : Nat → Nat) (a4 : Nat → Nat) (a5 : Nat → Nat) (a6 : Nat → Nat) (a7 : Nat → Nat) (a8 : Nat → Nat) (a9 : Nat → Nat) (a10 : Nat → Nat) (v2_0 : Nat → Int32) (v4_1 : Int32) (v4_0 : Nat → Int32) (v5_3 : Int32) (v5_4 : Int32) (v5_5 : Int32) (v5_6 : Int32) (v5_7 : Int32) : va_W := [(a0 0, .inr (10, [.ref (a2 0), .ref (a1 0), .ref (a4 0), .ref (a9 0), .ref (a10 0), .ref (a5 0), .ref (a3 0)])), (a2 0, .inr (1, [.ref (a2 1)])), (a2 1, .inl (cI, 86, .inl v2_0)), (a4 0, .inr (3, [.ref (a4 1), .int v4_1])), (a4 1, .inl (cI, 344, .inl v4_0)), (a5 0, .inr (9, [.ref (a8 0), .ref (a7 0), .ref (a6 0), .int v5_3, .int v5_4, .int v5_5, .int v5_6, .int v5_7]))]
abbrev wz_X11_simplify : List Cond := .code yX11_simplify cX11_simplify 2 (some .int) :: wALL
abbrev rm_X11_simplify : Room := { frames := 6, cells := 0, slots := 0, locals := 144 }
abbrev Q_X11_simplify (dC : Nat → ClassId) (dI : Nat → Nat → Nat) (cI : ClassId) (a0 : Nat → Nat) (a1 : Nat → Nat) (a2 : Nat → Nat) (a3 : Nat → Nat) (a4 : Nat → Nat) (a5 : Nat → Nat) (a6 : Nat → Nat) (a7 : Nat → Nat) (a8 : Nat → Nat) (a9 : Nat → Nat) (a10 : Nat → Nat) (v5_4 : Int32) (v5_5 : Int32) (v5_6 : Int32) (v5_7 : Int32) (u : (Int32 × (Nat → Int32) × Int32 × (Nat → Int32) × Int32)) (A : Nat → Prop) : Array Value → State → Outcome → State → Prop := va_Qi (fun (r : Int32) (_ : Unit) => r = u.1) (fun _ => q_at dC dI cI A (wd_X11_simplify cI a0 a1 a2 a3 a4 a5 a6 a7 a8 a9 a10 u.2.1 u.2.2.1 u.2.2.2.1 u.2.2.2.2 v5_4 v5_5 v5_6 v5_7)) A
set_option maxHeartbeats 4000000 in
set_option maxRecDepth 100000 in
theorem c_X11_simplify (l : Launch) (dC : Nat → ClassId) (dI : Nat → Nat → Nat) (cI : ClassId) (sz : Nat) (a0 : Nat → Nat) (a1 : Nat → Nat) (a2 : Nat → Nat) (a3 : Nat → Nat) (a4 : Nat → Nat) (a5 : Nat → Nat) (a6 : Nat → Nat) (a7 : Nat → Nat) (a8 : Nat → Nat) (a9 : Nat → Nat) (a10 : Nat → Nat) (v2_0 : Nat → Int32) (v4_1 : Int32) (v4_0 : Nat → Int32) (v5_3 : Int32) (v5_4 : Int32) (v5_5 : Int32) (v5_6 : Int32) (v5_7 : Int32) (p1 : Int32) (n : Nat) (u : (Int32 × (Nat → Int32) × Int32 × (Nat → Int32) × Int32)) (hF : F_X11_simplify n v2_0 v4_1 v4_0 v5_3 p1 = some (.inl u)) : Met l yX11_simplify wz_X11_simplify rm_X11_simplify (va_Pc [.ref (a0 0), .int p1] (q_pre dC dI cI (wd_X11_simplify cI a0 a1 a2 a3 a4 a5 a6 a7 a8 a9 a10 v2_0 v4_1 v4_0 v5_3 v5_4 v5_5 v5_6 v5_7) sz)) (Q_X11_simplify dC dI cI a0 a1 a2 a3 a4 a5 a6 a7 a8 a9 a10 v5_4 v5_5 v5_6 v5_7 u (va_A (wd_X11_simplify cI a0 a1 a2 a3 a4 a5 a6 a7 a8 a9 a10 v2_0 v4_1 v4_0 v5_3 v5_4 v5_5 v5_6 v5_7) sz)) 0 0 (va_A (wd_X11_simplify cI a0 a1 a2 a3 a4 a5 a6 a7 a8 a9 a10 v2_0 v4_1 v4_0 v5_3 v5_4 v5_5 v5_6 v5_7) sz) := by
  refine Met.ofW (cc := cX11_simplify) (maxL := 2) (ret := (some .int)) (by decide) rfl ?_
  intro p e s m args below meth c s₁ B hml hv
  obtain ⟨rfl, hsz, hP, hK, hD0⟩ := hv
  have hx := B.exec
  have hb := B.bytes
  have hr := B.returns
  have hts := atoms_spec (ws := wz_X11_simplify) B.pre
  have hta := wz_tl hts
  have hown : s.vm.findClass RX11 = some m.cls := findClass_of_methodNamed B.named
  have hlocks := B.notSynchronized
  subst hsz
  have hD := hD0.self (sz := s.heap.size)
  generalize hAe : va_A (wd_X11_simplify cI a0 a1 a2 a3 a4 a5 a6 a7 a8 a9 a10 v2_0 v4_1 v4_0 v5_3 v5_4 v5_5 v5_6 v5_7) s.heap.size = A at hD ⊢
  have hA : ∀ q : Nat, s.heap.size ≤ q → A q := fun q h => by rw [← hAe]; exact Or.inr h
  have hS : va_S A s.heap s.heap [] := va_S.rf
  have hP : va_P (dC, dI) vwCl (wd_X11_simplify cI a0 a1 a2 a3 a4 a5 a6 a7 a8 a9 a10 v2_0 v4_1 v4_0 v5_3 v5_4 v5_5 v5_6 v5_7) s.heap := hP
  have hl := lv_entry ([.ref (a0 0), .int p1]) (n := 2) (Nat.le_of_ble_eq_true rfl)
  rw [lg_entry_eq]
  generalize (lg_sl ([.ref (a0 0), .int p1]) ++ List.replicate (2 - (lg_sl ([.ref (a0 0), .int p1])).length) Slot.unset).toArray = ls at hl ⊢
  have hl : lv_has ls 2 [(0, .ref (a0 0)), (1, .int p1)] := hl
  obtain ⟨H, hHe⟩ : ∃ H, H = s.heap := ⟨_, rfl⟩
  have hS : va_S A s.heap H [] := by rw [hHe]; exact hS
  have hP : va_P (dC, dI) vwCl (wd_X11_simplify cI a0 a1 a2 a3 a4 a5 a6 a7 a8 a9 a10 v2_0 v4_1 v4_0 v5_3 v5_4 v5_5 v5_6 v5_7) H := by rw [hHe]; exact hP
  rw [← hHe]
  unfold F_X11_simplify at hF
  refine lv_iload_n hx hb dX11_simplify_0 rfl (lv_at hl 1 rfl) ?_
  refine lv_aload_n hx hb dX11_simplify_1 rfl (lv_at hl 0 rfl) ?_
  refine va_get (D := (dC, dI)) (ci := 10) (v := .ref (a2 0)) (C := RX11) (T := TX11) (N := 7) hx hb hta uw_X11 hown hK hP 0 rfl rfl 0 (by decide) (hta _ mA7) (fun _ h9 => h9) rfl dX11_simplify_2 ?_
  obtain ⟨u_1, hu_1, hF⟩ := obd_some hF
  have hPc := hP.sub (ws' := (wd_X1_subpathCount cI a2 v2_0)) [1, 2] rfl
  have hDc := hD.sub (ws' := (wd_X1_subpathCount cI a2 v2_0)) [1, 2] rfl rfl
  refine q_calli (wc := (wd_X1_subpathCount cI a2 v2_0)) (w1 := (wd_X1_subpathCount cI a2 v2_0)) (ws' := (wd_X11_simplify cI a0 a1 a2 a3 a4 a5 a6 a7 a8 a9 a10 v2_0 v4_1 v4_0 v5_3 v5_4 v5_5 v5_6 v5_7)) hP hD hS hA [1, 2] [0, 3, 4, 5] [0, 4, 5, 1, 2, 3] rfl rfl rfl (by decide) rfl rfl (va_runV (As := []) (rest := [.int p1]) ⟨hx, hb, hml, hown, hta⟩ (c_X1_subpathCount l dC dI cI H.size a2 v2_0 u_1 hu_1) (cwV 0 hta (ga_V mA112 mA113 mA114 mA6 mA115) rfl rfl rfl (by decide +kernel) ⟨Nat.le_of_ble_eq_true rfl, Nat.le_of_ble_eq_true rfl⟩) ⟨q_fb, va_recv hK hP (ci := 1) (q0 := 1) rfl rfl, q_ps hPc hK hDc⟩ rfl rfl hl.1 rfl (lv_room (Nat.le_of_ble_eq_true rfl)) dX11_simplify_5 ⟨Nat.zero_le _, Nat.zero_le _⟩) (fun H locs hP hD hS => ?_)
  refine obx_elim hF (fun x_3 hx_3 hF => ?_) (fun u_2 hu_2 hF => ?_)
  · exact absurd hF no_rl
  have hPc := hP.sub (ws' := ([] : va_W)) [] rfl
  have hDc := hD.sub (ws' := ([] : va_W)) [] rfl rfl
  refine q_callv (wc := ([] : va_W)) (w1 := ([] : va_W)) (ws' := (wd_X11_simplify cI a0 a1 a2 a3 a4 a5 a6 a7 a8 a9 a10 v2_0 v4_1 v4_0 v5_3 v5_4 v5_5 v5_6 v5_7)) hP hD hS hA [] [0, 1, 2, 3, 4, 5] [0, 1, 2, 3, 4, 5] rfl rfl rfl (by decide) rfl rfl (va_runS (As := [.int p1, .int u_1]) (rest := []) ⟨hx, hb, hml, hown, hta⟩ (c_X11_checkIndex l dC dI cI H.size p1 u_1 u_2 hu_2) (va_cwS 2 hta (ga_S mA244 mA245 mA108 mA246) rfl rfl rfl (by decide +kernel) ⟨Nat.le_of_ble_eq_true rfl, Nat.le_of_ble_eq_true rfl⟩) ⟨q_fb, q_ps hPc hK hDc⟩ rfl rfl hl.1 rfl (lv_room (Nat.le_of_ble_eq_true rfl)) dX11_simplify_8 ⟨Nat.zero_le _, Nat.zero_le _⟩) (fun H locs hP hD hS => ?_)
  refine lv_aload_n hx hb dX11_simplify_11 rfl (lv_at hl 0 rfl) ?_
  obtain ⟨u_4, hu_4, hF⟩ := obd_some hF
  have hPc := hP.sub (ws' := (wd_X11_saveState cI a0 a1 a2 a3 a4 a5 a6 a7 a8 a9 a10 v2_0 v4_1 v4_0 v5_3 v5_4 v5_5 v5_6 v5_7)) [0, 1, 2, 3, 4, 5] rfl
  have hDc := hD.sub (ws' := (wd_X11_saveState cI a0 a1 a2 a3 a4 a5 a6 a7 a8 a9 a10 v2_0 v4_1 v4_0 v5_3 v5_4 v5_5 v5_6 v5_7)) [0, 1, 2, 3, 4, 5] rfl rfl
  refine q_callv (wc := (wd_X11_saveState cI a0 a1 a2 a3 a4 a5 a6 a7 a8 a9 a10 v2_0 v4_1 v4_0 v5_3 v5_4 v5_5 v5_6 v5_7)) (w1 := (wd_X11_saveState cI a0 a1 a2 a3 a4 a5 a6 a7 a8 a9 a10 v2_0 u_4.1 u_4.2.1 u_4.2.2 v5_4 v5_5 v5_6 v5_7)) (ws' := (wd_X11_simplify cI a0 a1 a2 a3 a4 a5 a6 a7 a8 a9 a10 v2_0 u_4.1 u_4.2.1 u_4.2.2 v5_4 v5_5 v5_6 v5_7)) hP hD hS hA [0, 1, 2, 3, 4, 5] [] [0, 1, 2, 3, 4, 5] rfl rfl rfl (by decide) rfl rfl (va_runV (As := []) (rest := []) ⟨hx, hb, hml, hown, hta⟩ (c_X11_saveState l dC dI cI H.size a0 a1 a2 a3 a4 a5 a6 a7 a8 a9 a10 v2_0 v4_1 v4_0 v5_3 v5_4 v5_5 v5_6 v5_7 u_4 hu_4) (cwV 0 hta (ga_V mA125 mA126 mA127 mA108 mA128) rfl rfl rfl (by decide +kernel) ⟨Nat.le_of_ble_eq_true rfl, Nat.le_of_ble_eq_true rfl⟩) ⟨q_fb, va_recv hK hP (ci := 10) (q0 := 0) rfl rfl, q_ps hPc hK hDc⟩ rfl rfl hl.1 rfl (lv_room (Nat.le_of_ble_eq_true rfl)) dX11_simplify_12 ⟨Nat.zero_le _, Nat.zero_le _⟩) (fun H locs hP hD hS => ?_)
  refine lv_aload_n hx hb dX11_simplify_15 rfl (lv_at hl 0 rfl) ?_
  refine va_get (D := (dC, dI)) (ci := 10) (v := .ref (a2 0)) (C := RX11) (T := TX11) (N := 7) hx hb hta uw_X11 hown hK hP 0 rfl rfl 0 (by decide) (hta _ mA7) (fun _ h9 => h9) rfl dX11_simplify_16 ?_
  refine lv_iload_n hx hb dX11_simplify_19 rfl (lv_at hl 1 rfl) ?_
  obtain ⟨u_5, hu_5, hF⟩ := obd_some hF
  have hPc := hP.sub (ws' := (wd_X1_dropIdlePoints cI a2 v2_0)) [1, 2] rfl
  have hDc := hD.sub (ws' := (wd_X1_dropIdlePoints cI a2 v2_0)) [1, 2] rfl rfl
  refine q_calli (wc := (wd_X1_dropIdlePoints cI a2 v2_0)) (w1 := (wd_X1_dropIdlePoints cI a2 u_5.2)) (ws' := (wd_X11_simplify cI a0 a1 a2 a3 a4 a5 a6 a7 a8 a9 a10 u_5.2 u_4.1 u_4.2.1 u_4.2.2 v5_4 v5_5 v5_6 v5_7)) hP hD hS hA [1, 2] [0, 3, 4, 5] [0, 4, 5, 1, 2, 3] rfl rfl rfl (by decide) rfl rfl (va_runV (As := [.int p1]) (rest := []) ⟨hx, hb, hml, hown, hta⟩ (c_X1_dropIdlePoints l dC dI cI H.size a2 v2_0 p1 n u_5 hu_5) (cwV 1 hta (ga_V mA261 mA262 mA263 mA6 mA264) rfl rfl rfl (by decide +kernel) ⟨Nat.le_of_ble_eq_true rfl, Nat.le_of_ble_eq_true rfl⟩) ⟨q_fb, va_recv hK hP (ci := 1) (q0 := 1) rfl rfl, q_ps hPc hK hDc⟩ rfl rfl hl.1 rfl (lv_room (Nat.le_of_ble_eq_true rfl)) dX11_simplify_20 ⟨Nat.zero_le _, Nat.zero_le _⟩) (fun H locs hP hD hS => ?_)
  obtain rfl := Sum.inl.inj (Option.some.inj hF)
  exact W.iret (v := u_5.1) hx hb hr (fun t ht hW => ⟨⟨u_5.1, (), rfl, rfl, by rw [ht]; exact hP, va_K.moved hW.alike hK, hD⟩, hS.F ht⟩) hS.2.2 dX11_simplify_23
abbrev rmx_X11_simplify : Room := { frames := 7, cells := 1, slots := 6, locals := 144 }
abbrev XC_X11_simplify (dC : Nat → ClassId) (dI : Nat → Nat → Nat) (cI : ClassId) (a0 : Nat → Nat) (a1 : Nat → Nat) (a2 : Nat → Nat) (a3 : Nat → Nat) (a4 : Nat → Nat) (a5 : Nat → Nat) (a6 : Nat → Nat) (a7 : Nat → Nat) (a8 : Nat → Nat) (a9 : Nat → Nat) (a10 : Nat → Nat) (v5_4 : Int32) (v5_5 : Int32) (v5_6 : Int32) (v5_7 : Int32) (x : (Nat × (Nat → Int32) × Int32 × (Nat → Int32) × Int32)) (A : Nat → Prop) : String → State → State → Prop := vx_X (fun (_ : Unit) => True) (fun E _ t => E = exN x.1 ∧ q_at dC dI cI A (wd_X11_simplify cI a0 a1 a2 a3 a4 a5 a6 a7 a8 a9 a10 x.2.1 x.2.2.1 x.2.2.2.1 x.2.2.2.2 v5_4 v5_5 v5_6 v5_7) t) A
set_option maxHeartbeats 4000000 in
set_option maxRecDepth 100000 in
theorem c_X11_simplify_x (l : Launch) (hlt : l.stackTraces = false) (S : Nat → Nat) (dC : Nat → ClassId) (dI : Nat → Nat → Nat) (cI : ClassId) (sz : Nat) (a0 : Nat → Nat) (a1 : Nat → Nat) (a2 : Nat → Nat) (a3 : Nat → Nat) (a4 : Nat → Nat) (a5 : Nat → Nat) (a6 : Nat → Nat) (a7 : Nat → Nat) (a8 : Nat → Nat) (a9 : Nat → Nat) (a10 : Nat → Nat) (v2_0 : Nat → Int32) (v4_1 : Int32) (v4_0 : Nat → Int32) (v5_3 : Int32) (v5_4 : Int32) (v5_5 : Int32) (v5_6 : Int32) (v5_7 : Int32) (p1 : Int32) (n : Nat) (x : (Nat × (Nat → Int32) × Int32 × (Nat → Int32) × Int32)) (hF : F_X11_simplify n v2_0 v4_1 v4_0 v5_3 p1 = some (.inr x)) : vx_Met l yX11_simplify wz_X11_simplify rmx_X11_simplify (va_Pc [.ref (a0 0), .int p1] (qx_pre S dC dI cI (wd_X11_simplify cI a0 a1 a2 a3 a4 a5 a6 a7 a8 a9 a10 v2_0 v4_1 v4_0 v5_3 v5_4 v5_5 v5_6 v5_7) sz)) (va_Qv (fun (_ : Unit) => False) (fun _ _ => True) (va_A (wd_X11_simplify cI a0 a1 a2 a3 a4 a5 a6 a7 a8 a9 a10 v2_0 v4_1 v4_0 v5_3 v5_4 v5_5 v5_6 v5_7) sz)) (XC_X11_simplify dC dI cI a0 a1 a2 a3 a4 a5 a6 a7 a8 a9 a10 v5_4 v5_5 v5_6 v5_7 x (va_A (wd_X11_simplify cI a0 a1 a2 a3 a4 a5 a6 a7 a8 a9 a10 v2_0 v4_1 v4_0 v5_3 v5_4 v5_5 v5_6 v5_7) sz)) 1 6 (va_A (wd_X11_simplify cI a0 a1 a2 a3 a4 a5 a6 a7 a8 a9 a10 v2_0 v4_1 v4_0 v5_3 v5_4 v5_5 v5_6 v5_7) sz) := by
  refine vx_ofW (cc := cX11_simplify) (maxL := 2) (ret := (some .int)) (by decide) rfl ?_
  intro p e s m args below meth c s₁ B hml hxt hv
  obtain ⟨rfl, ⟨hsz, hP, hK, hD0⟩, hE⟩ := hv
  have hx := B.exec
  have hb := B.bytes
  have hr := B.returns
  have hts := atoms_spec (ws := wz_X11_simplify) B.pre
  have hta := wz_tl hts
  have hown : s.vm.findClass RX11 = some m.cls := findClass_of_methodNamed B.named
  have hlocks := B.notSynchronized
  subst hsz
  have hD := hD0.self (sz := s.heap.size)
  generalize hAe : va_A (wd_X11_simplify cI a0 a1 a2 a3 a4 a5 a6 a7 a8 a9 a10 v2_0 v4_1 v4_0 v5_3 v5_4 v5_5 v5_6 v5_7) s.heap.size = A at hD hE ⊢
  have hA : ∀ q : Nat, s.heap.size ≤ q → A q := fun q h => by rw [← hAe]; exact Or.inr h
  have hS : va_S A s.heap s.heap [] := va_S.rf
  have hP : va_P (dC, dI) vwCl (wd_X11_simplify cI a0 a1 a2 a3 a4 a5 a6 a7 a8 a9 a10 v2_0 v4_1 v4_0 v5_3 v5_4 v5_5 v5_6 v5_7) s.heap := hP
  have hl := lv_entry ([.ref (a0 0), .int p1]) (n := 2) (Nat.le_of_ble_eq_true rfl)
  rw [lg_entry_eq]
  generalize (lg_sl ([.ref (a0 0), .int p1]) ++ List.replicate (2 - (lg_sl ([.ref (a0 0), .int p1])).length) Slot.unset).toArray = ls at hl ⊢
  have hl : lv_has ls 2 [(0, .ref (a0 0)), (1, .int p1)] := hl
  obtain ⟨H, hHe⟩ : ∃ H, H = s.heap := ⟨_, rfl⟩
  have hS : va_S A s.heap H [] := by rw [hHe]; exact hS
  have hP : va_P (dC, dI) vwCl (wd_X11_simplify cI a0 a1 a2 a3 a4 a5 a6 a7 a8 a9 a10 v2_0 v4_1 v4_0 v5_3 v5_4 v5_5 v5_6 v5_7) H := by rw [hHe]; exact hP
  rw [← hHe]
  unfold F_X11_simplify at hF
  refine lv_iload_n hx hb dX11_simplify_0 rfl (lv_at hl 1 rfl) ?_
  refine lv_aload_n hx hb dX11_simplify_1 rfl (lv_at hl 0 rfl) ?_
  refine va_get (D := (dC, dI)) (ci := 10) (v := .ref (a2 0)) (C := RX11) (T := TX11) (N := 7) hx hb hta uw_X11 hown hK hP 0 rfl rfl 0 (by decide) (hta _ mA7) (fun _ h9 => h9) rfl dX11_simplify_2 ?_
  obtain ⟨u_1, hu_1, hF⟩ := obd_some hF
  have hPc := hP.sub (ws' := (wd_X1_subpathCount cI a2 v2_0)) [1, 2] rfl
  have hDc := hD.sub (ws' := (wd_X1_subpathCount cI a2 v2_0)) [1, 2] rfl rfl
  refine q_calli (wc := (wd_X1_subpathCount cI a2 v2_0)) (w1 := (wd_X1_subpathCount cI a2 v2_0)) (ws' := (wd_X11_simplify cI a0 a1 a2 a3 a4 a5 a6 a7 a8 a9 a10 v2_0 v4_1 v4_0 v5_3 v5_4 v5_5 v5_6 v5_7)) hP hD hS hA [1, 2] [0, 3, 4, 5] [0, 4, 5, 1, 2, 3] rfl rfl rfl (by decide) rfl rfl (va_runV (As := []) (rest := [.int p1]) ⟨hx, hb, hml, hown, hta⟩ (c_X1_subpathCount l dC dI cI H.size a2 v2_0 u_1 hu_1) (cwV 0 hta (ga_V mA112 mA113 mA114 mA6 mA115) rfl rfl rfl (by decide +kernel) ⟨Nat.le_of_ble_eq_true rfl, Nat.le_of_ble_eq_true rfl⟩) ⟨q_fb, va_recv hK hP (ci := 1) (q0 := 1) rfl rfl, q_ps hPc hK hDc⟩ rfl rfl hl.1 rfl (lv_room (Nat.le_of_ble_eq_true rfl)) dX11_simplify_5 ⟨Nat.zero_le _, Nat.zero_le _⟩) (fun H locs hP hD hS => ?_)
  refine obx_elim hF (fun x_3 hx_3 hF => ?_) (fun u_2 hu_2 hF => ?_)
  · obtain rfl := Sum.inr.inj (Option.some.inj hF)
    have hPc := hP.sub (ws' := ([] : va_W)) [] rfl
    have hDc := hD.sub (ws' := ([] : va_W)) [] rfl rfl
    refine qx_thr (kd := x_3) hP hD hK hS hA hxt hlocks (vx_runS (As := [.int p1, .int u_1]) (rest := []) ⟨hx, hb, hml, hown, hta⟩ (c_X11_checkIndex_x l hlt S dC dI cI H.size p1 u_1 x_3 hx_3) (va_cwS 2 hta (ga_S mA244 mA245 mA108 mA246) rfl rfl rfl (by decide +kernel) ⟨Nat.le_of_ble_eq_true rfl, Nat.le_of_ble_eq_true rfl⟩) ⟨qx_fb, qx_ps hPc hK hDc hE hS (va_free (wc := ([] : va_W)) hD hS hA [] rfl)⟩ rfl rfl hl.1 rfl (lv_room (Nat.le_of_ble_eq_true rfl)) dX11_simplify_8 ⟨Nat.le_of_ble_eq_true rfl, Nat.le_of_ble_eq_true rfl⟩) (fun t hP hK hF9 => ⟨(), trivial, ⟨rfl, hP, hK, hD⟩, hF9⟩) (Nat.le_of_ble_eq_true rfl) (Nat.le_of_ble_eq_true rfl)
  have hPc := hP.sub (ws' := ([] : va_W)) [] rfl
  have hDc := hD.sub (ws' := ([] : va_W)) [] rfl rfl
  refine q_callv (wc := ([] : va_W)) (w1 := ([] : va_W)) (ws' := (wd_X11_simplify cI a0 a1 a2 a3 a4 a5 a6 a7 a8 a9 a10 v2_0 v4_1 v4_0 v5_3 v5_4 v5_5 v5_6 v5_7)) hP hD hS hA [] [0, 1, 2, 3, 4, 5] [0, 1, 2, 3, 4, 5] rfl rfl rfl (by decide) rfl rfl (va_runS (As := [.int p1, .int u_1]) (rest := []) ⟨hx, hb, hml, hown, hta⟩ (c_X11_checkIndex l dC dI cI H.size p1 u_1 u_2 hu_2) (va_cwS 2 hta (ga_S mA244 mA245 mA108 mA246) rfl rfl rfl (by decide +kernel) ⟨Nat.le_of_ble_eq_true rfl, Nat.le_of_ble_eq_true rfl⟩) ⟨q_fb, q_ps hPc hK hDc⟩ rfl rfl hl.1 rfl (lv_room (Nat.le_of_ble_eq_true rfl)) dX11_simplify_8 ⟨Nat.zero_le _, Nat.zero_le _⟩) (fun H locs hP hD hS => ?_)
  refine lv_aload_n hx hb dX11_simplify_11 rfl (lv_at hl 0 rfl) ?_
  obtain ⟨u_4, hu_4, hF⟩ := obd_some hF
  have hPc := hP.sub (ws' := (wd_X11_saveState cI a0 a1 a2 a3 a4 a5 a6 a7 a8 a9 a10 v2_0 v4_1 v4_0 v5_3 v5_4 v5_5 v5_6 v5_7)) [0, 1, 2, 3, 4, 5] rfl
  have hDc := hD.sub (ws' := (wd_X11_saveState cI a0 a1 a2 a3 a4 a5 a6 a7 a8 a9 a10 v2_0 v4_1 v4_0 v5_3 v5_4 v5_5 v5_6 v5_7)) [0, 1, 2, 3, 4, 5] rfl rfl
  refine q_callv (wc := (wd_X11_saveState cI a0 a1 a2 a3 a4 a5 a6 a7 a8 a9 a10 v2_0 v4_1 v4_0 v5_3 v5_4 v5_5 v5_6 v5_7)) (w1 := (wd_X11_saveState cI a0 a1 a2 a3 a4 a5 a6 a7 a8 a9 a10 v2_0 u_4.1 u_4.2.1 u_4.2.2 v5_4 v5_5 v5_6 v5_7)) (ws' := (wd_X11_simplify cI a0 a1 a2 a3 a4 a5 a6 a7 a8 a9 a10 v2_0 u_4.1 u_4.2.1 u_4.2.2 v5_4 v5_5 v5_6 v5_7)) hP hD hS hA [0, 1, 2, 3, 4, 5] [] [0, 1, 2, 3, 4, 5] rfl rfl rfl (by decide) rfl rfl (va_runV (As := []) (rest := []) ⟨hx, hb, hml, hown, hta⟩ (c_X11_saveState l dC dI cI H.size a0 a1 a2 a3 a4 a5 a6 a7 a8 a9 a10 v2_0 v4_1 v4_0 v5_3 v5_4 v5_5 v5_6 v5_7 u_4 hu_4) (cwV 0 hta (ga_V mA125 mA126 mA127 mA108 mA128) rfl rfl rfl (by decide +kernel) ⟨Nat.le_of_ble_eq_true rfl, Nat.le_of_ble_eq_true rfl⟩) ⟨q_fb, va_recv hK hP (ci := 10) (q0 := 0) rfl rfl, q_ps hPc hK hDc⟩ rfl rfl hl.1 rfl (lv_room (Nat.le_of_ble_eq_true rfl)) dX11_simplify_12 ⟨Nat.zero_le _, Nat.zero_le _⟩) (fun H locs hP hD hS => ?_)
  refine lv_aload_n hx hb dX11_simplify_15 rfl (lv_at hl 0 rfl) ?_
  refine va_get (D := (dC, dI)) (ci := 10) (v := .ref (a2 0)) (C := RX11) (T := TX11) (N := 7) hx hb hta uw_X11 hown hK hP 0 rfl rfl 0 (by decide) (hta _ mA7) (fun _ h9 => h9) rfl dX11_simplify_16 ?_
  refine lv_iload_n hx hb dX11_simplify_19 rfl (lv_at hl 1 rfl) ?_
  obtain ⟨u_5, hu_5, hF⟩ := obd_some hF
  have hPc := hP.sub (ws' := (wd_X1_dropIdlePoints cI a2 v2_0)) [1, 2] rfl
  have hDc := hD.sub (ws' := (wd_X1_dropIdlePoints cI a2 v2_0)) [1, 2] rfl rfl
  refine q_calli (wc := (wd_X1_dropIdlePoints cI a2 v2_0)) (w1 := (wd_X1_dropIdlePoints cI a2 u_5.2)) (ws' := (wd_X11_simplify cI a0 a1 a2 a3 a4 a5 a6 a7 a8 a9 a10 u_5.2 u_4.1 u_4.2.1 u_4.2.2 v5_4 v5_5 v5_6 v5_7)) hP hD hS hA [1, 2] [0, 3, 4, 5] [0, 4, 5, 1, 2, 3] rfl rfl rfl (by decide) rfl rfl (va_runV (As := [.int p1]) (rest := []) ⟨hx, hb, hml, hown, hta⟩ (c_X1_dropIdlePoints l dC dI cI H.size a2 v2_0 p1 n u_5 hu_5) (cwV 1 hta (ga_V mA261 mA262 mA263 mA6 mA264) rfl rfl rfl (by decide +kernel) ⟨Nat.le_of_ble_eq_true rfl, Nat.le_of_ble_eq_true rfl⟩) ⟨q_fb, va_recv hK hP (ci := 1) (q0 := 1) rfl rfl, q_ps hPc hK hDc⟩ rfl rfl hl.1 rfl (lv_room (Nat.le_of_ble_eq_true rfl)) dX11_simplify_20 ⟨Nat.zero_le _, Nat.zero_le _⟩) (fun H locs hP hD hS => ?_)
  exact absurd hF no_lr
