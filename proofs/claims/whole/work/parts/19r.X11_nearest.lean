-- StrokeOutliner.nearest(II)I
def F_X11_nearest (n : Nat) (v2_0 : Nat → Int32) (p1 : Int32) (p2 : Int32) : Option (Sum (Int32) (Nat)) :=
  obx (F_X11_checkRange p1 (-100) 100) (fun x_2 => some (.inr x_2)) (fun u_1 => obx (F_X11_checkRange p2 (-100) 100) (fun x_4 => some (.inr x_4)) (fun u_3 => obd (F_X1_leastSquare n v2_0 p1 p2) (fun u_5 => some (.inl u_5))))
abbrev wd_X11_nearest (cI : ClassId) (a0 : Nat → Nat) (a1 : Nat → Nat) (a2 : Nat → Nat) (a3 : Nat → Nat) (a4 : Nat → Nat) (a5 : Nat → Nat) (a6 : Nat → Nat) (a7 : Nat → Nat) (v2_0 : Nat → Int32) : va_W := [(a0 0, .inr (10, [.ref (a2 0), .ref (a1 0), .ref (a4 0), .ref (a6 0), .ref (a7 0), .ref (a5 0), .ref (a3 0)])), (a2 0, .inr (1, [.ref (a2 1)])), (a2 1, .inl (cI, 86, .inl v2_0))]
abbrev wz_X11_nearest : List Cond := .code yX11_nearest cX11_nearest 3 (some .int) :: wALL
abbrev rm_X11_nearest : Room := { frames := 3, cells := 0, slots := 0, locals := 71 }
abbrev Q_X11_nearest (dC : Nat → ClassId) (dI : Nat → Nat → Nat) (cI : ClassId) (a0 : Nat → Nat) (a1 : Nat → Nat) (a2 : Nat → Nat) (a3 : Nat → Nat) (a4 : Nat → Nat) (a5 : Nat → Nat) (a6 : Nat → Nat) (a7 : Nat → Nat) (v2_0 : Nat → Int32) (u : (Int32)) (A : Nat → Prop) : Array Value → State → Outcome → State → Prop := va_Qi (fun (r : Int32) (_ : Unit) => r = u) (fun _ => q_at dC dI cI A (wd_X11_nearest cI a0 a1 a2 a3 a4 a5 a6 a7 v2_0)) A
set_option maxHeartbeats 4000000 in
set_option maxRecDepth 100000 in
theorem c_X11_nearest (l : Launch) (dC : Nat → ClassId) (dI : Nat → Nat → Nat) (cI : ClassId) (sz : Nat) (a0 : Nat → Nat) (a1 : Nat → Nat) (a2 : Nat → Nat) (a3 : Nat → Nat) (a4 : Nat → Nat) (a5 : Nat → Nat) (a6 : Nat → Nat) (a7 : Nat → Nat) (v2_0 : Nat → Int32) (p1 : Int32) (p2 : Int32) (n : Nat) (u : (Int32)) (hF : F_X11_nearest n v2_0 p1 p2 = some (.inl u)) : Met l yX11_nearest wz_X11_nearest rm_X11_nearest (va_Pc [.ref (a0 0), .int p1, .int p2] (q_pre dC dI cI (wd_X11_nearest cI a0 a1 a2 a3 a4 a5 a6 a7 v2_0) sz)) (Q_X11_nearest dC dI cI a0 a1 a2 a3 a4 a5 a6 a7 v2_0 u (va_A (wd_X11_nearest cI a0 a1 a2 a3 a4 a5 a6 a7 v2_0) sz)) 0 0 (va_A (wd_X11_nearest cI a0 a1 a2 a3 a4 a5 a6 a7 v2_0) sz) := by
  refine Met.ofW (cc := cX11_nearest) (maxL := 3) (ret := (some .int)) (by decide) rfl ?_
  intro p e s m args below meth c s₁ B hml hv
  obtain ⟨rfl, hsz, hP, hK, hD0⟩ := hv
  have hx := B.exec
  have hb := B.bytes
  have hr := B.returns
  have hts := atoms_spec (ws := wz_X11_nearest) B.pre
  have hta := wz_tl hts
  have hown : s.vm.findClass RX11 = some m.cls := findClass_of_methodNamed B.named
  have hlocks := B.notSynchronized
  subst hsz
  have hD := hD0.self (sz := s.heap.size)
  generalize hAe : va_A (wd_X11_nearest cI a0 a1 a2 a3 a4 a5 a6 a7 v2_0) s.heap.size = A at hD ⊢
  have hA : ∀ q : Nat, s.heap.size ≤ q → A q := fun q h => by rw [← hAe]; exact Or.inr h
  have hS : va_S A s.heap s.heap [] := va_S.rf
  have hP : va_P (dC, dI) vwCl (wd_X11_nearest cI a0 a1 a2 a3 a4 a5 a6 a7 v2_0) s.heap := hP
  have hl := lv_entry ([.ref (a0 0), .int p1, .int p2]) (n := 3) (Nat.le_of_ble_eq_true rfl)
  rw [lg_entry_eq]
  generalize (lg_sl ([.ref (a0 0), .int p1, .int p2]) ++ List.replicate (3 - (lg_sl ([.ref (a0 0), .int p1, .int p2])).length) Slot.unset).toArray = ls at hl ⊢
  have hl : lv_has ls 3 [(0, .ref (a0 0)), (1, .int p1), (2, .int p2)] := hl
  obtain ⟨H, hHe⟩ : ∃ H, H = s.heap := ⟨_, rfl⟩
  have hS : va_S A s.heap H [] := by rw [hHe]; exact hS
  have hP : va_P (dC, dI) vwCl (wd_X11_nearest cI a0 a1 a2 a3 a4 a5 a6 a7 v2_0) H := by rw [hHe]; exact hP
  rw [← hHe]
  unfold F_X11_nearest at hF
  refine lv_iload_n hx hb dX11_nearest_0 rfl (lv_at hl 1 rfl) ?_
  refine lv_bipush (v := (-100)) hx hb dX11_nearest_1 (by decide) ?_
  refine lv_bipush (v := 100) hx hb dX11_nearest_3 (by decide) ?_
  refine obx_elim hF (fun x_2 hx_2 hF => ?_) (fun u_1 hu_1 hF => ?_)
  · exact absurd hF no_rl
  have hPc := hP.sub (ws' := ([] : va_W)) [] rfl
  have hDc := hD.sub (ws' := ([] : va_W)) [] rfl rfl
  refine q_callv (wc := ([] : va_W)) (w1 := ([] : va_W)) (ws' := (wd_X11_nearest cI a0 a1 a2 a3 a4 a5 a6 a7 v2_0)) hP hD hS hA [] [0, 1, 2] [0, 1, 2] rfl rfl rfl (by decide) rfl rfl (va_runS (As := [.int p1, .int (-100), .int 100]) (rest := []) ⟨hx, hb, hml, hown, hta⟩ (c_X11_checkRange l dC dI cI H.size p1 (-100) 100 u_1 hu_1) (va_cwS 3 hta (ga_S mA106 mA107 mA108 mA109) rfl rfl rfl (by decide +kernel) ⟨Nat.le_of_ble_eq_true rfl, Nat.le_of_ble_eq_true rfl⟩) ⟨q_fb, q_ps hPc hK hDc⟩ rfl rfl hl.1 rfl (lv_room (Nat.le_of_ble_eq_true rfl)) dX11_nearest_5 ⟨Nat.zero_le _, Nat.zero_le _⟩) (fun H locs hP hD hS => ?_)
  refine lv_iload_n hx hb dX11_nearest_8 rfl (lv_at hl 2 rfl) ?_
  refine lv_bipush (v := (-100)) hx hb dX11_nearest_9 (by decide) ?_
  refine lv_bipush (v := 100) hx hb dX11_nearest_11 (by decide) ?_
  refine obx_elim hF (fun x_4 hx_4 hF => ?_) (fun u_3 hu_3 hF => ?_)
  · exact absurd hF no_rl
  have hPc := hP.sub (ws' := ([] : va_W)) [] rfl
  have hDc := hD.sub (ws' := ([] : va_W)) [] rfl rfl
  refine q_callv (wc := ([] : va_W)) (w1 := ([] : va_W)) (ws' := (wd_X11_nearest cI a0 a1 a2 a3 a4 a5 a6 a7 v2_0)) hP hD hS hA [] [0, 1, 2] [0, 1, 2] rfl rfl rfl (by decide) rfl rfl (va_runS (As := [.int p2, .int (-100), .int 100]) (rest := []) ⟨hx, hb, hml, hown, hta⟩ (c_X11_checkRange l dC dI cI H.size p2 (-100) 100 u_3 hu_3) (va_cwS 3 hta (ga_S mA106 mA107 mA108 mA109) rfl rfl rfl (by decide +kernel) ⟨Nat.le_of_ble_eq_true rfl, Nat.le_of_ble_eq_true rfl⟩) ⟨q_fb, q_ps hPc hK hDc⟩ rfl rfl hl.1 rfl (lv_room (Nat.le_of_ble_eq_true rfl)) dX11_nearest_13 ⟨Nat.zero_le _, Nat.zero_le _⟩) (fun H locs hP hD hS => ?_)
  refine lv_aload_n hx hb dX11_nearest_16 rfl (lv_at hl 0 rfl) ?_
  refine va_get (D := (dC, dI)) (ci := 10) (v := .ref (a2 0)) (C := RX11) (T := TX11) (N := 7) hx hb hta uw_X11 hown hK hP 0 rfl rfl 0 (by decide) (hta _ mA7) (fun _ h9 => h9) rfl dX11_nearest_17 ?_
  refine lv_iload_n hx hb dX11_nearest_20 rfl (lv_at hl 1 rfl) ?_
  refine lv_iload_n hx hb dX11_nearest_21 rfl (lv_at hl 2 rfl) ?_
  obtain ⟨u_5, hu_5, hF⟩ := obd_some hF
  have hPc := hP.sub (ws' := (wd_X1_leastSquare cI a2 v2_0)) [1, 2] rfl
  have hDc := hD.sub (ws' := (wd_X1_leastSquare cI a2 v2_0)) [1, 2] rfl rfl
  refine q_calli (wc := (wd_X1_leastSquare cI a2 v2_0)) (w1 := (wd_X1_leastSquare cI a2 v2_0)) (ws' := (wd_X11_nearest cI a0 a1 a2 a3 a4 a5 a6 a7 v2_0)) hP hD hS hA [1, 2] [0] [0, 1, 2] rfl rfl rfl (by decide) rfl rfl (va_runV (As := [.int p1, .int p2]) (rest := []) ⟨hx, hb, hml, hown, hta⟩ (c_X1_leastSquare l dC dI cI H.size a2 v2_0 p1 p2 n u_5 hu_5) (cwV 2 hta (ga_V mA662 mA663 mA664 mA6 mA665) rfl rfl rfl (by decide +kernel) ⟨Nat.le_of_ble_eq_true rfl, Nat.le_of_ble_eq_true rfl⟩) ⟨q_fb, va_recv hK hP (ci := 1) (q0 := 1) rfl rfl, q_ps hPc hK hDc⟩ rfl rfl hl.1 rfl (lv_room (Nat.le_of_ble_eq_true rfl)) dX11_nearest_22 ⟨Nat.zero_le _, Nat.zero_le _⟩) (fun H locs hP hD hS => ?_)
  obtain rfl := Sum.inl.inj (Option.some.inj hF)
  exact W.iret (v := u_5) hx hb hr (fun t ht hW => ⟨⟨u_5, (), rfl, rfl, by rw [ht]; exact hP, va_K.moved hW.alike hK, hD⟩, hS.F ht⟩) hS.2.2 dX11_nearest_25
abbrev rmx_X11_nearest : Room := { frames := 7, cells := 1, slots := 6, locals := 104 }
abbrev XC_X11_nearest (dC : Nat → ClassId) (dI : Nat → Nat → Nat) (cI : ClassId) (a0 : Nat → Nat) (a1 : Nat → Nat) (a2 : Nat → Nat) (a3 : Nat → Nat) (a4 : Nat → Nat) (a5 : Nat → Nat) (a6 : Nat → Nat) (a7 : Nat → Nat) (v2_0 : Nat → Int32) (x : (Nat)) (A : Nat → Prop) : String → State → State → Prop := vx_X (fun (_ : Unit) => True) (fun E _ t => E = exN x ∧ q_at dC dI cI A (wd_X11_nearest cI a0 a1 a2 a3 a4 a5 a6 a7 v2_0) t) A
set_option maxHeartbeats 4000000 in
set_option maxRecDepth 100000 in
theorem c_X11_nearest_x (l : Launch) (hlt : l.stackTraces = false) (S : Nat → Nat) (dC : Nat → ClassId) (dI : Nat → Nat → Nat) (cI : ClassId) (sz : Nat) (a0 : Nat → Nat) (a1 : Nat → Nat) (a2 : Nat → Nat) (a3 : Nat → Nat) (a4 : Nat → Nat) (a5 : Nat → Nat) (a6 : Nat → Nat) (a7 : Nat → Nat) (v2_0 : Nat → Int32) (p1 : Int32) (p2 : Int32) (n : Nat) (x : (Nat)) (hF : F_X11_nearest n v2_0 p1 p2 = some (.inr x)) : vx_Met l yX11_nearest wz_X11_nearest rmx_X11_nearest (va_Pc [.ref (a0 0), .int p1, .int p2] (qx_pre S dC dI cI (wd_X11_nearest cI a0 a1 a2 a3 a4 a5 a6 a7 v2_0) sz)) (va_Qv (fun (_ : Unit) => False) (fun _ _ => True) (va_A (wd_X11_nearest cI a0 a1 a2 a3 a4 a5 a6 a7 v2_0) sz)) (XC_X11_nearest dC dI cI a0 a1 a2 a3 a4 a5 a6 a7 v2_0 x (va_A (wd_X11_nearest cI a0 a1 a2 a3 a4 a5 a6 a7 v2_0) sz)) 1 6 (va_A (wd_X11_nearest cI a0 a1 a2 a3 a4 a5 a6 a7 v2_0) sz) := by
  refine vx_ofW (cc := cX11_nearest) (maxL := 3) (ret := (some .int)) (by decide) rfl ?_
  intro p e s m args below meth c s₁ B hml hxt hv
  obtain ⟨rfl, ⟨hsz, hP, hK, hD0⟩, hE⟩ := hv
  have hx := B.exec
  have hb := B.bytes
  have hr := B.returns
  have hts := atoms_spec (ws := wz_X11_nearest) B.pre
  have hta := wz_tl hts
  have hown : s.vm.findClass RX11 = some m.cls := findClass_of_methodNamed B.named
  have hlocks := B.notSynchronized
  subst hsz
  have hD := hD0.self (sz := s.heap.size)
  generalize hAe : va_A (wd_X11_nearest cI a0 a1 a2 a3 a4 a5 a6 a7 v2_0) s.heap.size = A at hD hE ⊢
  have hA : ∀ q : Nat, s.heap.size ≤ q → A q := fun q h => by rw [← hAe]; exact Or.inr h
  have hS : va_S A s.heap s.heap [] := va_S.rf
  have hP : va_P (dC, dI) vwCl (wd_X11_nearest cI a0 a1 a2 a3 a4 a5 a6 a7 v2_0) s.heap := hP
  have hl := lv_entry ([.ref (a0 0), .int p1, .int p2]) (n := 3) (Nat.le_of_ble_eq_true rfl)
  rw [lg_entry_eq]
  generalize (lg_sl ([.ref (a0 0), .int p1, .int p2]) ++ List.replicate (3 - (lg_sl ([.ref (a0 0), .int p1, .int p2])).length) Slot.unset).toArray = ls at hl ⊢
  have hl : lv_has ls 3 [(0, .ref (a0 0)), (1, .int p1), (2, .int p2)] := hl
  obtain ⟨H, hHe⟩ : ∃ H, H = s.heap := ⟨_, rfl⟩
  have hS : va_S A s.heap H [] := by rw [hHe]; exact hS
  have hP : va_P (dC, dI) vwCl (wd_X11_nearest cI a0 a1 a2 a3 a4 a5 a6 a7 v2_0) H := by rw [hHe]; exact hP
  rw [← hHe]
  unfold F_X11_nearest at hF
  refine lv_iload_n hx hb dX11_nearest_0 rfl (lv_at hl 1 rfl) ?_
  refine lv_bipush (v := (-100)) hx hb dX11_nearest_1 (by decide) ?_
  refine lv_bipush (v := 100) hx hb dX11_nearest_3 (by decide) ?_
  refine obx_elim hF (fun x_2 hx_2 hF => ?_) (fun u_1 hu_1 hF => ?_)
  · obtain rfl := Sum.inr.inj (Option.some.inj hF)
    have hPc := hP.sub (ws' := ([] : va_W)) [] rfl
    have hDc := hD.sub (ws' := ([] : va_W)) [] rfl rfl
    refine qx_thr (kd := x_2) hP hD hK hS hA hxt hlocks (vx_runS (As := [.int p1, .int (-100), .int 100]) (rest := []) ⟨hx, hb, hml, hown, hta⟩ (c_X11_checkRange_x l hlt S dC dI cI H.size p1 (-100) 100 x_2 hx_2) (va_cwS 3 hta (ga_S mA106 mA107 mA108 mA109) rfl rfl rfl (by decide +kernel) ⟨Nat.le_of_ble_eq_true rfl, Nat.le_of_ble_eq_true rfl⟩) ⟨qx_fb, qx_ps hPc hK hDc hE hS (va_free (wc := ([] : va_W)) hD hS hA [] rfl)⟩ rfl rfl hl.1 rfl (lv_room (Nat.le_of_ble_eq_true rfl)) dX11_nearest_5 ⟨Nat.le_of_ble_eq_true rfl, Nat.le_of_ble_eq_true rfl⟩) (fun t hP hK hF9 => ⟨(), trivial, ⟨rfl, hP, hK, hD⟩, hF9⟩) (Nat.le_of_ble_eq_true rfl) (Nat.le_of_ble_eq_true rfl)
  have hPc := hP.sub (ws' := ([] : va_W)) [] rfl
  have hDc := hD.sub (ws' := ([] : va_W)) [] rfl rfl
  refine q_callv (wc := ([] : va_W)) (w1 := ([] : va_W)) (ws' := (wd_X11_nearest cI a0 a1 a2 a3 a4 a5 a6 a7 v2_0)) hP hD hS hA [] [0, 1, 2] [0, 1, 2] rfl rfl rfl (by decide) rfl rfl (va_runS (As := [.int p1, .int (-100), .int 100]) (rest := []) ⟨hx, hb, hml, hown, hta⟩ (c_X11_checkRange l dC dI cI H.size p1 (-100) 100 u_1 hu_1) (va_cwS 3 hta (ga_S mA106 mA107 mA108 mA109) rfl rfl rfl (by decide +kernel) ⟨Nat.le_of_ble_eq_true rfl, Nat.le_of_ble_eq_true rfl⟩) ⟨q_fb, q_ps hPc hK hDc⟩ rfl rfl hl.1 rfl (lv_room (Nat.le_of_ble_eq_true rfl)) dX11_nearest_5 ⟨Nat.zero_le _, Nat.zero_le _⟩) (fun H locs hP hD hS => ?_)
  refine lv_iload_n hx hb dX11_nearest_8 rfl (lv_at hl 2 rfl) ?_
  refine lv_bipush (v := (-100)) hx hb dX11_nearest_9 (by decide) ?_
  refine lv_bipush (v := 100) hx hb dX11_nearest_11 (by decide) ?_
  refine obx_elim hF (fun x_4 hx_4 hF => ?_) (fun u_3 hu_3 hF => ?_)
  · obtain rfl := Sum.inr.inj (Option.some.inj hF)
    have hPc := hP.sub (ws' := ([] : va_W)) [] rfl
    have hDc := hD.sub (ws' := ([] : va_W)) [] rfl rfl
    refine qx_thr (kd := x_4) hP hD hK hS hA hxt hlocks (vx_runS (As := [.int p2, .int (-100), .int 100]) (rest := []) ⟨hx, hb, hml, hown, hta⟩ (c_X11_checkRange_x l hlt S dC dI cI H.size p2 (-100) 100 x_4 hx_4) (va_cwS 3 hta (ga_S mA106 mA107 mA108 mA109) rfl rfl rfl (by decide +kernel) ⟨Nat.le_of_ble_eq_true rfl, Nat.le_of_ble_eq_true rfl⟩) ⟨qx_fb, qx_ps hPc hK hDc hE hS (va_free (wc := ([] : va_W)) hD hS hA [] rfl)⟩ rfl rfl hl.1 rfl (lv_room (Nat.le_of_ble_eq_true rfl)) dX11_nearest_13 ⟨Nat.le_of_ble_eq_true rfl, Nat.le_of_ble_eq_true rfl⟩) (fun t hP hK hF9 => ⟨(), trivial, ⟨rfl, hP, hK, hD⟩, hF9⟩) (Nat.le_of_ble_eq_true rfl) (Nat.le_of_ble_eq_true rfl)
  have hPc := hP.sub (ws' := ([] : va_W)) [] rfl
  have hDc := hD.sub (ws' := ([] : va_W)) [] rfl rfl
  refine q_callv (wc := ([] : va_W)) (w1 := ([] : va_W)) (ws' := (wd_X11_nearest cI a0 a1 a2 a3 a4 a5 a6 a7 v2_0)) hP hD hS hA [] [0, 1, 2] [0, 1, 2] rfl rfl rfl (by decide) rfl rfl (va_runS (As := [.int p2, .int (-100), .int 100]) (rest := []) ⟨hx, hb, hml, hown, hta⟩ (c_X11_checkRange l dC dI cI H.size p2 (-100) 100 u_3 hu_3) (va_cwS 3 hta (ga_S mA106 mA107 mA108 mA109) rfl rfl rfl (by decide +kernel) ⟨Nat.le_of_ble_eq_true rfl, Nat.le_of_ble_eq_true rfl⟩) ⟨q_fb, q_ps hPc hK hDc⟩ rfl rfl hl.1 rfl (lv_room (Nat.le_of_ble_eq_true rfl)) dX11_nearest_13 ⟨Nat.zero_le _, Nat.zero_le _⟩) (fun H locs hP hD hS => ?_)
  refine lv_aload_n hx hb dX11_nearest_16 rfl (lv_at hl 0 rfl) ?_
  refine va_get (D := (dC, dI)) (ci := 10) (v := .ref (a2 0)) (C := RX11) (T := TX11) (N := 7) hx hb hta uw_X11 hown hK hP 0 rfl rfl 0 (by decide) (hta _ mA7) (fun _ h9 => h9) rfl dX11_nearest_17 ?_
  refine lv_iload_n hx hb dX11_nearest_20 rfl (lv_at hl 1 rfl) ?_
  refine lv_iload_n hx hb dX11_nearest_21 rfl (lv_at hl 2 rfl) ?_
  obtain ⟨u_5, hu_5, hF⟩ := obd_some hF
  have hPc := hP.sub (ws' := (wd_X1_leastSquare cI a2 v2_0)) [1, 2] rfl
  have hDc := hD.sub (ws' := (wd_X1_leastSquare cI a2 v2_0)) [1, 2] rfl rfl
  refine q_calli (wc := (wd_X1_leastSquare cI a2 v2_0)) (w1 := (wd_X1_leastSquare cI a2 v2_0)) (ws' := (wd_X11_nearest cI a0 a1 a2 a3 a4 a5 a6 a7 v2_0)) hP hD hS hA [1, 2] [0] [0, 1, 2] rfl rfl rfl (by decide) rfl rfl (va_runV (As := [.int p1, .int p2]) (rest := []) ⟨hx, hb, hml, hown, hta⟩ (c_X1_leastSquare l dC dI cI H.size a2 v2_0 p1 p2 n u_5 hu_5) (cwV 2 hta (ga_V mA662 mA663 mA664 mA6 mA665) rfl rfl rfl (by decide +kernel) ⟨Nat.le_of_ble_eq_true rfl, Nat.le_of_ble_eq_true rfl⟩) ⟨q_fb, va_recv hK hP (ci := 1) (q0 := 1) rfl rfl, q_ps hPc hK hDc⟩ rfl rfl hl.1 rfl (lv_room (Nat.le_of_ble_eq_true rfl)) dX11_nearest_22 ⟨Nat.zero_le _, Nat.zero_le _⟩) (fun H locs hP hD hS => ?_)
  exact absurd hF no_lr

-- StrokeOutliner.append(I)I
def F_X11_append_j22 (v6_1 : Int32) (v6_0 : Nat → Int32) (x1 : Int32) (t0 : Int32) : Option (Sum (Int32 × Int32 × (Nat → Int32)) (Nat × Int32 × (Nat → Int32))) :=
  obx (F_X11_checkState t0) (fun x_2 => some (.inr (x_2, v6_1, v6_0))) (fun u_1 => obd (F_X5_add v6_1 v6_0 x1) (fun u_3 => lt (F_X5_length u_3.1) (fun u_4 => some (.inl (u_4, u_3.1, u_3.2)))))
def F_X11_append (v6_1 : Int32) (v6_0 : Nat → Int32) (p1 : Int32) : Option (Sum (Int32 × Int32 × (Nat → Int32)) (Nat × Int32 × (Nat → Int32))) :=
  obx (F_X11_checkRange p1 0 127) (fun x_6 => some (.inr (x_6, v6_1, v6_0))) (fun u_5 => lt (F_X5_isFull v6_1) (fun u_7 => if u_7 = 0 then F_X11_append_j22 v6_1 v6_0 p1 1 else F_X11_append_j22 v6_1 v6_0 p1 0))
abbrev wd_X11_append (cI : ClassId) (a0 : Nat → Nat) (a1 : Nat → Nat) (a2 : Nat → Nat) (a3 : Nat → Nat) (a4 : Nat → Nat) (a5 : Nat → Nat) (a6 : Nat → Nat) (a7 : Nat → Nat) (v6_1 : Int32) (v6_2 : Int32) (v6_3 : Int32) (v6_4 : Int32) (v6_5 : Int32) (v6_0 : Nat → Int32) : va_W := [(a0 0, .inr (10, [.ref (a2 0), .ref (a1 0), .ref (a4 0), .ref (a6 0), .ref (a7 0), .ref (a5 0), .ref (a3 0)])), (a6 0, .inr (4, [.ref (a6 1), .int v6_1, .int v6_2, .int v6_3, .int v6_4, .int v6_5])), (a6 1, .inl (cI, 150, .inl v6_0))]
abbrev wz_X11_append : List Cond := .code yX11_append cX11_append 2 (some .int) :: wALL
abbrev rm_X11_append : Room := { frames := 1, cells := 0, slots := 0, locals := 22 }
abbrev Q_X11_append (dC : Nat → ClassId) (dI : Nat → Nat → Nat) (cI : ClassId) (a0 : Nat → Nat) (a1 : Nat → Nat) (a2 : Nat → Nat) (a3 : Nat → Nat) (a4 : Nat → Nat) (a5 : Nat → Nat) (a6 : Nat → Nat) (a7 : Nat → Nat) (v6_2 : Int32) (v6_3 : Int32) (v6_4 : Int32) (v6_5 : Int32) (u : (Int32 × Int32 × (Nat → Int32))) (A : Nat → Prop) : Array Value → State → Outcome → State → Prop := va_Qi (fun (r : Int32) (_ : Unit) => r = u.1) (fun _ => q_at dC dI cI A (wd_X11_append cI a0 a1 a2 a3 a4 a5 a6 a7 u.2.1 v6_2 v6_3 v6_4 v6_5 u.2.2)) A
set_option maxHeartbeats 4000000 in
set_option maxRecDepth 100000 in
theorem c_X11_append (l : Launch) (dC : Nat → ClassId) (dI : Nat → Nat → Nat) (cI : ClassId) (sz : Nat) (a0 : Nat → Nat) (a1 : Nat → Nat) (a2 : Nat → Nat) (a3 : Nat → Nat) (a4 : Nat → Nat) (a5 : Nat → Nat) (a6 : Nat → Nat) (a7 : Nat → Nat) (v6_1 : Int32) (v6_2 : Int32) (v6_3 : Int32) (v6_4 : Int32) (v6_5 : Int32) (v6_0 : Nat → Int32) (p1 : Int32) (u : (Int32 × Int32 × (Nat → Int32))) (hF : F_X11_append v6_1 v6_0 p1 = some (.inl u)) : Met l yX11_append wz_X11_append rm_X11_append (va_Pc [.ref (a0 0), .int p1] (q_pre dC dI cI (wd_X11_append cI a0 a1 a2 a3 a4 a5 a6 a7 v6_1 v6_2 v6_3 v6_4 v6_5 v6_0) sz)) (Q_X11_append dC dI cI a0 a1 a2 a3 a4 a5 a6 a7 v6_2 v6_3 v6_4 v6_5 u (va_A (wd_X11_append cI a0 a1 a2 a3 a4 a5 a6 a7 v6_1 v6_2 v6_3 v6_4 v6_5 v6_0) sz)) 0 0 (va_A (wd_X11_append cI a0 a1 a2 a3 a4 a5 a6 a7 v6_1 v6_2 v6_3 v6_4 v6_5 v6_0) sz) := by
  refine Met.ofW (cc := cX11_append) (maxL := 2) (ret := (some .int)) (by decide) rfl ?_
  intro p e s m args below meth c s₁ B hml hv
  obtain ⟨rfl, hsz, hP, hK, hD0⟩ := hv
  have hx := B.exec
  have hb := B.bytes
  have hr := B.returns
  have hts := atoms_spec (ws := wz_X11_append) B.pre
  have hta := wz_tl hts
  have hown : s.vm.findClass RX11 = some m.cls := findClass_of_methodNamed B.named
  have hlocks := B.notSynchronized
  subst hsz
  have hD := hD0.self (sz := s.heap.size)
  generalize hAe : va_A (wd_X11_append cI a0 a1 a2 a3 a4 a5 a6 a7 v6_1 v6_2 v6_3 v6_4 v6_5 v6_0) s.heap.size = A at hD ⊢
  have hA : ∀ q : Nat, s.heap.size ≤ q → A q := fun q h => by rw [← hAe]; exact Or.inr h
  have hS : va_S A s.heap s.heap [] := va_S.rf
  have hP : va_P (dC, dI) vwCl (wd_X11_append cI a0 a1 a2 a3 a4 a5 a6 a7 v6_1 v6_2 v6_3 v6_4 v6_5 v6_0) s.heap := hP
  have hl := lv_entry ([.ref (a0 0), .int p1]) (n := 2) (Nat.le_of_ble_eq_true rfl)
  rw [lg_entry_eq]
  generalize (lg_sl ([.ref (a0 0), .int p1]) ++ List.replicate (2 - (lg_sl ([.ref (a0 0), .int p1])).length) Slot.unset).toArray = ls at hl ⊢
  have hl : lv_has ls 2 [(0, .ref (a0 0)), (1, .int p1)] := hl
  obtain ⟨H, hHe⟩ : ∃ H, H = s.heap := ⟨_, rfl⟩
  have hS : va_S A s.heap H [] := by rw [hHe]; exact hS
  have hP : va_P (dC, dI) vwCl (wd_X11_append cI a0 a1 a2 a3 a4 a5 a6 a7 v6_1 v6_2 v6_3 v6_4 v6_5 v6_0) H := by rw [hHe]; exact hP
  rw [← hHe]
  unfold F_X11_append at hF
  have j22 : ∀ (v6_1 : Int32) (v6_0 : Nat → Int32) (x1 : Int32) (t0 : Int32), F_X11_append_j22 v6_1 v6_0 x1 t0 = some (.inl u) → ∀ (H : Heap) (locs : List Loc) (ls : Array Slot), va_P (dC, dI) vwCl (wd_X11_append cI a0 a1 a2 a3 a4 a5 a6 a7 v6_1 v6_2 v6_3 v6_4 v6_5 v6_0) H → va_D A (wd_X11_append cI a0 a1 a2 a3 a4 a5 a6 a7 v6_1 v6_2 v6_3 v6_4 v6_5 v6_0) → va_S A s.heap H locs → lv_has ls 2 [(0, .ref (a0 0)), (1, .int x1)] → W p l e (headSpec wz_X11_append rm_X11_append).room s m [.ref (a0 0), .int p1].toArray below meth c H locs 0 0 (MQ below (Q_X11_append dC dI cI a0 a1 a2 a3 a4 a5 a6 a7 v6_2 v6_3 v6_4 v6_5 u A) [.ref (a0 0), .int p1].toArray s 0 0 A) (F0 m 22 ls [.int t0]) := by
    intro v6_1 v6_0 x1 t0 hF H locs ls hP hD hS hl
    unfold F_X11_append_j22 at hF
    refine obx_elim hF (fun x_2 hx_2 hF => ?_) (fun u_1 hu_1 hF => ?_)
    · exact absurd hF no_rl
    have hPc := hP.sub (ws' := ([] : va_W)) [] rfl
    have hDc := hD.sub (ws' := ([] : va_W)) [] rfl rfl
    refine q_callv (wc := ([] : va_W)) (w1 := ([] : va_W)) (ws' := (wd_X11_append cI a0 a1 a2 a3 a4 a5 a6 a7 v6_1 v6_2 v6_3 v6_4 v6_5 v6_0)) hP hD hS hA [] [0, 1, 2] [0, 1, 2] rfl rfl rfl (by decide) rfl rfl (va_runS (As := [.int t0]) (rest := []) ⟨hx, hb, hml, hown, hta⟩ (c_X11_checkState l dC dI cI H.size t0 u_1 hu_1) (va_cwS 1 hta (ga_S mA120 mA121 mA108 mA122) rfl rfl rfl (by decide +kernel) ⟨Nat.le_of_ble_eq_true rfl, Nat.le_of_ble_eq_true rfl⟩) ⟨q_fb, q_ps hPc hK hDc⟩ rfl rfl hl.1 rfl (lv_room (Nat.le_of_ble_eq_true rfl)) dX11_append_22 ⟨Nat.zero_le _, Nat.zero_le _⟩) (fun H locs hP hD hS => ?_)
    refine lv_aload_n hx hb dX11_append_25 rfl (lv_at hl 0 rfl) ?_
    refine va_get (D := (dC, dI)) (ci := 10) (v := .ref (a6 0)) (C := RX11) (T := TX11) (N := 7) hx hb hta uw_X11 hown hK hP 0 rfl rfl 3 (by decide) (hta _ mA16) (fun _ h9 => h9) rfl dX11_append_26 ?_
    refine lv_iload_n hx hb dX11_append_29 rfl (lv_at hl 1 rfl) ?_
    obtain ⟨u_3, hu_3, hF⟩ := obd_some hF
    have hPc := hP.sub (ws' := (wd_X5_add cI a6 v6_1 v6_2 v6_3 v6_4 v6_5 v6_0)) [1, 2] rfl
    have hDc := hD.sub (ws' := (wd_X5_add cI a6 v6_1 v6_2 v6_3 v6_4 v6_5 v6_0)) [1, 2] rfl rfl
    refine q_callv (wc := (wd_X5_add cI a6 v6_1 v6_2 v6_3 v6_4 v6_5 v6_0)) (w1 := (wd_X5_add cI a6 u_3.1 v6_2 v6_3 v6_4 v6_5 u_3.2)) (ws' := (wd_X11_append cI a0 a1 a2 a3 a4 a5 a6 a7 u_3.1 v6_2 v6_3 v6_4 v6_5 u_3.2)) hP hD hS hA [1, 2] [0] [0, 1, 2] rfl rfl rfl (by decide) rfl rfl (va_runV (As := [.int x1]) (rest := []) ⟨hx, hb, hml, hown, hta⟩ (c_X5_add l dC dI cI H.size a6 v6_1 v6_2 v6_3 v6_4 v6_5 v6_0 x1 u_3 hu_3) (cwV 1 hta (ga_V mA672 mA673 mA674 mA15 mA675) rfl rfl rfl (by decide +kernel) ⟨Nat.le_of_ble_eq_true rfl, Nat.le_of_ble_eq_true rfl⟩) ⟨q_fb, va_recv hK hP (ci := 4) (q0 := 1) rfl rfl, q_ps hPc hK hDc⟩ rfl rfl hl.1 rfl (lv_room (Nat.le_of_ble_eq_true rfl)) dX11_append_30 ⟨Nat.zero_le _, Nat.zero_le _⟩) (fun H locs hP hD hS => ?_)
    refine lv_aload_n hx hb dX11_append_33 rfl (lv_at hl 0 rfl) ?_
    refine va_get (D := (dC, dI)) (ci := 10) (v := .ref (a6 0)) (C := RX11) (T := TX11) (N := 7) hx hb hta uw_X11 hown hK hP 0 rfl rfl 3 (by decide) (hta _ mA16) (fun _ h9 => h9) rfl dX11_append_34 ?_
    obtain ⟨u_4, hu_4, hF⟩ := lt_some hF
    have hPc := hP.sub (ws' := (wd_X5_length cI a6 u_3.1 v6_2 v6_3 v6_4 v6_5)) [1] rfl
    have hDc := hD.sub (ws' := (wd_X5_length cI a6 u_3.1 v6_2 v6_3 v6_4 v6_5)) [1] rfl rfl
    refine q_calli (wc := (wd_X5_length cI a6 u_3.1 v6_2 v6_3 v6_4 v6_5)) (w1 := (wd_X5_length cI a6 u_3.1 v6_2 v6_3 v6_4 v6_5)) (ws' := (wd_X11_append cI a0 a1 a2 a3 a4 a5 a6 a7 u_3.1 v6_2 v6_3 v6_4 v6_5 u_3.2)) hP hD hS hA [1] [0, 2] [0, 2, 1] rfl rfl rfl (by decide) rfl rfl (va_runV (As := []) (rest := []) ⟨hx, hb, hml, hown, hta⟩ (c_X5_length l dC dI cI H.size a6 u_3.1 v6_2 v6_3 v6_4 v6_5 u_4 hu_4.symm) (cwV 0 hta (ga_V mA676 mA677 mA678 mA15 mA679) rfl rfl rfl (by decide +kernel) ⟨Nat.le_of_ble_eq_true rfl, Nat.le_of_ble_eq_true rfl⟩) ⟨q_fb, va_recv hK hP (ci := 4) (q0 := 1) rfl rfl, q_ps hPc hK hDc⟩ rfl rfl hl.1 rfl (lv_room (Nat.le_of_ble_eq_true rfl)) dX11_append_37 ⟨Nat.zero_le _, Nat.zero_le _⟩) (fun H locs hP hD hS => ?_)
    obtain rfl := Sum.inl.inj (Option.some.inj hF)
    exact W.iret (v := u_4) hx hb hr (fun t ht hW => ⟨⟨u_4, (), rfl, rfl, by rw [ht]; exact hP, va_K.moved hW.alike hK, hD⟩, hS.F ht⟩) hS.2.2 dX11_append_40
  refine lv_iload_n hx hb dX11_append_0 rfl (lv_at hl 1 rfl) ?_
  refine lv_iconst (v := 0) hx hb dX11_append_1 (by decide) ?_
  refine lv_bipush (v := 127) hx hb dX11_append_2 (by decide) ?_
  refine obx_elim hF (fun x_6 hx_6 hF => ?_) (fun u_5 hu_5 hF => ?_)
  · exact absurd hF no_rl
  have hPc := hP.sub (ws' := ([] : va_W)) [] rfl
  have hDc := hD.sub (ws' := ([] : va_W)) [] rfl rfl
  refine q_callv (wc := ([] : va_W)) (w1 := ([] : va_W)) (ws' := (wd_X11_append cI a0 a1 a2 a3 a4 a5 a6 a7 v6_1 v6_2 v6_3 v6_4 v6_5 v6_0)) hP hD hS hA [] [0, 1, 2] [0, 1, 2] rfl rfl rfl (by decide) rfl rfl (va_runS (As := [.int p1, .int 0, .int 127]) (rest := []) ⟨hx, hb, hml, hown, hta⟩ (c_X11_checkRange l dC dI cI H.size p1 0 127 u_5 hu_5) (va_cwS 3 hta (ga_S mA106 mA107 mA108 mA109) rfl rfl rfl (by decide +kernel) ⟨Nat.le_of_ble_eq_true rfl, Nat.le_of_ble_eq_true rfl⟩) ⟨q_fb, q_ps hPc hK hDc⟩ rfl rfl hl.1 rfl (lv_room (Nat.le_of_ble_eq_true rfl)) dX11_append_4 ⟨Nat.zero_le _, Nat.zero_le _⟩) (fun H locs hP hD hS => ?_)
  refine lv_aload_n hx hb dX11_append_7 rfl (lv_at hl 0 rfl) ?_
  refine va_get (D := (dC, dI)) (ci := 10) (v := .ref (a6 0)) (C := RX11) (T := TX11) (N := 7) hx hb hta uw_X11 hown hK hP 0 rfl rfl 3 (by decide) (hta _ mA16) (fun _ h9 => h9) rfl dX11_append_8 ?_
  obtain ⟨u_7, hu_7, hF⟩ := lt_some hF
  have hPc := hP.sub (ws' := (wd_X5_isFull cI a6 v6_1 v6_2 v6_3 v6_4 v6_5)) [1] rfl
  have hDc := hD.sub (ws' := (wd_X5_isFull cI a6 v6_1 v6_2 v6_3 v6_4 v6_5)) [1] rfl rfl
  refine q_callz (wc := (wd_X5_isFull cI a6 v6_1 v6_2 v6_3 v6_4 v6_5)) (w1 := (wd_X5_isFull cI a6 v6_1 v6_2 v6_3 v6_4 v6_5)) (ws' := (wd_X11_append cI a0 a1 a2 a3 a4 a5 a6 a7 v6_1 v6_2 v6_3 v6_4 v6_5 v6_0)) hP hD hS hA [1] [0, 2] [0, 2, 1] rfl rfl rfl (by decide) rfl rfl (va_runV (As := []) (rest := []) ⟨hx, hb, hml, hown, hta⟩ (c_X5_isFull l dC dI cI H.size a6 v6_1 v6_2 v6_3 v6_4 v6_5 u_7 hu_7.symm) (cwV 0 hta (ga_V mA667 mA668 mA669 mA15 mA670) rfl rfl rfl (by decide +kernel) ⟨Nat.le_of_ble_eq_true rfl, Nat.le_of_ble_eq_true rfl⟩) ⟨q_fb, va_recv hK hP (ci := 4) (q0 := 1) rfl rfl, q_ps hPc hK hDc⟩ rfl rfl hl.1 rfl (lv_room (Nat.le_of_ble_eq_true rfl)) dX11_append_11 ⟨Nat.zero_le _, Nat.zero_le _⟩) (fun hzu_7 H locs hP hD hS => ?_)
  refine lv_if_ne (tgt := 21) hx hb dX11_append_14 (by decide) (fun c_8 => ?_) (fun c_8 => ?_)
  · have hF := it_f hF c_8
    refine lv_iconst (v := 0) hx hb dX11_append_21 (by decide) ?_
    exact j22 v6_1 v6_0 p1 0 hF _ _ _ hP hD hS (lv_sub hl [0, 1] rfl)
  · have hF := it_t hF c_8
    refine lv_iconst (v := 1) hx hb dX11_append_17 (by decide) ?_
    refine lv_goto (tgt := 22) hx hb dX11_append_18 (by decide) ?_
    exact j22 v6_1 v6_0 p1 1 hF _ _ _ hP hD hS (lv_sub hl [0, 1] rfl)
abbrev rmx_X11_append : Room := { frames := 7, cells := 1, slots := 6, locals := 104 }
abbrev XC_X11_append (dC : Nat → ClassId) (dI : Nat → Nat → Nat) (cI : ClassId) (a0 : Nat → Nat) (a1 : Nat → Nat) (a2 : Nat → Nat) (a3 : Nat → Nat) (a4 : Nat → Nat) (a5 : Nat → Nat) (a6 : Nat → Nat) (a7 : Nat → Nat) (v6_2 : Int32) (v6_3 : Int32) (v6_4 : Int32) (v6_5 : Int32) (x : (Nat × Int32 × (Nat → Int32))) (A : Nat → Prop) : String → State → State → Prop := vx_X (fun (_ : Unit) => True) (fun E _ t => E = exN x.1 ∧ q_at dC dI cI A (wd_X11_append cI a0 a1 a2 a3 a4 a5 a6 a7 x.2.1 v6_2 v6_3 v6_4 v6_5 x.2.2) t) A
set_option maxHeartbeats 4000000 in
set_option maxRecDepth 100000 in
theorem c_X11_append_x (l : Launch) (hlt : l.stackTraces = false) (S : Nat → Nat) (dC : Nat → ClassId) (dI : Nat → Nat → Nat) (cI : ClassId) (sz : Nat) (a0 : Nat → Nat) (a1 : Nat → Nat) (a2 : Nat → Nat) (a3 : Nat → Nat) (a4 : Nat → Nat) (a5 : Nat → Nat) (a6 : Nat → Nat) (a7 : Nat → Nat) (v6_1 : Int32) (v6_2 : Int32) (v6_3 : Int32) (v6_4 : Int32) (v6_5 : Int32) (v6_0 : Nat → Int32) (p1 : Int32) (x : (Nat × Int32 × (Nat → Int32))) (hF : F_X11_append v6_1 v6_0 p1 = some (.inr x)) : vx_Met l yX11_append wz_X11_append rmx_X11_append (va_Pc [.ref (a0 0), .int p1] (qx_pre S dC dI cI (wd_X11_append cI a0 a1 a2 a3 a4 a5 a6 a7 v6_1 v6_2 v6_3 v6_4 v6_5 v6_0) sz)) (va_Qv (fun (_ : Unit) => False) (fun _ _ => True) (va_A (wd_X11_append cI a0 a1 a2 a3 a4 a5 a6 a7 v6_1 v6_2 v6_3 v6_4 v6_5 v6_0) sz)) (XC_X11_append dC dI cI a0 a1 a2 a3 a4 a5 a6 a7 v6_2 v6_3 v6_4 v6_5 x (va_A (wd_X11_append cI a0 a1 a2 a3 a4 a5 a6 a7 v6_1 v6_2 v6_3 v6_4 v6_5 v6_0) sz)) 1 6 (va_A (wd_X11_append cI a0 a1 a2 a3 a4 a5 a6 a7 v6_1 v6_2 v6_3 v6_4 v6_5 v6_0) sz) := by
  refine vx_ofW (cc := cX11_append) (maxL := 2) (ret := (some .int)) (by decide) rfl ?_
  intro p e s m args below meth c s₁ B hml hxt hv
  obtain ⟨rfl, ⟨hsz, hP, hK, hD0⟩, hE⟩ := hv
  have hx := B.exec
  have hb := B.bytes
  have hr := B.returns
  have hts := atoms_spec (ws := wz_X11_append) B.pre
  have hta := wz_tl hts
  have hown : s.vm.findClass RX11 = some m.cls := findClass_of_methodNamed B.named
  have hlocks := B.notSynchronized
  subst hsz
  have hD := hD0.self (sz := s.heap.size)
  generalize hAe : va_A (wd_X11_append cI a0 a1 a2 a3 a4 a5 a6 a7 v6_1 v6_2 v6_3 v6_4 v6_5 v6_0) s.heap.size = A at hD hE ⊢
  have hA : ∀ q : Nat, s.heap.size ≤ q → A q := fun q h => by rw [← hAe]; exact Or.inr h
  have hS : va_S A s.heap s.heap [] := va_S.rf
  have hP : va_P (dC, dI) vwCl (wd_X11_append cI a0 a1 a2 a3 a4 a5 a6 a7 v6_1 v6_2 v6_3 v6_4 v6_5 v6_0) s.heap := hP
  have hl := lv_entry ([.ref (a0 0), .int p1]) (n := 2) (Nat.le_of_ble_eq_true rfl)
  rw [lg_entry_eq]
  generalize (lg_sl ([.ref (a0 0), .int p1]) ++ List.replicate (2 - (lg_sl ([.ref (a0 0), .int p1])).length) Slot.unset).toArray = ls at hl ⊢
  have hl : lv_has ls 2 [(0, .ref (a0 0)), (1, .int p1)] := hl
  obtain ⟨H, hHe⟩ : ∃ H, H = s.heap := ⟨_, rfl⟩
  have hS : va_S A s.heap H [] := by rw [hHe]; exact hS
  have hP : va_P (dC, dI) vwCl (wd_X11_append cI a0 a1 a2 a3 a4 a5 a6 a7 v6_1 v6_2 v6_3 v6_4 v6_5 v6_0) H := by rw [hHe]; exact hP
  rw [← hHe]
  unfold F_X11_append at hF
  have j22 : ∀ (v6_1 : Int32) (v6_0 : Nat → Int32) (x1 : Int32) (t0 : Int32), F_X11_append_j22 v6_1 v6_0 x1 t0 = some (.inr x) → ∀ (H : Heap) (locs : List Loc) (ls : Array Slot), va_P (dC, dI) vwCl (wd_X11_append cI a0 a1 a2 a3 a4 a5 a6 a7 v6_1 v6_2 v6_3 v6_4 v6_5 v6_0) H → va_D A (wd_X11_append cI a0 a1 a2 a3 a4 a5 a6 a7 v6_1 v6_2 v6_3 v6_4 v6_5 v6_0) → va_S A s.heap H locs → lv_has ls 2 [(0, .ref (a0 0)), (1, .int x1)] → W p l e (headSpec wz_X11_append rmx_X11_append).room s m [.ref (a0 0), .int p1].toArray below meth c H locs 0 0 (vx_MQ below (va_Qv (fun (_ : Unit) => False) (fun _ _ => True) A) (XC_X11_append dC dI cI a0 a1 a2 a3 a4 a5 a6 a7 v6_2 v6_3 v6_4 v6_5 x A) [.ref (a0 0), .int p1].toArray s 1 6 A) (F0 m 22 ls [.int t0]) := by
    intro v6_1 v6_0 x1 t0 hF H locs ls hP hD hS hl
    unfold F_X11_append_j22 at hF
    refine obx_elim hF (fun x_2 hx_2 hF => ?_) (fun u_1 hu_1 hF => ?_)
    · obtain rfl := Sum.inr.inj (Option.some.inj hF)
      have hPc := hP.sub (ws' := ([] : va_W)) [] rfl
      have hDc := hD.sub (ws' := ([] : va_W)) [] rfl rfl
      refine qx_thr (kd := x_2) hP hD hK hS hA hxt hlocks (vx_runS (As := [.int t0]) (rest := []) ⟨hx, hb, hml, hown, hta⟩ (c_X11_checkState_x l hlt S dC dI cI H.size t0 x_2 hx_2) (va_cwS 1 hta (ga_S mA120 mA121 mA108 mA122) rfl rfl rfl (by decide +kernel) ⟨Nat.le_of_ble_eq_true rfl, Nat.le_of_ble_eq_true rfl⟩) ⟨qx_fb, qx_ps hPc hK hDc hE hS (va_free (wc := ([] : va_W)) hD hS hA [] rfl)⟩ rfl rfl hl.1 rfl (lv_room (Nat.le_of_ble_eq_true rfl)) dX11_append_22 ⟨Nat.le_of_ble_eq_true rfl, Nat.le_of_ble_eq_true rfl⟩) (fun t hP hK hF9 => ⟨(), trivial, ⟨rfl, hP, hK, hD⟩, hF9⟩) (Nat.le_of_ble_eq_true rfl) (Nat.le_of_ble_eq_true rfl)
    have hPc := hP.sub (ws' := ([] : va_W)) [] rfl
    have hDc := hD.sub (ws' := ([] : va_W)) [] rfl rfl
    refine q_callv (wc := ([] : va_W)) (w1 := ([] : va_W)) (ws' := (wd_X11_append cI a0 a1 a2 a3 a4 a5 a6 a7 v6_1 v6_2 v6_3 v6_4 v6_5 v6_0)) hP hD hS hA [] [0, 1, 2] [0, 1, 2] rfl rfl rfl (by decide) rfl rfl (va_runS (As := [.int t0]) (rest := []) ⟨hx, hb, hml, hown, hta⟩ (c_X11_checkState l dC dI cI H.size t0 u_1 hu_1) (va_cwS 1 hta (ga_S mA120 mA121 mA108 mA122) rfl rfl rfl (by decide +kernel) ⟨Nat.le_of_ble_eq_true rfl, Nat.le_of_ble_eq_true rfl⟩) ⟨q_fb, q_ps hPc hK hDc⟩ rfl rfl hl.1 rfl (lv_room (Nat.le_of_ble_eq_true rfl)) dX11_append_22 ⟨Nat.zero_le _, Nat.zero_le _⟩) (fun H locs hP hD hS => ?_)
    refine lv_aload_n hx hb dX11_append_25 rfl (lv_at hl 0 rfl) ?_
    refine va_get (D := (dC, dI)) (ci := 10) (v := .ref (a6 0)) (C := RX11) (T := TX11) (N := 7) hx hb hta uw_X11 hown hK hP 0 rfl rfl 3 (by decide) (hta _ mA16) (fun _ h9 => h9) rfl dX11_append_26 ?_
    refine lv_iload_n hx hb dX11_append_29 rfl (lv_at hl 1 rfl) ?_
    obtain ⟨u_3, hu_3, hF⟩ := obd_some hF
    have hPc := hP.sub (ws' := (wd_X5_add cI a6 v6_1 v6_2 v6_3 v6_4 v6_5 v6_0)) [1, 2] rfl
    have hDc := hD.sub (ws' := (wd_X5_add cI a6 v6_1 v6_2 v6_3 v6_4 v6_5 v6_0)) [1, 2] rfl rfl
    refine q_callv (wc := (wd_X5_add cI a6 v6_1 v6_2 v6_3 v6_4 v6_5 v6_0)) (w1 := (wd_X5_add cI a6 u_3.1 v6_2 v6_3 v6_4 v6_5 u_3.2)) (ws' := (wd_X11_append cI a0 a1 a2 a3 a4 a5 a6 a7 u_3.1 v6_2 v6_3 v6_4 v6_5 u_3.2)) hP hD hS hA [1, 2] [0] [0, 1, 2] rfl rfl rfl (by decide) rfl rfl (va_runV (As := [.int x1]) (rest := []) ⟨hx, hb, hml, hown, hta⟩ (c_X5_add l dC dI cI H.size a6 v6_1 v6_2 v6_3 v6_4 v6_5 v6_0 x1 u_3 hu_3) (cwV 1 hta (ga_V mA672 mA673 mA674 mA15 mA675) rfl rfl rfl (by decide +kernel) ⟨Nat.le_of_ble_eq_true rfl, Nat.le_of_ble_eq_true rfl⟩) ⟨q_fb, va_recv hK hP (ci := 4) (q0 := 1) rfl rfl, q_ps hPc hK hDc⟩ rfl rfl hl.1 rfl (lv_room (Nat.le_of_ble_eq_true rfl)) dX11_append_30 ⟨Nat.zero_le _, Nat.zero_le _⟩) (fun H locs hP hD hS => ?_)
    refine lv_aload_n hx hb dX11_append_33 rfl (lv_at hl 0 rfl) ?_
    refine va_get (D := (dC, dI)) (ci := 10) (v := .ref (a6 0)) (C := RX11) (T := TX11) (N := 7) hx hb hta uw_X11 hown hK hP 0 rfl rfl 3 (by decide) (hta _ mA16) (fun _ h9 => h9) rfl dX11_append_34 ?_
    obtain ⟨u_4, hu_4, hF⟩ := lt_some hF
    have hPc := hP.sub (ws' := (wd_X5_length cI a6 u_3.1 v6_2 v6_3 v6_4 v6_5)) [1] rfl
    have hDc := hD.sub (ws' := (wd_X5_length cI a6 u_3.1 v6_2 v6_3 v6_4 v6_5)) [1] rfl rfl
    refine q_calli (wc := (wd_X5_length cI a6 u_3.1 v6_2 v6_3 v6_4 v6_5)) (w1 := (wd_X5_length cI a6 u_3.1 v6_2 v6_3 v6_4 v6_5)) (ws' := (wd_X11_append cI a0 a1 a2 a3 a4 a5 a6 a7 u_3.1 v6_2 v6_3 v6_4 v6_5 u_3.2)) hP hD hS hA [1] [0, 2] [0, 2, 1] rfl rfl rfl (by decide) rfl rfl (va_runV (As := []) (rest := []) ⟨hx, hb, hml, hown, hta⟩ (c_X5_length l dC dI cI H.size a6 u_3.1 v6_2 v6_3 v6_4 v6_5 u_4 hu_4.symm) (cwV 0 hta (ga_V mA676 mA677 mA678 mA15 mA679) rfl rfl rfl (by decide +kernel) ⟨Nat.le_of_ble_eq_true rfl, Nat.le_of_ble_eq_true rfl⟩) ⟨q_fb, va_recv hK hP (ci := 4) (q0 := 1) rfl rfl, q_ps hPc hK hDc⟩ rfl rfl hl.1 rfl (lv_room (Nat.le_of_ble_eq_true rfl)) dX11_append_37 ⟨Nat.zero_le _, Nat.zero_le _⟩) (fun H locs hP hD hS => ?_)
    exact absurd hF no_lr
  refine lv_iload_n hx hb dX11_append_0 rfl (lv_at hl 1 rfl) ?_
  refine lv_iconst (v := 0) hx hb dX11_append_1 (by decide) ?_
  refine lv_bipush (v := 127) hx hb dX11_append_2 (by decide) ?_
  refine obx_elim hF (fun x_6 hx_6 hF => ?_) (fun u_5 hu_5 hF => ?_)
  · obtain rfl := Sum.inr.inj (Option.some.inj hF)
    have hPc := hP.sub (ws' := ([] : va_W)) [] rfl
    have hDc := hD.sub (ws' := ([] : va_W)) [] rfl rfl
    refine qx_thr (kd := x_6) hP hD hK hS hA hxt hlocks (vx_runS (As := [.int p1, .int 0, .int 127]) (rest := []) ⟨hx, hb, hml, hown, hta⟩ (c_X11_checkRange_x l hlt S dC dI cI H.size p1 0 127 x_6 hx_6) (va_cwS 3 hta (ga_S mA106 mA107 mA108 mA109) rfl rfl rfl (by decide +kernel) ⟨Nat.le_of_ble_eq_true rfl, Nat.le_of_ble_eq_true rfl⟩) ⟨qx_fb, qx_ps hPc hK hDc hE hS (va_free (wc := ([] : va_W)) hD hS hA [] rfl)⟩ rfl rfl hl.1 rfl (lv_room (Nat.le_of_ble_eq_true rfl)) dX11_append_4 ⟨Nat.le_of_ble_eq_true rfl, Nat.le_of_ble_eq_true rfl⟩) (fun t hP hK hF9 => ⟨(), trivial, ⟨rfl, hP, hK, hD⟩, hF9⟩) (Nat.le_of_ble_eq_true rfl) (Nat.le_of_ble_eq_true rfl)
  have hPc := hP.sub (ws' := ([] : va_W)) [] rfl
  have hDc := hD.sub (ws' := ([] : va_W)) [] rfl rfl
  refine q_callv (wc := ([] : va_W)) (w1 := ([] : va_W)) (ws' := (wd_X11_append cI a0 a1 a2 a3 a4 a5 a6 a7 v6_1 v6_2 v6_3 v6_4 v6_5 v6_0)) hP hD hS hA [] [0, 1, 2] [0, 1, 2] rfl rfl rfl (by decide) rfl rfl (va_runS (As := [.int p1, .int 0, .int 127]) (rest := []) ⟨hx, hb, hml, hown, hta⟩ (c_X11_checkRange l dC dI cI H.size p1 0 127 u_5 hu_5) (va_cwS 3 hta (ga_S mA106 mA107 mA108 mA109) rfl rfl rfl (by decide +kernel) ⟨Nat.le_of_ble_eq_true rfl, Nat.le_of_ble_eq_true rfl⟩) ⟨q_fb, q_ps hPc hK hDc⟩ rfl rfl hl.1 rfl (lv_room (Nat.le_of_ble_eq_true rfl)) dX11_append_4 ⟨Nat.zero_le _, Nat.zero_le _⟩) (fun H locs hP hD hS => ?_)
  refine lv_aload_n hx hb dX11_append_7 rfl (lv_at hl 0 rfl) ?_
  refine va_get (D := (dC, dI)) (ci := 10) (v := .ref (a6 0)) (C := RX11) (T := TX11) (N := 7) hx hb hta uw_X11 hown hK hP 0 rfl rfl 3 (by decide) (hta _ mA16) (fun _ h9 => h9) rfl dX11_append_8 ?_
  obtain ⟨u_7, hu_7, hF⟩ := lt_some hF
  have hPc := hP.sub (ws' := (wd_X5_isFull cI a6 v6_1 v6_2 v6_3 v6_4 v6_5)) [1] rfl
  have hDc := hD.sub (ws' := (wd_X5_isFull cI a6 v6_1 v6_2 v6_3 v6_4 v6_5)) [1] rfl rfl
  refine q_callz (wc := (wd_X5_isFull cI a6 v6_1 v6_2 v6_3 v6_4 v6_5)) (w1 := (wd_X5_isFull cI a6 v6_1 v6_2 v6_3 v6_4 v6_5)) (ws' := (wd_X11_append cI a0 a1 a2 a3 a4 a5 a6 a7 v6_1 v6_2 v6_3 v6_4 v6_5 v6_0)) hP hD hS hA [1] [0, 2] [0, 2, 1] rfl rfl rfl (by decide) rfl rfl (va_runV (As := []) (rest := []) ⟨hx, hb, hml, hown, hta⟩ (c_X5_isFull l dC dI cI H.size a6 v6_1 v6_2 v6_3 v6_4 v6_5 u_7 hu_7.symm) (cwV 0 hta (ga_V mA667 mA668 mA669 mA15 mA670) rfl rfl rfl (by decide +kernel) ⟨Nat.le_of_ble_eq_true rfl, Nat.le_of_ble_eq_true rfl⟩) ⟨q_fb, va_recv hK hP (ci := 4) (q0 := 1) rfl rfl, q_ps hPc hK hDc⟩ rfl rfl hl.1 rfl (lv_room (Nat.le_of_ble_eq_true rfl)) dX11_append_11 ⟨Nat.zero_le _, Nat.zero_le _⟩) (fun hzu_7 H locs hP hD hS => ?_)
  refine lv_if_ne (tgt := 21) hx hb dX11_append_14 (by decide) (fun c_8 => ?_) (fun c_8 => ?_)
  · have hF := it_f hF c_8
    refine lv_iconst (v := 0) hx hb dX11_append_21 (by decide) ?_
    exact j22 v6_1 v6_0 p1 0 hF _ _ _ hP hD hS (lv_sub hl [0, 1] rfl)
  · have hF := it_t hF c_8
    refine lv_iconst (v := 1) hx hb dX11_append_17 (by decide) ?_
    refine lv_goto (tgt := 22) hx hb dX11_append_18 (by decide) ?_
    exact j22 v6_1 v6_0 p1 1 hF _ _ _ hP hD hS (lv_sub hl [0, 1] rfl)

-- StrokeOutliner.clearText()I
def F_X11_clearText (v6_1 : Int32) : (Int32 × Int32) :=
  lt (F_X5_length v6_1) (fun u_1 => lt (F_X5_empty) (fun u_2 => (u_1, u_2)))
abbrev wd_X11_clearText (cI : ClassId) (a0 : Nat → Nat) (a1 : Nat → Nat) (a2 : Nat → Nat) (a3 : Nat → Nat) (a4 : Nat → Nat) (a5 : Nat → Nat) (a6 : Nat → Nat) (a7 : Nat → Nat) (v6_1 : Int32) (v6_2 : Int32) (v6_3 : Int32) (v6_4 : Int32) (v6_5 : Int32) : va_W := [(a0 0, .inr (10, [.ref (a2 0), .ref (a1 0), .ref (a4 0), .ref (a6 0), .ref (a7 0), .ref (a5 0), .ref (a3 0)])), (a6 0, .inr (4, [.ref (a6 1), .int v6_1, .int v6_2, .int v6_3, .int v6_4, .int v6_5]))]
abbrev wz_X11_clearText : List Cond := .code yX11_clearText cX11_clearText 2 (some .int) :: wALL
abbrev rm_X11_clearText : Room := { frames := 1, cells := 0, slots := 0, locals := 20 }
abbrev Q_X11_clearText (dC : Nat → ClassId) (dI : Nat → Nat → Nat) (cI : ClassId) (a0 : Nat → Nat) (a1 : Nat → Nat) (a2 : Nat → Nat) (a3 : Nat → Nat) (a4 : Nat → Nat) (a5 : Nat → Nat) (a6 : Nat → Nat) (a7 : Nat → Nat) (v6_2 : Int32) (v6_3 : Int32) (v6_4 : Int32) (v6_5 : Int32) (u : (Int32 × Int32)) (A : Nat → Prop) : Array Value → State → Outcome → State → Prop := va_Qi (fun (r : Int32) (_ : Unit) => r = u.1) (fun _ => q_at dC dI cI A (wd_X11_clearText cI a0 a1 a2 a3 a4 a5 a6 a7 u.2 v6_2 v6_3 v6_4 v6_5)) A
set_option maxHeartbeats 4000000 in
set_option maxRecDepth 100000 in
theorem c_X11_clearText (l : Launch) (dC : Nat → ClassId) (dI : Nat → Nat → Nat) (cI : ClassId) (sz : Nat) (a0 : Nat → Nat) (a1 : Nat → Nat) (a2 : Nat → Nat) (a3 : Nat → Nat) (a4 : Nat → Nat) (a5 : Nat → Nat) (a6 : Nat → Nat) (a7 : Nat → Nat) (v6_1 : Int32) (v6_2 : Int32) (v6_3 : Int32) (v6_4 : Int32) (v6_5 : Int32) (u : (Int32 × Int32)) (hF : F_X11_clearText v6_1 = u) : Met l yX11_clearText wz_X11_clearText rm_X11_clearText (va_Pc [.ref (a0 0)] (q_pre dC dI cI (wd_X11_clearText cI a0 a1 a2 a3 a4 a5 a6 a7 v6_1 v6_2 v6_3 v6_4 v6_5) sz)) (Q_X11_clearText dC dI cI a0 a1 a2 a3 a4 a5 a6 a7 v6_2 v6_3 v6_4 v6_5 u (va_A (wd_X11_clearText cI a0 a1 a2 a3 a4 a5 a6 a7 v6_1 v6_2 v6_3 v6_4 v6_5) sz)) 0 0 (va_A (wd_X11_clearText cI a0 a1 a2 a3 a4 a5 a6 a7 v6_1 v6_2 v6_3 v6_4 v6_5) sz) := by
  refine Met.ofW (cc := cX11_clearText) (maxL := 2) (ret := (some .int)) (by decide) rfl ?_
  intro p e s m args below meth c s₁ B hml hv
  obtain ⟨rfl, hsz, hP, hK, hD0⟩ := hv
  have hx := B.exec
  have hb := B.bytes
  have hr := B.returns
  have hts := atoms_spec (ws := wz_X11_clearText) B.pre
  have hta := wz_tl hts
  have hown : s.vm.findClass RX11 = some m.cls := findClass_of_methodNamed B.named
  have hlocks := B.notSynchronized
  subst hsz
  have hD := hD0.self (sz := s.heap.size)
  generalize hAe : va_A (wd_X11_clearText cI a0 a1 a2 a3 a4 a5 a6 a7 v6_1 v6_2 v6_3 v6_4 v6_5) s.heap.size = A at hD ⊢
  have hA : ∀ q : Nat, s.heap.size ≤ q → A q := fun q h => by rw [← hAe]; exact Or.inr h
  have hS : va_S A s.heap s.heap [] := va_S.rf
  have hP : va_P (dC, dI) vwCl (wd_X11_clearText cI a0 a1 a2 a3 a4 a5 a6 a7 v6_1 v6_2 v6_3 v6_4 v6_5) s.heap := hP
  have hl := lv_entry ([.ref (a0 0)]) (n := 2) (Nat.le_of_ble_eq_true rfl)
  rw [lg_entry_eq]
  generalize (lg_sl ([.ref (a0 0)]) ++ List.replicate (2 - (lg_sl ([.ref (a0 0)])).length) Slot.unset).toArray = ls at hl ⊢
  have hl : lv_has ls 2 [(0, .ref (a0 0))] := hl
  obtain ⟨H, hHe⟩ : ∃ H, H = s.heap := ⟨_, rfl⟩
  have hS : va_S A s.heap H [] := by rw [hHe]; exact hS
  have hP : va_P (dC, dI) vwCl (wd_X11_clearText cI a0 a1 a2 a3 a4 a5 a6 a7 v6_1 v6_2 v6_3 v6_4 v6_5) H := by rw [hHe]; exact hP
  rw [← hHe]
  unfold F_X11_clearText at hF
  refine lv_aload_n hx hb dX11_clearText_0 rfl (lv_at hl 0 rfl) ?_
  refine va_get (D := (dC, dI)) (ci := 10) (v := .ref (a6 0)) (C := RX11) (T := TX11) (N := 7) hx hb hta uw_X11 hown hK hP 0 rfl rfl 3 (by decide) (hta _ mA16) (fun _ h9 => h9) rfl dX11_clearText_1 ?_
  obtain ⟨u_1, hu_1, hF⟩ := lt_some hF
  have hPc := hP.sub (ws' := (wd_X5_length cI a6 v6_1 v6_2 v6_3 v6_4 v6_5)) [1] rfl
  have hDc := hD.sub (ws' := (wd_X5_length cI a6 v6_1 v6_2 v6_3 v6_4 v6_5)) [1] rfl rfl
  refine q_calli (wc := (wd_X5_length cI a6 v6_1 v6_2 v6_3 v6_4 v6_5)) (w1 := (wd_X5_length cI a6 v6_1 v6_2 v6_3 v6_4 v6_5)) (ws' := (wd_X11_clearText cI a0 a1 a2 a3 a4 a5 a6 a7 v6_1 v6_2 v6_3 v6_4 v6_5)) hP hD hS hA [1] [0] [0, 1] rfl rfl rfl (by decide) rfl rfl (va_runV (As := []) (rest := []) ⟨hx, hb, hml, hown, hta⟩ (c_X5_length l dC dI cI H.size a6 v6_1 v6_2 v6_3 v6_4 v6_5 u_1 hu_1.symm) (cwV 0 hta (ga_V mA676 mA677 mA678 mA15 mA679) rfl rfl rfl (by decide +kernel) ⟨Nat.le_of_ble_eq_true rfl, Nat.le_of_ble_eq_true rfl⟩) ⟨q_fb, va_recv hK hP (ci := 4) (q0 := 1) rfl rfl, q_ps hPc hK hDc⟩ rfl rfl hl.1 rfl (lv_room (Nat.le_of_ble_eq_true rfl)) dX11_clearText_4 ⟨Nat.zero_le _, Nat.zero_le _⟩) (fun H locs hP hD hS => ?_)
  refine lv_istore_n (lv' := [(1, .int u_1), (0, .ref (a0 0))]) hx hb dX11_clearText_7 rfl hl (by decide) rfl (fun ls hl => ?_)
  refine lv_aload_n hx hb dX11_clearText_8 rfl (lv_at hl 1 rfl) ?_
  refine va_get (D := (dC, dI)) (ci := 10) (v := .ref (a6 0)) (C := RX11) (T := TX11) (N := 7) hx hb hta uw_X11 hown hK hP 0 rfl rfl 3 (by decide) (hta _ mA16) (fun _ h9 => h9) rfl dX11_clearText_9 ?_
  obtain ⟨u_2, hu_2, hF⟩ := lt_some hF
  have hPc := hP.sub (ws' := (wd_X5_empty cI a6 v6_1 v6_2 v6_3 v6_4 v6_5)) [1] rfl
  have hDc := hD.sub (ws' := (wd_X5_empty cI a6 v6_1 v6_2 v6_3 v6_4 v6_5)) [1] rfl rfl
  refine q_callv (wc := (wd_X5_empty cI a6 v6_1 v6_2 v6_3 v6_4 v6_5)) (w1 := (wd_X5_empty cI a6 u_2 v6_2 v6_3 v6_4 v6_5)) (ws' := (wd_X11_clearText cI a0 a1 a2 a3 a4 a5 a6 a7 u_2 v6_2 v6_3 v6_4 v6_5)) hP hD hS hA [1] [0] [0, 1] rfl rfl rfl (by decide) rfl rfl (va_runV (As := []) (rest := []) ⟨hx, hb, hml, hown, hta⟩ (c_X5_empty l dC dI cI H.size a6 v6_1 v6_2 v6_3 v6_4 v6_5 u_2 hu_2.symm) (cwV 0 hta (ga_V mA681 mA682 mA683 mA15 mA684) rfl rfl rfl (by decide +kernel) ⟨Nat.le_of_ble_eq_true rfl, Nat.le_of_ble_eq_true rfl⟩) ⟨q_fb, va_recv hK hP (ci := 4) (q0 := 1) rfl rfl, q_ps hPc hK hDc⟩ rfl rfl hl.1 rfl (lv_room (Nat.le_of_ble_eq_true rfl)) dX11_clearText_12 ⟨Nat.zero_le _, Nat.zero_le _⟩) (fun H locs hP hD hS => ?_)
  refine lv_iload_n hx hb dX11_clearText_15 rfl (lv_at hl 0 rfl) ?_
  subst hF
  exact W.iret (v := u_1) hx hb hr (fun t ht hW => ⟨⟨u_1, (), rfl, rfl, by rw [ht]; exact hP, va_K.moved hW.alike hK, hD⟩, hS.F ht⟩) hS.2.2 dX11_clearText_16

-- StrokeOutliner.parse()I
def F_X11_parse (n : Nat) (v1_0 : Nat → Int32) (v2_0 : Nat → Int32) (v4_1 : Int32) (v4_0 : Nat → Int32) (v5_3 : Int32) (v9_1 : Int32) (v9_4 : Int32) (v9_5 : Int32) (v9_0 : Nat → Int32) : Option (Int32 × (Nat → Int32) × (Nat → Int32) × Int32 × (Nat → Int32) × Int32 × Int32 × Int32 × Int32 × Int32) :=
  obd (F_X5_readPath n v9_1 v9_4 v9_5 v9_0 v1_0) (fun u_1 => if u_1.1 = (-1) then obd (F_X11_saveState v2_0 v4_1 v4_0) (fun u_3 => obd (F_X1_takePath v2_0 u_1.2.2.2.2.2) (fun u_4 => obd (F_X1_subpathCount u_4) (fun u_5 => some (u_5, u_1.2.2.2.2.2, u_4, u_3.1, u_3.2.1, u_3.2.2, u_1.2.1, u_1.2.2.1, u_1.2.2.2.1, u_1.2.2.2.2.1)))) else some (((-10) - u_1.1), u_1.2.2.2.2.2, v2_0, v4_1, v4_0, v5_3, u_1.2.1, u_1.2.2.1, u_1.2.2.2.1, u_1.2.2.2.2.1))
abbrev wd_X11_parse (cI : ClassId) (a0 : Nat → Nat) (a1 : Nat → Nat) (a2 : Nat → Nat) (a3 : Nat → Nat) (a4 : Nat → Nat) (a5 : Nat → Nat) (a6 : Nat → Nat) (a7 : Nat → Nat) (a8 : Nat → Nat) (a9 : Nat → Nat) (a10 : Nat → Nat) (v1_0 : Nat → Int32) (v2_0 : Nat → Int32) (v4_1 : Int32) (v4_0 : Nat → Int32) (v5_3 : Int32) (v5_4 : Int32) (v5_5 : Int32) (v5_6 : Int32) (v5_7 : Int32) (v9_1 : Int32) (v9_2 : Int32) (v9_3 : Int32) (v9_4 : Int32) (v9_5 : Int32) (v9_0 : Nat → Int32) : va_W := [(a0 0, .inr (10, [.ref (a2 0), .ref (a1 0), .ref (a4 0), .ref (a9 0), .ref (a10 0), .ref (a5 0), .ref (a3 0)])), (a1 0, .inr (1, [.ref (a1 1)])), (a1 1, .inl (cI, 86, .inl v1_0)), (a2 0, .inr (1, [.ref (a2 1)])), (a2 1, .inl (cI, 86, .inl v2_0)), (a4 0, .inr (3, [.ref (a4 1), .int v4_1])), (a4 1, .inl (cI, 344, .inl v4_0)), (a5 0, .inr (9, [.ref (a8 0), .ref (a7 0), .ref (a6 0), .int v5_3, .int v5_4, .int v5_5, .int v5_6, .int v5_7])), (a9 0, .inr (4, [.ref (a9 1), .int v9_1, .int v9_2, .int v9_3, .int v9_4, .int v9_5])), (a9 1, .inl (cI, 150, .inl v9_0))]
abbrev wz_X11_parse : List Cond := .code yX11_parse cX11_parse 2 (some .int) :: wALL
abbrev rm_X11_parse : Room := { frames := 6, cells := 0, slots := 0, locals := 137 }
abbrev Q_X11_parse (dC : Nat → ClassId) (dI : Nat → Nat → Nat) (cI : ClassId) (a0 : Nat → Nat) (a1 : Nat → Nat) (a2 : Nat → Nat) (a3 : Nat → Nat) (a4 : Nat → Nat) (a5 : Nat → Nat) (a6 : Nat → Nat) (a7 : Nat → Nat) (a8 : Nat → Nat) (a9 : Nat → Nat) (a10 : Nat → Nat) (v5_4 : Int32) (v5_5 : Int32) (v5_6 : Int32) (v5_7 : Int32) (v9_1 : Int32) (v9_0 : Nat → Int32) (u : (Int32 × (Nat → Int32) × (Nat → Int32) × Int32 × (Nat → Int32) × Int32 × Int32 × Int32 × Int32 × Int32)) (A : Nat → Prop) : Array Value → State → Outcome → State → Prop := va_Qi (fun (r : Int32) (_ : Unit) => r = u.1) (fun _ => q_at dC dI cI A (wd_X11_parse cI a0 a1 a2 a3 a4 a5 a6 a7 a8 a9 a10 u.2.1 u.2.2.1 u.2.2.2.1 u.2.2.2.2.1 u.2.2.2.2.2.1 v5_4 v5_5 v5_6 v5_7 v9_1 u.2.2.2.2.2.2.1 u.2.2.2.2.2.2.2.1 u.2.2.2.2.2.2.2.2.1 u.2.2.2.2.2.2.2.2.2 v9_0)) A
set_option maxHeartbeats 4000000 in
set_option maxRecDepth 100000 in
theorem c_X11_parse (l : Launch) (dC : Nat → ClassId) (dI : Nat → Nat → Nat) (cI : ClassId) (sz : Nat) (a0 : Nat → Nat) (a1 : Nat → Nat) (a2 : Nat → Nat) (a3 : Nat → Nat) (a4 : Nat → Nat) (a5 : Nat → Nat) (a6 : Nat → Nat) (a7 : Nat → Nat) (a8 : Nat → Nat) (a9 : Nat → Nat) (a10 : Nat → Nat) (v1_0 : Nat → Int32) (v2_0 : Nat → Int32) (v4_1 : Int32) (v4_0 : Nat → Int32) (v5_3 : Int32) (v5_4 : Int32) (v5_5 : Int32) (v5_6 : Int32) (v5_7 : Int32) (v9_1 : Int32) (v9_2 : Int32) (v9_3 : Int32) (v9_4 : Int32) (v9_5 : Int32) (v9_0 : Nat → Int32) (n : Nat) (u : (Int32 × (Nat → Int32) × (Nat → Int32) × Int32 × (Nat → Int32) × Int32 × Int32 × Int32 × Int32 × Int32)) (hF : F_X11_parse n v1_0 v2_0 v4_1 v4_0 v5_3 v9_1 v9_4 v9_5 v9_0 = some u) : Met l yX11_parse wz_X11_parse rm_X11_parse (va_Pc [.ref (a0 0)] (q_pre dC dI cI (wd_X11_parse cI a0 a1 a2 a3 a4 a5 a6 a7 a8 a9 a10 v1_0 v2_0 v4_1 v4_0 v5_3 v5_4 v5_5 v5_6 v5_7 v9_1 v9_2 v9_3 v9_4 v9_5 v9_0) sz)) (Q_X11_parse dC dI cI a0 a1 a2 a3 a4 a5 a6 a7 a8 a9 a10 v5_4 v5_5 v5_6 v5_7 v9_1 v9_0 u (va_A (wd_X11_parse cI a0 a1 a2 a3 a4 a5 a6 a7 a8 a9 a10 v1_0 v2_0 v4_1 v4_0 v5_3 v5_4 v5_5 v5_6 v5_7 v9_1 v9_2 v9_3 v9_4 v9_5 v9_0) sz)) 0 0 (va_A (wd_X11_parse cI a0 a1 a2 a3 a4 a5 a6 a7 a8 a9 a10 v1_0 v2_0 v4_1 v4_0 v5_3 v5_4 v5_5 v5_6 v5_7 v9_1 v9_2 v9_3 v9_4 v9_5 v9_0) sz) := by
  refine Met.ofW (cc := cX11_parse) (maxL := 2) (ret := (some .int)) (by decide) rfl ?_
  intro p e s m args below meth c s₁ B hml hv
  obtain ⟨rfl, hsz, hP, hK, hD0⟩ := hv
  have hx := B.exec
  have hb := B.bytes
  have hr := B.returns
  have hts := atoms_spec (ws := wz_X11_parse) B.pre
  have hta := wz_tl hts
  have hown : s.vm.findClass RX11 = some m.cls := findClass_of_methodNamed B.named
  have hlocks := B.notSynchronized
  subst hsz
  have hD := hD0.self (sz := s.heap.size)
  generalize hAe : va_A (wd_X11_parse cI a0 a1 a2 a3 a4 a5 a6 a7 a8 a9 a10 v1_0 v2_0 v4_1 v4_0 v5_3 v5_4 v5_5 v5_6 v5_7 v9_1 v9_2 v9_3 v9_4 v9_5 v9_0) s.heap.size = A at hD ⊢
  have hA : ∀ q : Nat, s.heap.size ≤ q → A q := fun q h => by rw [← hAe]; exact Or.inr h
  have hS : va_S A s.heap s.heap [] := va_S.rf
  have hP : va_P (dC, dI) vwCl (wd_X11_parse cI a0 a1 a2 a3 a4 a5 a6 a7 a8 a9 a10 v1_0 v2_0 v4_1 v4_0 v5_3 v5_4 v5_5 v5_6 v5_7 v9_1 v9_2 v9_3 v9_4 v9_5 v9_0) s.heap := hP
  have hl := lv_entry ([.ref (a0 0)]) (n := 2) (Nat.le_of_ble_eq_true rfl)
  rw [lg_entry_eq]
  generalize (lg_sl ([.ref (a0 0)]) ++ List.replicate (2 - (lg_sl ([.ref (a0 0)])).length) Slot.unset).toArray = ls at hl ⊢
  have hl : lv_has ls 2 [(0, .ref (a0 0))] := hl
  obtain ⟨H, hHe⟩ : ∃ H, H = s.heap := ⟨_, rfl⟩
  have hS : va_S A s.heap H [] := by rw [hHe]; exact hS
  have hP : va_P (dC, dI) vwCl (wd_X11_parse cI a0 a1 a2 a3 a4 a5 a6 a7 a8 a9 a10 v1_0 v2_0 v4_1 v4_0 v5_3 v5_4 v5_5 v5_6 v5_7 v9_1 v9_2 v9_3 v9_4 v9_5 v9_0) H := by rw [hHe]; exact hP
  rw [← hHe]
  unfold F_X11_parse at hF
  refine lv_aload_n hx hb dX11_parse_0 rfl (lv_at hl 0 rfl) ?_
  refine va_get (D := (dC, dI)) (ci := 10) (v := .ref (a9 0)) (C := RX11) (T := TX11) (N := 7) hx hb hta uw_X11 hown hK hP 0 rfl rfl 3 (by decide) (hta _ mA16) (fun _ h9 => h9) rfl dX11_parse_1 ?_
  refine lv_aload_n hx hb dX11_parse_4 rfl (lv_at hl 0 rfl) ?_
  refine va_get (D := (dC, dI)) (ci := 10) (v := .ref (a1 0)) (C := RX11) (T := TX11) (N := 7) hx hb hta uw_X11 hown hK hP 0 rfl rfl 1 (by decide) (hta _ mA8) (fun _ h9 => h9) rfl dX11_parse_5 ?_
  obtain ⟨u_1, hu_1, hF⟩ := obd_some hF
  have hPc := hP.sub (ws' := (wd_X5_readPath cI a9 a1 v9_1 v9_2 v9_3 v9_4 v9_5 v9_0 v1_0)) [8, 9, 1, 2] rfl
  have hDc := hD.sub (ws' := (wd_X5_readPath cI a9 a1 v9_1 v9_2 v9_3 v9_4 v9_5 v9_0 v1_0)) [8, 9, 1, 2] rfl rfl
  refine q_calli (wc := (wd_X5_readPath cI a9 a1 v9_1 v9_2 v9_3 v9_4 v9_5 v9_0 v1_0)) (w1 := (wd_X5_readPath cI a9 a1 v9_1 u_1.2.1 u_1.2.2.1 u_1.2.2.2.1 u_1.2.2.2.2.1 v9_0 u_1.2.2.2.2.2)) (ws' := (wd_X11_parse cI a0 a1 a2 a3 a4 a5 a6 a7 a8 a9 a10 u_1.2.2.2.2.2 v2_0 v4_1 v4_0 v5_3 v5_4 v5_5 v5_6 v5_7 v9_1 u_1.2.1 u_1.2.2.1 u_1.2.2.2.1 u_1.2.2.2.2.1 v9_0)) hP hD hS hA [8, 9, 1, 2] [0, 3, 4, 5, 6, 7] [0, 8, 9, 1, 2, 3, 4, 5, 6, 7] rfl rfl rfl (by decide) rfl rfl (va_runV (As := [.ref (a1 0)]) (rest := []) ⟨hx, hb, hml, hown, hta⟩ (c_X5_readPath l dC dI cI H.size a9 a1 v9_1 v9_2 v9_3 v9_4 v9_5 v9_0 v1_0 n u_1 hu_1) (cwV 1 hta (ga_V mA686 mA687 mA688 mA15 mA689) rfl rfl rfl (by decide +kernel) ⟨Nat.le_of_ble_eq_true rfl, Nat.le_of_ble_eq_true rfl⟩) ⟨q_fb, va_recv hK hP (ci := 4) (q0 := 8) rfl rfl, q_ps hPc hK hDc⟩ rfl rfl hl.1 rfl (lv_room (Nat.le_of_ble_eq_true rfl)) dX11_parse_8 ⟨Nat.zero_le _, Nat.zero_le _⟩) (fun H locs hP hD hS => ?_)
  refine lv_istore_n (lv' := [(1, .int u_1.1), (0, .ref (a0 0))]) hx hb dX11_parse_11 rfl hl (by decide) rfl (fun ls hl => ?_)
  refine lv_iload_n hx hb dX11_parse_12 rfl (lv_at hl 0 rfl) ?_
  refine lv_iconst (v := (-1)) hx hb dX11_parse_13 (by decide) ?_
  refine lv_icmp_eq (tgt := 22) hx hb dX11_parse_14 (by decide) (fun c_2 => ?_) (fun c_2 => ?_)
  · have hF := it_t hF c_2
    refine lv_aload_n hx hb dX11_parse_22 rfl (lv_at hl 1 rfl) ?_
    obtain ⟨u_3, hu_3, hF⟩ := obd_some hF
    have hPc := hP.sub (ws' := (wd_X11_saveState cI a0 a1 a2 a3 a4 a5 a6 a7 a8 a9 a10 v2_0 v4_1 v4_0 v5_3 v5_4 v5_5 v5_6 v5_7)) [0, 3, 4, 5, 6, 7] rfl
    have hDc := hD.sub (ws' := (wd_X11_saveState cI a0 a1 a2 a3 a4 a5 a6 a7 a8 a9 a10 v2_0 v4_1 v4_0 v5_3 v5_4 v5_5 v5_6 v5_7)) [0, 3, 4, 5, 6, 7] rfl rfl
    refine q_callv (wc := (wd_X11_saveState cI a0 a1 a2 a3 a4 a5 a6 a7 a8 a9 a10 v2_0 v4_1 v4_0 v5_3 v5_4 v5_5 v5_6 v5_7)) (w1 := (wd_X11_saveState cI a0 a1 a2 a3 a4 a5 a6 a7 a8 a9 a10 v2_0 u_3.1 u_3.2.1 u_3.2.2 v5_4 v5_5 v5_6 v5_7)) (ws' := (wd_X11_parse cI a0 a1 a2 a3 a4 a5 a6 a7 a8 a9 a10 u_1.2.2.2.2.2 v2_0 u_3.1 u_3.2.1 u_3.2.2 v5_4 v5_5 v5_6 v5_7 v9_1 u_1.2.1 u_1.2.2.1 u_1.2.2.2.1 u_1.2.2.2.2.1 v9_0)) hP hD hS hA [0, 3, 4, 5, 6, 7] [1, 2, 8, 9] [4, 0, 1, 5, 6, 7, 8, 9, 2, 3] rfl rfl rfl (by decide) rfl rfl (va_runV (As := []) (rest := []) ⟨hx, hb, hml, hown, hta⟩ (c_X11_saveState l dC dI cI H.size a0 a1 a2 a3 a4 a5 a6 a7 a8 a9 a10 v2_0 v4_1 v4_0 v5_3 v5_4 v5_5 v5_6 v5_7 u_3 hu_3) (cwV 0 hta (ga_V mA125 mA126 mA127 mA108 mA128) rfl rfl rfl (by decide +kernel) ⟨Nat.le_of_ble_eq_true rfl, Nat.le_of_ble_eq_true rfl⟩) ⟨q_fb, va_recv hK hP (ci := 10) (q0 := 0) rfl rfl, q_ps hPc hK hDc⟩ rfl rfl hl.1 rfl (lv_room (Nat.le_of_ble_eq_true rfl)) dX11_parse_23 ⟨Nat.zero_le _, Nat.zero_le _⟩) (fun H locs hP hD hS => ?_)
    refine lv_aload_n hx hb dX11_parse_26 rfl (lv_at hl 1 rfl) ?_
    refine va_get (D := (dC, dI)) (ci := 10) (v := .ref (a2 0)) (C := RX11) (T := TX11) (N := 7) hx hb hta uw_X11 hown hK hP 0 rfl rfl 0 (by decide) (hta _ mA7) (fun _ h9 => h9) rfl dX11_parse_27 ?_
    refine lv_aload_n hx hb dX11_parse_30 rfl (lv_at hl 1 rfl) ?_
    refine va_get (D := (dC, dI)) (ci := 10) (v := .ref (a1 0)) (C := RX11) (T := TX11) (N := 7) hx hb hta uw_X11 hown hK hP 0 rfl rfl 1 (by decide) (hta _ mA8) (fun _ h9 => h9) rfl dX11_parse_31 ?_
    obtain ⟨u_4, hu_4, hF⟩ := obd_some hF
    have hPc := hP.sub (ws' := (wd_X1_takePath cI a2 a1 v2_0 u_1.2.2.2.2.2)) [3, 4, 1, 2] rfl
    have hDc := hD.sub (ws' := (wd_X1_takePath cI a2 a1 v2_0 u_1.2.2.2.2.2)) [3, 4, 1, 2] rfl rfl
    refine q_callv (wc := (wd_X1_takePath cI a2 a1 v2_0 u_1.2.2.2.2.2)) (w1 := (wd_X1_takePath cI a2 a1 u_4 u_1.2.2.2.2.2)) (ws' := (wd_X11_parse cI a0 a1 a2 a3 a4 a5 a6 a7 a8 a9 a10 u_1.2.2.2.2.2 u_4 u_3.1 u_3.2.1 u_3.2.2 v5_4 v5_5 v5_6 v5_7 v9_1 u_1.2.1 u_1.2.2.1 u_1.2.2.2.1 u_1.2.2.2.2.1 v9_0)) hP hD hS hA [3, 4, 1, 2] [0, 5, 6, 7, 8, 9] [0, 8, 9, 6, 7, 1, 2, 3, 4, 5] rfl rfl rfl (by decide) rfl rfl (va_runV (As := [.ref (a1 0)]) (rest := []) ⟨hx, hb, hml, hown, hta⟩ (c_X1_takePath l dC dI cI H.size a2 a1 v2_0 u_1.2.2.2.2.2 u_4 hu_4) (cwV 1 hta (ga_V mA725 mA726 mA727 mA6 mA728) rfl rfl rfl (by decide +kernel) ⟨Nat.le_of_ble_eq_true rfl, Nat.le_of_ble_eq_true rfl⟩) ⟨q_fb, va_recv hK hP (ci := 1) (q0 := 3) rfl rfl, q_ps hPc hK hDc⟩ rfl rfl hl.1 rfl (lv_room (Nat.le_of_ble_eq_true rfl)) dX11_parse_34 ⟨Nat.zero_le _, Nat.zero_le _⟩) (fun H locs hP hD hS => ?_)
    refine lv_aload_n hx hb dX11_parse_37 rfl (lv_at hl 1 rfl) ?_
    refine va_get (D := (dC, dI)) (ci := 10) (v := .ref (a2 0)) (C := RX11) (T := TX11) (N := 7) hx hb hta uw_X11 hown hK hP 0 rfl rfl 0 (by decide) (hta _ mA7) (fun _ h9 => h9) rfl dX11_parse_38 ?_
    obtain ⟨u_5, hu_5, hF⟩ := obd_some hF
    have hPc := hP.sub (ws' := (wd_X1_subpathCount cI a2 u_4)) [3, 4] rfl
    have hDc := hD.sub (ws' := (wd_X1_subpathCount cI a2 u_4)) [3, 4] rfl rfl
    refine q_calli (wc := (wd_X1_subpathCount cI a2 u_4)) (w1 := (wd_X1_subpathCount cI a2 u_4)) (ws' := (wd_X11_parse cI a0 a1 a2 a3 a4 a5 a6 a7 a8 a9 a10 u_1.2.2.2.2.2 u_4 u_3.1 u_3.2.1 u_3.2.2 v5_4 v5_5 v5_6 v5_7 v9_1 u_1.2.1 u_1.2.2.1 u_1.2.2.2.1 u_1.2.2.2.2.1 v9_0)) hP hD hS hA [3, 4] [0, 1, 2, 5, 6, 7, 8, 9] [0, 1, 2, 8, 9, 3, 4, 5, 6, 7] rfl rfl rfl (by decide) rfl rfl (va_runV (As := []) (rest := []) ⟨hx, hb, hml, hown, hta⟩ (c_X1_subpathCount l dC dI cI H.size a2 u_4 u_5 hu_5) (cwV 0 hta (ga_V mA112 mA113 mA114 mA6 mA115) rfl rfl rfl (by decide +kernel) ⟨Nat.le_of_ble_eq_true rfl, Nat.le_of_ble_eq_true rfl⟩) ⟨q_fb, va_recv hK hP (ci := 1) (q0 := 3) rfl rfl, q_ps hPc hK hDc⟩ rfl rfl hl.1 rfl (lv_room (Nat.le_of_ble_eq_true rfl)) dX11_parse_41 ⟨Nat.zero_le _, Nat.zero_le _⟩) (fun H locs hP hD hS => ?_)
    obtain rfl := Option.some.inj hF
    exact W.iret (v := u_5) hx hb hr (fun t ht hW => ⟨⟨u_5, (), rfl, rfl, by rw [ht]; exact hP, va_K.moved hW.alike hK, hD⟩, hS.F ht⟩) hS.2.2 dX11_parse_44
  · have hF := it_f hF c_2
    refine lv_bipush (v := (-10)) hx hb dX11_parse_17 (by decide) ?_
    refine lv_iload_n hx hb dX11_parse_19 rfl (lv_at hl 0 rfl) ?_
    refine lv_isub hx hb dX11_parse_20 ?_
    obtain rfl := Option.some.inj hF
    exact W.iret (v := ((-10) - u_1.1)) hx hb hr (fun t ht hW => ⟨⟨((-10) - u_1.1), (), rfl, rfl, by rw [ht]; exact hP, va_K.moved hW.alike hK, hD⟩, hS.F ht⟩) hS.2.2 dX11_parse_21

-- StrokeOutliner.written(I)I
def F_X11_written (n : Nat) (v2_0 : Nat → Int32) (v7_1 : Int32) (v7_0 : Nat → Int32) (p1 : Int32) : Option (Sum (Int32 × Int32 × (Nat → Int32)) (Nat × Int32 × (Nat → Int32))) :=
  if 0 ≤ p1 then obd (F_X6_byteOf n v7_0 v2_0 p1) (fun u_2 => some (.inl (u_2.1, u_2.2.1, u_2.2.2))) else some (.inr (1, v7_1, v7_0))
abbrev wd_X11_written (cI : ClassId) (a0 : Nat → Nat) (a1 : Nat → Nat) (a2 : Nat → Nat) (a3 : Nat → Nat) (a4 : Nat → Nat) (a5 : Nat → Nat) (a6 : Nat → Nat) (a7 : Nat → Nat) (v2_0 : Nat → Int32) (v7_1 : Int32) (v7_0 : Nat → Int32) : va_W := [(a0 0, .inr (10, [.ref (a2 0), .ref (a1 0), .ref (a4 0), .ref (a6 0), .ref (a7 0), .ref (a5 0), .ref (a3 0)])), (a2 0, .inr (1, [.ref (a2 1)])), (a2 1, .inl (cI, 86, .inl v2_0)), (a7 0, .inr (5, [.ref (a7 1), .int v7_1])), (a7 1, .inl (cI, 324, .inl v7_0))]
abbrev wz_X11_written : List Cond := .code yX11_written cX11_written 2 (some .int) :: wALL
abbrev rm_X11_written : Room := { frames := 4, cells := 0, slots := 0, locals := 89 }
abbrev Q_X11_written (dC : Nat → ClassId) (dI : Nat → Nat → Nat) (cI : ClassId) (a0 : Nat → Nat) (a1 : Nat → Nat) (a2 : Nat → Nat) (a3 : Nat → Nat) (a4 : Nat → Nat) (a5 : Nat → Nat) (a6 : Nat → Nat) (a7 : Nat → Nat) (v2_0 : Nat → Int32) (u : (Int32 × Int32 × (Nat → Int32))) (A : Nat → Prop) : Array Value → State → Outcome → State → Prop := va_Qi (fun (r : Int32) (_ : Unit) => r = u.1) (fun _ => q_at dC dI cI A (wd_X11_written cI a0 a1 a2 a3 a4 a5 a6 a7 v2_0 u.2.1 u.2.2)) A
set_option maxHeartbeats 4000000 in
set_option maxRecDepth 100000 in
theorem c_X11_written (l : Launch) (dC : Nat → ClassId) (dI : Nat → Nat → Nat) (cI : ClassId) (sz : Nat) (a0 : Nat → Nat) (a1 : Nat → Nat) (a2 : Nat → Nat) (a3 : Nat → Nat) (a4 : Nat → Nat) (a5 : Nat → Nat) (a6 : Nat → Nat) (a7 : Nat → Nat) (v2_0 : Nat → Int32) (v7_1 : Int32) (v7_0 : Nat → Int32) (p1 : Int32) (n : Nat) (u : (Int32 × Int32 × (Nat → Int32))) (hF : F_X11_written n v2_0 v7_1 v7_0 p1 = some (.inl u)) : Met l yX11_written wz_X11_written rm_X11_written (va_Pc [.ref (a0 0), .int p1] (q_pre dC dI cI (wd_X11_written cI a0 a1 a2 a3 a4 a5 a6 a7 v2_0 v7_1 v7_0) sz)) (Q_X11_written dC dI cI a0 a1 a2 a3 a4 a5 a6 a7 v2_0 u (va_A (wd_X11_written cI a0 a1 a2 a3 a4 a5 a6 a7 v2_0 v7_1 v7_0) sz)) 0 0 (va_A (wd_X11_written cI a0 a1 a2 a3 a4 a5 a6 a7 v2_0 v7_1 v7_0) sz) := by
  refine Met.ofW (cc := cX11_written) (maxL := 2) (ret := (some .int)) (by decide) rfl ?_
  intro p e s m args below meth c s₁ B hml hv
  obtain ⟨rfl, hsz, hP, hK, hD0⟩ := hv
  have hx := B.exec
  have hb := B.bytes
  have hr := B.returns
  have hts := atoms_spec (ws := wz_X11_written) B.pre
  have hta := wz_tl hts
  have hown : s.vm.findClass RX11 = some m.cls := findClass_of_methodNamed B.named
  have hlocks := B.notSynchronized
  subst hsz
  have hD := hD0.self (sz := s.heap.size)
  generalize hAe : va_A (wd_X11_written cI a0 a1 a2 a3 a4 a5 a6 a7 v2_0 v7_1 v7_0) s.heap.size = A at hD ⊢
  have hA : ∀ q : Nat, s.heap.size ≤ q → A q := fun q h => by rw [← hAe]; exact Or.inr h
  have hS : va_S A s.heap s.heap [] := va_S.rf
  have hP : va_P (dC, dI) vwCl (wd_X11_written cI a0 a1 a2 a3 a4 a5 a6 a7 v2_0 v7_1 v7_0) s.heap := hP
  have hl := lv_entry ([.ref (a0 0), .int p1]) (n := 2) (Nat.le_of_ble_eq_true rfl)
  rw [lg_entry_eq]
  generalize (lg_sl ([.ref (a0 0), .int p1]) ++ List.replicate (2 - (lg_sl ([.ref (a0 0), .int p1])).length) Slot.unset).toArray = ls at hl ⊢
  have hl : lv_has ls 2 [(0, .ref (a0 0)), (1, .int p1)] := hl
  obtain ⟨H, hHe⟩ : ∃ H, H = s.heap := ⟨_, rfl⟩
  have hS : va_S A s.heap H [] := by rw [hHe]; exact hS
  have hP : va_P (dC, dI) vwCl (wd_X11_written cI a0 a1 a2 a3 a4 a5 a6 a7 v2_0 v7_1 v7_0) H := by rw [hHe]; exact hP
  rw [← hHe]
  unfold F_X11_written at hF
  refine lv_iload_n hx hb dX11_written_0 rfl (lv_at hl 1 rfl) ?_
  refine lv_if_ge (tgt := 14) hx hb dX11_written_1 (by decide) (fun c_1 => ?_) (fun c_1 => ?_)
  · have hF := it_t hF c_1
    refine lv_aload_n hx hb dX11_written_14 rfl (lv_at hl 0 rfl) ?_
    refine va_get (D := (dC, dI)) (ci := 10) (v := .ref (a7 0)) (C := RX11) (T := TX11) (N := 7) hx hb hta uw_X11 hown hK hP 0 rfl rfl 4 (by decide) (hta _ mA20) (fun _ h9 => h9) rfl dX11_written_15 ?_
    refine lv_aload_n hx hb dX11_written_18 rfl (lv_at hl 0 rfl) ?_
    refine va_get (D := (dC, dI)) (ci := 10) (v := .ref (a2 0)) (C := RX11) (T := TX11) (N := 7) hx hb hta uw_X11 hown hK hP 0 rfl rfl 0 (by decide) (hta _ mA7) (fun _ h9 => h9) rfl dX11_written_19 ?_
    refine lv_iload_n hx hb dX11_written_22 rfl (lv_at hl 1 rfl) ?_
    obtain ⟨u_2, hu_2, hF⟩ := obd_some hF
    have hPc := hP.sub (ws' := (wd_X6_byteOf cI a7 a2 v7_1 v7_0 v2_0)) [3, 4, 1, 2] rfl
    have hDc := hD.sub (ws' := (wd_X6_byteOf cI a7 a2 v7_1 v7_0 v2_0)) [3, 4, 1, 2] rfl rfl
    refine q_calli (wc := (wd_X6_byteOf cI a7 a2 v7_1 v7_0 v2_0)) (w1 := (wd_X6_byteOf cI a7 a2 u_2.2.1 u_2.2.2 v2_0)) (ws' := (wd_X11_written cI a0 a1 a2 a3 a4 a5 a6 a7 v2_0 u_2.2.1 u_2.2.2)) hP hD hS hA [3, 4, 1, 2] [0] [0, 3, 4, 1, 2] rfl rfl rfl (by decide) rfl rfl (va_runV (As := [.ref (a2 0), .int p1]) (rest := []) ⟨hx, hb, hml, hown, hta⟩ (c_X6_byteOf l dC dI cI H.size a7 a2 v7_1 v7_0 v2_0 p1 n u_2 hu_2) (cwV 2 hta (ga_V mA730 mA731 mA732 mA19 mA733) rfl rfl rfl (by decide +kernel) ⟨Nat.le_of_ble_eq_true rfl, Nat.le_of_ble_eq_true rfl⟩) ⟨q_fb, va_recv hK hP (ci := 5) (q0 := 3) rfl rfl, q_ps hPc hK hDc⟩ rfl rfl hl.1 rfl (lv_room (Nat.le_of_ble_eq_true rfl)) dX11_written_23 ⟨Nat.zero_le _, Nat.zero_le _⟩) (fun H locs hP hD hS => ?_)
    obtain rfl := Sum.inl.inj (Option.some.inj hF)
    exact W.iret (v := u_2.1) hx hb hr (fun t ht hW => ⟨⟨u_2.1, (), rfl, rfl, by rw [ht]; exact hP, va_K.moved hW.alike hK, hD⟩, hS.F ht⟩) hS.2.2 dX11_written_26
  · have hF := it_f hF c_1
    exact absurd hF no_rl
abbrev rmx_X11_written : Room := { frames := 6, cells := 1, slots := 6, locals := 89 }
abbrev XC_X11_written (dC : Nat → ClassId) (dI : Nat → Nat → Nat) (cI : ClassId) (a0 : Nat → Nat) (a1 : Nat → Nat) (a2 : Nat → Nat) (a3 : Nat → Nat) (a4 : Nat → Nat) (a5 : Nat → Nat) (a6 : Nat → Nat) (a7 : Nat → Nat) (v2_0 : Nat → Int32) (x : (Nat × Int32 × (Nat → Int32))) (A : Nat → Prop) : String → State → State → Prop := vx_X (fun (_ : Unit) => True) (fun E _ t => E = exN x.1 ∧ q_at dC dI cI A (wd_X11_written cI a0 a1 a2 a3 a4 a5 a6 a7 v2_0 x.2.1 x.2.2) t) A
set_option maxHeartbeats 4000000 in
set_option maxRecDepth 100000 in
theorem c_X11_written_x (l : Launch) (hlt : l.stackTraces = false) (S : Nat → Nat) (dC : Nat → ClassId) (dI : Nat → Nat → Nat) (cI : ClassId) (sz : Nat) (a0 : Nat → Nat) (a1 : Nat → Nat) (a2 : Nat → Nat) (a3 : Nat → Nat) (a4 : Nat → Nat) (a5 : Nat → Nat) (a6 : Nat → Nat) (a7 : Nat → Nat) (v2_0 : Nat → Int32) (v7_1 : Int32) (v7_0 : Nat → Int32) (p1 : Int32) (n : Nat) (x : (Nat × Int32 × (Nat → Int32))) (hF : F_X11_written n v2_0 v7_1 v7_0 p1 = some (.inr x)) : vx_Met l yX11_written wz_X11_written rmx_X11_written (va_Pc [.ref (a0 0), .int p1] (qx_pre S dC dI cI (wd_X11_written cI a0 a1 a2 a3 a4 a5 a6 a7 v2_0 v7_1 v7_0) sz)) (va_Qv (fun (_ : Unit) => False) (fun _ _ => True) (va_A (wd_X11_written cI a0 a1 a2 a3 a4 a5 a6 a7 v2_0 v7_1 v7_0) sz)) (XC_X11_written dC dI cI a0 a1 a2 a3 a4 a5 a6 a7 v2_0 x (va_A (wd_X11_written cI a0 a1 a2 a3 a4 a5 a6 a7 v2_0 v7_1 v7_0) sz)) 1 6 (va_A (wd_X11_written cI a0 a1 a2 a3 a4 a5 a6 a7 v2_0 v7_1 v7_0) sz) := by
  refine vx_ofW (cc := cX11_written) (maxL := 2) (ret := (some .int)) (by decide) rfl ?_
  intro p e s m args below meth c s₁ B hml hxt hv
  obtain ⟨rfl, ⟨hsz, hP, hK, hD0⟩, hE⟩ := hv
  have hx := B.exec
  have hb := B.bytes
  have hr := B.returns
  have hts := atoms_spec (ws := wz_X11_written) B.pre
  have hta := wz_tl hts
  have hown : s.vm.findClass RX11 = some m.cls := findClass_of_methodNamed B.named
  have hlocks := B.notSynchronized
  subst hsz
  have hD := hD0.self (sz := s.heap.size)
  generalize hAe : va_A (wd_X11_written cI a0 a1 a2 a3 a4 a5 a6 a7 v2_0 v7_1 v7_0) s.heap.size = A at hD hE ⊢
  have hA : ∀ q : Nat, s.heap.size ≤ q → A q := fun q h => by rw [← hAe]; exact Or.inr h
  have hS : va_S A s.heap s.heap [] := va_S.rf
  have hP : va_P (dC, dI) vwCl (wd_X11_written cI a0 a1 a2 a3 a4 a5 a6 a7 v2_0 v7_1 v7_0) s.heap := hP
  have hl := lv_entry ([.ref (a0 0), .int p1]) (n := 2) (Nat.le_of_ble_eq_true rfl)
  rw [lg_entry_eq]
  generalize (lg_sl ([.ref (a0 0), .int p1]) ++ List.replicate (2 - (lg_sl ([.ref (a0 0), .int p1])).length) Slot.unset).toArray = ls at hl ⊢
  have hl : lv_has ls 2 [(0, .ref (a0 0)), (1, .int p1)] := hl
  obtain ⟨H, hHe⟩ : ∃ H, H = s.heap := ⟨_, rfl⟩
  have hS : va_S A s.heap H [] := by rw [hHe]; exact hS
  have hP : va_P (dC, dI) vwCl (wd_X11_written cI a0 a1 a2 a3 a4 a5 a6 a7 v2_0 v7_1 v7_0) H := by rw [hHe]; exact hP
  rw [← hHe]
  unfold F_X11_written at hF
  refine lv_iload_n hx hb dX11_written_0 rfl (lv_at hl 1 rfl) ?_
  refine lv_if_ge (tgt := 14) hx hb dX11_written_1 (by decide) (fun c_1 => ?_) (fun c_1 => ?_)
  · have hF := it_t hF c_1
    refine lv_aload_n hx hb dX11_written_14 rfl (lv_at hl 0 rfl) ?_
    refine va_get (D := (dC, dI)) (ci := 10) (v := .ref (a7 0)) (C := RX11) (T := TX11) (N := 7) hx hb hta uw_X11 hown hK hP 0 rfl rfl 4 (by decide) (hta _ mA20) (fun _ h9 => h9) rfl dX11_written_15 ?_
    refine lv_aload_n hx hb dX11_written_18 rfl (lv_at hl 0 rfl) ?_
    refine va_get (D := (dC, dI)) (ci := 10) (v := .ref (a2 0)) (C := RX11) (T := TX11) (N := 7) hx hb hta uw_X11 hown hK hP 0 rfl rfl 0 (by decide) (hta _ mA7) (fun _ h9 => h9) rfl dX11_written_19 ?_
    refine lv_iload_n hx hb dX11_written_22 rfl (lv_at hl 1 rfl) ?_
    obtain ⟨u_2, hu_2, hF⟩ := obd_some hF
    have hPc := hP.sub (ws' := (wd_X6_byteOf cI a7 a2 v7_1 v7_0 v2_0)) [3, 4, 1, 2] rfl
    have hDc := hD.sub (ws' := (wd_X6_byteOf cI a7 a2 v7_1 v7_0 v2_0)) [3, 4, 1, 2] rfl rfl
    refine q_calli (wc := (wd_X6_byteOf cI a7 a2 v7_1 v7_0 v2_0)) (w1 := (wd_X6_byteOf cI a7 a2 u_2.2.1 u_2.2.2 v2_0)) (ws' := (wd_X11_written cI a0 a1 a2 a3 a4 a5 a6 a7 v2_0 u_2.2.1 u_2.2.2)) hP hD hS hA [3, 4, 1, 2] [0] [0, 3, 4, 1, 2] rfl rfl rfl (by decide) rfl rfl (va_runV (As := [.ref (a2 0), .int p1]) (rest := []) ⟨hx, hb, hml, hown, hta⟩ (c_X6_byteOf l dC dI cI H.size a7 a2 v7_1 v7_0 v2_0 p1 n u_2 hu_2) (cwV 2 hta (ga_V mA730 mA731 mA732 mA19 mA733) rfl rfl rfl (by decide +kernel) ⟨Nat.le_of_ble_eq_true rfl, Nat.le_of_ble_eq_true rfl⟩) ⟨q_fb, va_recv hK hP (ci := 5) (q0 := 3) rfl rfl, q_ps hPc hK hDc⟩ rfl rfl hl.1 rfl (lv_room (Nat.le_of_ble_eq_true rfl)) dX11_written_23 ⟨Nat.zero_le _, Nat.zero_le _⟩) (fun H locs hP hD hS => ?_)
    exact absurd hF no_lr
  · have hF := it_f hF c_1
    obtain rfl := Sum.inr.inj (Option.some.inj hF)
    exact vx_throwS (A := A) (sa := S 3) hx hb hlt hown qx_fIA qx_fN (hta _ mA110) (hta _ mA111) hE.2.2.1.2.2.2 (qx_hIA hE.2.2.2 hta) qx_gIA hE.1 hE.2.1 hS (hl.1.trans hml.symm) dX11_written_4 dX11_written_7 dX11_written_8 dX11_written_10 dX11_written_13 (fun z hz => (hxt z hz).elim) (Nat.le_of_ble_eq_true rfl) (Nat.le_of_ble_eq_true rfl) (Nat.le_of_ble_eq_true rfl) (Nat.le_of_ble_eq_true rfl) hlocks (fun t hal hsz hkp => ⟨(), trivial, ⟨rfl, qx_kept hP hkp, va_K.moved hal hK, hD⟩, qx_F hS hsz hkp⟩) hS.2.2 (Nat.le_of_ble_eq_true rfl) (Nat.le_of_ble_eq_true rfl)
