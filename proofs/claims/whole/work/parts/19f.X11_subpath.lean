-- StrokeOutliner.subpath(II)I
def F_X11_subpath (n : Nat) (v2_0 : Nat → Int32) (v5_3 : Int32) (v8_10 : Int32) (v8_0 : Nat → Int32) (v8_1 : Nat → Int32) (v8_2 : Nat → Int32) (v8_3 : Nat → Int32) (v8_4 : Nat → Int32) (v8_5 : Nat → Int32) (v8_6 : Nat → Int32) (v8_7 : Nat → Int32) (v8_8 : Nat → Int32) (v8_9 : Nat → Int32) (p1 : Int32) (p2 : Int32) : Option (Sum (Int32 × Int32 × Int32 × (Nat → Int32) × (Nat → Int32) × (Nat → Int32) × (Nat → Int32) × (Nat → Int32) × (Nat → Int32) × (Nat → Int32) × (Nat → Int32) × (Nat → Int32) × (Nat → Int32)) (Nat × Int32 × Int32 × (Nat → Int32) × (Nat → Int32) × (Nat → Int32) × (Nat → Int32) × (Nat → Int32) × (Nat → Int32) × (Nat → Int32) × (Nat → Int32) × (Nat → Int32) × (Nat → Int32))) :=
  obd (F_X1_subpathCount v2_0) (fun u_1 => obx (F_X11_checkIndex p1 u_1) (fun x_3 => some (.inr (x_3, v5_3, v8_10, v8_0, v8_1, v8_2, v8_3, v8_4, v8_5, v8_6, v8_7, v8_8, v8_9))) (fun u_2 => obx (F_X11_checkRange p2 0 3) (fun x_5 => some (.inr (x_5, v5_3, v8_10, v8_0, v8_1, v8_2, v8_3, v8_4, v8_5, v8_6, v8_7, v8_8, v8_9))) (fun u_4 => obd (F_X11_aboutSubpath n v2_0 v5_3 v8_10 v8_0 v8_1 v8_2 v8_3 v8_4 v8_5 v8_6 v8_7 v8_8 v8_9 p1 p2) (fun u_6 => some (.inl (u_6.1, u_6.2.1, u_6.2.2.1, u_6.2.2.2.1, u_6.2.2.2.2.1, u_6.2.2.2.2.2.1, u_6.2.2.2.2.2.2.1, u_6.2.2.2.2.2.2.2.1, u_6.2.2.2.2.2.2.2.2.1, u_6.2.2.2.2.2.2.2.2.2.1, u_6.2.2.2.2.2.2.2.2.2.2.1, u_6.2.2.2.2.2.2.2.2.2.2.2.1, u_6.2.2.2.2.2.2.2.2.2.2.2.2))))))
abbrev wd_X11_subpath (cI : ClassId) (a0 : Nat → Nat) (a1 : Nat → Nat) (a2 : Nat → Nat) (a3 : Nat → Nat) (a4 : Nat → Nat) (a5 : Nat → Nat) (a6 : Nat → Nat) (a7 : Nat → Nat) (a8 : Nat → Nat) (a9 : Nat → Nat) (a10 : Nat → Nat) (v2_0 : Nat → Int32) (v5_3 : Int32) (v5_4 : Int32) (v5_5 : Int32) (v5_6 : Int32) (v5_7 : Int32) (v8_10 : Int32) (v8_0 : Nat → Int32) (v8_1 : Nat → Int32) (v8_2 : Nat → Int32) (v8_3 : Nat → Int32) (v8_4 : Nat → Int32) (v8_5 : Nat → Int32) (v8_6 : Nat → Int32) (v8_7 : Nat → Int32) (v8_8 : Nat → Int32) (v8_9 : Nat → Int32) : va_W := [(a0 0, .inr (10, [.ref (a2 0), .ref (a1 0), .ref (a4 0), .ref (a9 0), .ref (a10 0), .ref (a5 0), .ref (a3 0)])), (a2 0, .inr (1, [.ref (a2 1)])), (a2 1, .inl (cI, 86, .inl v2_0)), (a5 0, .inr (9, [.ref (a8 0), .ref (a7 0), .ref (a6 0), .int v5_3, .int v5_4, .int v5_5, .int v5_6, .int v5_7])), (a8 0, .inr (8, [.ref (a8 1), .ref (a8 2), .ref (a8 3), .ref (a8 4), .ref (a8 5), .ref (a8 6), .ref (a8 7), .ref (a8 8), .ref (a8 9), .ref (a8 10), .int v8_10])), (a8 1, .inl (cI, 5, .inl v8_0)), (a8 2, .inl (cI, 32, .inl v8_1)), (a8 3, .inl (cI, 32, .inl v8_2)), (a8 4, .inl (cI, 32, .inl v8_3)), (a8 5, .inl (cI, 32, .inl v8_4)), (a8 6, .inl (cI, 32, .inl v8_5)), (a8 7, .inl (cI, 32, .inl v8_6)), (a8 8, .inl (cI, 32, .inl v8_7)), (a8 9, .inl (cI, 32, .inl v8_8)), (a8 10, .inl (cI, 32, .inl v8_9))]
abbrev wz_X11_subpath : List Cond := .code yX11_subpath cX11_subpath 3 (some .int) :: wALL
abbrev rm_X11_subpath : Room := { frames := 5, cells := 0, slots := 0, locals := 131 }
abbrev Q_X11_subpath (dC : Nat → ClassId) (dI : Nat → Nat → Nat) (cI : ClassId) (a0 : Nat → Nat) (a1 : Nat → Nat) (a2 : Nat → Nat) (a3 : Nat → Nat) (a4 : Nat → Nat) (a5 : Nat → Nat) (a6 : Nat → Nat) (a7 : Nat → Nat) (a8 : Nat → Nat) (a9 : Nat → Nat) (a10 : Nat → Nat) (v2_0 : Nat → Int32) (v5_4 : Int32) (v5_5 : Int32) (v5_6 : Int32) (v5_7 : Int32) (u : (Int32 × Int32 × Int32 × (Nat → Int32) × (Nat → Int32) × (Nat → Int32) × (Nat → Int32) × (Nat → Int32) × (Nat → Int32) × (Nat → Int32) × (Nat → Int32) × (Nat → Int32) × (Nat → Int32))) (A : Nat → Prop) : Array Value → State → Outcome → State → Prop := va_Qi (fun (r : Int32) (_ : Unit) => r = u.1) (fun _ => q_at dC dI cI A (wd_X11_subpath cI a0 a1 a2 a3 a4 a5 a6 a7 a8 a9 a10 v2_0 u.2.1 v5_4 v5_5 v5_6 v5_7 u.2.2.1 u.2.2.2.1 u.2.2.2.2.1 u.2.2.2.2.2.1 u.2.2.2.2.2.2.1 u.2.2.2.2.2.2.2.1 u.2.2.2.2.2.2.2.2.1 u.2.2.2.2.2.2.2.2.2.1 u.2.2.2.2.2.2.2.2.2.2.1 u.2.2.2.2.2.2.2.2.2.2.2.1 u.2.2.2.2.2.2.2.2.2.2.2.2)) A
set_option maxHeartbeats 4000000 in
set_option maxRecDepth 100000 in
theorem c_X11_subpath (l : Launch) (dC : Nat → ClassId) (dI : Nat → Nat → Nat) (cI : ClassId) (sz : Nat) (a0 : Nat → Nat) (a1 : Nat → Nat) (a2 : Nat → Nat) (a3 : Nat → Nat) (a4 : Nat → Nat) (a5 : Nat → Nat) (a6 : Nat → Nat) (a7 : Nat → Nat) (a8 : Nat → Nat) (a9 : Nat → Nat) (a10 : Nat → Nat) (v2_0 : Nat → Int32) (v5_3 : Int32) (v5_4 : Int32) (v5_5 : Int32) (v5_6 : Int32) (v5_7 : Int32) (v8_10 : Int32) (v8_0 : Nat → Int32) (v8_1 : Nat → Int32) (v8_2 : Nat → Int32) (v8_3 : Nat → Int32) (v8_4 : Nat → Int32) (v8_5 : Nat → Int32) (v8_6 : Nat → Int32) (v8_7 : Nat → Int32) (v8_8 : Nat → Int32) (v8_9 : Nat → Int32) (p1 : Int32) (p2 : Int32) (n : Nat) (u : (Int32 × Int32 × Int32 × (Nat → Int32) × (Nat → Int32) × (Nat → Int32) × (Nat → Int32) × (Nat → Int32) × (Nat → Int32) × (Nat → Int32) × (Nat → Int32) × (Nat → Int32) × (Nat → Int32))) (hF : F_X11_subpath n v2_0 v5_3 v8_10 v8_0 v8_1 v8_2 v8_3 v8_4 v8_5 v8_6 v8_7 v8_8 v8_9 p1 p2 = some (.inl u)) : Met l yX11_subpath wz_X11_subpath rm_X11_subpath (va_Pc [.ref (a0 0), .int p1, .int p2] (q_pre dC dI cI (wd_X11_subpath cI a0 a1 a2 a3 a4 a5 a6 a7 a8 a9 a10 v2_0 v5_3 v5_4 v5_5 v5_6 v5_7 v8_10 v8_0 v8_1 v8_2 v8_3 v8_4 v8_5 v8_6 v8_7 v8_8 v8_9) sz)) (Q_X11_subpath dC dI cI a0 a1 a2 a3 a4 a5 a6 a7 a8 a9 a10 v2_0 v5_4 v5_5 v5_6 v5_7 u (va_A (wd_X11_subpath cI a0 a1 a2 a3 a4 a5 a6 a7 a8 a9 a10 v2_0 v5_3 v5_4 v5_5 v5_6 v5_7 v8_10 v8_0 v8_1 v8_2 v8_3 v8_4 v8_5 v8_6 v8_7 v8_8 v8_9) sz)) 0 0 (va_A (wd_X11_subpath cI a0 a1 a2 a3 a4 a5 a6 a7 a8 a9 a10 v2_0 v5_3 v5_4 v5_5 v5_6 v5_7 v8_10 v8_0 v8_1 v8_2 v8_3 v8_4 v8_5 v8_6 v8_7 v8_8 v8_9) sz) := by
  refine Met.ofW (cc := cX11_subpath) (maxL := 3) (ret := (some .int)) (by decide) rfl ?_
  intro p e s m args below meth c s₁ B hml hv
  obtain ⟨rfl, hsz, hP, hK, hD0⟩ := hv
  have hx := B.exec
  have hb := B.bytes
  have hr := B.returns
  have hts := atoms_spec (ws := wz_X11_subpath) B.pre
  have hta := wz_tl hts
  have hown : s.vm.findClass RX11 = some m.cls := findClass_of_methodNamed B.named
  have hlocks := B.notSynchronized
  subst hsz
  have hD := hD0.self (sz := s.heap.size)
  generalize hAe : va_A (wd_X11_subpath cI a0 a1 a2 a3 a4 a5 a6 a7 a8 a9 a10 v2_0 v5_3 v5_4 v5_5 v5_6 v5_7 v8_10 v8_0 v8_1 v8_2 v8_3 v8_4 v8_5 v8_6 v8_7 v8_8 v8_9) s.heap.size = A at hD ⊢
  have hA : ∀ q : Nat, s.heap.size ≤ q → A q := fun q h => by rw [← hAe]; exact Or.inr h
  have hS : va_S A s.heap s.heap [] := va_S.rf
  have hP : va_P (dC, dI) vwCl (wd_X11_subpath cI a0 a1 a2 a3 a4 a5 a6 a7 a8 a9 a10 v2_0 v5_3 v5_4 v5_5 v5_6 v5_7 v8_10 v8_0 v8_1 v8_2 v8_3 v8_4 v8_5 v8_6 v8_7 v8_8 v8_9) s.heap := hP
  have hl := lv_entry ([.ref (a0 0), .int p1, .int p2]) (n := 3) (Nat.le_of_ble_eq_true rfl)
  rw [lg_entry_eq]
  generalize (lg_sl ([.ref (a0 0), .int p1, .int p2]) ++ List.replicate (3 - (lg_sl ([.ref (a0 0), .int p1, .int p2])).length) Slot.unset).toArray = ls at hl ⊢
  have hl : lv_has ls 3 [(0, .ref (a0 0)), (1, .int p1), (2, .int p2)] := hl
  obtain ⟨H, hHe⟩ : ∃ H, H = s.heap := ⟨_, rfl⟩
  have hS : va_S A s.heap H [] := by rw [hHe]; exact hS
  have hP : va_P (dC, dI) vwCl (wd_X11_subpath cI a0 a1 a2 a3 a4 a5 a6 a7 a8 a9 a10 v2_0 v5_3 v5_4 v5_5 v5_6 v5_7 v8_10 v8_0 v8_1 v8_2 v8_3 v8_4 v8_5 v8_6 v8_7 v8_8 v8_9) H := by rw [hHe]; exact hP
  rw [← hHe]
  unfold F_X11_subpath at hF
  refine lv_iload_n hx hb dX11_subpath_0 rfl (lv_at hl 1 rfl) ?_
  refine lv_aload_n hx hb dX11_subpath_1 rfl (lv_at hl 0 rfl) ?_
  refine va_get (D := (dC, dI)) (ci := 10) (v := .ref (a2 0)) (C := RX11) (T := TX11) (N := 7) hx hb hta uw_X11 hown hK hP 0 rfl rfl 0 (by decide) (hta _ mA7) (fun _ h9 => h9) rfl dX11_subpath_2 ?_
  obtain ⟨u_1, hu_1, hF⟩ := obd_some hF
  have hPc := hP.sub (ws' := (wd_X1_subpathCount cI a2 v2_0)) [1, 2] rfl
  have hDc := hD.sub (ws' := (wd_X1_subpathCount cI a2 v2_0)) [1, 2] rfl rfl
  refine q_calli (wc := (wd_X1_subpathCount cI a2 v2_0)) (w1 := (wd_X1_subpathCount cI a2 v2_0)) (ws' := (wd_X11_subpath cI a0 a1 a2 a3 a4 a5 a6 a7 a8 a9 a10 v2_0 v5_3 v5_4 v5_5 v5_6 v5_7 v8_10 v8_0 v8_1 v8_2 v8_3 v8_4 v8_5 v8_6 v8_7 v8_8 v8_9)) hP hD hS hA [1, 2] [0, 3, 4, 5, 6, 7, 8, 9, 10, 11, 12, 13, 14] [0, 13, 14, 1, 2, 3, 4, 5, 6, 7, 8, 9, 10, 11, 12] rfl rfl rfl (by decide) rfl rfl (va_runV (As := []) (rest := [.int p1]) ⟨hx, hb, hml, hown, hta⟩ (c_X1_subpathCount l dC dI cI H.size a2 v2_0 u_1 hu_1) (cwV 0 hta (ga_V mA112 mA113 mA114 mA6 mA115) rfl rfl rfl (by decide +kernel) ⟨Nat.le_of_ble_eq_true rfl, Nat.le_of_ble_eq_true rfl⟩) ⟨q_fb, va_recv hK hP (ci := 1) (q0 := 1) rfl rfl, q_ps hPc hK hDc⟩ rfl rfl hl.1 rfl (lv_room (Nat.le_of_ble_eq_true rfl)) dX11_subpath_5 ⟨Nat.zero_le _, Nat.zero_le _⟩) (fun H locs hP hD hS => ?_)
  refine obx_elim hF (fun x_3 hx_3 hF => ?_) (fun u_2 hu_2 hF => ?_)
  · exact absurd hF no_rl
  have hPc := hP.sub (ws' := ([] : va_W)) [] rfl
  have hDc := hD.sub (ws' := ([] : va_W)) [] rfl rfl
  refine q_callv (wc := ([] : va_W)) (w1 := ([] : va_W)) (ws' := (wd_X11_subpath cI a0 a1 a2 a3 a4 a5 a6 a7 a8 a9 a10 v2_0 v5_3 v5_4 v5_5 v5_6 v5_7 v8_10 v8_0 v8_1 v8_2 v8_3 v8_4 v8_5 v8_6 v8_7 v8_8 v8_9)) hP hD hS hA [] [0, 1, 2, 3, 4, 5, 6, 7, 8, 9, 10, 11, 12, 13, 14] [0, 1, 2, 3, 4, 5, 6, 7, 8, 9, 10, 11, 12, 13, 14] rfl rfl rfl (by decide) rfl rfl (va_runS (As := [.int p1, .int u_1]) (rest := []) ⟨hx, hb, hml, hown, hta⟩ (c_X11_checkIndex l dC dI cI H.size p1 u_1 u_2 hu_2) (va_cwS 2 hta (ga_S mA244 mA245 mA108 mA246) rfl rfl rfl (by decide +kernel) ⟨Nat.le_of_ble_eq_true rfl, Nat.le_of_ble_eq_true rfl⟩) ⟨q_fb, q_ps hPc hK hDc⟩ rfl rfl hl.1 rfl (lv_room (Nat.le_of_ble_eq_true rfl)) dX11_subpath_8 ⟨Nat.zero_le _, Nat.zero_le _⟩) (fun H locs hP hD hS => ?_)
  refine lv_iload_n hx hb dX11_subpath_11 rfl (lv_at hl 2 rfl) ?_
  refine lv_iconst (v := 0) hx hb dX11_subpath_12 (by decide) ?_
  refine lv_iconst (v := 3) hx hb dX11_subpath_13 (by decide) ?_
  refine obx_elim hF (fun x_5 hx_5 hF => ?_) (fun u_4 hu_4 hF => ?_)
  · exact absurd hF no_rl
  have hPc := hP.sub (ws' := ([] : va_W)) [] rfl
  have hDc := hD.sub (ws' := ([] : va_W)) [] rfl rfl
  refine q_callv (wc := ([] : va_W)) (w1 := ([] : va_W)) (ws' := (wd_X11_subpath cI a0 a1 a2 a3 a4 a5 a6 a7 a8 a9 a10 v2_0 v5_3 v5_4 v5_5 v5_6 v5_7 v8_10 v8_0 v8_1 v8_2 v8_3 v8_4 v8_5 v8_6 v8_7 v8_8 v8_9)) hP hD hS hA [] [0, 1, 2, 3, 4, 5, 6, 7, 8, 9, 10, 11, 12, 13, 14] [0, 1, 2, 3, 4, 5, 6, 7, 8, 9, 10, 11, 12, 13, 14] rfl rfl rfl (by decide) rfl rfl (va_runS (As := [.int p2, .int 0, .int 3]) (rest := []) ⟨hx, hb, hml, hown, hta⟩ (c_X11_checkRange l dC dI cI H.size p2 0 3 u_4 hu_4) (va_cwS 3 hta (ga_S mA106 mA107 mA108 mA109) rfl rfl rfl (by decide +kernel) ⟨Nat.le_of_ble_eq_true rfl, Nat.le_of_ble_eq_true rfl⟩) ⟨q_fb, q_ps hPc hK hDc⟩ rfl rfl hl.1 rfl (lv_room (Nat.le_of_ble_eq_true rfl)) dX11_subpath_14 ⟨Nat.zero_le _, Nat.zero_le _⟩) (fun H locs hP hD hS => ?_)
  refine lv_aload_n hx hb dX11_subpath_17 rfl (lv_at hl 0 rfl) ?_
  refine lv_iload_n hx hb dX11_subpath_18 rfl (lv_at hl 1 rfl) ?_
  refine lv_iload_n hx hb dX11_subpath_19 rfl (lv_at hl 2 rfl) ?_
  obtain ⟨u_6, hu_6, hF⟩ := obd_some hF
  have hPc := hP.sub (ws' := (wd_X11_aboutSubpath cI a0 a1 a2 a3 a4 a5 a6 a7 a8 a9 a10 v2_0 v5_3 v5_4 v5_5 v5_6 v5_7 v8_10 v8_0 v8_1 v8_2 v8_3 v8_4 v8_5 v8_6 v8_7 v8_8 v8_9)) [0, 1, 2, 3, 4, 5, 6, 7, 8, 9, 10, 11, 12, 13, 14] rfl
  have hDc := hD.sub (ws' := (wd_X11_aboutSubpath cI a0 a1 a2 a3 a4 a5 a6 a7 a8 a9 a10 v2_0 v5_3 v5_4 v5_5 v5_6 v5_7 v8_10 v8_0 v8_1 v8_2 v8_3 v8_4 v8_5 v8_6 v8_7 v8_8 v8_9)) [0, 1, 2, 3, 4, 5, 6, 7, 8, 9, 10, 11, 12, 13, 14] rfl rfl
  refine q_calli (wc := (wd_X11_aboutSubpath cI a0 a1 a2 a3 a4 a5 a6 a7 a8 a9 a10 v2_0 v5_3 v5_4 v5_5 v5_6 v5_7 v8_10 v8_0 v8_1 v8_2 v8_3 v8_4 v8_5 v8_6 v8_7 v8_8 v8_9)) (w1 := (wd_X11_aboutSubpath cI a0 a1 a2 a3 a4 a5 a6 a7 a8 a9 a10 v2_0 u_6.2.1 v5_4 v5_5 v5_6 v5_7 u_6.2.2.1 u_6.2.2.2.1 u_6.2.2.2.2.1 u_6.2.2.2.2.2.1 u_6.2.2.2.2.2.2.1 u_6.2.2.2.2.2.2.2.1 u_6.2.2.2.2.2.2.2.2.1 u_6.2.2.2.2.2.2.2.2.2.1 u_6.2.2.2.2.2.2.2.2.2.2.1 u_6.2.2.2.2.2.2.2.2.2.2.2.1 u_6.2.2.2.2.2.2.2.2.2.2.2.2)) (ws' := (wd_X11_subpath cI a0 a1 a2 a3 a4 a5 a6 a7 a8 a9 a10 v2_0 u_6.2.1 v5_4 v5_5 v5_6 v5_7 u_6.2.2.1 u_6.2.2.2.1 u_6.2.2.2.2.1 u_6.2.2.2.2.2.1 u_6.2.2.2.2.2.2.1 u_6.2.2.2.2.2.2.2.1 u_6.2.2.2.2.2.2.2.2.1 u_6.2.2.2.2.2.2.2.2.2.1 u_6.2.2.2.2.2.2.2.2.2.2.1 u_6.2.2.2.2.2.2.2.2.2.2.2.1 u_6.2.2.2.2.2.2.2.2.2.2.2.2)) hP hD hS hA [0, 1, 2, 3, 4, 5, 6, 7, 8, 9, 10, 11, 12, 13, 14] [] [0, 1, 2, 3, 4, 5, 6, 7, 8, 9, 10, 11, 12, 13, 14] rfl rfl rfl (by decide) rfl rfl (va_runV (As := [.int p1, .int p2]) (rest := []) ⟨hx, hb, hml, hown, hta⟩ (c_X11_aboutSubpath l dC dI cI H.size a0 a1 a2 a3 a4 a5 a6 a7 a8 a9 a10 v2_0 v5_3 v5_4 v5_5 v5_6 v5_7 v8_10 v8_0 v8_1 v8_2 v8_3 v8_4 v8_5 v8_6 v8_7 v8_8 v8_9 p1 p2 n u_6 hu_6) (cwV 2 hta (ga_V mA309 mA310 mA311 mA108 mA312) rfl rfl rfl (by decide +kernel) ⟨Nat.le_of_ble_eq_true rfl, Nat.le_of_ble_eq_true rfl⟩) ⟨q_fb, va_recv hK hP (ci := 10) (q0 := 0) rfl rfl, q_ps hPc hK hDc⟩ rfl rfl hl.1 rfl (lv_room (Nat.le_of_ble_eq_true rfl)) dX11_subpath_20 ⟨Nat.zero_le _, Nat.zero_le _⟩) (fun H locs hP hD hS => ?_)
  obtain rfl := Sum.inl.inj (Option.some.inj hF)
  exact W.iret (v := u_6.1) hx hb hr (fun t ht hW => ⟨⟨u_6.1, (), rfl, rfl, by rw [ht]; exact hP, va_K.moved hW.alike hK, hD⟩, hS.F ht⟩) hS.2.2 dX11_subpath_23
abbrev rmx_X11_subpath : Room := { frames := 7, cells := 1, slots := 6, locals := 131 }
abbrev XC_X11_subpath (dC : Nat → ClassId) (dI : Nat → Nat → Nat) (cI : ClassId) (a0 : Nat → Nat) (a1 : Nat → Nat) (a2 : Nat → Nat) (a3 : Nat → Nat) (a4 : Nat → Nat) (a5 : Nat → Nat) (a6 : Nat → Nat) (a7 : Nat → Nat) (a8 : Nat → Nat) (a9 : Nat → Nat) (a10 : Nat → Nat) (v2_0 : Nat → Int32) (v5_4 : Int32) (v5_5 : Int32) (v5_6 : Int32) (v5_7 : Int32) (x : (Nat × Int32 × Int32 × (Nat → Int32) × (Nat → Int32) × (Nat → Int32) × (Nat → Int32) × (Nat → Int32) × (Nat → Int32) × (Nat → Int32) × (Nat → Int32) × (Nat → Int32) × (Nat → Int32))) (A : Nat → Prop) : String → State → State → Prop := vx_X (fun (_ : Unit) => True) (fun E _ t => E = exN x.1 ∧ q_at dC dI cI A (wd_X11_subpath cI a0 a1 a2 a3 a4 a5 a6 a7 a8 a9 a10 v2_0 x.2.1 v5_4 v5_5 v5_6 v5_7 x.2.2.1 x.2.2.2.1 x.2.2.2.2.1 x.2.2.2.2.2.1 x.2.2.2.2.2.2.1 x.2.2.2.2.2.2.2.1 x.2.2.2.2.2.2.2.2.1 x.2.2.2.2.2.2.2.2.2.1 x.2.2.2.2.2.2.2.2.2.2.1 x.2.2.2.2.2.2.2.2.2.2.2.1 x.2.2.2.2.2.2.2.2.2.2.2.2) t) A
set_option maxHeartbeats 4000000 in
set_option maxRecDepth 100000 in
theorem c_X11_subpath_x (l : Launch) (hlt : l.stackTraces = false) (S : Nat → Nat) (dC : Nat → ClassId) (dI : Nat → Nat → Nat) (cI : ClassId) (sz : Nat) (a0 : Nat → Nat) (a1 : Nat → Nat) (a2 : Nat → Nat) (a3 : Nat → Nat) (a4 : Nat → Nat) (a5 : Nat → Nat) (a6 : Nat → Nat) (a7 : Nat → Nat) (a8 : Nat → Nat) (a9 : Nat → Nat) (a10 : Nat → Nat) (v2_0 : Nat → Int32) (v5_3 : Int32) (v5_4 : Int32) (v5_5 : Int32) (v5_6 : Int32) (v5_7 : Int32) (v8_10 : Int32) (v8_0 : Nat → Int32) (v8_1 : Nat → Int32) (v8_2 : Nat → Int32) (v8_3 : Nat → Int32) (v8_4 : Nat → Int32) (v8_5 : Nat → Int32) (v8_6 : Nat → Int32) (v8_7 : Nat → Int32) (v8_8 : Nat → Int32) (v8_9 : Nat → Int32) (p1 : Int32) (p2 : Int32) (n : Nat) (x : (Nat × Int32 × Int32 × (Nat → Int32) × (Nat → Int32) × (Nat → Int32) × (Nat → Int32) × (Nat → Int32) × (Nat → Int32) × (Nat → Int32) × (Nat → Int32) × (Nat → Int32) × (Nat → Int32))) (hF : F_X11_subpath n v2_0 v5_3 v8_10 v8_0 v8_1 v8_2 v8_3 v8_4 v8_5 v8_6 v8_7 v8_8 v8_9 p1 p2 = some (.inr x)) : vx_Met l yX11_subpath wz_X11_subpath rmx_X11_subpath (va_Pc [.ref (a0 0), .int p1, .int p2] (qx_pre S dC dI cI (wd_X11_subpath cI a0 a1 a2 a3 a4 a5 a6 a7 a8 a9 a10 v2_0 v5_3 v5_4 v5_5 v5_6 v5_7 v8_10 v8_0 v8_1 v8_2 v8_3 v8_4 v8_5 v8_6 v8_7 v8_8 v8_9) sz)) (va_Qv (fun (_ : Unit) => False) (fun _ _ => True) (va_A (wd_X11_subpath cI a0 a1 a2 a3 a4 a5 a6 a7 a8 a9 a10 v2_0 v5_3 v5_4 v5_5 v5_6 v5_7 v8_10 v8_0 v8_1 v8_2 v8_3 v8_4 v8_5 v8_6 v8_7 v8_8 v8_9) sz)) (XC_X11_subpath dC dI cI a0 a1 a2 a3 a4 a5 a6 a7 a8 a9 a10 v2_0 v5_4 v5_5 v5_6 v5_7 x (va_A (wd_X11_subpath cI a0 a1 a2 a3 a4 a5 a6 a7 a8 a9 a10 v2_0 v5_3 v5_4 v5_5 v5_6 v5_7 v8_10 v8_0 v8_1 v8_2 v8_3 v8_4 v8_5 v8_6 v8_7 v8_8 v8_9) sz)) 1 6 (va_A (wd_X11_subpath cI a0 a1 a2 a3 a4 a5 a6 a7 a8 a9 a10 v2_0 v5_3 v5_4 v5_5 v5_6 v5_7 v8_10 v8_0 v8_1 v8_2 v8_3 v8_4 v8_5 v8_6 v8_7 v8_8 v8_9) sz) := by
  refine vx_ofW (cc := cX11_subpath) (maxL := 3) (ret := (some .int)) (by decide) rfl ?_
  intro p e s m args below meth c s₁ B hml hxt hv
  obtain ⟨rfl, ⟨hsz, hP, hK, hD0⟩, hE⟩ := hv
  have hx := B.exec
  have hb := B.bytes
  have hr := B.returns
  have hts := atoms_spec (ws := wz_X11_subpath) B.pre
  have hta := wz_tl hts
  have hown : s.vm.findClass RX11 = some m.cls := findClass_of_methodNamed B.named
  have hlocks := B.notSynchronized
  subst hsz
  have hD := hD0.self (sz := s.heap.size)
  generalize hAe : va_A (wd_X11_subpath cI a0 a1 a2 a3 a4 a5 a6 a7 a8 a9 a10 v2_0 v5_3 v5_4 v5_5 v5_6 v5_7 v8_10 v8_0 v8_1 v8_2 v8_3 v8_4 v8_5 v8_6 v8_7 v8_8 v8_9) s.heap.size = A at hD hE ⊢
  have hA : ∀ q : Nat, s.heap.size ≤ q → A q := fun q h => by rw [← hAe]; exact Or.inr h
  have hS : va_S A s.heap s.heap [] := va_S.rf
  have hP : va_P (dC, dI) vwCl (wd_X11_subpath cI a0 a1 a2 a3 a4 a5 a6 a7 a8 a9 a10 v2_0 v5_3 v5_4 v5_5 v5_6 v5_7 v8_10 v8_0 v8_1 v8_2 v8_3 v8_4 v8_5 v8_6 v8_7 v8_8 v8_9) s.heap := hP
  have hl := lv_entry ([.ref (a0 0), .int p1, .int p2]) (n := 3) (Nat.le_of_ble_eq_true rfl)
  rw [lg_entry_eq]
  generalize (lg_sl ([.ref (a0 0), .int p1, .int p2]) ++ List.replicate (3 - (lg_sl ([.ref (a0 0), .int p1, .int p2])).length) Slot.unset).toArray = ls at hl ⊢
  have hl : lv_has ls 3 [(0, .ref (a0 0)), (1, .int p1), (2, .int p2)] := hl
  obtain ⟨H, hHe⟩ : ∃ H, H = s.heap := ⟨_, rfl⟩
  have hS : va_S A s.heap H [] := by rw [hHe]; exact hS
  have hP : va_P (dC, dI) vwCl (wd_X11_subpath cI a0 a1 a2 a3 a4 a5 a6 a7 a8 a9 a10 v2_0 v5_3 v5_4 v5_5 v5_6 v5_7 v8_10 v8_0 v8_1 v8_2 v8_3 v8_4 v8_5 v8_6 v8_7 v8_8 v8_9) H := by rw [hHe]; exact hP
  rw [← hHe]
  unfold F_X11_subpath at hF
  refine lv_iload_n hx hb dX11_subpath_0 rfl (lv_at hl 1 rfl) ?_
  refine lv_aload_n hx hb dX11_subpath_1 rfl (lv_at hl 0 rfl) ?_
  refine va_get (D := (dC, dI)) (ci := 10) (v := .ref (a2 0)) (C := RX11) (T := TX11) (N := 7) hx hb hta uw_X11 hown hK hP 0 rfl rfl 0 (by decide) (hta _ mA7) (fun _ h9 => h9) rfl dX11_subpath_2 ?_
  obtain ⟨u_1, hu_1, hF⟩ := obd_some hF
  have hPc := hP.sub (ws' := (wd_X1_subpathCount cI a2 v2_0)) [1, 2] rfl
  have hDc := hD.sub (ws' := (wd_X1_subpathCount cI a2 v2_0)) [1, 2] rfl rfl
  refine q_calli (wc := (wd_X1_subpathCount cI a2 v2_0)) (w1 := (wd_X1_subpathCount cI a2 v2_0)) (ws' := (wd_X11_subpath cI a0 a1 a2 a3 a4 a5 a6 a7 a8 a9 a10 v2_0 v5_3 v5_4 v5_5 v5_6 v5_7 v8_10 v8_0 v8_1 v8_2 v8_3 v8_4 v8_5 v8_6 v8_7 v8_8 v8_9)) hP hD hS hA [1, 2] [0, 3, 4, 5, 6, 7, 8, 9, 10, 11, 12, 13, 14] [0, 13, 14, 1, 2, 3, 4, 5, 6, 7, 8, 9, 10, 11, 12] rfl rfl rfl (by decide) rfl rfl (va_runV (As := []) (rest := [.int p1]) ⟨hx, hb, hml, hown, hta⟩ (c_X1_subpathCount l dC dI cI H.size a2 v2_0 u_1 hu_1) (cwV 0 hta (ga_V mA112 mA113 mA114 mA6 mA115) rfl rfl rfl (by decide +kernel) ⟨Nat.le_of_ble_eq_true rfl, Nat.le_of_ble_eq_true rfl⟩) ⟨q_fb, va_recv hK hP (ci := 1) (q0 := 1) rfl rfl, q_ps hPc hK hDc⟩ rfl rfl hl.1 rfl (lv_room (Nat.le_of_ble_eq_true rfl)) dX11_subpath_5 ⟨Nat.zero_le _, Nat.zero_le _⟩) (fun H locs hP hD hS => ?_)
  refine obx_elim hF (fun x_3 hx_3 hF => ?_) (fun u_2 hu_2 hF => ?_)
  · obtain rfl := Sum.inr.inj (Option.some.inj hF)
    have hPc := hP.sub (ws' := ([] : va_W)) [] rfl
    have hDc := hD.sub (ws' := ([] : va_W)) [] rfl rfl
    refine qx_thr (kd := x_3) hP hD hK hS hA hxt hlocks (vx_runS (As := [.int p1, .int u_1]) (rest := []) ⟨hx, hb, hml, hown, hta⟩ (c_X11_checkIndex_x l hlt S dC dI cI H.size p1 u_1 x_3 hx_3) (va_cwS 2 hta (ga_S mA244 mA245 mA108 mA246) rfl rfl rfl (by decide +kernel) ⟨Nat.le_of_ble_eq_true rfl, Nat.le_of_ble_eq_true rfl⟩) ⟨qx_fb, qx_ps hPc hK hDc hE hS (va_free (wc := ([] : va_W)) hD hS hA [] rfl)⟩ rfl rfl hl.1 rfl (lv_room (Nat.le_of_ble_eq_true rfl)) dX11_subpath_8 ⟨Nat.le_of_ble_eq_true rfl, Nat.le_of_ble_eq_true rfl⟩) (fun t hP hK hF9 => ⟨(), trivial, ⟨rfl, hP, hK, hD⟩, hF9⟩) (Nat.le_of_ble_eq_true rfl) (Nat.le_of_ble_eq_true rfl)
  have hPc := hP.sub (ws' := ([] : va_W)) [] rfl
  have hDc := hD.sub (ws' := ([] : va_W)) [] rfl rfl
  refine q_callv (wc := ([] : va_W)) (w1 := ([] : va_W)) (ws' := (wd_X11_subpath cI a0 a1 a2 a3 a4 a5 a6 a7 a8 a9 a10 v2_0 v5_3 v5_4 v5_5 v5_6 v5_7 v8_10 v8_0 v8_1 v8_2 v8_3 v8_4 v8_5 v8_6 v8_7 v8_8 v8_9)) hP hD hS hA [] [0, 1, 2, 3, 4, 5, 6, 7, 8, 9, 10, 11, 12, 13, 14] [0, 1, 2, 3, 4, 5, 6, 7, 8, 9, 10, 11, 12, 13, 14] rfl rfl rfl (by decide) rfl rfl (va_runS (As := [.int p1, .int u_1]) (rest := []) ⟨hx, hb, hml, hown, hta⟩ (c_X11_checkIndex l dC dI cI H.size p1 u_1 u_2 hu_2) (va_cwS 2 hta (ga_S mA244 mA245 mA108 mA246) rfl rfl rfl (by decide +kernel) ⟨Nat.le_of_ble_eq_true rfl, Nat.le_of_ble_eq_true rfl⟩) ⟨q_fb, q_ps hPc hK hDc⟩ rfl rfl hl.1 rfl (lv_room (Nat.le_of_ble_eq_true rfl)) dX11_subpath_8 ⟨Nat.zero_le _, Nat.zero_le _⟩) (fun H locs hP hD hS => ?_)
  refine lv_iload_n hx hb dX11_subpath_11 rfl (lv_at hl 2 rfl) ?_
  refine lv_iconst (v := 0) hx hb dX11_subpath_12 (by decide) ?_
  refine lv_iconst (v := 3) hx hb dX11_subpath_13 (by decide) ?_
  refine obx_elim hF (fun x_5 hx_5 hF => ?_) (fun u_4 hu_4 hF => ?_)
  · obtain rfl := Sum.inr.inj (Option.some.inj hF)
    have hPc := hP.sub (ws' := ([] : va_W)) [] rfl
    have hDc := hD.sub (ws' := ([] : va_W)) [] rfl rfl
    refine qx_thr (kd := x_5) hP hD hK hS hA hxt hlocks (vx_runS (As := [.int p2, .int 0, .int 3]) (rest := []) ⟨hx, hb, hml, hown, hta⟩ (c_X11_checkRange_x l hlt S dC dI cI H.size p2 0 3 x_5 hx_5) (va_cwS 3 hta (ga_S mA106 mA107 mA108 mA109) rfl rfl rfl (by decide +kernel) ⟨Nat.le_of_ble_eq_true rfl, Nat.le_of_ble_eq_true rfl⟩) ⟨qx_fb, qx_ps hPc hK hDc hE hS (va_free (wc := ([] : va_W)) hD hS hA [] rfl)⟩ rfl rfl hl.1 rfl (lv_room (Nat.le_of_ble_eq_true rfl)) dX11_subpath_14 ⟨Nat.le_of_ble_eq_true rfl, Nat.le_of_ble_eq_true rfl⟩) (fun t hP hK hF9 => ⟨(), trivial, ⟨rfl, hP, hK, hD⟩, hF9⟩) (Nat.le_of_ble_eq_true rfl) (Nat.le_of_ble_eq_true rfl)
  have hPc := hP.sub (ws' := ([] : va_W)) [] rfl
  have hDc := hD.sub (ws' := ([] : va_W)) [] rfl rfl
  refine q_callv (wc := ([] : va_W)) (w1 := ([] : va_W)) (ws' := (wd_X11_subpath cI a0 a1 a2 a3 a4 a5 a6 a7 a8 a9 a10 v2_0 v5_3 v5_4 v5_5 v5_6 v5_7 v8_10 v8_0 v8_1 v8_2 v8_3 v8_4 v8_5 v8_6 v8_7 v8_8 v8_9)) hP hD hS hA [] [0, 1, 2, 3, 4, 5, 6, 7, 8, 9, 10, 11, 12, 13, 14] [0, 1, 2, 3, 4, 5, 6, 7, 8, 9, 10, 11, 12, 13, 14] rfl rfl rfl (by decide) rfl rfl (va_runS (As := [.int p2, .int 0, .int 3]) (rest := []) ⟨hx, hb, hml, hown, hta⟩ (c_X11_checkRange l dC dI cI H.size p2 0 3 u_4 hu_4) (va_cwS 3 hta (ga_S mA106 mA107 mA108 mA109) rfl rfl rfl (by decide +kernel) ⟨Nat.le_of_ble_eq_true rfl, Nat.le_of_ble_eq_true rfl⟩) ⟨q_fb, q_ps hPc hK hDc⟩ rfl rfl hl.1 rfl (lv_room (Nat.le_of_ble_eq_true rfl)) dX11_subpath_14 ⟨Nat.zero_le _, Nat.zero_le _⟩) (fun H locs hP hD hS => ?_)
  refine lv_aload_n hx hb dX11_subpath_17 rfl (lv_at hl 0 rfl) ?_
  refine lv_iload_n hx hb dX11_subpath_18 rfl (lv_at hl 1 rfl) ?_
  refine lv_iload_n hx hb dX11_subpath_19 rfl (lv_at hl 2 rfl) ?_
  obtain ⟨u_6, hu_6, hF⟩ := obd_some hF
  have hPc := hP.sub (ws' := (wd_X11_aboutSubpath cI a0 a1 a2 a3 a4 a5 a6 a7 a8 a9 a10 v2_0 v5_3 v5_4 v5_5 v5_6 v5_7 v8_10 v8_0 v8_1 v8_2 v8_3 v8_4 v8_5 v8_6 v8_7 v8_8 v8_9)) [0, 1, 2, 3, 4, 5, 6, 7, 8, 9, 10, 11, 12, 13, 14] rfl
  have hDc := hD.sub (ws' := (wd_X11_aboutSubpath cI a0 a1 a2 a3 a4 a5 a6 a7 a8 a9 a10 v2_0 v5_3 v5_4 v5_5 v5_6 v5_7 v8_10 v8_0 v8_1 v8_2 v8_3 v8_4 v8_5 v8_6 v8_7 v8_8 v8_9)) [0, 1, 2, 3, 4, 5, 6, 7, 8, 9, 10, 11, 12, 13, 14] rfl rfl
  refine q_calli (wc := (wd_X11_aboutSubpath cI a0 a1 a2 a3 a4 a5 a6 a7 a8 a9 a10 v2_0 v5_3 v5_4 v5_5 v5_6 v5_7 v8_10 v8_0 v8_1 v8_2 v8_3 v8_4 v8_5 v8_6 v8_7 v8_8 v8_9)) (w1 := (wd_X11_aboutSubpath cI a0 a1 a2 a3 a4 a5 a6 a7 a8 a9 a10 v2_0 u_6.2.1 v5_4 v5_5 v5_6 v5_7 u_6.2.2.1 u_6.2.2.2.1 u_6.2.2.2.2.1 u_6.2.2.2.2.2.1 u_6.2.2.2.2.2.2.1 u_6.2.2.2.2.2.2.2.1 u_6.2.2.2.2.2.2.2.2.1 u_6.2.2.2.2.2.2.2.2.2.1 u_6.2.2.2.2.2.2.2.2.2.2.1 u_6.2.2.2.2.2.2.2.2.2.2.2.1 u_6.2.2.2.2.2.2.2.2.2.2.2.2)) (ws' := (wd_X11_subpath cI a0 a1 a2 a3 a4 a5 a6 a7 a8 a9 a10 v2_0 u_6.2.1 v5_4 v5_5 v5_6 v5_7 u_6.2.2.1 u_6.2.2.2.1 u_6.2.2.2.2.1 u_6.2.2.2.2.2.1 u_6.2.2.2.2.2.2.1 u_6.2.2.2.2.2.2.2.1 u_6.2.2.2.2.2.2.2.2.1 u_6.2.2.2.2.2.2.2.2.2.1 u_6.2.2.2.2.2.2.2.2.2.2.1 u_6.2.2.2.2.2.2.2.2.2.2.2.1 u_6.2.2.2.2.2.2.2.2.2.2.2.2)) hP hD hS hA [0, 1, 2, 3, 4, 5, 6, 7, 8, 9, 10, 11, 12, 13, 14] [] [0, 1, 2, 3, 4, 5, 6, 7, 8, 9, 10, 11, 12, 13, 14] rfl rfl rfl (by decide) rfl rfl (va_runV (As := [.int p1, .int p2]) (rest := []) ⟨hx, hb, hml, hown, hta⟩ (c_X11_aboutSubpath l dC dI cI H.size a0 a1 a2 a3 a4 a5 a6 a7 a8 a9 a10 v2_0 v5_3 v5_4 v5_5 v5_6 v5_7 v8_10 v8_0 v8_1 v8_2 v8_3 v8_4 v8_5 v8_6 v8_7 v8_8 v8_9 p1 p2 n u_6 hu_6) (cwV 2 hta (ga_V mA309 mA310 mA311 mA108 mA312) rfl rfl rfl (by decide +kernel) ⟨Nat.le_of_ble_eq_true rfl, Nat.le_of_ble_eq_true rfl⟩) ⟨q_fb, va_recv hK hP (ci := 10) (q0 := 0) rfl rfl, q_ps hPc hK hDc⟩ rfl rfl hl.1 rfl (lv_room (Nat.le_of_ble_eq_true rfl)) dX11_subpath_20 ⟨Nat.zero_le _, Nat.zero_le _⟩) (fun H locs hP hD hS => ?_)
  exact absurd hF no_lr

-- StrokeOutliner.point(IIZ)I
def F_X11_point (v2_0 : Nat → Int32) (p1 : Int32) (p2 : Int32) (p3 : Int32) : Option (Sum (Int32) (Nat)) :=
  obd (F_X1_subpathCount v2_0) (fun u_1 => obx (F_X11_checkIndex p1 u_1) (fun x_3 => some (.inr x_3)) (fun u_2 => obd (F_X1_pointCount v2_0 p1) (fun u_4 => obx (F_X11_checkIndex p2 u_4) (fun x_6 => some (.inr x_6)) (fun u_5 => if p3 = 0 then obd (F_X1_xOf v2_0 p1 p2) (fun u_8 => some (.inl u_8)) else obd (F_X1_yOf v2_0 p1 p2) (fun u_9 => some (.inl u_9))))))
abbrev wd_X11_point (cI : ClassId) (a0 : Nat → Nat) (a1 : Nat → Nat) (a2 : Nat → Nat) (a3 : Nat → Nat) (a4 : Nat → Nat) (a5 : Nat → Nat) (a6 : Nat → Nat) (a7 : Nat → Nat) (v2_0 : Nat → Int32) : va_W := [(a0 0, .inr (10, [.ref (a2 0), .ref (a1 0), .ref (a4 0), .ref (a6 0), .ref (a7 0), .ref (a5 0), .ref (a3 0)])), (a2 0, .inr (1, [.ref (a2 1)])), (a2 1, .inl (cI, 86, .inl v2_0))]
abbrev wz_X11_point : List Cond := .code yX11_point cX11_point 4 (some .int) :: wALL
abbrev rm_X11_point : Room := { frames := 2, cells := 0, slots := 0, locals := 43 }
abbrev Q_X11_point (dC : Nat → ClassId) (dI : Nat → Nat → Nat) (cI : ClassId) (a0 : Nat → Nat) (a1 : Nat → Nat) (a2 : Nat → Nat) (a3 : Nat → Nat) (a4 : Nat → Nat) (a5 : Nat → Nat) (a6 : Nat → Nat) (a7 : Nat → Nat) (v2_0 : Nat → Int32) (u : (Int32)) (A : Nat → Prop) : Array Value → State → Outcome → State → Prop := va_Qi (fun (r : Int32) (_ : Unit) => r = u) (fun _ => q_at dC dI cI A (wd_X11_point cI a0 a1 a2 a3 a4 a5 a6 a7 v2_0)) A
set_option maxHeartbeats 4000000 in
set_option maxRecDepth 100000 in
theorem c_X11_point (l : Launch) (dC : Nat → ClassId) (dI : Nat → Nat → Nat) (cI : ClassId) (sz : Nat) (a0 : Nat → Nat) (a1 : Nat → Nat) (a2 : Nat → Nat) (a3 : Nat → Nat) (a4 : Nat → Nat) (a5 : Nat → Nat) (a6 : Nat → Nat) (a7 : Nat → Nat) (v2_0 : Nat → Int32) (p1 : Int32) (p2 : Int32) (p3 : Int32) (u : (Int32)) (hF : F_X11_point v2_0 p1 p2 p3 = some (.inl u)) : Met l yX11_point wz_X11_point rm_X11_point (va_Pc [.ref (a0 0), .int p1, .int p2, .int p3] (q_pre dC dI cI (wd_X11_point cI a0 a1 a2 a3 a4 a5 a6 a7 v2_0) sz)) (Q_X11_point dC dI cI a0 a1 a2 a3 a4 a5 a6 a7 v2_0 u (va_A (wd_X11_point cI a0 a1 a2 a3 a4 a5 a6 a7 v2_0) sz)) 0 0 (va_A (wd_X11_point cI a0 a1 a2 a3 a4 a5 a6 a7 v2_0) sz) := by
  refine Met.ofW (cc := cX11_point) (maxL := 4) (ret := (some .int)) (by decide) rfl ?_
  intro p e s m args below meth c s₁ B hml hv
  obtain ⟨rfl, hsz, hP, hK, hD0⟩ := hv
  have hx := B.exec
  have hb := B.bytes
  have hr := B.returns
  have hts := atoms_spec (ws := wz_X11_point) B.pre
  have hta := wz_tl hts
  have hown : s.vm.findClass RX11 = some m.cls := findClass_of_methodNamed B.named
  have hlocks := B.notSynchronized
  subst hsz
  have hD := hD0.self (sz := s.heap.size)
  generalize hAe : va_A (wd_X11_point cI a0 a1 a2 a3 a4 a5 a6 a7 v2_0) s.heap.size = A at hD ⊢
  have hA : ∀ q : Nat, s.heap.size ≤ q → A q := fun q h => by rw [← hAe]; exact Or.inr h
  have hS : va_S A s.heap s.heap [] := va_S.rf
  have hP : va_P (dC, dI) vwCl (wd_X11_point cI a0 a1 a2 a3 a4 a5 a6 a7 v2_0) s.heap := hP
  have hl := lv_entry ([.ref (a0 0), .int p1, .int p2, .int p3]) (n := 4) (Nat.le_of_ble_eq_true rfl)
  rw [lg_entry_eq]
  generalize (lg_sl ([.ref (a0 0), .int p1, .int p2, .int p3]) ++ List.replicate (4 - (lg_sl ([.ref (a0 0), .int p1, .int p2, .int p3])).length) Slot.unset).toArray = ls at hl ⊢
  have hl : lv_has ls 4 [(0, .ref (a0 0)), (1, .int p1), (2, .int p2), (3, .int p3)] := hl
  obtain ⟨H, hHe⟩ : ∃ H, H = s.heap := ⟨_, rfl⟩
  have hS : va_S A s.heap H [] := by rw [hHe]; exact hS
  have hP : va_P (dC, dI) vwCl (wd_X11_point cI a0 a1 a2 a3 a4 a5 a6 a7 v2_0) H := by rw [hHe]; exact hP
  rw [← hHe]
  unfold F_X11_point at hF
  refine lv_iload_n hx hb dX11_point_0 rfl (lv_at hl 1 rfl) ?_
  refine lv_aload_n hx hb dX11_point_1 rfl (lv_at hl 0 rfl) ?_
  refine va_get (D := (dC, dI)) (ci := 10) (v := .ref (a2 0)) (C := RX11) (T := TX11) (N := 7) hx hb hta uw_X11 hown hK hP 0 rfl rfl 0 (by decide) (hta _ mA7) (fun _ h9 => h9) rfl dX11_point_2 ?_
  obtain ⟨u_1, hu_1, hF⟩ := obd_some hF
  have hPc := hP.sub (ws' := (wd_X1_subpathCount cI a2 v2_0)) [1, 2] rfl
  have hDc := hD.sub (ws' := (wd_X1_subpathCount cI a2 v2_0)) [1, 2] rfl rfl
  refine q_calli (wc := (wd_X1_subpathCount cI a2 v2_0)) (w1 := (wd_X1_subpathCount cI a2 v2_0)) (ws' := (wd_X11_point cI a0 a1 a2 a3 a4 a5 a6 a7 v2_0)) hP hD hS hA [1, 2] [0] [0, 1, 2] rfl rfl rfl (by decide) rfl rfl (va_runV (As := []) (rest := [.int p1]) ⟨hx, hb, hml, hown, hta⟩ (c_X1_subpathCount l dC dI cI H.size a2 v2_0 u_1 hu_1) (cwV 0 hta (ga_V mA112 mA113 mA114 mA6 mA115) rfl rfl rfl (by decide +kernel) ⟨Nat.le_of_ble_eq_true rfl, Nat.le_of_ble_eq_true rfl⟩) ⟨q_fb, va_recv hK hP (ci := 1) (q0 := 1) rfl rfl, q_ps hPc hK hDc⟩ rfl rfl hl.1 rfl (lv_room (Nat.le_of_ble_eq_true rfl)) dX11_point_5 ⟨Nat.zero_le _, Nat.zero_le _⟩) (fun H locs hP hD hS => ?_)
  refine obx_elim hF (fun x_3 hx_3 hF => ?_) (fun u_2 hu_2 hF => ?_)
  · exact absurd hF no_rl
  have hPc := hP.sub (ws' := ([] : va_W)) [] rfl
  have hDc := hD.sub (ws' := ([] : va_W)) [] rfl rfl
  refine q_callv (wc := ([] : va_W)) (w1 := ([] : va_W)) (ws' := (wd_X11_point cI a0 a1 a2 a3 a4 a5 a6 a7 v2_0)) hP hD hS hA [] [0, 1, 2] [0, 1, 2] rfl rfl rfl (by decide) rfl rfl (va_runS (As := [.int p1, .int u_1]) (rest := []) ⟨hx, hb, hml, hown, hta⟩ (c_X11_checkIndex l dC dI cI H.size p1 u_1 u_2 hu_2) (va_cwS 2 hta (ga_S mA244 mA245 mA108 mA246) rfl rfl rfl (by decide +kernel) ⟨Nat.le_of_ble_eq_true rfl, Nat.le_of_ble_eq_true rfl⟩) ⟨q_fb, q_ps hPc hK hDc⟩ rfl rfl hl.1 rfl (lv_room (Nat.le_of_ble_eq_true rfl)) dX11_point_8 ⟨Nat.zero_le _, Nat.zero_le _⟩) (fun H locs hP hD hS => ?_)
  refine lv_iload_n hx hb dX11_point_11 rfl (lv_at hl 2 rfl) ?_
  refine lv_aload_n hx hb dX11_point_12 rfl (lv_at hl 0 rfl) ?_
  refine va_get (D := (dC, dI)) (ci := 10) (v := .ref (a2 0)) (C := RX11) (T := TX11) (N := 7) hx hb hta uw_X11 hown hK hP 0 rfl rfl 0 (by decide) (hta _ mA7) (fun _ h9 => h9) rfl dX11_point_13 ?_
  refine lv_iload_n hx hb dX11_point_16 rfl (lv_at hl 1 rfl) ?_
  obtain ⟨u_4, hu_4, hF⟩ := obd_some hF
  have hPc := hP.sub (ws' := (wd_X1_pointCount cI a2 v2_0)) [1, 2] rfl
  have hDc := hD.sub (ws' := (wd_X1_pointCount cI a2 v2_0)) [1, 2] rfl rfl
  refine q_calli (wc := (wd_X1_pointCount cI a2 v2_0)) (w1 := (wd_X1_pointCount cI a2 v2_0)) (ws' := (wd_X11_point cI a0 a1 a2 a3 a4 a5 a6 a7 v2_0)) hP hD hS hA [1, 2] [0] [0, 1, 2] rfl rfl rfl (by decide) rfl rfl (va_runV (As := [.int p1]) (rest := [.int p2]) ⟨hx, hb, hml, hown, hta⟩ (c_X1_pointCount l dC dI cI H.size a2 v2_0 p1 u_4 hu_4) (cwV 1 hta (ga_V mA185 mA169 mA170 mA6 mA171) rfl rfl rfl (by decide +kernel) ⟨Nat.le_of_ble_eq_true rfl, Nat.le_of_ble_eq_true rfl⟩) ⟨q_fb, va_recv hK hP (ci := 1) (q0 := 1) rfl rfl, q_ps hPc hK hDc⟩ rfl rfl hl.1 rfl (lv_room (Nat.le_of_ble_eq_true rfl)) dX11_point_17 ⟨Nat.zero_le _, Nat.zero_le _⟩) (fun H locs hP hD hS => ?_)
  refine obx_elim hF (fun x_6 hx_6 hF => ?_) (fun u_5 hu_5 hF => ?_)
  · exact absurd hF no_rl
  have hPc := hP.sub (ws' := ([] : va_W)) [] rfl
  have hDc := hD.sub (ws' := ([] : va_W)) [] rfl rfl
  refine q_callv (wc := ([] : va_W)) (w1 := ([] : va_W)) (ws' := (wd_X11_point cI a0 a1 a2 a3 a4 a5 a6 a7 v2_0)) hP hD hS hA [] [0, 1, 2] [0, 1, 2] rfl rfl rfl (by decide) rfl rfl (va_runS (As := [.int p2, .int u_4]) (rest := []) ⟨hx, hb, hml, hown, hta⟩ (c_X11_checkIndex l dC dI cI H.size p2 u_4 u_5 hu_5) (va_cwS 2 hta (ga_S mA244 mA245 mA108 mA246) rfl rfl rfl (by decide +kernel) ⟨Nat.le_of_ble_eq_true rfl, Nat.le_of_ble_eq_true rfl⟩) ⟨q_fb, q_ps hPc hK hDc⟩ rfl rfl hl.1 rfl (lv_room (Nat.le_of_ble_eq_true rfl)) dX11_point_20 ⟨Nat.zero_le _, Nat.zero_le _⟩) (fun H locs hP hD hS => ?_)
  refine lv_iload_n hx hb dX11_point_23 rfl (lv_at hl 3 rfl) ?_
  refine lv_if_eq (tgt := 39) hx hb dX11_point_24 (by decide) (fun c_7 => ?_) (fun c_7 => ?_)
  · have hF := it_t hF c_7
    refine lv_aload_n hx hb dX11_point_39 rfl (lv_at hl 0 rfl) ?_
    refine va_get (D := (dC, dI)) (ci := 10) (v := .ref (a2 0)) (C := RX11) (T := TX11) (N := 7) hx hb hta uw_X11 hown hK hP 0 rfl rfl 0 (by decide) (hta _ mA7) (fun _ h9 => h9) rfl dX11_point_40 ?_
    refine lv_iload_n hx hb dX11_point_43 rfl (lv_at hl 1 rfl) ?_
    refine lv_iload_n hx hb dX11_point_44 rfl (lv_at hl 2 rfl) ?_
    obtain ⟨u_8, hu_8, hF⟩ := obd_some hF
    have hPc := hP.sub (ws' := (wd_X1_xOf cI a2 v2_0)) [1, 2] rfl
    have hDc := hD.sub (ws' := (wd_X1_xOf cI a2 v2_0)) [1, 2] rfl rfl
    refine q_calli (wc := (wd_X1_xOf cI a2 v2_0)) (w1 := (wd_X1_xOf cI a2 v2_0)) (ws' := (wd_X11_point cI a0 a1 a2 a3 a4 a5 a6 a7 v2_0)) hP hD hS hA [1, 2] [0] [0, 1, 2] rfl rfl rfl (by decide) rfl rfl (va_runV (As := [.int p1, .int p2]) (rest := []) ⟨hx, hb, hml, hown, hta⟩ (c_X1_xOf l dC dI cI H.size a2 v2_0 p1 p2 u_8 hu_8) (cwV 2 hta (ga_V mA323 mA208 mA209 mA6 mA210) rfl rfl rfl (by decide +kernel) ⟨Nat.le_of_ble_eq_true rfl, Nat.le_of_ble_eq_true rfl⟩) ⟨q_fb, va_recv hK hP (ci := 1) (q0 := 1) rfl rfl, q_ps hPc hK hDc⟩ rfl rfl hl.1 rfl (lv_room (Nat.le_of_ble_eq_true rfl)) dX11_point_45 ⟨Nat.zero_le _, Nat.zero_le _⟩) (fun H locs hP hD hS => ?_)
    obtain rfl := Sum.inl.inj (Option.some.inj hF)
    exact W.iret (v := u_8) hx hb hr (fun t ht hW => ⟨⟨u_8, (), rfl, rfl, by rw [ht]; exact hP, va_K.moved hW.alike hK, hD⟩, hS.F ht⟩) hS.2.2 dX11_point_48
  · have hF := it_f hF c_7
    refine lv_aload_n hx hb dX11_point_27 rfl (lv_at hl 0 rfl) ?_
    refine va_get (D := (dC, dI)) (ci := 10) (v := .ref (a2 0)) (C := RX11) (T := TX11) (N := 7) hx hb hta uw_X11 hown hK hP 0 rfl rfl 0 (by decide) (hta _ mA7) (fun _ h9 => h9) rfl dX11_point_28 ?_
    refine lv_iload_n hx hb dX11_point_31 rfl (lv_at hl 1 rfl) ?_
    refine lv_iload_n hx hb dX11_point_32 rfl (lv_at hl 2 rfl) ?_
    obtain ⟨u_9, hu_9, hF⟩ := obd_some hF
    have hPc := hP.sub (ws' := (wd_X1_yOf cI a2 v2_0)) [1, 2] rfl
    have hDc := hD.sub (ws' := (wd_X1_yOf cI a2 v2_0)) [1, 2] rfl rfl
    refine q_calli (wc := (wd_X1_yOf cI a2 v2_0)) (w1 := (wd_X1_yOf cI a2 v2_0)) (ws' := (wd_X11_point cI a0 a1 a2 a3 a4 a5 a6 a7 v2_0)) hP hD hS hA [1, 2] [0] [0, 1, 2] rfl rfl rfl (by decide) rfl rfl (va_runV (As := [.int p1, .int p2]) (rest := []) ⟨hx, hb, hml, hown, hta⟩ (c_X1_yOf l dC dI cI H.size a2 v2_0 p1 p2 u_9 hu_9) (cwV 2 hta (ga_V mA322 mA212 mA213 mA6 mA214) rfl rfl rfl (by decide +kernel) ⟨Nat.le_of_ble_eq_true rfl, Nat.le_of_ble_eq_true rfl⟩) ⟨q_fb, va_recv hK hP (ci := 1) (q0 := 1) rfl rfl, q_ps hPc hK hDc⟩ rfl rfl hl.1 rfl (lv_room (Nat.le_of_ble_eq_true rfl)) dX11_point_33 ⟨Nat.zero_le _, Nat.zero_le _⟩) (fun H locs hP hD hS => ?_)
    refine lv_goto (tgt := 48) hx hb dX11_point_36 (by decide) ?_
    obtain rfl := Sum.inl.inj (Option.some.inj hF)
    exact W.iret (v := u_9) hx hb hr (fun t ht hW => ⟨⟨u_9, (), rfl, rfl, by rw [ht]; exact hP, va_K.moved hW.alike hK, hD⟩, hS.F ht⟩) hS.2.2 dX11_point_48
abbrev rmx_X11_point : Room := { frames := 7, cells := 1, slots := 6, locals := 103 }
abbrev XC_X11_point (dC : Nat → ClassId) (dI : Nat → Nat → Nat) (cI : ClassId) (a0 : Nat → Nat) (a1 : Nat → Nat) (a2 : Nat → Nat) (a3 : Nat → Nat) (a4 : Nat → Nat) (a5 : Nat → Nat) (a6 : Nat → Nat) (a7 : Nat → Nat) (v2_0 : Nat → Int32) (x : (Nat)) (A : Nat → Prop) : String → State → State → Prop := vx_X (fun (_ : Unit) => True) (fun E _ t => E = exN x ∧ q_at dC dI cI A (wd_X11_point cI a0 a1 a2 a3 a4 a5 a6 a7 v2_0) t) A
set_option maxHeartbeats 4000000 in
set_option maxRecDepth 100000 in
theorem c_X11_point_x (l : Launch) (hlt : l.stackTraces = false) (S : Nat → Nat) (dC : Nat → ClassId) (dI : Nat → Nat → Nat) (cI : ClassId) (sz : Nat) (a0 : Nat → Nat) (a1 : Nat → Nat) (a2 : Nat → Nat) (a3 : Nat → Nat) (a4 : Nat → Nat) (a5 : Nat → Nat) (a6 : Nat → Nat) (a7 : Nat → Nat) (v2_0 : Nat → Int32) (p1 : Int32) (p2 : Int32) (p3 : Int32) (x : (Nat)) (hF : F_X11_point v2_0 p1 p2 p3 = some (.inr x)) : vx_Met l yX11_point wz_X11_point rmx_X11_point (va_Pc [.ref (a0 0), .int p1, .int p2, .int p3] (qx_pre S dC dI cI (wd_X11_point cI a0 a1 a2 a3 a4 a5 a6 a7 v2_0) sz)) (va_Qv (fun (_ : Unit) => False) (fun _ _ => True) (va_A (wd_X11_point cI a0 a1 a2 a3 a4 a5 a6 a7 v2_0) sz)) (XC_X11_point dC dI cI a0 a1 a2 a3 a4 a5 a6 a7 v2_0 x (va_A (wd_X11_point cI a0 a1 a2 a3 a4 a5 a6 a7 v2_0) sz)) 1 6 (va_A (wd_X11_point cI a0 a1 a2 a3 a4 a5 a6 a7 v2_0) sz) := by
  refine vx_ofW (cc := cX11_point) (maxL := 4) (ret := (some .int)) (by decide) rfl ?_
  intro p e s m args below meth c s₁ B hml hxt hv
  obtain ⟨rfl, ⟨hsz, hP, hK, hD0⟩, hE⟩ := hv
  have hx := B.exec
  have hb := B.bytes
  have hr := B.returns
  have hts := atoms_spec (ws := wz_X11_point) B.pre
  have hta := wz_tl hts
  have hown : s.vm.findClass RX11 = some m.cls := findClass_of_methodNamed B.named
  have hlocks := B.notSynchronized
  subst hsz
  have hD := hD0.self (sz := s.heap.size)
  generalize hAe : va_A (wd_X11_point cI a0 a1 a2 a3 a4 a5 a6 a7 v2_0) s.heap.size = A at hD hE ⊢
  have hA : ∀ q : Nat, s.heap.size ≤ q → A q := fun q h => by rw [← hAe]; exact Or.inr h
  have hS : va_S A s.heap s.heap [] := va_S.rf
  have hP : va_P (dC, dI) vwCl (wd_X11_point cI a0 a1 a2 a3 a4 a5 a6 a7 v2_0) s.heap := hP
  have hl := lv_entry ([.ref (a0 0), .int p1, .int p2, .int p3]) (n := 4) (Nat.le_of_ble_eq_true rfl)
  rw [lg_entry_eq]
  generalize (lg_sl ([.ref (a0 0), .int p1, .int p2, .int p3]) ++ List.replicate (4 - (lg_sl ([.ref (a0 0), .int p1, .int p2, .int p3])).length) Slot.unset).toArray = ls at hl ⊢
  have hl : lv_has ls 4 [(0, .ref (a0 0)), (1, .int p1), (2, .int p2), (3, .int p3)] := hl
  obtain ⟨H, hHe⟩ : ∃ H, H = s.heap := ⟨_, rfl⟩
  have hS : va_S A s.heap H [] := by rw [hHe]; exact hS
  have hP : va_P (dC, dI) vwCl (wd_X11_point cI a0 a1 a2 a3 a4 a5 a6 a7 v2_0) H := by rw [hHe]; exact hP
  rw [← hHe]
  unfold F_X11_point at hF
  refine lv_iload_n hx hb dX11_point_0 rfl (lv_at hl 1 rfl) ?_
  refine lv_aload_n hx hb dX11_point_1 rfl (lv_at hl 0 rfl) ?_
  refine va_get (D := (dC, dI)) (ci := 10) (v := .ref (a2 0)) (C := RX11) (T := TX11) (N := 7) hx hb hta uw_X11 hown hK hP 0 rfl rfl 0 (by decide) (hta _ mA7) (fun _ h9 => h9) rfl dX11_point_2 ?_
  obtain ⟨u_1, hu_1, hF⟩ := obd_some hF
  have hPc := hP.sub (ws' := (wd_X1_subpathCount cI a2 v2_0)) [1, 2] rfl
  have hDc := hD.sub (ws' := (wd_X1_subpathCount cI a2 v2_0)) [1, 2] rfl rfl
  refine q_calli (wc := (wd_X1_subpathCount cI a2 v2_0)) (w1 := (wd_X1_subpathCount cI a2 v2_0)) (ws' := (wd_X11_point cI a0 a1 a2 a3 a4 a5 a6 a7 v2_0)) hP hD hS hA [1, 2] [0] [0, 1, 2] rfl rfl rfl (by decide) rfl rfl (va_runV (As := []) (rest := [.int p1]) ⟨hx, hb, hml, hown, hta⟩ (c_X1_subpathCount l dC dI cI H.size a2 v2_0 u_1 hu_1) (cwV 0 hta (ga_V mA112 mA113 mA114 mA6 mA115) rfl rfl rfl (by decide +kernel) ⟨Nat.le_of_ble_eq_true rfl, Nat.le_of_ble_eq_true rfl⟩) ⟨q_fb, va_recv hK hP (ci := 1) (q0 := 1) rfl rfl, q_ps hPc hK hDc⟩ rfl rfl hl.1 rfl (lv_room (Nat.le_of_ble_eq_true rfl)) dX11_point_5 ⟨Nat.zero_le _, Nat.zero_le _⟩) (fun H locs hP hD hS => ?_)
  refine obx_elim hF (fun x_3 hx_3 hF => ?_) (fun u_2 hu_2 hF => ?_)
  · obtain rfl := Sum.inr.inj (Option.some.inj hF)
    have hPc := hP.sub (ws' := ([] : va_W)) [] rfl
    have hDc := hD.sub (ws' := ([] : va_W)) [] rfl rfl
    refine qx_thr (kd := x_3) hP hD hK hS hA hxt hlocks (vx_runS (As := [.int p1, .int u_1]) (rest := []) ⟨hx, hb, hml, hown, hta⟩ (c_X11_checkIndex_x l hlt S dC dI cI H.size p1 u_1 x_3 hx_3) (va_cwS 2 hta (ga_S mA244 mA245 mA108 mA246) rfl rfl rfl (by decide +kernel) ⟨Nat.le_of_ble_eq_true rfl, Nat.le_of_ble_eq_true rfl⟩) ⟨qx_fb, qx_ps hPc hK hDc hE hS (va_free (wc := ([] : va_W)) hD hS hA [] rfl)⟩ rfl rfl hl.1 rfl (lv_room (Nat.le_of_ble_eq_true rfl)) dX11_point_8 ⟨Nat.le_of_ble_eq_true rfl, Nat.le_of_ble_eq_true rfl⟩) (fun t hP hK hF9 => ⟨(), trivial, ⟨rfl, hP, hK, hD⟩, hF9⟩) (Nat.le_of_ble_eq_true rfl) (Nat.le_of_ble_eq_true rfl)
  have hPc := hP.sub (ws' := ([] : va_W)) [] rfl
  have hDc := hD.sub (ws' := ([] : va_W)) [] rfl rfl
  refine q_callv (wc := ([] : va_W)) (w1 := ([] : va_W)) (ws' := (wd_X11_point cI a0 a1 a2 a3 a4 a5 a6 a7 v2_0)) hP hD hS hA [] [0, 1, 2] [0, 1, 2] rfl rfl rfl (by decide) rfl rfl (va_runS (As := [.int p1, .int u_1]) (rest := []) ⟨hx, hb, hml, hown, hta⟩ (c_X11_checkIndex l dC dI cI H.size p1 u_1 u_2 hu_2) (va_cwS 2 hta (ga_S mA244 mA245 mA108 mA246) rfl rfl rfl (by decide +kernel) ⟨Nat.le_of_ble_eq_true rfl, Nat.le_of_ble_eq_true rfl⟩) ⟨q_fb, q_ps hPc hK hDc⟩ rfl rfl hl.1 rfl (lv_room (Nat.le_of_ble_eq_true rfl)) dX11_point_8 ⟨Nat.zero_le _, Nat.zero_le _⟩) (fun H locs hP hD hS => ?_)
  refine lv_iload_n hx hb dX11_point_11 rfl (lv_at hl 2 rfl) ?_
  refine lv_aload_n hx hb dX11_point_12 rfl (lv_at hl 0 rfl) ?_
  refine va_get (D := (dC, dI)) (ci := 10) (v := .ref (a2 0)) (C := RX11) (T := TX11) (N := 7) hx hb hta uw_X11 hown hK hP 0 rfl rfl 0 (by decide) (hta _ mA7) (fun _ h9 => h9) rfl dX11_point_13 ?_
  refine lv_iload_n hx hb dX11_point_16 rfl (lv_at hl 1 rfl) ?_
  obtain ⟨u_4, hu_4, hF⟩ := obd_some hF
  have hPc := hP.sub (ws' := (wd_X1_pointCount cI a2 v2_0)) [1, 2] rfl
  have hDc := hD.sub (ws' := (wd_X1_pointCount cI a2 v2_0)) [1, 2] rfl rfl
  refine q_calli (wc := (wd_X1_pointCount cI a2 v2_0)) (w1 := (wd_X1_pointCount cI a2 v2_0)) (ws' := (wd_X11_point cI a0 a1 a2 a3 a4 a5 a6 a7 v2_0)) hP hD hS hA [1, 2] [0] [0, 1, 2] rfl rfl rfl (by decide) rfl rfl (va_runV (As := [.int p1]) (rest := [.int p2]) ⟨hx, hb, hml, hown, hta⟩ (c_X1_pointCount l dC dI cI H.size a2 v2_0 p1 u_4 hu_4) (cwV 1 hta (ga_V mA185 mA169 mA170 mA6 mA171) rfl rfl rfl (by decide +kernel) ⟨Nat.le_of_ble_eq_true rfl, Nat.le_of_ble_eq_true rfl⟩) ⟨q_fb, va_recv hK hP (ci := 1) (q0 := 1) rfl rfl, q_ps hPc hK hDc⟩ rfl rfl hl.1 rfl (lv_room (Nat.le_of_ble_eq_true rfl)) dX11_point_17 ⟨Nat.zero_le _, Nat.zero_le _⟩) (fun H locs hP hD hS => ?_)
  refine obx_elim hF (fun x_6 hx_6 hF => ?_) (fun u_5 hu_5 hF => ?_)
  · obtain rfl := Sum.inr.inj (Option.some.inj hF)
    have hPc := hP.sub (ws' := ([] : va_W)) [] rfl
    have hDc := hD.sub (ws' := ([] : va_W)) [] rfl rfl
    refine qx_thr (kd := x_6) hP hD hK hS hA hxt hlocks (vx_runS (As := [.int p2, .int u_4]) (rest := []) ⟨hx, hb, hml, hown, hta⟩ (c_X11_checkIndex_x l hlt S dC dI cI H.size p2 u_4 x_6 hx_6) (va_cwS 2 hta (ga_S mA244 mA245 mA108 mA246) rfl rfl rfl (by decide +kernel) ⟨Nat.le_of_ble_eq_true rfl, Nat.le_of_ble_eq_true rfl⟩) ⟨qx_fb, qx_ps hPc hK hDc hE hS (va_free (wc := ([] : va_W)) hD hS hA [] rfl)⟩ rfl rfl hl.1 rfl (lv_room (Nat.le_of_ble_eq_true rfl)) dX11_point_20 ⟨Nat.le_of_ble_eq_true rfl, Nat.le_of_ble_eq_true rfl⟩) (fun t hP hK hF9 => ⟨(), trivial, ⟨rfl, hP, hK, hD⟩, hF9⟩) (Nat.le_of_ble_eq_true rfl) (Nat.le_of_ble_eq_true rfl)
  have hPc := hP.sub (ws' := ([] : va_W)) [] rfl
  have hDc := hD.sub (ws' := ([] : va_W)) [] rfl rfl
  refine q_callv (wc := ([] : va_W)) (w1 := ([] : va_W)) (ws' := (wd_X11_point cI a0 a1 a2 a3 a4 a5 a6 a7 v2_0)) hP hD hS hA [] [0, 1, 2] [0, 1, 2] rfl rfl rfl (by decide) rfl rfl (va_runS (As := [.int p2, .int u_4]) (rest := []) ⟨hx, hb, hml, hown, hta⟩ (c_X11_checkIndex l dC dI cI H.size p2 u_4 u_5 hu_5) (va_cwS 2 hta (ga_S mA244 mA245 mA108 mA246) rfl rfl rfl (by decide +kernel) ⟨Nat.le_of_ble_eq_true rfl, Nat.le_of_ble_eq_true rfl⟩) ⟨q_fb, q_ps hPc hK hDc⟩ rfl rfl hl.1 rfl (lv_room (Nat.le_of_ble_eq_true rfl)) dX11_point_20 ⟨Nat.zero_le _, Nat.zero_le _⟩) (fun H locs hP hD hS => ?_)
  refine lv_iload_n hx hb dX11_point_23 rfl (lv_at hl 3 rfl) ?_
  refine lv_if_eq (tgt := 39) hx hb dX11_point_24 (by decide) (fun c_7 => ?_) (fun c_7 => ?_)
  · have hF := it_t hF c_7
    refine lv_aload_n hx hb dX11_point_39 rfl (lv_at hl 0 rfl) ?_
    refine va_get (D := (dC, dI)) (ci := 10) (v := .ref (a2 0)) (C := RX11) (T := TX11) (N := 7) hx hb hta uw_X11 hown hK hP 0 rfl rfl 0 (by decide) (hta _ mA7) (fun _ h9 => h9) rfl dX11_point_40 ?_
    refine lv_iload_n hx hb dX11_point_43 rfl (lv_at hl 1 rfl) ?_
    refine lv_iload_n hx hb dX11_point_44 rfl (lv_at hl 2 rfl) ?_
    obtain ⟨u_8, hu_8, hF⟩ := obd_some hF
    have hPc := hP.sub (ws' := (wd_X1_xOf cI a2 v2_0)) [1, 2] rfl
    have hDc := hD.sub (ws' := (wd_X1_xOf cI a2 v2_0)) [1, 2] rfl rfl
    refine q_calli (wc := (wd_X1_xOf cI a2 v2_0)) (w1 := (wd_X1_xOf cI a2 v2_0)) (ws' := (wd_X11_point cI a0 a1 a2 a3 a4 a5 a6 a7 v2_0)) hP hD hS hA [1, 2] [0] [0, 1, 2] rfl rfl rfl (by decide) rfl rfl (va_runV (As := [.int p1, .int p2]) (rest := []) ⟨hx, hb, hml, hown, hta⟩ (c_X1_xOf l dC dI cI H.size a2 v2_0 p1 p2 u_8 hu_8) (cwV 2 hta (ga_V mA323 mA208 mA209 mA6 mA210) rfl rfl rfl (by decide +kernel) ⟨Nat.le_of_ble_eq_true rfl, Nat.le_of_ble_eq_true rfl⟩) ⟨q_fb, va_recv hK hP (ci := 1) (q0 := 1) rfl rfl, q_ps hPc hK hDc⟩ rfl rfl hl.1 rfl (lv_room (Nat.le_of_ble_eq_true rfl)) dX11_point_45 ⟨Nat.zero_le _, Nat.zero_le _⟩) (fun H locs hP hD hS => ?_)
    exact absurd hF no_lr
  · have hF := it_f hF c_7
    refine lv_aload_n hx hb dX11_point_27 rfl (lv_at hl 0 rfl) ?_
    refine va_get (D := (dC, dI)) (ci := 10) (v := .ref (a2 0)) (C := RX11) (T := TX11) (N := 7) hx hb hta uw_X11 hown hK hP 0 rfl rfl 0 (by decide) (hta _ mA7) (fun _ h9 => h9) rfl dX11_point_28 ?_
    refine lv_iload_n hx hb dX11_point_31 rfl (lv_at hl 1 rfl) ?_
    refine lv_iload_n hx hb dX11_point_32 rfl (lv_at hl 2 rfl) ?_
    obtain ⟨u_9, hu_9, hF⟩ := obd_some hF
    have hPc := hP.sub (ws' := (wd_X1_yOf cI a2 v2_0)) [1, 2] rfl
    have hDc := hD.sub (ws' := (wd_X1_yOf cI a2 v2_0)) [1, 2] rfl rfl
    refine q_calli (wc := (wd_X1_yOf cI a2 v2_0)) (w1 := (wd_X1_yOf cI a2 v2_0)) (ws' := (wd_X11_point cI a0 a1 a2 a3 a4 a5 a6 a7 v2_0)) hP hD hS hA [1, 2] [0] [0, 1, 2] rfl rfl rfl (by decide) rfl rfl (va_runV (As := [.int p1, .int p2]) (rest := []) ⟨hx, hb, hml, hown, hta⟩ (c_X1_yOf l dC dI cI H.size a2 v2_0 p1 p2 u_9 hu_9) (cwV 2 hta (ga_V mA322 mA212 mA213 mA6 mA214) rfl rfl rfl (by decide +kernel) ⟨Nat.le_of_ble_eq_true rfl, Nat.le_of_ble_eq_true rfl⟩) ⟨q_fb, va_recv hK hP (ci := 1) (q0 := 1) rfl rfl, q_ps hPc hK hDc⟩ rfl rfl hl.1 rfl (lv_room (Nat.le_of_ble_eq_true rfl)) dX11_point_33 ⟨Nat.zero_le _, Nat.zero_le _⟩) (fun H locs hP hD hS => ?_)
    refine lv_goto (tgt := 48) hx hb dX11_point_36 (by decide) ?_
    exact absurd hF no_lr
