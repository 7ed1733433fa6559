abbrev wz_L_moveTo : List Cond := .codeWith yL_moveTo cL_moveTo 5 (some .int) [(0, 10, 13, 13), (0, 10, 17, 15)] :: wALL
abbrev rm_L_moveTo : Room := { frames := 5, cells := 0, slots := 0, locals := 115 }
set_option maxHeartbeats 4000000 in
set_option maxRecDepth 100000 in
theorem c_L_moveTo (l : Launch) (dC : Nat → ClassId) (dI : Nat → Nat → Nat) (cI cL : ClassId) (sz : Nat) (a0 : Nat → Nat) (a1 : Nat → Nat) (a2 : Nat → Nat) (a3 : Nat → Nat) (a4 : Nat → Nat) (a5 : Nat → Nat) (a6 : Nat → Nat) (a7 : Nat → Nat) (a8 : Nat → Nat) (a9 : Nat → Nat) (a10 : Nat → Nat) (v2_0 : Nat → Int32) (v4_1 : Int32) (v4_0 : Nat → Int32) (v5_3 : Int32) (v5_4 : Int32) (v5_5 : Int32) (v5_6 : Int32) (v5_7 : Int32) (bo : Nat) (w : Nat → Int64) (p1 : Int32) (p2 : Int32) (u : (Int32 × (Nat → Int32) × Int32 × (Nat → Int32) × Int32)) (hF : F_X11_moveTo v2_0 v4_1 v4_0 v5_3 p1 p2 = some (.inl u)) : Met l yL_moveTo wz_L_moveTo rm_L_moveTo (va_Pc [.ref (a0 0), .int p1, .int p2, .ref bo] (q_preL dC dI cI cL ((wd_X11_moveTo cI a0 a1 a2 a3 a4 a5 a6 a7 a8 a9 a10 v2_0 v4_1 v4_0 v5_3 v5_4 v5_5 v5_6 v5_7) ++ [(bo, .inl (cL, 1, .inr (.inl w)))]) sz)) (va_Qi (fun (r : Int32) (_ : Unit) => r = 0) (fun _ => q_atL dC dI cI cL (va_A ((wd_X11_moveTo cI a0 a1 a2 a3 a4 a5 a6 a7 a8 a9 a10 v2_0 v4_1 v4_0 v5_3 v5_4 v5_5 v5_6 v5_7) ++ [(bo, .inl (cL, 1, .inr (.inl w)))]) sz) ((wd_X11_moveTo cI a0 a1 a2 a3 a4 a5 a6 a7 a8 a9 a10 u.2.1 u.2.2.1 u.2.2.2.1 u.2.2.2.2 v5_4 v5_5 v5_6 v5_7) ++ [(bo, .inl (cL, 1, .inr (.inl (vp_updL w (0 : Int32).toNatClampNeg u.1.toInt64))))])) (va_A ((wd_X11_moveTo cI a0 a1 a2 a3 a4 a5 a6 a7 a8 a9 a10 v2_0 v4_1 v4_0 v5_3 v5_4 v5_5 v5_6 v5_7) ++ [(bo, .inl (cL, 1, .inr (.inl w)))]) sz)) 0 0 (va_A ((wd_X11_moveTo cI a0 a1 a2 a3 a4 a5 a6 a7 a8 a9 a10 v2_0 v4_1 v4_0 v5_3 v5_4 v5_5 v5_6 v5_7) ++ [(bo, .inl (cL, 1, .inr (.inl w)))]) sz) := by
  refine q_ofWH (cc := cL_moveTo) (maxL := 5) (ret := (some .int)) (hh := [(0, 10, 13, 13), (0, 10, 17, 15)]) (by decide) rfl ?_
  intro p e s m args below meth c s₁ B hml hv
  obtain ⟨rfl, hsz, hP, hK, hD0⟩ := hv
  have hx := B.exec
  have hb := B.bytes
  have hr := B.returns
  have hts := atoms_spec (ws := wz_L_moveTo) B.pre
  have hta := wz_tl hts
  have hown : s.vm.findClass RL = some m.cls := findClass_of_methodNamed B.named
  have hlocks := B.notSynchronized
  subst hsz
  have hD := hD0.self (sz := s.heap.size)
  generalize hAe : va_A ((wd_X11_moveTo cI a0 a1 a2 a3 a4 a5 a6 a7 a8 a9 a10 v2_0 v4_1 v4_0 v5_3 v5_4 v5_5 v5_6 v5_7) ++ [(bo, .inl (cL, 1, .inr (.inl w)))]) s.heap.size = A at hD ⊢
  have hA : ∀ q : Nat, s.heap.size ≤ q → A q := fun q h => by rw [← hAe]; exact Or.inr h
  have hS : va_S A s.heap s.heap [] := va_S.rf
  have hl := lv_entry ([.ref (a0 0), .int p1, .int p2, .ref bo]) (n := 5) (Nat.le_of_ble_eq_true rfl)
  rw [lg_entry_eq]
  generalize (lg_sl ([.ref (a0 0), .int p1, .int p2, .ref bo]) ++ List.replicate (5 - (lg_sl ([.ref (a0 0), .int p1, .int p2, .ref bo])).length) Slot.unset).toArray = ls at hl ⊢
  have hl : lv_has ls 5 [(0, .ref (a0 0)), (1, .int p1), (2, .int p2), (3, .ref bo)] := hl
  obtain ⟨H, hHe⟩ : ∃ H, H = s.heap := ⟨_, rfl⟩
  have hS : va_S A s.heap H [] := by rw [hHe]; exact hS
  have hP : va_P (dC, dI) vwCl ((wd_X11_moveTo cI a0 a1 a2 a3 a4 a5 a6 a7 a8 a9 a10 v2_0 v4_1 v4_0 v5_3 v5_4 v5_5 v5_6 v5_7) ++ [(bo, .inl (cL, 1, .inr (.inl w)))]) H := by rw [hHe]; exact hP
  rw [← hHe]
  have hKi : va_K (dC, dI) vwCl [(cI, .int)] s := hK.sub [0] rfl
  refine lv_aload_n hx hb dL_moveTo_0 rfl (lv_at hl 3 rfl) ?_
  refine lv_iconst (v := 0) hx hb dL_moveTo_1 (by decide) ?_
  refine lv_aload_n hx hb dL_moveTo_2 rfl (lv_at hl 0 rfl) ?_
  refine lv_iload_n hx hb dL_moveTo_3 rfl (lv_at hl 1 rfl) ?_
  refine lv_iload_n hx hb dL_moveTo_4 rfl (lv_at hl 2 rfl) ?_
  have hPc := hP.sub (ws' := (wd_X11_moveTo cI a0 a1 a2 a3 a4 a5 a6 a7 a8 a9 a10 v2_0 v4_1 v4_0 v5_3 v5_4 v5_5 v5_6 v5_7)) [0, 1, 2, 3, 4, 5] rfl
  have hDc := hD.sub (ws' := (wd_X11_moveTo cI a0 a1 a2 a3 a4 a5 a6 a7 a8 a9 a10 v2_0 v4_1 v4_0 v5_3 v5_4 v5_5 v5_6 v5_7)) [0, 1, 2, 3, 4, 5] rfl rfl
  refine q_calli (wc := (wd_X11_moveTo cI a0 a1 a2 a3 a4 a5 a6 a7 a8 a9 a10 v2_0 v4_1 v4_0 v5_3 v5_4 v5_5 v5_6 v5_7)) (w1 := (wd_X11_moveTo cI a0 a1 a2 a3 a4 a5 a6 a7 a8 a9 a10 u.2.1 u.2.2.1 u.2.2.2.1 u.2.2.2.2 v5_4 v5_5 v5_6 v5_7)) (ws' := ((wd_X11_moveTo cI a0 a1 a2 a3 a4 a5 a6 a7 a8 a9 a10 u.2.1 u.2.2.1 u.2.2.2.1 u.2.2.2.2 v5_4 v5_5 v5_6 v5_7) ++ [(bo, .inl (cL, 1, .inr (.inl w)))])) hP hD hS hA [0, 1, 2, 3, 4, 5] [6] [1, 2, 3, 4, 5, 6, 0] rfl rfl rfl (by decide) rfl rfl (va_runV (As := [.int p1, .int p2]) (rest := [.int 0, .ref bo]) ⟨hx, hb, hml, hown, hta⟩ (c_X11_moveTo l dC dI cI H.size a0 a1 a2 a3 a4 a5 a6 a7 a8 a9 a10 v2_0 v4_1 v4_0 v5_3 v5_4 v5_5 v5_6 v5_7 p1 p2 u hF) (cwV 2 hta (ga_V mA1117 mA1118 mA1119 mA108 mA105) rfl rfl rfl (by decide +kernel) ⟨Nat.le_of_ble_eq_true rfl, Nat.le_of_ble_eq_true rfl⟩) ⟨q_fb, va_recv hK hP (ci := 10) (q0 := 0) rfl rfl, q_ps hPc hKi hDc⟩ rfl rfl hl.1 rfl (lv_room (Nat.le_of_ble_eq_true rfl)) dL_moveTo_5 ⟨Nat.zero_le _, Nat.zero_le _⟩) (fun H locs hP hD hS => ?_)
  refine lv_i2l hx hb dL_moveTo_8 rfl ?_
  refine va_last hx hb hK hP hD hS 6 1 rfl rfl (vpi_in (by decide)) dL_moveTo_9 (fun H locs hP hD hS => ?_)
  have hP : va_P (dC, dI) vwCl ((wd_X11_moveTo cI a0 a1 a2 a3 a4 a5 a6 a7 a8 a9 a10 u.2.1 u.2.2.1 u.2.2.2.1 u.2.2.2.2 v5_4 v5_5 v5_6 v5_7) ++ [(bo, .inl (cL, 1, .inr (.inl (vp_updL w (0 : Int32).toNatClampNeg u.1.toInt64))))]) H := hP
  have hD : va_D A ((wd_X11_moveTo cI a0 a1 a2 a3 a4 a5 a6 a7 a8 a9 a10 u.2.1 u.2.2.1 u.2.2.2.1 u.2.2.2.2 v5_4 v5_5 v5_6 v5_7) ++ [(bo, .inl (cL, 1, .inr (.inl (vp_updL w (0 : Int32).toNatClampNeg u.1.toInt64))))]) := hD
  refine lv_goto (tgt := 21) hx hb dL_moveTo_10 (by decide) ?_
  refine lv_iconst (v := 0) hx hb dL_moveTo_21 (by decide) ?_
  exact W.iret (v := 0) hx hb hr (fun t ht hW => ⟨⟨0, (), rfl, rfl, by rw [ht]; exact hP, va_K.moved hW.alike hK, hD⟩, hS.F ht⟩) hS.2.2 dL_moveTo_22
abbrev rmx_L_moveTo : Room := { frames := 8, cells := 1, slots := 6, locals := 126 }
set_option maxHeartbeats 4000000 in
set_option maxRecDepth 100000 in
theorem c_L_moveTo_x1 (l : Launch) (hlt : l.stackTraces = false) (S : Nat → Nat) (dC : Nat → ClassId) (dI : Nat → Nat → Nat) (cI cL : ClassId) (sz : Nat) (a0 : Nat → Nat) (a1 : Nat → Nat) (a2 : Nat → Nat) (a3 : Nat → Nat) (a4 : Nat → Nat) (a5 : Nat → Nat) (a6 : Nat → Nat) (a7 : Nat → Nat) (a8 : Nat → Nat) (a9 : Nat → Nat) (a10 : Nat → Nat) (v2_0 : Nat → Int32) (v4_1 : Int32) (v4_0 : Nat → Int32) (v5_3 : Int32) (v5_4 : Int32) (v5_5 : Int32) (v5_6 : Int32) (v5_7 : Int32) (bo : Nat) (w : Nat → Int64) (p1 : Int32) (p2 : Int32) (x : (Nat × (Nat → Int32) × Int32 × (Nat → Int32) × Int32)) (hF : F_X11_moveTo v2_0 v4_1 v4_0 v5_3 p1 p2 = some (.inr x)) (hk : x.1 = 1) : Met l yL_moveTo wz_L_moveTo rmx_L_moveTo (va_Pc [.ref (a0 0), .int p1, .int p2, .ref bo] (qx_preL S dC dI cI cL ((wd_X11_moveTo cI a0 a1 a2 a3 a4 a5 a6 a7 a8 a9 a10 v2_0 v4_1 v4_0 v5_3 v5_4 v5_5 v5_6 v5_7) ++ [(bo, .inl (cL, 1, .inr (.inl w)))]) sz)) (va_Qi (fun (r : Int32) (_ : Unit) => r = 1) (fun _ => q_atL dC dI cI cL (va_A ((wd_X11_moveTo cI a0 a1 a2 a3 a4 a5 a6 a7 a8 a9 a10 v2_0 v4_1 v4_0 v5_3 v5_4 v5_5 v5_6 v5_7) ++ [(bo, .inl (cL, 1, .inr (.inl w)))]) sz) ((wd_X11_moveTo cI a0 a1 a2 a3 a4 a5 a6 a7 a8 a9 a10 x.2.1 x.2.2.1 x.2.2.2.1 x.2.2.2.2 v5_4 v5_5 v5_6 v5_7) ++ [(bo, .inl (cL, 1, .inr (.inl w)))])) (va_A ((wd_X11_moveTo cI a0 a1 a2 a3 a4 a5 a6 a7 a8 a9 a10 v2_0 v4_1 v4_0 v5_3 v5_4 v5_5 v5_6 v5_7) ++ [(bo, .inl (cL, 1, .inr (.inl w)))]) sz)) 1 6 (va_A ((wd_X11_moveTo cI a0 a1 a2 a3 a4 a5 a6 a7 a8 a9 a10 v2_0 v4_1 v4_0 v5_3 v5_4 v5_5 v5_6 v5_7) ++ [(bo, .inl (cL, 1, .inr (.inl w)))]) sz) := by
  refine q_ofWH (cc := cL_moveTo) (maxL := 5) (ret := (some .int)) (hh := [(0, 10, 13, 13), (0, 10, 17, 15)]) (by decide) rfl ?_
  intro p e s m args below meth c s₁ B hml hv
  obtain ⟨rfl, ⟨hsz, hP, hK, hD0⟩, hE, hC⟩ := hv
  have hx := B.exec
  have hb := B.bytes
  have hr := B.returns
  have hts := atoms_spec (ws := wz_L_moveTo) B.pre
  have hta := wz_tl hts
  have hown : s.vm.findClass RL = some m.cls := findClass_of_methodNamed B.named
  have hlocks := B.notSynchronized
  subst hsz
  have hD := hD0.self (sz := s.heap.size)
  generalize hAe : va_A ((wd_X11_moveTo cI a0 a1 a2 a3 a4 a5 a6 a7 a8 a9 a10 v2_0 v4_1 v4_0 v5_3 v5_4 v5_5 v5_6 v5_7) ++ [(bo, .inl (cL, 1, .inr (.inl w)))]) s.heap.size = A at hD hE ⊢
  have hA : ∀ q : Nat, s.heap.size ≤ q → A q := fun q h => by rw [← hAe]; exact Or.inr h
  have hS : va_S A s.heap s.heap [] := va_S.rf
  have hl := lv_entry ([.ref (a0 0), .int p1, .int p2, .ref bo]) (n := 5) (Nat.le_of_ble_eq_true rfl)
  rw [lg_entry_eq]
  generalize (lg_sl ([.ref (a0 0), .int p1, .int p2, .ref bo]) ++ List.replicate (5 - (lg_sl ([.ref (a0 0), .int p1, .int p2, .ref bo])).length) Slot.unset).toArray = ls at hl ⊢
  have hl : lv_has ls 5 [(0, .ref (a0 0)), (1, .int p1), (2, .int p2), (3, .ref bo)] := hl
  obtain ⟨H, hHe⟩ : ∃ H, H = s.heap := ⟨_, rfl⟩
  have hS : va_S A s.heap H [] := by rw [hHe]; exact hS
  have hP : va_P (dC, dI) vwCl ((wd_X11_moveTo cI a0 a1 a2 a3 a4 a5 a6 a7 a8 a9 a10 v2_0 v4_1 v4_0 v5_3 v5_4 v5_5 v5_6 v5_7) ++ [(bo, .inl (cL, 1, .inr (.inl w)))]) H := by rw [hHe]; exact hP
  rw [← hHe]
  have hKi : va_K (dC, dI) vwCl [(cI, .int)] s := hK.sub [0] rfl
  refine lv_aload_n hx hb dL_moveTo_0 rfl (lv_at hl 3 rfl) ?_
  refine lv_iconst (v := 0) hx hb dL_moveTo_1 (by decide) ?_
  refine lv_aload_n hx hb dL_moveTo_2 rfl (lv_at hl 0 rfl) ?_
  refine lv_iload_n hx hb dL_moveTo_3 rfl (lv_at hl 1 rfl) ?_
  refine lv_iload_n hx hb dL_moveTo_4 rfl (lv_at hl 2 rfl) ?_
  have hPc := hP.sub (ws' := (wd_X11_moveTo cI a0 a1 a2 a3 a4 a5 a6 a7 a8 a9 a10 v2_0 v4_1 v4_0 v5_3 v5_4 v5_5 v5_6 v5_7)) [0, 1, 2, 3, 4, 5] rfl
  have hDc := hD.sub (ws' := (wd_X11_moveTo cI a0 a1 a2 a3 a4 a5 a6 a7 a8 a9 a10 v2_0 v4_1 v4_0 v5_3 v5_4 v5_5 v5_6 v5_7)) [0, 1, 2, 3, 4, 5] rfl rfl
  refine qx_cat (kd := x.1) (wc := (wd_X11_moveTo cI a0 a1 a2 a3 a4 a5 a6 a7 a8 a9 a10 v2_0 v4_1 v4_0 v5_3 v5_4 v5_5 v5_6 v5_7)) (w1 := (wd_X11_moveTo cI a0 a1 a2 a3 a4 a5 a6 a7 a8 a9 a10 x.2.1 x.2.2.1 x.2.2.2.1 x.2.2.2.2 v5_4 v5_5 v5_6 v5_7)) (ws' := ((wd_X11_moveTo cI a0 a1 a2 a3 a4 a5 a6 a7 a8 a9 a10 x.2.1 x.2.2.1 x.2.2.2.1 x.2.2.2.2 v5_4 v5_5 v5_6 v5_7) ++ [(bo, .inl (cL, 1, .inr (.inl w)))])) hP hD hS hA [0, 1, 2, 3, 4, 5] [6] [1, 2, 3, 4, 5, 6, 0] rfl rfl rfl (by decide) rfl rfl (vx_runV (As := [.int p1, .int p2]) (rest := [.int 0, .ref bo]) ⟨hx, hb, hml, hown, hta⟩ (c_X11_moveTo_x l hlt S dC dI cI H.size a0 a1 a2 a3 a4 a5 a6 a7 a8 a9 a10 v2_0 v4_1 v4_0 v5_3 v5_4 v5_5 v5_6 v5_7 p1 p2 x hF) (cwV 2 hta (ga_V mA1117 mA1118 mA1119 mA108 mA105) rfl rfl rfl (by decide +kernel) ⟨Nat.le_of_ble_eq_true rfl, Nat.le_of_ble_eq_true rfl⟩) ⟨qx_fb, va_recv hK hP (ci := 10) (q0 := 0) rfl rfl, qx_ps hPc hKi hDc hE hS (va_free (wc := (wd_X11_moveTo cI a0 a1 a2 a3 a4 a5 a6 a7 a8 a9 a10 v2_0 v4_1 v4_0 v5_3 v5_4 v5_5 v5_6 v5_7)) hD hS hA [0, 1, 2, 3, 4, 5] rfl)⟩ rfl rfl hl.1 rfl (lv_room (Nat.le_of_ble_eq_true rfl)) dL_moveTo_5 ⟨Nat.le_of_ble_eq_true rfl, Nat.le_of_ble_eq_true rfl⟩) (fun ce q9 H locs hP hD hS hce hcv hcl => ?_)
  rw [hk] at hcl
  have hcl : s.vm.findClass xIA = some ce.cls := hcl
  refine vx_catch (E := xIA) hown [] ⟨0, 10, 13, 13⟩ [⟨0, 10, 17, 15⟩] (vx_table (x := yL_moveTo) B (hts _ List.mem_cons_self)) (fun z hz => absurd hz List.not_mem_nil) (by decide) (by decide) (hta _ mA1115) (va_Nw.use rfl hE.2.2.2.1) hce hcv hcl ?_
  refine lv_astore (lv' := [(4, .ref q9), (0, .ref (a0 0)), (1, .int p1), (2, .int p2), (3, .ref bo)]) hx hb dL_moveTo_13 hl (by decide) rfl (fun ls hl => ?_)
  refine lv_iconst (v := 1) hx hb dL_moveTo_15 (by decide) ?_
  exact W.iret (v := 1) hx hb hr (fun t ht hW => ⟨⟨1, (), rfl, rfl, by rw [ht]; exact hP, va_K.moved hW.alike hK, hD⟩, hS.F ht⟩) hS.2.2 dL_moveTo_16
set_option maxHeartbeats 4000000 in
set_option maxRecDepth 100000 in
theorem c_L_moveTo_x2 (l : Launch) (hlt : l.stackTraces = false) (S : Nat → Nat) (dC : Nat → ClassId) (dI : Nat → Nat → Nat) (cI cL : ClassId) (sz : Nat) (a0 : Nat → Nat) (a1 : Nat → Nat) (a2 : Nat → Nat) (a3 : Nat → Nat) (a4 : Nat → Nat) (a5 : Nat → Nat) (a6 : Nat → Nat) (a7 : Nat → Nat) (a8 : Nat → Nat) (a9 : Nat → Nat) (a10 : Nat → Nat) (v2_0 : Nat → Int32) (v4_1 : Int32) (v4_0 : Nat → Int32) (v5_3 : Int32) (v5_4 : Int32) (v5_5 : Int32) (v5_6 : Int32) (v5_7 : Int32) (bo : Nat) (w : Nat → Int64) (p1 : Int32) (p2 : Int32) (x : (Nat × (Nat → Int32) × Int32 × (Nat → Int32) × Int32)) (hF : F_X11_moveTo v2_0 v4_1 v4_0 v5_3 p1 p2 = some (.inr x)) (hk : x.1 = 2) : Met l yL_moveTo wz_L_moveTo rmx_L_moveTo (va_Pc [.ref (a0 0), .int p1, .int p2, .ref bo] (qx_preL S dC dI cI cL ((wd_X11_moveTo cI a0 a1 a2 a3 a4 a5 a6 a7 a8 a9 a10 v2_0 v4_1 v4_0 v5_3 v5_4 v5_5 v5_6 v5_7) ++ [(bo, .inl (cL, 1, .inr (.inl w)))]) sz)) (va_Qi (fun (r : Int32) (_ : Unit) => r = 2) (fun _ => q_atL dC dI cI cL (va_A ((wd_X11_moveTo cI a0 a1 a2 a3 a4 a5 a6 a7 a8 a9 a10 v2_0 v4_1 v4_0 v5_3 v5_4 v5_5 v5_6 v5_7) ++ [(bo, .inl (cL, 1, .inr (.inl w)))]) sz) ((wd_X11_moveTo cI a0 a1 a2 a3 a4 a5 a6 a7 a8 a9 a10 x.2.1 x.2.2.1 x.2.2.2.1 x.2.2.2.2 v5_4 v5_5 v5_6 v5_7) ++ [(bo, .inl (cL, 1, .inr (.inl w)))])) (va_A ((wd_X11_moveTo cI a0 a1 a2 a3 a4 a5 a6 a7 a8 a9 a10 v2_0 v4_1 v4_0 v5_3 v5_4 v5_5 v5_6 v5_7) ++ [(bo, .inl (cL, 1, .inr (.inl w)))]) sz)) 1 6 (va_A ((wd_X11_moveTo cI a0 a1 a2 a3 a4 a5 a6 a7 a8 a9 a10 v2_0 v4_1 v4_0 v5_3 v5_4 v5_5 v5_6 v5_7) ++ [(bo, .inl (cL, 1, .inr (.inl w)))]) sz) := by
  refine q_ofWH (cc := cL_moveTo) (maxL := 5) (ret := (some .int)) (hh := [(0, 10, 13, 13), (0, 10, 17, 15)]) (by decide) rfl ?_
  intro p e s m args below meth c s₁ B hml hv
  obtain ⟨rfl, ⟨hsz, hP, hK, hD0⟩, hE, hC⟩ := hv
  have hx := B.exec
  have hb := B.bytes
  have hr := B.returns
  have hts := atoms_spec (ws := wz_L_moveTo) B.pre
  have hta := wz_tl hts
  have hown : s.vm.findClass RL = some m.cls := findClass_of_methodNamed B.named
  have hlocks := B.notSynchronized
  subst hsz
  have hD := hD0.self (sz := s.heap.size)
  generalize hAe : va_A ((wd_X11_moveTo cI a0 a1 a2 a3 a4 a5 a6 a7 a8 a9 a10 v2_0 v4_1 v4_0 v5_3 v5_4 v5_5 v5_6 v5_7) ++ [(bo, .inl (cL, 1, .inr (.inl w)))]) s.heap.size = A at hD hE ⊢
  have hA : ∀ q : Nat, s.heap.size ≤ q → A q := fun q h => by rw [← hAe]; exact Or.inr h
  have hS : va_S A s.heap s.heap [] := va_S.rf
  have hl := lv_entry ([.ref (a0 0), .int p1, .int p2, .ref bo]) (n := 5) (Nat.le_of_ble_eq_true rfl)
  rw [lg_entry_eq]
  generalize (lg_sl ([.ref (a0 0), .int p1, .int p2, .ref bo]) ++ List.replicate (5 - (lg_sl ([.ref (a0 0), .int p1, .int p2, .ref bo])).length) Slot.unset).toArray = ls at hl ⊢
  have hl : lv_has ls 5 [(0, .ref (a0 0)), (1, .int p1), (2, .int p2), (3, .ref bo)] := hl
  obtain ⟨H, hHe⟩ : ∃ H, H = s.heap := ⟨_, rfl⟩
  have hS : va_S A s.heap H [] := by rw [hHe]; exact hS
  have hP : va_P (dC, dI) vwCl ((wd_X11_moveTo cI a0 a1 a2 a3 a4 a5 a6 a7 a8 a9 a10 v2_0 v4_1 v4_0 v5_3 v5_4 v5_5 v5_6 v5_7) ++ [(bo, .inl (cL, 1, .inr (.inl w)))]) H := by rw [hHe]; exact hP
  rw [← hHe]
  have hKi : va_K (dC, dI) vwCl [(cI, .int)] s := hK.sub [0] rfl
  refine lv_aload_n hx hb dL_moveTo_0 rfl (lv_at hl 3 rfl) ?_
  refine lv_iconst (v := 0) hx hb dL_moveTo_1 (by decide) ?_
  refine lv_aload_n hx hb dL_moveTo_2 rfl (lv_at hl 0 rfl) ?_
  refine lv_iload_n hx hb dL_moveTo_3 rfl (lv_at hl 1 rfl) ?_
  refine lv_iload_n hx hb dL_moveTo_4 rfl (lv_at hl 2 rfl) ?_
  have hPc := hP.sub (ws' := (wd_X11_moveTo cI a0 a1 a2 a3 a4 a5 a6 a7 a8 a9 a10 v2_0 v4_1 v4_0 v5_3 v5_4 v5_5 v5_6 v5_7)) [0, 1, 2, 3, 4, 5] rfl
  have hDc := hD.sub (ws' := (wd_X11_moveTo cI a0 a1 a2 a3 a4 a5 a6 a7 a8 a9 a10 v2_0 v4_1 v4_0 v5_3 v5_4 v5_5 v5_6 v5_7)) [0, 1, 2, 3, 4, 5] rfl rfl
  refine qx_cat (kd := x.1) (wc := (wd_X11_moveTo cI a0 a1 a2 a3 a4 a5 a6 a7 a8 a9 a10 v2_0 v4_1 v4_0 v5_3 v5_4 v5_5 v5_6 v5_7)) (w1 := (wd_X11_moveTo cI a0 a1 a2 a3 a4 a5 a6 a7 a8 a9 a10 x.2.1 x.2.2.1 x.2.2.2.1 x.2.2.2.2 v5_4 v5_5 v5_6 v5_7)) (ws' := ((wd_X11_moveTo cI a0 a1 a2 a3 a4 a5 a6 a7 a8 a9 a10 x.2.1 x.2.2.1 x.2.2.2.1 x.2.2.2.2 v5_4 v5_5 v5_6 v5_7) ++ [(bo, .inl (cL, 1, .inr (.inl w)))])) hP hD hS hA [0, 1, 2, 3, 4, 5] [6] [1, 2, 3, 4, 5, 6, 0] rfl rfl rfl (by decide) rfl rfl (vx_runV (As := [.int p1, .int p2]) (rest := [.int 0, .ref bo]) ⟨hx, hb, hml, hown, hta⟩ (c_X11_moveTo_x l hlt S dC dI cI H.size a0 a1 a2 a3 a4 a5 a6 a7 a8 a9 a10 v2_0 v4_1 v4_0 v5_3 v5_4 v5_5 v5_6 v5_7 p1 p2 x hF) (cwV 2 hta (ga_V mA1117 mA1118 mA1119 mA108 mA105) rfl rfl rfl (by decide +kernel) ⟨Nat.le_of_ble_eq_true rfl, Nat.le_of_ble_eq_true rfl⟩) ⟨qx_fb, va_recv hK hP (ci := 10) (q0 := 0) rfl rfl, qx_ps hPc hKi hDc hE hS (va_free (wc := (wd_X11_moveTo cI a0 a1 a2 a3 a4 a5 a6 a7 a8 a9 a10 v2_0 v4_1 v4_0 v5_3 v5_4 v5_5 v5_6 v5_7)) hD hS hA [0, 1, 2, 3, 4, 5] rfl)⟩ rfl rfl hl.1 rfl (lv_room (Nat.le_of_ble_eq_true rfl)) dL_moveTo_5 ⟨Nat.le_of_ble_eq_true rfl, Nat.le_of_ble_eq_true rfl⟩) (fun ce q9 H locs hP hD hS hce hcv hcl => ?_)
  rw [hk] at hcl
  have hcl : s.vm.findClass xIS = some ce.cls := hcl
  refine vx_catch (E := xIS) hown [⟨0, 10, 13, 13⟩] ⟨0, 10, 17, 15⟩ [] (vx_table (x := yL_moveTo) B (hts _ List.mem_cons_self)) (fun z hz => by rw [List.mem_singleton.mp hz]; exact Or.inr ⟨by decide, xIA, hta _ mA1115, hC.1⟩) (by decide) (by decide) (hta _ mA1116) (va_Nw.use rfl hE.2.2.2.2.1) hce hcv hcl ?_
  refine lv_astore (lv' := [(4, .ref q9), (0, .ref (a0 0)), (1, .int p1), (2, .int p2), (3, .ref bo)]) hx hb dL_moveTo_17 hl (by decide) rfl (fun ls hl => ?_)
  refine lv_iconst (v := 2) hx hb dL_moveTo_19 (by decide) ?_
  exact W.iret (v := 2) hx hb hr (fun t ht hW => ⟨⟨2, (), rfl, rfl, by rw [ht]; exact hP, va_K.moved hW.alike hK, hD⟩, hS.F ht⟩) hS.2.2 dL_moveTo_20

abbrev wz_L_lineTo : List Cond := .codeWith yL_lineTo cL_lineTo 5 (some .int) [(0, 10, 13, 13), (0, 10, 17, 15)] :: wALL
abbrev rm_L_lineTo : Room := { frames := 5, cells := 0, slots := 0, locals := 112 }
set_option maxHeartbeats 4000000 in
set_option maxRecDepth 100000 in
theorem c_L_lineTo (l : Launch) (dC : Nat → ClassId) (dI : Nat → Nat → Nat) (cI cL : ClassId) (sz : Nat) (a0 : Nat → Nat) (a1 : Nat → Nat) (a2 : Nat → Nat) (a3 : Nat → Nat) (a4 : Nat → Nat) (a5 : Nat → Nat) (a6 : Nat → Nat) (a7 : Nat → Nat) (a8 : Nat → Nat) (a9 : Nat → Nat) (a10 : Nat → Nat) (v2_0 : Nat → Int32) (v4_1 : Int32) (v4_0 : Nat → Int32) (v5_3 : Int32) (v5_4 : Int32) (v5_5 : Int32) (v5_6 : Int32) (v5_7 : Int32) (bo : Nat) (w : Nat → Int64) (p1 : Int32) (p2 : Int32) (u : (Int32 × (Nat → Int32) × Int32 × (Nat → Int32) × Int32)) (hF : F_X11_lineTo v2_0 v4_1 v4_0 v5_3 p1 p2 = some (.inl u)) : Met l yL_lineTo wz_L_lineTo rm_L_lineTo (va_Pc [.ref (a0 0), .int p1, .int p2, .ref bo] (q_preL dC dI cI cL ((wd_X11_lineTo cI a0 a1 a2 a3 a4 a5 a6 a7 a8 a9 a10 v2_0 v4_1 v4_0 v5_3 v5_4 v5_5 v5_6 v5_7) ++ [(bo, .inl (cL, 1, .inr (.inl w)))]) sz)) (va_Qi (fun (r : Int32) (_ : Unit) => r = 0) (fun _ => q_atL dC dI cI cL (va_A ((wd_X11_lineTo cI a0 a1 a2 a3 a4 a5 a6 a7 a8 a9 a10 v2_0 v4_1 v4_0 v5_3 v5_4 v5_5 v5_6 v5_7) ++ [(bo, .inl (cL, 1, .inr (.inl w)))]) sz) ((wd_X11_lineTo cI a0 a1 a2 a3 a4 a5 a6 a7 a8 a9 a10 u.2.1 u.2.2.1 u.2.2.2.1 u.2.2.2.2 v5_4 v5_5 v5_6 v5_7) ++ [(bo, .inl (cL, 1, .inr (.inl (vp_updL w (0 : Int32).toNatClampNeg u.1.toInt64))))])) (va_A ((wd_X11_lineTo cI a0 a1 a2 a3 a4 a5 a6 a7 a8 a9 a10 v2_0 v4_1 v4_0 v5_3 v5_4 v5_5 v5_6 v5_7) ++ [(bo, .inl (cL, 1, .inr (.inl w)))]) sz)) 0 0 (va_A ((wd_X11_lineTo cI a0 a1 a2 a3 a4 a5 a6 a7 a8 a9 a10 v2_0 v4_1 v4_0 v5_3 v5_4 v5_5 v5_6 v5_7) ++ [(bo, .inl (cL, 1, .inr (.inl w)))]) sz) := by
  refine q_ofWH (cc := cL_lineTo) (maxL := 5) (ret := (some .int)) (hh := [(0, 10, 13, 13), (0, 10, 17, 15)]) (by decide) rfl ?_
  intro p e s m args below meth c s₁ B hml hv
  obtain ⟨rfl, hsz, hP, hK, hD0⟩ := hv
  have hx := B.exec
  have hb := B.bytes
  have hr := B.returns
  have hts := atoms_spec (ws := wz_L_lineTo) B.pre
  have hta := wz_tl hts
  have hown : s.vm.findClass RL = some m.cls := findClass_of_methodNamed B.named
  have hlocks := B.notSynchronized
  subst hsz
  have hD := hD0.self (sz := s.heap.size)
  generalize hAe : va_A ((wd_X11_lineTo cI a0 a1 a2 a3 a4 a5 a6 a7 a8 a9 a10 v2_0 v4_1 v4_0 v5_3 v5_4 v5_5 v5_6 v5_7) ++ [(bo, .inl (cL, 1, .inr (.inl w)))]) s.heap.size = A at hD ⊢
  have hA : ∀ q : Nat, s.heap.size ≤ q → A q := fun q h => by rw [← hAe]; exact Or.inr h
  have hS : va_S A s.heap s.heap [] := va_S.rf
  have hl := lv_entry ([.ref (a0 0), .int p1, .int p2, .ref bo]) (n := 5) (Nat.le_of_ble_eq_true rfl)
  rw [lg_entry_eq]
  generalize (lg_sl ([.ref (a0 0), .int p1, .int p2, .ref bo]) ++ List.replicate (5 - (lg_sl ([.ref (a0 0), .int p1, .int p2, .ref bo])).length) Slot.unset).toArray = ls at hl ⊢
  have hl : lv_has ls 5 [(0, .ref (a0 0)), (1, .int p1), (2, .int p2), (3, .ref bo)] := hl
  obtain ⟨H, hHe⟩ : ∃ H, H = s.heap := ⟨_, rfl⟩
  have hS : va_S A s.heap H [] := by rw [hHe]; exact hS
  have hP : va_P (dC, dI) vwCl ((wd_X11_lineTo cI a0 a1 a2 a3 a4 a5 a6 a7 a8 a9 a10 v2_0 v4_1 v4_0 v5_3 v5_4 v5_5 v5_6 v5_7) ++ [(bo, .inl (cL, 1, .inr (.inl w)))]) H := by rw [hHe]; exact hP
  rw [← hHe]
  have hKi : va_K (dC, dI) vwCl [(cI, .int)] s := hK.sub [0] rfl
  refine lv_aload_n hx hb dL_lineTo_0 rfl (lv_at hl 3 rfl) ?_
  refine lv_iconst (v := 0) hx hb dL_lineTo_1 (by decide) ?_
  refine lv_aload_n hx hb dL_lineTo_2 rfl (lv_at hl 0 rfl) ?_
  refine lv_iload_n hx hb dL_lineTo_3 rfl (lv_at hl 1 rfl) ?_
  refine lv_iload_n hx hb dL_lineTo_4 rfl (lv_at hl 2 rfl) ?_
  have hPc := hP.sub (ws' := (wd_X11_lineTo cI a0 a1 a2 a3 a4 a5 a6 a7 a8 a9 a10 v2_0 v4_1 v4_0 v5_3 v5_4 v5_5 v5_6 v5_7)) [0, 1, 2, 3, 4, 5] rfl
  have hDc := hD.sub (ws' := (wd_X11_lineTo cI a0 a1 a2 a3 a4 a5 a6 a7 a8 a9 a10 v2_0 v4_1 v4_0 v5_3 v5_4 v5_5 v5_6 v5_7)) [0, 1, 2, 3, 4, 5] rfl rfl
  refine q_calli (wc := (wd_X11_lineTo cI a0 a1 a2 a3 a4 a5 a6 a7 a8 a9 a10 v2_0 v4_1 v4_0 v5_3 v5_4 v5_5 v5_6 v5_7)) (w1 := (wd_X11_lineTo cI a0 a1 a2 a3 a4 a5 a6 a7 a8 a9 a10 u.2.1 u.2.2.1 u.2.2.2.1 u.2.2.2.2 v5_4 v5_5 v5_6 v5_7)) (ws' := ((wd_X11_lineTo cI a0 a1 a2 a3 a4 a5 a6 a7 a8 a9 a10 u.2.1 u.2.2.1 u.2.2.2.1 u.2.2.2.2 v5_4 v5_5 v5_6 v5_7) ++ [(bo, .inl (cL, 1, .inr (.inl w)))])) hP hD hS hA [0, 1, 2, 3, 4, 5] [6] [1, 2, 3, 4, 5, 6, 0] rfl rfl rfl (by decide) rfl rfl (va_runV (As := [.int p1, .int p2]) (rest := [.int 0, .ref bo]) ⟨hx, hb, hml, hown, hta⟩ (c_X11_lineTo l dC dI cI H.size a0 a1 a2 a3 a4 a5 a6 a7 a8 a9 a10 v2_0 v4_1 v4_0 v5_3 v5_4 v5_5 v5_6 v5_7 p1 p2 u hF) (cwV 2 hta (ga_V mA1121 mA1122 mA1123 mA108 mA180) rfl rfl rfl (by decide +kernel) ⟨Nat.le_of_ble_eq_true rfl, Nat.le_of_ble_eq_true rfl⟩) ⟨q_fb, va_recv hK hP (ci := 10) (q0 := 0) rfl rfl, q_ps hPc hKi hDc⟩ rfl rfl hl.1 rfl (lv_room (Nat.le_of_ble_eq_true rfl)) dL_lineTo_5 ⟨Nat.zero_le _, Nat.zero_le _⟩) (fun H locs hP hD hS => ?_)
  refine lv_i2l hx hb dL_lineTo_8 rfl ?_
  refine va_last hx hb hK hP hD hS 6 1 rfl rfl (vpi_in (by decide)) dL_lineTo_9 (fun H locs hP hD hS => ?_)
  have hP : va_P (dC, dI) vwCl ((wd_X11_lineTo cI a0 a1 a2 a3 a4 a5 a6 a7 a8 a9 a10 u.2.1 u.2.2.1 u.2.2.2.1 u.2.2.2.2 v5_4 v5_5 v5_6 v5_7) ++ [(bo, .inl (cL, 1, .inr (.inl (vp_updL w (0 : Int32).toNatClampNeg u.1.toInt64))))]) H := hP
  have hD : va_D A ((wd_X11_lineTo cI a0 a1 a2 a3 a4 a5 a6 a7 a8 a9 a10 u.2.1 u.2.2.1 u.2.2.2.1 u.2.2.2.2 v5_4 v5_5 v5_6 v5_7) ++ [(bo, .inl (cL, 1, .inr (.inl (vp_updL w (0 : Int32).toNatClampNeg u.1.toInt64))))]) := hD
  refine lv_goto (tgt := 21) hx hb dL_lineTo_10 (by decide) ?_
  refine lv_iconst (v := 0) hx hb dL_lineTo_21 (by decide) ?_
  exact W.iret (v := 0) hx hb hr (fun t ht hW => ⟨⟨0, (), rfl, rfl, by rw [ht]; exact hP, va_K.moved hW.alike hK, hD⟩, hS.F ht⟩) hS.2.2 dL_lineTo_22
abbrev rmx_L_lineTo : Room := { frames := 8, cells := 1, slots := 6, locals := 127 }
set_option maxHeartbeats 4000000 in
set_option maxRecDepth 100000 in
theorem c_L_lineTo_x1 (l : Launch) (hlt : l.stackTraces = false) (S : Nat → Nat) (dC : Nat → ClassId) (dI : Nat → Nat → Nat) (cI cL : ClassId) (sz : Nat) (a0 : Nat → Nat) (a1 : Nat → Nat) (a2 : Nat → Nat) (a3 : Nat → Nat) (a4 : Nat → Nat) (a5 : Nat → Nat) (a6 : Nat → Nat) (a7 : Nat → Nat) (a8 : Nat → Nat) (a9 : Nat → Nat) (a10 : Nat → Nat) (v2_0 : Nat → Int32) (v4_1 : Int32) (v4_0 : Nat → Int32) (v5_3 : Int32) (v5_4 : Int32) (v5_5 : Int32) (v5_6 : Int32) (v5_7 : Int32) (bo : Nat) (w : Nat → Int64) (p1 : Int32) (p2 : Int32) (x : (Nat × (Nat → Int32) × Int32 × (Nat → Int32) × Int32)) (hF : F_X11_lineTo v2_0 v4_1 v4_0 v5_3 p1 p2 = some (.inr x)) (hk : x.1 = 1) : Met l yL_lineTo wz_L_lineTo rmx_L_lineTo (va_Pc [.ref (a0 0), .int p1, .int p2, .ref bo] (qx_preL S dC dI cI cL ((wd_X11_lineTo cI a0 a1 a2 a3 a4 a5 a6 a7 a8 a9 a10 v2_0 v4_1 v4_0 v5_3 v5_4 v5_5 v5_6 v5_7) ++ [(bo, .inl (cL, 1, .inr (.inl w)))]) sz)) (va_Qi (fun (r : Int32) (_ : Unit) => r = 1) (fun _ => q_atL dC dI cI cL (va_A ((wd_X11_lineTo cI a0 a1 a2 a3 a4 a5 a6 a7 a8 a9 a10 v2_0 v4_1 v4_0 v5_3 v5_4 v5_5 v5_6 v5_7) ++ [(bo, .inl (cL, 1, .inr (.inl w)))]) sz) ((wd_X11_lineTo cI a0 a1 a2 a3 a4 a5 a6 a7 a8 a9 a10 x.2.1 x.2.2.1 x.2.2.2.1 x.2.2.2.2 v5_4 v5_5 v5_6 v5_7) ++ [(bo, .inl (cL, 1, .inr (.inl w)))])) (va_A ((wd_X11_lineTo cI a0 a1 a2 a3 a4 a5 a6 a7 a8 a9 a10 v2_0 v4_1 v4_0 v5_3 v5_4 v5_5 v5_6 v5_7) ++ [(bo, .inl (cL, 1, .inr (.inl w)))]) sz)) 1 6 (va_A ((wd_X11_lineTo cI a0 a1 a2 a3 a4 a5 a6 a7 a8 a9 a10 v2_0 v4_1 v4_0 v5_3 v5_4 v5_5 v5_6 v5_7) ++ [(bo, .inl (cL, 1, .inr (.inl w)))]) sz) := by
  refine q_ofWH (cc := cL_lineTo) (maxL := 5) (ret := (some .int)) (hh := [(0, 10, 13, 13), (0, 10, 17, 15)]) (by decide) rfl ?_
  intro p e s m args below meth c s₁ B hml hv
  obtain ⟨rfl, ⟨hsz, hP, hK, hD0⟩, hE, hC⟩ := hv
  have hx := B.exec
  have hb := B.bytes
  have hr := B.returns
  have hts := atoms_spec (ws := wz_L_lineTo) B.pre
  have hta := wz_tl hts
  have hown : s.vm.findClass RL = some m.cls := findClass_of_methodNamed B.named
  have hlocks := B.notSynchronized
  subst hsz
  have hD := hD0.self (sz := s.heap.size)
  generalize hAe : va_A ((wd_X11_lineTo cI a0 a1 a2 a3 a4 a5 a6 a7 a8 a9 a10 v2_0 v4_1 v4_0 v5_3 v5_4 v5_5 v5_6 v5_7) ++ [(bo, .inl (cL, 1, .inr (.inl w)))]) s.heap.size = A at hD hE ⊢
  have hA : ∀ q : Nat, s.heap.size ≤ q → A q := fun q h => by rw [← hAe]; exact Or.inr h
  have hS : va_S A s.heap s.heap [] := va_S.rf
  have hl := lv_entry ([.ref (a0 0), .int p1, .int p2, .ref bo]) (n := 5) (Nat.le_of_ble_eq_true rfl)
  rw [lg_entry_eq]
  generalize (lg_sl ([.ref (a0 0), .int p1, .int p2, .ref bo]) ++ List.replicate (5 - (lg_sl ([.ref (a0 0), .int p1, .int p2, .ref bo])).length) Slot.unset).toArray = ls at hl ⊢
  have hl : lv_has ls 5 [(0, .ref (a0 0)), (1, .int p1), (2, .int p2), (3, .ref bo)] := hl
  obtain ⟨H, hHe⟩ : ∃ H, H = s.heap := ⟨_, rfl⟩
  have hS : va_S A s.heap H [] := by rw [hHe]; exact hS
  have hP : va_P (dC, dI) vwCl ((wd_X11_lineTo cI a0 a1 a2 a3 a4 a5 a6 a7 a8 a9 a10 v2_0 v4_1 v4_0 v5_3 v5_4 v5_5 v5_6 v5_7) ++ [(bo, .inl (cL, 1, .inr (.inl w)))]) H := by rw [hHe]; exact hP
  rw [← hHe]
  have hKi : va_K (dC, dI) vwCl [(cI, .int)] s := hK.sub [0] rfl
  refine lv_aload_n hx hb dL_lineTo_0 rfl (lv_at hl 3 rfl) ?_
  refine lv_iconst (v := 0) hx hb dL_lineTo_1 (by decide) ?_
  refine lv_aload_n hx hb dL_lineTo_2 rfl (lv_at hl 0 rfl) ?_
  refine lv_iload_n hx hb dL_lineTo_3 rfl (lv_at hl 1 rfl) ?_
  refine lv_iload_n hx hb dL_lineTo_4 rfl (lv_at hl 2 rfl) ?_
  have hPc := hP.sub (ws' := (wd_X11_lineTo cI a0 a1 a2 a3 a4 a5 a6 a7 a8 a9 a10 v2_0 v4_1 v4_0 v5_3 v5_4 v5_5 v5_6 v5_7)) [0, 1, 2, 3, 4, 5] rfl
  have hDc := hD.sub (ws' := (wd_X11_lineTo cI a0 a1 a2 a3 a4 a5 a6 a7 a8 a9 a10 v2_0 v4_1 v4_0 v5_3 v5_4 v5_5 v5_6 v5_7)) [0, 1, 2, 3, 4, 5] rfl rfl
  refine qx_cat (kd := x.1) (wc := (wd_X11_lineTo cI a0 a1 a2 a3 a4 a5 a6 a7 a8 a9 a10 v2_0 v4_1 v4_0 v5_3 v5_4 v5_5 v5_6 v5_7)) (w1 := (wd_X11_lineTo cI a0 a1 a2 a3 a4 a5 a6 a7 a8 a9 a10 x.2.1 x.2.2.1 x.2.2.2.1 x.2.2.2.2 v5_4 v5_5 v5_6 v5_7)) (ws' := ((wd_X11_lineTo cI a0 a1 a2 a3 a4 a5 a6 a7 a8 a9 a10 x.2.1 x.2.2.1 x.2.2.2.1 x.2.2.2.2 v5_4 v5_5 v5_6 v5_7) ++ [(bo, .inl (cL, 1, .inr (.inl w)))])) hP hD hS hA [0, 1, 2, 3, 4, 5] [6] [1, 2, 3, 4, 5, 6, 0] rfl rfl rfl (by decide) rfl rfl (vx_runV (As := [.int p1, .int p2]) (rest := [.int 0, .ref bo]) ⟨hx, hb, hml, hown, hta⟩ (c_X11_lineTo_x l hlt S dC dI cI H.size a0 a1 a2 a3 a4 a5 a6 a7 a8 a9 a10 v2_0 v4_1 v4_0 v5_3 v5_4 v5_5 v5_6 v5_7 p1 p2 x hF) (cwV 2 hta (ga_V mA1121 mA1122 mA1123 mA108 mA180) rfl rfl rfl (by decide +kernel) ⟨Nat.le_of_ble_eq_true rfl, Nat.le_of_ble_eq_true rfl⟩) ⟨qx_fb, va_recv hK hP (ci := 10) (q0 := 0) rfl rfl, qx_ps hPc hKi hDc hE hS (va_free (wc := (wd_X11_lineTo cI a0 a1 a2 a3 a4 a5 a6 a7 a8 a9 a10 v2_0 v4_1 v4_0 v5_3 v5_4 v5_5 v5_6 v5_7)) hD hS hA [0, 1, 2, 3, 4, 5] rfl)⟩ rfl rfl hl.1 rfl (lv_room (Nat.le_of_ble_eq_true rfl)) dL_lineTo_5 ⟨Nat.le_of_ble_eq_true rfl, Nat.le_of_ble_eq_true rfl⟩) (fun ce q9 H locs hP hD hS hce hcv hcl => ?_)
  rw [hk] at hcl
  have hcl : s.vm.findClass xIA = some ce.cls := hcl
  refine vx_catch (E := xIA) hown [] ⟨0, 10, 13, 13⟩ [⟨0, 10, 17, 15⟩] (vx_table (x := yL_moveTo) B (hts _ List.mem_cons_self)) (fun z hz => absurd hz List.not_mem_nil) (by decide) (by decide) (hta _ mA1115) (va_Nw.use rfl hE.2.2.2.1) hce hcv hcl ?_
  refine lv_astore (lv' := [(4, .ref q9), (0, .ref (a0 0)), (1, .int p1), (2, .int p2), (3, .ref bo)]) hx hb dL_lineTo_13 hl (by decide) rfl (fun ls hl => ?_)
  refine lv_iconst (v := 1) hx hb dL_lineTo_15 (by decide) ?_
  exact W.iret (v := 1) hx hb hr (fun t ht hW => ⟨⟨1, (), rfl, rfl, by rw [ht]; exact hP, va_K.moved hW.alike hK, hD⟩, hS.F ht⟩) hS.2.2 dL_lineTo_16
set_option maxHeartbeats 4000000 in
set_option maxRecDepth 100000 in
theorem c_L_lineTo_x2 (l : Launch) (hlt : l.stackTraces = false) (S : Nat → Nat) (dC : Nat → ClassId) (dI : Nat → Nat → Nat) (cI cL : ClassId) (sz : Nat) (a0 : Nat → Nat) (a1 : Nat → Nat) (a2 : Nat → Nat) (a3 : Nat → Nat) (a4 : Nat → Nat) (a5 : Nat → Nat) (a6 : Nat → Nat) (a7 : Nat → Nat) (a8 : Nat → Nat) (a9 : Nat → Nat) (a10 : Nat → Nat) (v2_0 : Nat → Int32) (v4_1 : Int32) (v4_0 : Nat → Int32) (v5_3 : Int32) (v5_4 : Int32) (v5_5 : Int32) (v5_6 : Int32) (v5_7 : Int32) (bo : Nat) (w : Nat → Int64) (p1 : Int32) (p2 : Int32) (x : (Nat × (Nat → Int32) × Int32 × (Nat → Int32) × Int32)) (hF : F_X11_lineTo v2_0 v4_1 v4_0 v5_3 p1 p2 = some (.inr x)) (hk : x.1 = 2) : Met l yL_lineTo wz_L_lineTo rmx_L_lineTo (va_Pc [.ref (a0 0), .int p1, .int p2, .ref bo] (qx_preL S dC dI cI cL ((wd_X11_lineTo cI a0 a1 a2 a3 a4 a5 a6 a7 a8 a9 a10 v2_0 v4_1 v4_0 v5_3 v5_4 v5_5 v5_6 v5_7) ++ [(bo, .inl (cL, 1, .inr (.inl w)))]) sz)) (va_Qi (fun (r : Int32) (_ : Unit) => r = 2) (fun _ => q_atL dC dI cI cL (va_A ((wd_X11_lineTo cI a0 a1 a2 a3 a4 a5 a6 a7 a8 a9 a10 v2_0 v4_1 v4_0 v5_3 v5_4 v5_5 v5_6 v5_7) ++ [(bo, .inl (cL, 1, .inr (.inl w)))]) sz) ((wd_X11_lineTo cI a0 a1 a2 a3 a4 a5 a6 a7 a8 a9 a10 x.2.1 x.2.2.1 x.2.2.2.1 x.2.2.2.2 v5_4 v5_5 v5_6 v5_7) ++ [(bo, .inl (cL, 1, .inr (.inl w)))])) (va_A ((wd_X11_lineTo cI a0 a1 a2 a3 a4 a5 a6 a7 a8 a9 a10 v2_0 v4_1 v4_0 v5_3 v5_4 v5_5 v5_6 v5_7) ++ [(bo, .inl (cL, 1, .inr (.inl w)))]) sz)) 1 6 (va_A ((wd_X11_lineTo cI a0 a1 a2 a3 a4 a5 a6 a7 a8 a9 a10 v2_0 v4_1 v4_0 v5_3 v5_4 v5_5 v5_6 v5_7) ++ [(bo, .inl (cL, 1, .inr (.inl w)))]) sz) := by
  refine q_ofWH (cc := cL_lineTo) (maxL := 5) (ret := (some .int)) (hh := [(0, 10, 13, 13), (0, 10, 17, 15)]) (by decide) rfl ?_
  intro p e s m args below meth c s₁ B hml hv
  obtain ⟨rfl, ⟨hsz, hP, hK, hD0⟩, hE, hC⟩ := hv
  have hx := B.exec
  have hb := B.bytes
  have hr := B.returns
  have hts := atoms_spec (ws := wz_L_lineTo) B.pre
  have hta := wz_tl hts
  have hown : s.vm.findClass RL = some m.cls := findClass_of_methodNamed B.named
  have hlocks := B.notSynchronized
  subst hsz
  have hD := hD0.self (sz := s.heap.size)
  generalize hAe : va_A ((wd_X11_lineTo cI a0 a1 a2 a3 a4 a5 a6 a7 a8 a9 a10 v2_0 v4_1 v4_0 v5_3 v5_4 v5_5 v5_6 v5_7) ++ [(bo, .inl (cL, 1, .inr (.inl w)))]) s.heap.size = A at hD hE ⊢
  have hA : ∀ q : Nat, s.heap.size ≤ q → A q := fun q h => by rw [← hAe]; exact Or.inr h
  have hS : va_S A s.heap s.heap [] := va_S.rf
  have hl := lv_entry ([.ref (a0 0), .int p1, .int p2, .ref bo]) (n := 5) (Nat.le_of_ble_eq_true rfl)
  rw [lg_entry_eq]
  generalize (lg_sl ([.ref (a0 0), .int p1, .int p2, .ref bo]) ++ List.replicate (5 - (lg_sl ([.ref (a0 0), .int p1, .int p2, .ref bo])).length) Slot.unset).toArray = ls at hl ⊢
  have hl : lv_has ls 5 [(0, .ref (a0 0)), (1, .int p1), (2, .int p2), (3, .ref bo)] := hl
  obtain ⟨H, hHe⟩ : ∃ H, H = s.heap := ⟨_, rfl⟩
  have hS : va_S A s.heap H [] := by rw [hHe]; exact hS
  have hP : va_P (dC, dI) vwCl ((wd_X11_lineTo cI a0 a1 a2 a3 a4 a5 a6 a7 a8 a9 a10 v2_0 v4_1 v4_0 v5_3 v5_4 v5_5 v5_6 v5_7) ++ [(bo, .inl (cL, 1, .inr (.inl w)))]) H := by rw [hHe]; exact hP
  rw [← hHe]
  have hKi : va_K (dC, dI) vwCl [(cI, .int)] s := hK.sub [0] rfl
  refine lv_aload_n hx hb dL_lineTo_0 rfl (lv_at hl 3 rfl) ?_
  refine lv_iconst (v := 0) hx hb dL_lineTo_1 (by decide) ?_
  refine lv_aload_n hx hb dL_lineTo_2 rfl (lv_at hl 0 rfl) ?_
  refine lv_iload_n hx hb dL_lineTo_3 rfl (lv_at hl 1 rfl) ?_
  refine lv_iload_n hx hb dL_lineTo_4 rfl (lv_at hl 2 rfl) ?_
  have hPc := hP.sub (ws' := (wd_X11_lineTo cI a0 a1 a2 a3 a4 a5 a6 a7 a8 a9 a10 v2_0 v4_1 v4_0 v5_3 v5_4 v5_5 v5_6 v5_7)) [0, 1, 2, 3, 4, 5] rfl
  have hDc := hD.sub (ws' := (wd_X11_lineTo cI a0 a1 a2 a3 a4 a5 a6 a7 a8 a9 a10 v2_0 v4_1 v4_0 v5_3 v5_4 v5_5 v5_6 v5_7)) [0, 1, 2, 3, 4, 5] rfl rfl
  refine qx_cat (kd := x.1) (wc := (wd_X11_lineTo cI a0 a1 a2 a3 a4 a5 a6 a7 a8 a9 a10 v2_0 v4_1 v4_0 v5_3 v5_4 v5_5 v5_6 v5_7)) (w1 := (wd_X11_lineTo cI a0 a1 a2 a3 a4 a5 a6 a7 a8 a9 a10 x.2.1 x.2.2.1 x.2.2.2.1 x.2.2.2.2 v5_4 v5_5 v5_6 v5_7)) (ws' := ((wd_X11_lineTo cI a0 a1 a2 a3 a4 a5 a6 a7 a8 a9 a10 x.2.1 x.2.2.1 x.2.2.2.1 x.2.2.2.2 v5_4 v5_5 v5_6 v5_7) ++ [(bo, .inl (cL, 1, .inr (.inl w)))])) hP hD hS hA [0, 1, 2, 3, 4, 5] [6] [1, 2, 3, 4, 5, 6, 0] rfl rfl rfl (by decide) rfl rfl (vx_runV (As := [.int p1, .int p2]) (rest := [.int 0, .ref bo]) ⟨hx, hb, hml, hown, hta⟩ (c_X11_lineTo_x l hlt S dC dI cI H.size a0 a1 a2 a3 a4 a5 a6 a7 a8 a9 a10 v2_0 v4_1 v4_0 v5_3 v5_4 v5_5 v5_6 v5_7 p1 p2 x hF) (cwV 2 hta (ga_V mA1121 mA1122 mA1123 mA108 mA180) rfl rfl rfl (by decide +kernel) ⟨Nat.le_of_ble_eq_true rfl, Nat.le_of_ble_eq_true rfl⟩) ⟨qx_fb, va_recv hK hP (ci := 10) (q0 := 0) rfl rfl, qx_ps hPc hKi hDc hE hS (va_free (wc := (wd_X11_lineTo cI a0 a1 a2 a3 a4 a5 a6 a7 a8 a9 a10 v2_0 v4_1 v4_0 v5_3 v5_4 v5_5 v5_6 v5_7)) hD hS hA [0, 1, 2, 3, 4, 5] rfl)⟩ rfl rfl hl.1 rfl (lv_room (Nat.le_of_ble_eq_true rfl)) dL_lineTo_5 ⟨Nat.le_of_ble_eq_true rfl, Nat.le_of_ble_eq_true rfl⟩) (fun ce q9 H locs hP hD hS hce hcv hcl => ?_)
  rw [hk] at hcl
  have hcl : s.vm.findClass xIS = some ce.cls := hcl
  refine vx_catch (E := xIS) hown [⟨0, 10, 13, 13⟩] ⟨0, 10, 17, 15⟩ [] (vx_table (x := yL_moveTo) B (hts _ List.mem_cons_self)) (fun z hz => by rw [List.mem_singleton.mp hz]; exact Or.inr ⟨by decide, xIA, hta _ mA1115, hC.1⟩) (by decide) (by decide) (hta _ mA1116) (va_Nw.use rfl hE.2.2.2.2.1) hce hcv hcl ?_
  refine lv_astore (lv' := [(4, .ref q9), (0, .ref (a0 0)), (1, .int p1), (2, .int p2), (3, .ref bo)]) hx hb dL_lineTo_17 hl (by decide) rfl (fun ls hl => ?_)
  refine lv_iconst (v := 2) hx hb dL_lineTo_19 (by decide) ?_
  exact W.iret (v := 2) hx hb hr (fun t ht hW => ⟨⟨2, (), rfl, rfl, by rw [ht]; exact hP, va_K.moved hW.alike hK, hD⟩, hS.F ht⟩) hS.2.2 dL_lineTo_20

abbrev wz_L_close : List Cond := .codeWith yL_close cL_close 3 (some .int) [(0, 8, 11, 15)] :: wALL
abbrev rm_L_close : Room := { frames := 5, cells := 0, slots := 0, locals := 129 }
set_option maxHeartbeats 4000000 in
set_option maxRecDepth 100000 in
theorem c_L_close (l : Launch) (dC : Nat → ClassId) (dI : Nat → Nat → Nat) (cI cL : ClassId) (sz : Nat) (a0 : Nat → Nat) (a1 : Nat → Nat) (a2 : Nat → Nat) (a3 : Nat → Nat) (a4 : Nat → Nat) (a5 : Nat → Nat) (a6 : Nat → Nat) (a7 : Nat → Nat) (a8 : Nat → Nat) (a9 : Nat → Nat) (a10 : Nat → Nat) (v2_0 : Nat → Int32) (v4_1 : Int32) (v4_0 : Nat → Int32) (v5_3 : Int32) (v5_4 : Int32) (v5_5 : Int32) (v5_6 : Int32) (v5_7 : Int32) (v8_10 : Int32) (v8_0 : Nat → Int32) (v8_1 : Nat → Int32) (v8_2 : Nat → Int32) (v8_3 : Nat → Int32) (v8_4 : Nat → Int32) (v8_5 : Nat → Int32) (v8_6 : Nat → Int32) (v8_7 : Nat → Int32) (v8_8 : Nat → Int32) (v8_9 : Nat → Int32) (bo : Nat) (w : Nat → Int64)  (n : Nat) (u : (Int32 × (Nat → Int32) × Int32 × (Nat → Int32) × Int32 × Int32 × (Nat → Int32) × (Nat → Int32) × (Nat → Int32) × (Nat → Int32) × (Nat → Int32) × (Nat → Int32) × (Nat → Int32) × (Nat → Int32) × (Nat → Int32) × (Nat → Int32))) (hF : F_X11_close n v2_0 v4_1 v4_0 v5_3 v8_10 v8_0 v8_1 v8_2 v8_3 v8_4 v8_5 v8_6 v8_7 v8_8 v8_9 = some (.inl u)) : Met l yL_close wz_L_close rm_L_close (va_Pc [.ref (a0 0), .ref bo] (q_preL dC dI cI cL ((wd_X11_close cI a0 a1 a2 a3 a4 a5 a6 a7 a8 a9 a10 v2_0 v4_1 v4_0 v5_3 v5_4 v5_5 v5_6 v5_7 v8_10 v8_0 v8_1 v8_2 v8_3 v8_4 v8_5 v8_6 v8_7 v8_8 v8_9) ++ [(bo, .inl (cL, 1, .inr (.inl w)))]) sz)) (va_Qi (fun (r : Int32) (_ : Unit) => r = 0) (fun _ => q_atL dC dI cI cL (va_A ((wd_X11_close cI a0 a1 a2 a3 a4 a5 a6 a7 a8 a9 a10 v2_0 v4_1 v4_0 v5_3 v5_4 v5_5 v5_6 v5_7 v8_10 v8_0 v8_1 v8_2 v8_3 v8_4 v8_5 v8_6 v8_7 v8_8 v8_9) ++ [(bo, .inl (cL, 1, .inr (.inl w)))]) sz) ((wd_X11_close cI a0 a1 a2 a3 a4 a5 a6 a7 a8 a9 a10 u.2.1 u.2.2.1 u.2.2.2.1 u.2.2.2.2.1 v5_4 v5_5 v5_6 v5_7 u.2.2.2.2.2.1 u.2.2.2.2.2.2.1 u.2.2.2.2.2.2.2.1 u.2.2.2.2.2.2.2.2.1 u.2.2.2.2.2.2.2.2.2.1 u.2.2.2.2.2.2.2.2.2.2.1 u.2.2.2.2.2.2.2.2.2.2.2.1 u.2.2.2.2.2.2.2.2.2.2.2.2.1 u.2.2.2.2.2.2.2.2.2.2.2.2.2.1 u.2.2.2.2.2.2.2.2.2.2.2.2.2.2.1 u.2.2.2.2.2.2.2.2.2.2.2.2.2.2.2) ++ [(bo, .inl (cL, 1, .inr (.inl (vp_updL w (0 : Int32).toNatClampNeg u.1.toInt64))))])) (va_A ((wd_X11_close cI a0 a1 a2 a3 a4 a5 a6 a7 a8 a9 a10 v2_0 v4_1 v4_0 v5_3 v5_4 v5_5 v5_6 v5_7 v8_10 v8_0 v8_1 v8_2 v8_3 v8_4 v8_5 v8_6 v8_7 v8_8 v8_9) ++ [(bo, .inl (cL, 1, .inr (.inl w)))]) sz)) 0 0 (va_A ((wd_X11_close cI a0 a1 a2 a3 a4 a5 a6 a7 a8 a9 a10 v2_0 v4_1 v4_0 v5_3 v5_4 v5_5 v5_6 v5_7 v8_10 v8_0 v8_1 v8_2 v8_3 v8_4 v8_5 v8_6 v8_7 v8_8 v8_9) ++ [(bo, .inl (cL, 1, .inr (.inl w)))]) sz) := by
  refine q_ofWH (cc := cL_close) (maxL := 3) (ret := (some .int)) (hh := [(0, 8, 11, 15)]) (by decide) rfl ?_
  intro p e s m args below meth c s₁ B hml hv
  obtain ⟨rfl, hsz, hP, hK, hD0⟩ := hv
  have hx := B.exec
  have hb := B.bytes
  have hr := B.returns
  have hts := atoms_spec (ws := wz_L_close) B.pre
  have hta := wz_tl hts
  have hown : s.vm.findClass RL = some m.cls := findClass_of_methodNamed B.named
  have hlocks := B.notSynchronized
  subst hsz
  have hD := hD0.self (sz := s.heap.size)
  generalize hAe : va_A ((wd_X11_close cI a0 a1 a2 a3 a4 a5 a6 a7 a8 a9 a10 v2_0 v4_1 v4_0 v5_3 v5_4 v5_5 v5_6 v5_7 v8_10 v8_0 v8_1 v8_2 v8_3 v8_4 v8_5 v8_6 v8_7 v8_8 v8_9) ++ [(bo, .inl (cL, 1, .inr (.inl w)))]) s.heap.size = A at hD ⊢
  have hA : ∀ q : Nat, s.heap.size ≤ q → A q := fun q h => by rw [← hAe]; exact Or.inr h
  have hS : va_S A s.heap s.heap [] := va_S.rf
  have hl := lv_entry ([.ref (a0 0), .ref bo]) (n := 3) (Nat.le_of_ble_eq_true rfl)
  rw [lg_entry_eq]
  generalize (lg_sl ([.ref (a0 0), .ref bo]) ++ List.replicate (3 - (lg_sl ([.ref (a0 0), .ref bo])).length) Slot.unset).toArray = ls at hl ⊢
  have hl : lv_has ls 3 [(0, .ref (a0 0)), (1, .ref bo)] := hl
  obtain ⟨H, hHe⟩ : ∃ H, H = s.heap := ⟨_, rfl⟩
  have hS : va_S A s.heap H [] := by rw [hHe]; exact hS
  have hP : va_P (dC, dI) vwCl ((wd_X11_close cI a0 a1 a2 a3 a4 a5 a6 a7 a8 a9 a10 v2_0 v4_1 v4_0 v5_3 v5_4 v5_5 v5_6 v5_7 v8_10 v8_0 v8_1 v8_2 v8_3 v8_4 v8_5 v8_6 v8_7 v8_8 v8_9) ++ [(bo, .inl (cL, 1, .inr (.inl w)))]) H := by rw [hHe]; exact hP
  rw [← hHe]
  have hKi : va_K (dC, dI) vwCl [(cI, .int)] s := hK.sub [0] rfl
  refine lv_aload_n hx hb dL_close_0 rfl (lv_at hl 1 rfl) ?_
  refine lv_iconst (v := 0) hx hb dL_close_1 (by decide) ?_
  refine lv_aload_n hx hb dL_close_2 rfl (lv_at hl 0 rfl) ?_
  have hPc := hP.sub (ws' := (wd_X11_close cI a0 a1 a2 a3 a4 a5 a6 a7 a8 a9 a10 v2_0 v4_1 v4_0 v5_3 v5_4 v5_5 v5_6 v5_7 v8_10 v8_0 v8_1 v8_2 v8_3 v8_4 v8_5 v8_6 v8_7 v8_8 v8_9)) [0, 1, 2, 3, 4, 5, 6, 7, 8, 9, 10, 11, 12, 13, 14, 15, 16] rfl
  have hDc := hD.sub (ws' := (wd_X11_close cI a0 a1 a2 a3 a4 a5 a6 a7 a8 a9 a10 v2_0 v4_1 v4_0 v5_3 v5_4 v5_5 v5_6 v5_7 v8_10 v8_0 v8_1 v8_2 v8_3 v8_4 v8_5 v8_6 v8_7 v8_8 v8_9)) [0, 1, 2, 3, 4, 5, 6, 7, 8, 9, 10, 11, 12, 13, 14, 15, 16] rfl rfl
  refine q_calli (wc := (wd_X11_close cI a0 a1 a2 a3 a4 a5 a6 a7 a8 a9 a10 v2_0 v4_1 v4_0 v5_3 v5_4 v5_5 v5_6 v5_7 v8_10 v8_0 v8_1 v8_2 v8_3 v8_4 v8_5 v8_6 v8_7 v8_8 v8_9)) (w1 := (wd_X11_close cI a0 a1 a2 a3 a4 a5 a6 a7 a8 a9 a10 u.2.1 u.2.2.1 u.2.2.2.1 u.2.2.2.2.1 v5_4 v5_5 v5_6 v5_7 u.2.2.2.2.2.1 u.2.2.2.2.2.2.1 u.2.2.2.2.2.2.2.1 u.2.2.2.2.2.2.2.2.1 u.2.2.2.2.2.2.2.2.2.1 u.2.2.2.2.2.2.2.2.2.2.1 u.2.2.2.2.2.2.2.2.2.2.2.1 u.2.2.2.2.2.2.2.2.2.2.2.2.1 u.2.2.2.2.2.2.2.2.2.2.2.2.2.1 u.2.2.2.2.2.2.2.2.2.2.2.2.2.2.1 u.2.2.2.2.2.2.2.2.2.2.2.2.2.2.2)) (ws' := ((wd_X11_close cI a0 a1 a2 a3 a4 a5 a6 a7 a8 a9 a10 u.2.1 u.2.2.1 u.2.2.2.1 u.2.2.2.2.1 v5_4 v5_5 v5_6 v5_7 u.2.2.2.2.2.1 u.2.2.2.2.2.2.1 u.2.2.2.2.2.2.2.1 u.2.2.2.2.2.2.2.2.1 u.2.2.2.2.2.2.2.2.2.1 u.2.2.2.2.2.2.2.2.2.2.1 u.2.2.2.2.2.2.2.2.2.2.2.1 u.2.2.2.2.2.2.2.2.2.2.2.2.1 u.2.2.2.2.2.2.2.2.2.2.2.2.2.1 u.2.2.2.2.2.2.2.2.2.2.2.2.2.2.1 u.2.2.2.2.2.2.2.2.2.2.2.2.2.2.2) ++ [(bo, .inl (cL, 1, .inr (.inl w)))])) hP hD hS hA [0, 1, 2, 3, 4, 5, 6, 7, 8, 9, 10, 11, 12, 13, 14, 15, 16] [17] [1, 2, 3, 4, 5, 6, 7, 8, 9, 10, 11, 12, 13, 14, 15, 16, 17, 0] rfl rfl rfl (by decide) rfl rfl (va_runV (As := []) (rest := [.int 0, .ref bo]) ⟨hx, hb, hml, hown, hta⟩ (c_X11_close l dC dI cI H.size a0 a1 a2 a3 a4 a5 a6 a7 a8 a9 a10 v2_0 v4_1 v4_0 v5_3 v5_4 v5_5 v5_6 v5_7 v8_10 v8_0 v8_1 v8_2 v8_3 v8_4 v8_5 v8_6 v8_7 v8_8 v8_9 n u hF) (cwV 0 hta (ga_V mA1125 mA1126 mA1127 mA108 mA187) rfl rfl rfl (by decide +kernel) ⟨Nat.le_of_ble_eq_true rfl, Nat.le_of_ble_eq_true rfl⟩) ⟨q_fb, va_recv hK hP (ci := 10) (q0 := 0) rfl rfl, q_ps hPc hKi hDc⟩ rfl rfl hl.1 rfl (lv_room (Nat.le_of_ble_eq_true rfl)) dL_close_3 ⟨Nat.zero_le _, Nat.zero_le _⟩) (fun H locs hP hD hS => ?_)
  refine lv_i2l hx hb dL_close_6 rfl ?_
  refine va_last hx hb hK hP hD hS 17 1 rfl rfl (vpi_in (by decide)) dL_close_7 (fun H locs hP hD hS => ?_)
  have hP : va_P (dC, dI) vwCl ((wd_X11_close cI a0 a1 a2 a3 a4 a5 a6 a7 a8 a9 a10 u.2.1 u.2.2.1 u.2.2.2.1 u.2.2.2.2.1 v5_4 v5_5 v5_6 v5_7 u.2.2.2.2.2.1 u.2.2.2.2.2.2.1 u.2.2.2.2.2.2.2.1 u.2.2.2.2.2.2.2.2.1 u.2.2.2.2.2.2.2.2.2.1 u.2.2.2.2.2.2.2.2.2.2.1 u.2.2.2.2.2.2.2.2.2.2.2.1 u.2.2.2.2.2.2.2.2.2.2.2.2.1 u.2.2.2.2.2.2.2.2.2.2.2.2.2.1 u.2.2.2.2.2.2.2.2.2.2.2.2.2.2.1 u.2.2.2.2.2.2.2.2.2.2.2.2.2.2.2) ++ [(bo, .inl (cL, 1, .inr (.inl (vp_updL w (0 : Int32).toNatClampNeg u.1.toInt64))))]) H := hP
  have hD : va_D A ((wd_X11_close cI a0 a1 a2 a3 a4 a5 a6 a7 a8 a9 a10 u.2.1 u.2.2.1 u.2.2.2.1 u.2.2.2.2.1 v5_4 v5_5 v5_6 v5_7 u.2.2.2.2.2.1 u.2.2.2.2.2.2.1 u.2.2.2.2.2.2.2.1 u.2.2.2.2.2.2.2.2.1 u.2.2.2.2.2.2.2.2.2.1 u.2.2.2.2.2.2.2.2.2.2.1 u.2.2.2.2.2.2.2.2.2.2.2.1 u.2.2.2.2.2.2.2.2.2.2.2.2.1 u.2.2.2.2.2.2.2.2.2.2.2.2.2.1 u.2.2.2.2.2.2.2.2.2.2.2.2.2.2.1 u.2.2.2.2.2.2.2.2.2.2.2.2.2.2.2) ++ [(bo, .inl (cL, 1, .inr (.inl (vp_updL w (0 : Int32).toNatClampNeg u.1.toInt64))))]) := hD
  refine lv_goto (tgt := 14) hx hb dL_close_8 (by decide) ?_
  refine lv_iconst (v := 0) hx hb dL_close_14 (by decide) ?_
  exact W.iret (v := 0) hx hb hr (fun t ht hW => ⟨⟨0, (), rfl, rfl, by rw [ht]; exact hP, va_K.moved hW.alike hK, hD⟩, hS.F ht⟩) hS.2.2 dL_close_15
abbrev rmx_L_close : Room := { frames := 8, cells := 1, slots := 6, locals := 129 }
set_option maxHeartbeats 4000000 in
set_option maxRecDepth 100000 in
theorem c_L_close_x2 (l : Launch) (hlt : l.stackTraces = false) (S : Nat → Nat) (dC : Nat → ClassId) (dI : Nat → Nat → Nat) (cI cL : ClassId) (sz : Nat) (a0 : Nat → Nat) (a1 : Nat → Nat) (a2 : Nat → Nat) (a3 : Nat → Nat) (a4 : Nat → Nat) (a5 : Nat → Nat) (a6 : Nat → Nat) (a7 : Nat → Nat) (a8 : Nat → Nat) (a9 : Nat → Nat) (a10 : Nat → Nat) (v2_0 : Nat → Int32) (v4_1 : Int32) (v4_0 : Nat → Int32) (v5_3 : Int32) (v5_4 : Int32) (v5_5 : Int32) (v5_6 : Int32) (v5_7 : Int32) (v8_10 : Int32) (v8_0 : Nat → Int32) (v8_1 : Nat → Int32) (v8_2 : Nat → Int32) (v8_3 : Nat → Int32) (v8_4 : Nat → Int32) (v8_5 : Nat → Int32) (v8_6 : Nat → Int32) (v8_7 : Nat → Int32) (v8_8 : Nat → Int32) (v8_9 : Nat → Int32) (bo : Nat) (w : Nat → Int64)  (n : Nat) (x : (Nat × (Nat → Int32) × Int32 × (Nat → Int32) × Int32 × Int32 × (Nat → Int32) × (Nat → Int32) × (Nat → Int32) × (Nat → Int32) × (Nat → Int32) × (Nat → Int32) × (Nat → Int32) × (Nat → Int32) × (Nat → Int32) × (Nat → Int32))) (hF : F_X11_close n v2_0 v4_1 v4_0 v5_3 v8_10 v8_0 v8_1 v8_2 v8_3 v8_4 v8_5 v8_6 v8_7 v8_8 v8_9 = some (.inr x)) (hk : x.1 = 2) : Met l yL_close wz_L_close rmx_L_close (va_Pc [.ref (a0 0), .ref bo] (qx_preL S dC dI cI cL ((wd_X11_close cI a0 a1 a2 a3 a4 a5 a6 a7 a8 a9 a10 v2_0 v4_1 v4_0 v5_3 v5_4 v5_5 v5_6 v5_7 v8_10 v8_0 v8_1 v8_2 v8_3 v8_4 v8_5 v8_6 v8_7 v8_8 v8_9) ++ [(bo, .inl (cL, 1, .inr (.inl w)))]) sz)) (va_Qi (fun (r : Int32) (_ : Unit) => r = 1) (fun _ => q_atL dC dI cI cL (va_A ((wd_X11_close cI a0 a1 a2 a3 a4 a5 a6 a7 a8 a9 a10 v2_0 v4_1 v4_0 v5_3 v5_4 v5_5 v5_6 v5_7 v8_10 v8_0 v8_1 v8_2 v8_3 v8_4 v8_5 v8_6 v8_7 v8_8 v8_9) ++ [(bo, .inl (cL, 1, .inr (.inl w)))]) sz) ((wd_X11_close cI a0 a1 a2 a3 a4 a5 a6 a7 a8 a9 a10 x.2.1 x.2.2.1 x.2.2.2.1 x.2.2.2.2.1 v5_4 v5_5 v5_6 v5_7 x.2.2.2.2.2.1 x.2.2.2.2.2.2.1 x.2.2.2.2.2.2.2.1 x.2.2.2.2.2.2.2.2.1 x.2.2.2.2.2.2.2.2.2.1 x.2.2.2.2.2.2.2.2.2.2.1 x.2.2.2.2.2.2.2.2.2.2.2.1 x.2.2.2.2.2.2.2.2.2.2.2.2.1 x.2.2.2.2.2.2.2.2.2.2.2.2.2.1 x.2.2.2.2.2.2.2.2.2.2.2.2.2.2.1 x.2.2.2.2.2.2.2.2.2.2.2.2.2.2.2) ++ [(bo, .inl (cL, 1, .inr (.inl w)))])) (va_A ((wd_X11_close cI a0 a1 a2 a3 a4 a5 a6 a7 a8 a9 a10 v2_0 v4_1 v4_0 v5_3 v5_4 v5_5 v5_6 v5_7 v8_10 v8_0 v8_1 v8_2 v8_3 v8_4 v8_5 v8_6 v8_7 v8_8 v8_9) ++ [(bo, .inl (cL, 1, .inr (.inl w)))]) sz)) 1 6 (va_A ((wd_X11_close cI a0 a1 a2 a3 a4 a5 a6 a7 a8 a9 a10 v2_0 v4_1 v4_0 v5_3 v5_4 v5_5 v5_6 v5_7 v8_10 v8_0 v8_1 v8_2 v8_3 v8_4 v8_5 v8_6 v8_7 v8_8 v8_9) ++ [(bo, .inl (cL, 1, .inr (.inl w)))]) sz) := by
  refine q_ofWH (cc := cL_close) (maxL := 3) (ret := (some .int)) (hh := [(0, 8, 11, 15)]) (by decide) rfl ?_
  intro p e s m args below meth c s₁ B hml hv
  obtain ⟨rfl, ⟨hsz, hP, hK, hD0⟩, hE, hC⟩ := hv
  have hx := B.exec
  have hb := B.bytes
  have hr := B.returns
  have hts := atoms_spec (ws := wz_L_close) B.pre
  have hta := wz_tl hts
  have hown : s.vm.findClass RL = some m.cls := findClass_of_methodNamed B.named
  have hlocks := B.notSynchronized
  subst hsz
  have hD := hD0.self (sz := s.heap.size)
  generalize hAe : va_A ((wd_X11_close cI a0 a1 a2 a3 a4 a5 a6 a7 a8 a9 a10 v2_0 v4_1 v4_0 v5_3 v5_4 v5_5 v5_6 v5_7 v8_10 v8_0 v8_1 v8_2 v8_3 v8_4 v8_5 v8_6 v8_7 v8_8 v8_9) ++ [(bo, .inl (cL, 1, .inr (.inl w)))]) s.heap.size = A at hD hE ⊢
  have hA : ∀ q : Nat, s.heap.size ≤ q → A q := fun q h => by rw [← hAe]; exact Or.inr h
  have hS : va_S A s.heap s.heap [] := va_S.rf
  have hl := lv_entry ([.ref (a0 0), .ref bo]) (n := 3) (Nat.le_of_ble_eq_true rfl)
  rw [lg_entry_eq]
  generalize (lg_sl ([.ref (a0 0), .ref bo]) ++ List.replicate (3 - (lg_sl ([.ref (a0 0), .ref bo])).length) Slot.unset).toArray = ls at hl ⊢
  have hl : lv_has ls 3 [(0, .ref (a0 0)), (1, .ref bo)] := hl
  obtain ⟨H, hHe⟩ : ∃ H, H = s.heap := ⟨_, rfl⟩
  have hS : va_S A s.heap H [] := by rw [hHe]; exact hS
  have hP : va_P (dC, dI) vwCl ((wd_X11_close cI a0 a1 a2 a3 a4 a5 a6 a7 a8 a9 a10 v2_0 v4_1 v4_0 v5_3 v5_4 v5_5 v5_6 v5_7 v8_10 v8_0 v8_1 v8_2 v8_3 v8_4 v8_5 v8_6 v8_7 v8_8 v8_9) ++ [(bo, .inl (cL, 1, .inr (.inl w)))]) H := by rw [hHe]; exact hP
  rw [← hHe]
  have hKi : va_K (dC, dI) vwCl [(cI, .int)] s := hK.sub [0] rfl
  refine lv_aload_n hx hb dL_close_0 rfl (lv_at hl 1 rfl) ?_
  refine lv_iconst (v := 0) hx hb dL_close_1 (by decide) ?_
  refine lv_aload_n hx hb dL_close_2 rfl (lv_at hl 0 rfl) ?_
  have hPc := hP.sub (ws' := (wd_X11_close cI a0 a1 a2 a3 a4 a5 a6 a7 a8 a9 a10 v2_0 v4_1 v4_0 v5_3 v5_4 v5_5 v5_6 v5_7 v8_10 v8_0 v8_1 v8_2 v8_3 v8_4 v8_5 v8_6 v8_7 v8_8 v8_9)) [0, 1, 2, 3, 4, 5, 6, 7, 8, 9, 10, 11, 12, 13, 14, 15, 16] rfl
  have hDc := hD.sub (ws' := (wd_X11_close cI a0 a1 a2 a3 a4 a5 a6 a7 a8 a9 a10 v2_0 v4_1 v4_0 v5_3 v5_4 v5_5 v5_6 v5_7 v8_10 v8_0 v8_1 v8_2 v8_3 v8_4 v8_5 v8_6 v8_7 v8_8 v8_9)) [0, 1, 2, 3, 4, 5, 6, 7, 8, 9, 10, 11, 12, 13, 14, 15, 16] rfl rfl
  refine qx_cat (kd := x.1) (wc := (wd_X11_close cI a0 a1 a2 a3 a4 a5 a6 a7 a8 a9 a10 v2_0 v4_1 v4_0 v5_3 v5_4 v5_5 v5_6 v5_7 v8_10 v8_0 v8_1 v8_2 v8_3 v8_4 v8_5 v8_6 v8_7 v8_8 v8_9)) (w1 := (wd_X11_close cI a0 a1 a2 a3 a4 a5 a6 a7 a8 a9 a10 x.2.1 x.2.2.1 x.2.2.2.1 x.2.2.2.2.1 v5_4 v5_5 v5_6 v5_7 x.2.2.2.2.2.1 x.2.2.2.2.2.2.1 x.2.2.2.2.2.2.2.1 x.2.2.2.2.2.2.2.2.1 x.2.2.2.2.2.2.2.2.2.1 x.2.2.2.2.2.2.2.2.2.2.1 x.2.2.2.2.2.2.2.2.2.2.2.1 x.2.2.2.2.2.2.2.2.2.2.2.2.1 x.2.2.2.2.2.2.2.2.2.2.2.2.2.1 x.2.2.2.2.2.2.2.2.2.2.2.2.2.2.1 x.2.2.2.2.2.2.2.2.2.2.2.2.2.2.2)) (ws' := ((wd_X11_close cI a0 a1 a2 a3 a4 a5 a6 a7 a8 a9 a10 x.2.1 x.2.2.1 x.2.2.2.1 x.2.2.2.2.1 v5_4 v5_5 v5_6 v5_7 x.2.2.2.2.2.1 x.2.2.2.2.2.2.1 x.2.2.2.2.2.2.2.1 x.2.2.2.2.2.2.2.2.1 x.2.2.2.2.2.2.2.2.2.1 x.2.2.2.2.2.2.2.2.2.2.1 x.2.2.2.2.2.2.2.2.2.2.2.1 x.2.2.2.2.2.2.2.2.2.2.2.2.1 x.2.2.2.2.2.2.2.2.2.2.2.2.2.1 x.2.2.2.2.2.2.2.2.2.2.2.2.2.2.1 x.2.2.2.2.2.2.2.2.2.2.2.2.2.2.2) ++ [(bo, .inl (cL, 1, .inr (.inl w)))])) hP hD hS hA [0, 1, 2, 3, 4, 5, 6, 7, 8, 9, 10, 11, 12, 13, 14, 15, 16] [17] [1, 2, 3, 4, 5, 6, 7, 8, 9, 10, 11, 12, 13, 14, 15, 16, 17, 0] rfl rfl rfl (by decide) rfl rfl (vx_runV (As := []) (rest := [.int 0, .ref bo]) ⟨hx, hb, hml, hown, hta⟩ (c_X11_close_x l hlt S dC dI cI H.size a0 a1 a2 a3 a4 a5 a6 a7 a8 a9 a10 v2_0 v4_1 v4_0 v5_3 v5_4 v5_5 v5_6 v5_7 v8_10 v8_0 v8_1 v8_2 v8_3 v8_4 v8_5 v8_6 v8_7 v8_8 v8_9 n x hF) (cwV 0 hta (ga_V mA1125 mA1126 mA1127 mA108 mA187) rfl rfl rfl (by decide +kernel) ⟨Nat.le_of_ble_eq_true rfl, Nat.le_of_ble_eq_true rfl⟩) ⟨qx_fb, va_recv hK hP (ci := 10) (q0 := 0) rfl rfl, qx_ps hPc hKi hDc hE hS (va_free (wc := (wd_X11_close cI a0 a1 a2 a3 a4 a5 a6 a7 a8 a9 a10 v2_0 v4_1 v4_0 v5_3 v5_4 v5_5 v5_6 v5_7 v8_10 v8_0 v8_1 v8_2 v8_3 v8_4 v8_5 v8_6 v8_7 v8_8 v8_9)) hD hS hA [0, 1, 2, 3, 4, 5, 6, 7, 8, 9, 10, 11, 12, 13, 14, 15, 16] rfl)⟩ rfl rfl hl.1 rfl (lv_room (Nat.le_of_ble_eq_true rfl)) dL_close_3 ⟨Nat.le_of_ble_eq_true rfl, Nat.le_of_ble_eq_true rfl⟩) (fun ce q9 H locs hP hD hS hce hcv hcl => ?_)
  rw [hk] at hcl
  have hcl : s.vm.findClass xIS = some ce.cls := hcl
  refine vx_catch (E := xIS) hown [] ⟨0, 8, 11, 15⟩ [] (vx_table (x := yL_moveTo) B (hts _ List.mem_cons_self)) (fun z hz => absurd hz List.not_mem_nil) (by decide) (by decide) (hta _ mA1116) (va_Nw.use rfl hE.2.2.2.2.1) hce hcv hcl ?_
  refine lv_astore_n (lv' := [(2, .ref q9), (0, .ref (a0 0)), (1, .ref bo)]) hx hb dL_close_11 rfl hl (by decide) rfl (fun ls hl => ?_)
  refine lv_iconst (v := 1) hx hb dL_close_12 (by decide) ?_
  exact W.iret (v := 1) hx hb hr (fun t ht hW => ⟨⟨1, (), rfl, rfl, by rw [ht]; exact hP, va_K.moved hW.alike hK, hD⟩, hS.F ht⟩) hS.2.2 dL_close_13

abbrev wz_L_remove : List Cond := .codeWith yL_remove cL_remove 4 (some .int) [(0, 9, 12, 28)] :: wALL
abbrev rm_L_remove : Room := { frames := 5, cells := 0, slots := 0, locals := 110 }
set_option maxHeartbeats 4000000 in
set_option maxRecDepth 100000 in
theorem c_L_remove (l : Launch) (dC : Nat → ClassId) (dI : Nat → Nat → Nat) (cI cL : ClassId) (sz : Nat) (a0 : Nat → Nat) (a1 : Nat → Nat) (a2 : Nat → Nat) (a3 : Nat → Nat) (a4 : Nat → Nat) (a5 : Nat → Nat) (a6 : Nat → Nat) (a7 : Nat → Nat) (a8 : Nat → Nat) (a9 : Nat → Nat) (a10 : Nat → Nat) (v2_0 : Nat → Int32) (v4_1 : Int32) (v4_0 : Nat → Int32) (v5_3 : Int32) (v5_4 : Int32) (v5_5 : Int32) (v5_6 : Int32) (v5_7 : Int32) (bo : Nat) (w : Nat → Int64) (p1 : Int32) (n : Nat) (u : (Int32 × (Nat → Int32) × Int32 × (Nat → Int32) × Int32)) (hF : F_X11_remove n v2_0 v4_1 v4_0 v5_3 p1 = some (.inl u)) : Met l yL_remove wz_L_remove rm_L_remove (va_Pc [.ref (a0 0), .int p1, .ref bo] (q_preL dC dI cI cL ((wd_X11_remove cI a0 a1 a2 a3 a4 a5 a6 a7 a8 a9 a10 v2_0 v4_1 v4_0 v5_3 v5_4 v5_5 v5_6 v5_7) ++ [(bo, .inl (cL, 1, .inr (.inl w)))]) sz)) (va_Qi (fun (r : Int32) (_ : Unit) => r = 0) (fun _ => q_atL dC dI cI cL (va_A ((wd_X11_remove cI a0 a1 a2 a3 a4 a5 a6 a7 a8 a9 a10 v2_0 v4_1 v4_0 v5_3 v5_4 v5_5 v5_6 v5_7) ++ [(bo, .inl (cL, 1, .inr (.inl w)))]) sz) ((wd_X11_remove cI a0 a1 a2 a3 a4 a5 a6 a7 a8 a9 a10 u.2.1 u.2.2.1 u.2.2.2.1 u.2.2.2.2 v5_4 v5_5 v5_6 v5_7) ++ [(bo, .inl (cL, 1, .inr (.inl (vp_updL w (0 : Int32).toNatClampNeg u.1.toInt64))))])) (va_A ((wd_X11_remove cI a0 a1 a2 a3 a4 a5 a6 a7 a8 a9 a10 v2_0 v4_1 v4_0 v5_3 v5_4 v5_5 v5_6 v5_7) ++ [(bo, .inl (cL, 1, .inr (.inl w)))]) sz)) 0 0 (va_A ((wd_X11_remove cI a0 a1 a2 a3 a4 a5 a6 a7 a8 a9 a10 v2_0 v4_1 v4_0 v5_3 v5_4 v5_5 v5_6 v5_7) ++ [(bo, .inl (cL, 1, .inr (.inl w)))]) sz) := by
  refine q_ofWH (cc := cL_remove) (maxL := 4) (ret := (some .int)) (hh := [(0, 9, 12, 28)]) (by decide) rfl ?_
  intro p e s m args below meth c s₁ B hml hv
  obtain ⟨rfl, hsz, hP, hK, hD0⟩ := hv
  have hx := B.exec
  have hb := B.bytes
  have hr := B.returns
  have hts := atoms_spec (ws := wz_L_remove) B.pre
  have hta := wz_tl hts
  have hown : s.vm.findClass RL = some m.cls := findClass_of_methodNamed B.named
  have hlocks := B.notSynchronized
  subst hsz
  have hD := hD0.self (sz := s.heap.size)
  generalize hAe : va_A ((wd_X11_remove cI a0 a1 a2 a3 a4 a5 a6 a7 a8 a9 a10 v2_0 v4_1 v4_0 v5_3 v5_4 v5_5 v5_6 v5_7) ++ [(bo, .inl (cL, 1, .inr (.inl w)))]) s.heap.size = A at hD ⊢
  have hA : ∀ q : Nat, s.heap.size ≤ q → A q := fun q h => by rw [← hAe]; exact Or.inr h
  have hS : va_S A s.heap s.heap [] := va_S.rf
  have hl := lv_entry ([.ref (a0 0), .int p1, .ref bo]) (n := 4) (Nat.le_of_ble_eq_true rfl)
  rw [lg_entry_eq]
  generalize (lg_sl ([.ref (a0 0), .int p1, .ref bo]) ++ List.replicate (4 - (lg_sl ([.ref (a0 0), .int p1, .ref bo])).length) Slot.unset).toArray = ls at hl ⊢
  have hl : lv_has ls 4 [(0, .ref (a0 0)), (1, .int p1), (2, .ref bo)] := hl
  obtain ⟨H, hHe⟩ : ∃ H, H = s.heap := ⟨_, rfl⟩
  have hS : va_S A s.heap H [] := by rw [hHe]; exact hS
  have hP : va_P (dC, dI) vwCl ((wd_X11_remove cI a0 a1 a2 a3 a4 a5 a6 a7 a8 a9 a10 v2_0 v4_1 v4_0 v5_3 v5_4 v5_5 v5_6 v5_7) ++ [(bo, .inl (cL, 1, .inr (.inl w)))]) H := by rw [hHe]; exact hP
  rw [← hHe]
  have hKi : va_K (dC, dI) vwCl [(cI, .int)] s := hK.sub [0] rfl
  refine lv_aload_n hx hb dL_remove_0 rfl (lv_at hl 2 rfl) ?_
  refine lv_iconst (v := 0) hx hb dL_remove_1 (by decide) ?_
  refine lv_aload_n hx hb dL_remove_2 rfl (lv_at hl 0 rfl) ?_
  refine lv_iload_n hx hb dL_remove_3 rfl (lv_at hl 1 rfl) ?_
  have hPc := hP.sub (ws' := (wd_X11_remove cI a0 a1 a2 a3 a4 a5 a6 a7 a8 a9 a10 v2_0 v4_1 v4_0 v5_3 v5_4 v5_5 v5_6 v5_7)) [0, 1, 2, 3, 4, 5] rfl
  have hDc := hD.sub (ws' := (wd_X11_remove cI a0 a1 a2 a3 a4 a5 a6 a7 a8 a9 a10 v2_0 v4_1 v4_0 v5_3 v5_4 v5_5 v5_6 v5_7)) [0, 1, 2, 3, 4, 5] rfl rfl
  refine q_calli (wc := (wd_X11_remove cI a0 a1 a2 a3 a4 a5 a6 a7 a8 a9 a10 v2_0 v4_1 v4_0 v5_3 v5_4 v5_5 v5_6 v5_7)) (w1 := (wd_X11_remove cI a0 a1 a2 a3 a4 a5 a6 a7 a8 a9 a10 u.2.1 u.2.2.1 u.2.2.2.1 u.2.2.2.2 v5_4 v5_5 v5_6 v5_7)) (ws' := ((wd_X11_remove cI a0 a1 a2 a3 a4 a5 a6 a7 a8 a9 a10 u.2.1 u.2.2.1 u.2.2.2.1 u.2.2.2.2 v5_4 v5_5 v5_6 v5_7) ++ [(bo, .inl (cL, 1, .inr (.inl w)))])) hP hD hS hA [0, 1, 2, 3, 4, 5] [6] [1, 2, 3, 4, 5, 6, 0] rfl rfl rfl (by decide) rfl rfl (va_runV (As := [.int p1]) (rest := [.int 0, .ref bo]) ⟨hx, hb, hml, hown, hta⟩ (c_X11_remove l dC dI cI H.size a0 a1 a2 a3 a4 a5 a6 a7 a8 a9 a10 v2_0 v4_1 v4_0 v5_3 v5_4 v5_5 v5_6 v5_7 p1 n u hF) (cwV 1 hta (ga_V mA1130 mA1131 mA1132 mA108 mA243) rfl rfl rfl (by decide +kernel) ⟨Nat.le_of_ble_eq_true rfl, Nat.le_of_ble_eq_true rfl⟩) ⟨q_fb, va_recv hK hP (ci := 10) (q0 := 0) rfl rfl, q_ps hPc hKi hDc⟩ rfl rfl hl.1 rfl (lv_room (Nat.le_of_ble_eq_true rfl)) dL_remove_4 ⟨Nat.zero_le _, Nat.zero_le _⟩) (fun H locs hP hD hS => ?_)
  refine lv_i2l hx hb dL_remove_7 rfl ?_
  refine va_last hx hb hK hP hD hS 6 1 rfl rfl (vpi_in (by decide)) dL_remove_8 (fun H locs hP hD hS => ?_)
  have hP : va_P (dC, dI) vwCl ((wd_X11_remove cI a0 a1 a2 a3 a4 a5 a6 a7 a8 a9 a10 u.2.1 u.2.2.1 u.2.2.2.1 u.2.2.2.2 v5_4 v5_5 v5_6 v5_7) ++ [(bo, .inl (cL, 1, .inr (.inl (vp_updL w (0 : Int32).toNatClampNeg u.1.toInt64))))]) H := hP
  have hD : va_D A ((wd_X11_remove cI a0 a1 a2 a3 a4 a5 a6 a7 a8 a9 a10 u.2.1 u.2.2.1 u.2.2.2.1 u.2.2.2.2 v5_4 v5_5 v5_6 v5_7) ++ [(bo, .inl (cL, 1, .inr (.inl (vp_updL w (0 : Int32).toNatClampNeg u.1.toInt64))))]) := hD
  refine lv_goto (tgt := 15) hx hb dL_remove_9 (by decide) ?_
  refine lv_iconst (v := 0) hx hb dL_remove_15 (by decide) ?_
  exact W.iret (v := 0) hx hb hr (fun t ht hW => ⟨⟨0, (), rfl, rfl, by rw [ht]; exact hP, va_K.moved hW.alike hK, hD⟩, hS.F ht⟩) hS.2.2 dL_remove_16
abbrev rmx_L_remove : Room := { frames := 8, cells := 1, slots := 6, locals := 124 }
set_option maxHeartbeats 4000000 in
set_option maxRecDepth 100000 in
theorem c_L_remove_x3 (l : Launch) (hlt : l.stackTraces = false) (S : Nat → Nat) (dC : Nat → ClassId) (dI : Nat → Nat → Nat) (cI cL : ClassId) (sz : Nat) (a0 : Nat → Nat) (a1 : Nat → Nat) (a2 : Nat → Nat) (a3 : Nat → Nat) (a4 : Nat → Nat) (a5 : Nat → Nat) (a6 : Nat → Nat) (a7 : Nat → Nat) (a8 : Nat → Nat) (a9 : Nat → Nat) (a10 : Nat → Nat) (v2_0 : Nat → Int32) (v4_1 : Int32) (v4_0 : Nat → Int32) (v5_3 : Int32) (v5_4 : Int32) (v5_5 : Int32) (v5_6 : Int32) (v5_7 : Int32) (bo : Nat) (w : Nat → Int64) (p1 : Int32) (n : Nat) (x : (Nat × (Nat → Int32) × Int32 × (Nat → Int32) × Int32)) (hF : F_X11_remove n v2_0 v4_1 v4_0 v5_3 p1 = some (.inr x)) (hk : x.1 = 3) : Met l yL_remove wz_L_remove rmx_L_remove (va_Pc [.ref (a0 0), .int p1, .ref bo] (qx_preL S dC dI cI cL ((wd_X11_remove cI a0 a1 a2 a3 a4 a5 a6 a7 a8 a9 a10 v2_0 v4_1 v4_0 v5_3 v5_4 v5_5 v5_6 v5_7) ++ [(bo, .inl (cL, 1, .inr (.inl w)))]) sz)) (va_Qi (fun (r : Int32) (_ : Unit) => r = 1) (fun _ => q_atL dC dI cI cL (va_A ((wd_X11_remove cI a0 a1 a2 a3 a4 a5 a6 a7 a8 a9 a10 v2_0 v4_1 v4_0 v5_3 v5_4 v5_5 v5_6 v5_7) ++ [(bo, .inl (cL, 1, .inr (.inl w)))]) sz) ((wd_X11_remove cI a0 a1 a2 a3 a4 a5 a6 a7 a8 a9 a10 x.2.1 x.2.2.1 x.2.2.2.1 x.2.2.2.2 v5_4 v5_5 v5_6 v5_7) ++ [(bo, .inl (cL, 1, .inr (.inl w)))])) (va_A ((wd_X11_remove cI a0 a1 a2 a3 a4 a5 a6 a7 a8 a9 a10 v2_0 v4_1 v4_0 v5_3 v5_4 v5_5 v5_6 v5_7) ++ [(bo, .inl (cL, 1, .inr (.inl w)))]) sz)) 1 6 (va_A ((wd_X11_remove cI a0 a1 a2 a3 a4 a5 a6 a7 a8 a9 a10 v2_0 v4_1 v4_0 v5_3 v5_4 v5_5 v5_6 v5_7) ++ [(bo, .inl (cL, 1, .inr (.inl w)))]) sz) := by
  refine q_ofWH (cc := cL_remove) (maxL := 4) (ret := (some .int)) (hh := [(0, 9, 12, 28)]) (by decide) rfl ?_
  intro p e s m args below meth c s₁ B hml hv
  obtain ⟨rfl, ⟨hsz, hP, hK, hD0⟩, hE, hC⟩ := hv
  have hx := B.exec
  have hb := B.bytes
  have hr := B.returns
  have hts := atoms_spec (ws := wz_L_remove) B.pre
  have hta := wz_tl hts
  have hown : s.vm.findClass RL = some m.cls := findClass_of_methodNamed B.named
  have hlocks := B.notSynchronized
  subst hsz
  have hD := hD0.self (sz := s.heap.size)
  generalize hAe : va_A ((wd_X11_remove cI a0 a1 a2 a3 a4 a5 a6 a7 a8 a9 a10 v2_0 v4_1 v4_0 v5_3 v5_4 v5_5 v5_6 v5_7) ++ [(bo, .inl (cL, 1, .inr (.inl w)))]) s.heap.size = A at hD hE ⊢
  have hA : ∀ q : Nat, s.heap.size ≤ q → A q := fun q h => by rw [← hAe]; exact Or.inr h
  have hS : va_S A s.heap s.heap [] := va_S.rf
  have hl := lv_entry ([.ref (a0 0), .int p1, .ref bo]) (n := 4) (Nat.le_of_ble_eq_true rfl)
  rw [lg_entry_eq]
  generalize (lg_sl ([.ref (a0 0), .int p1, .ref bo]) ++ List.replicate (4 - (lg_sl ([.ref (a0 0), .int p1, .ref bo])).length) Slot.unset).toArray = ls at hl ⊢
  have hl : lv_has ls 4 [(0, .ref (a0 0)), (1, .int p1), (2, .ref bo)] := hl
  obtain ⟨H, hHe⟩ : ∃ H, H = s.heap := ⟨_, rfl⟩
  have hS : va_S A s.heap H [] := by rw [hHe]; exact hS
  have hP : va_P (dC, dI) vwCl ((wd_X11_remove cI a0 a1 a2 a3 a4 a5 a6 a7 a8 a9 a10 v2_0 v4_1 v4_0 v5_3 v5_4 v5_5 v5_6 v5_7) ++ [(bo, .inl (cL, 1, .inr (.inl w)))]) H := by rw [hHe]; exact hP
  rw [← hHe]
  have hKi : va_K (dC, dI) vwCl [(cI, .int)] s := hK.sub [0] rfl
  refine lv_aload_n hx hb dL_remove_0 rfl (lv_at hl 2 rfl) ?_
  refine lv_iconst (v := 0) hx hb dL_remove_1 (by decide) ?_
  refine lv_aload_n hx hb dL_remove_2 rfl (lv_at hl 0 rfl) ?_
  refine lv_iload_n hx hb dL_remove_3 rfl (lv_at hl 1 rfl) ?_
  have hPc := hP.sub (ws' := (wd_X11_remove cI a0 a1 a2 a3 a4 a5 a6 a7 a8 a9 a10 v2_0 v4_1 v4_0 v5_3 v5_4 v5_5 v5_6 v5_7)) [0, 1, 2, 3, 4, 5] rfl
  have hDc := hD.sub (ws' := (wd_X11_remove cI a0 a1 a2 a3 a4 a5 a6 a7 a8 a9 a10 v2_0 v4_1 v4_0 v5_3 v5_4 v5_5 v5_6 v5_7)) [0, 1, 2, 3, 4, 5] rfl rfl
  refine qx_cat (kd := x.1) (wc := (wd_X11_remove cI a0 a1 a2 a3 a4 a5 a6 a7 a8 a9 a10 v2_0 v4_1 v4_0 v5_3 v5_4 v5_5 v5_6 v5_7)) (w1 := (wd_X11_remove cI a0 a1 a2 a3 a4 a5 a6 a7 a8 a9 a10 x.2.1 x.2.2.1 x.2.2.2.1 x.2.2.2.2 v5_4 v5_5 v5_6 v5_7)) (ws' := ((wd_X11_remove cI a0 a1 a2 a3 a4 a5 a6 a7 a8 a9 a10 x.2.1 x.2.2.1 x.2.2.2.1 x.2.2.2.2 v5_4 v5_5 v5_6 v5_7) ++ [(bo, .inl (cL, 1, .inr (.inl w)))])) hP hD hS hA [0, 1, 2, 3, 4, 5] [6] [1, 2, 3, 4, 5, 6, 0] rfl rfl rfl (by decide) rfl rfl (vx_runV (As := [.int p1]) (rest := [.int 0, .ref bo]) ⟨hx, hb, hml, hown, hta⟩ (c_X11_remove_x l hlt S dC dI cI H.size a0 a1 a2 a3 a4 a5 a6 a7 a8 a9 a10 v2_0 v4_1 v4_0 v5_3 v5_4 v5_5 v5_6 v5_7 p1 n x hF) (cwV 1 hta (ga_V mA1130 mA1131 mA1132 mA108 mA243) rfl rfl rfl (by decide +kernel) ⟨Nat.le_of_ble_eq_true rfl, Nat.le_of_ble_eq_true rfl⟩) ⟨qx_fb, va_recv hK hP (ci := 10) (q0 := 0) rfl rfl, qx_ps hPc hKi hDc hE hS (va_free (wc := (wd_X11_remove cI a0 a1 a2 a3 a4 a5 a6 a7 a8 a9 a10 v2_0 v4_1 v4_0 v5_3 v5_4 v5_5 v5_6 v5_7)) hD hS hA [0, 1, 2, 3, 4, 5] rfl)⟩ rfl rfl hl.1 rfl (lv_room (Nat.le_of_ble_eq_true rfl)) dL_remove_4 ⟨Nat.le_of_ble_eq_true rfl, Nat.le_of_ble_eq_true rfl⟩) (fun ce q9 H locs hP hD hS hce hcv hcl => ?_)
  rw [hk] at hcl
  have hcl : s.vm.findClass xIO = some ce.cls := hcl
  refine vx_catch (E := xIO) hown [] ⟨0, 9, 12, 28⟩ [] (vx_table (x := yL_moveTo) B (hts _ List.mem_cons_self)) (fun z hz => absurd hz List.not_mem_nil) (by decide) (by decide) (hta _ mA1129) (va_Nw.use rfl hE.2.2.2.2.2.1) hce hcv hcl ?_
  refine lv_astore_n (lv' := [(3, .ref q9), (0, .ref (a0 0)), (1, .int p1), (2, .ref bo)]) hx hb dL_remove_12 rfl hl (by decide) rfl (fun ls hl => ?_)
  refine lv_iconst (v := 1) hx hb dL_remove_13 (by decide) ?_
  exact W.iret (v := 1) hx hb hr (fun t ht hW => ⟨⟨1, (), rfl, rfl, by rw [ht]; exact hP, va_K.moved hW.alike hK, hD⟩, hS.F ht⟩) hS.2.2 dL_remove_14

abbrev wz_L_reverse : List Cond := .codeWith yL_reverse cL_reverse 4 (some .int) [(0, 9, 12, 28)] :: wALL
abbrev rm_L_reverse : Room := { frames := 5, cells := 0, slots := 0, locals := 110 }
set_option maxHeartbeats 4000000 in
set_option maxRecDepth 100000 in
theorem c_L_reverse (l : Launch) (dC : Nat → ClassId) (dI : Nat → Nat → Nat) (cI cL : ClassId) (sz : Nat) (a0 : Nat → Nat) (a1 : Nat → Nat) (a2 : Nat → Nat) (a3 : Nat → Nat) (a4 : Nat → Nat) (a5 : Nat → Nat) (a6 : Nat → Nat) (a7 : Nat → Nat) (a8 : Nat → Nat) (a9 : Nat → Nat) (a10 : Nat → Nat) (v2_0 : Nat → Int32) (v4_1 : Int32) (v4_0 : Nat → Int32) (v5_3 : Int32) (v5_4 : Int32) (v5_5 : Int32) (v5_6 : Int32) (v5_7 : Int32) (bo : Nat) (w : Nat → Int64) (p1 : Int32) (n : Nat) (u : (Int32 × (Nat → Int32) × Int32 × (Nat → Int32) × Int32)) (hF : F_X11_reverse n v2_0 v4_1 v4_0 v5_3 p1 = some (.inl u)) : Met l yL_reverse wz_L_reverse rm_L_reverse (va_Pc [.ref (a0 0), .int p1, .ref bo] (q_preL dC dI cI cL ((wd_X11_reverse cI a0 a1 a2 a3 a4 a5 a6 a7 a8 a9 a10 v2_0 v4_1 v4_0 v5_3 v5_4 v5_5 v5_6 v5_7) ++ [(bo, .inl (cL, 1, .inr (.inl w)))]) sz)) (va_Qi (fun (r : Int32) (_ : Unit) => r = 0) (fun _ => q_atL dC dI cI cL (va_A ((wd_X11_reverse cI a0 a1 a2 a3 a4 a5 a6 a7 a8 a9 a10 v2_0 v4_1 v4_0 v5_3 v5_4 v5_5 v5_6 v5_7) ++ [(bo, .inl (cL, 1, .inr (.inl w)))]) sz) ((wd_X11_reverse cI a0 a1 a2 a3 a4 a5 a6 a7 a8 a9 a10 u.2.1 u.2.2.1 u.2.2.2.1 u.2.2.2.2 v5_4 v5_5 v5_6 v5_7) ++ [(bo, .inl (cL, 1, .inr (.inl (vp_updL w (0 : Int32).toNatClampNeg u.1.toInt64))))])) (va_A ((wd_X11_reverse cI a0 a1 a2 a3 a4 a5 a6 a7 a8 a9 a10 v2_0 v4_1 v4_0 v5_3 v5_4 v5_5 v5_6 v5_7) ++ [(bo, .inl (cL, 1, .inr (.inl w)))]) sz)) 0 0 (va_A ((wd_X11_reverse cI a0 a1 a2 a3 a4 a5 a6 a7 a8 a9 a10 v2_0 v4_1 v4_0 v5_3 v5_4 v5_5 v5_6 v5_7) ++ [(bo, .inl (cL, 1, .inr (.inl w)))]) sz) := by
  refine q_ofWH (cc := cL_reverse) (maxL := 4) (ret := (some .int)) (hh := [(0, 9, 12, 28)]) (by decide) rfl ?_
  intro p e s m args below meth c s₁ B hml hv
  obtain ⟨rfl, hsz, hP, hK, hD0⟩ := hv
  have hx := B.exec
  have hb := B.bytes
  have hr := B.returns
  have hts := atoms_spec (ws := wz_L_reverse) B.pre
  have hta := wz_tl hts
  have hown : s.vm.findClass RL = some m.cls := findClass_of_methodNamed B.named
  have hlocks := B.notSynchronized
  subst hsz
  have hD := hD0.self (sz := s.heap.size)
  generalize hAe : va_A ((wd_X11_reverse cI a0 a1 a2 a3 a4 a5 a6 a7 a8 a9 a10 v2_0 v4_1 v4_0 v5_3 v5_4 v5_5 v5_6 v5_7) ++ [(bo, .inl (cL, 1, .inr (.inl w)))]) s.heap.size = A at hD ⊢
  have hA : ∀ q : Nat, s.heap.size ≤ q → A q := fun q h => by rw [← hAe]; exact Or.inr h
  have hS : va_S A s.heap s.heap [] := va_S.rf
  have hl := lv_entry ([.ref (a0 0), .int p1, .ref bo]) (n := 4) (Nat.le_of_ble_eq_true rfl)
  rw [lg_entry_eq]
  generalize (lg_sl ([.ref (a0 0), .int p1, .ref bo]) ++ List.replicate (4 - (lg_sl ([.ref (a0 0), .int p1, .ref bo])).length) Slot.unset).toArray = ls at hl ⊢
  have hl : lv_has ls 4 [(0, .ref (a0 0)), (1, .int p1), (2, .ref bo)] := hl
  obtain ⟨H, hHe⟩ : ∃ H, H = s.heap := ⟨_, rfl⟩
  have hS : va_S A s.heap H [] := by rw [hHe]; exact hS
  have hP : va_P (dC, dI) vwCl ((wd_X11_reverse cI a0 a1 a2 a3 a4 a5 a6 a7 a8 a9 a10 v2_0 v4_1 v4_0 v5_3 v5_4 v5_5 v5_6 v5_7) ++ [(bo, .inl (cL, 1, .inr (.inl w)))]) H := by rw [hHe]; exact hP
  rw [← hHe]
  have hKi : va_K (dC, dI) vwCl [(cI, .int)] s := hK.sub [0] rfl
  refine lv_aload_n hx hb dL_reverse_0 rfl (lv_at hl 2 rfl) ?_
  refine lv_iconst (v := 0) hx hb dL_reverse_1 (by decide) ?_
  refine lv_aload_n hx hb dL_reverse_2 rfl (lv_at hl 0 rfl) ?_
  refine lv_iload_n hx hb dL_reverse_3 rfl (lv_at hl 1 rfl) ?_
  have hPc := hP.sub (ws' := (wd_X11_reverse cI a0 a1 a2 a3 a4 a5 a6 a7 a8 a9 a10 v2_0 v4_1 v4_0 v5_3 v5_4 v5_5 v5_6 v5_7)) [0, 1, 2, 3, 4, 5] rfl
  have hDc := hD.sub (ws' := (wd_X11_reverse cI a0 a1 a2 a3 a4 a5 a6 a7 a8 a9 a10 v2_0 v4_1 v4_0 v5_3 v5_4 v5_5 v5_6 v5_7)) [0, 1, 2, 3, 4, 5] rfl rfl
  refine q_calli (wc := (wd_X11_reverse cI a0 a1 a2 a3 a4 a5 a6 a7 a8 a9 a10 v2_0 v4_1 v4_0 v5_3 v5_4 v5_5 v5_6 v5_7)) (w1 := (wd_X11_reverse cI a0 a1 a2 a3 a4 a5 a6 a7 a8 a9 a10 u.2.1 u.2.2.1 u.2.2.2.1 u.2.2.2.2 v5_4 v5_5 v5_6 v5_7)) (ws' := ((wd_X11_reverse cI a0 a1 a2 a3 a4 a5 a6 a7 a8 a9 a10 u.2.1 u.2.2.1 u.2.2.2.1 u.2.2.2.2 v5_4 v5_5 v5_6 v5_7) ++ [(bo, .inl (cL, 1, .inr (.inl w)))])) hP hD hS hA [0, 1, 2, 3, 4, 5] [6] [1, 2, 3, 4, 5, 6, 0] rfl rfl rfl (by decide) rfl rfl (va_runV (As := [.int p1]) (rest := [.int 0, .ref bo]) ⟨hx, hb, hml, hown, hta⟩ (c_X11_reverse l dC dI cI H.size a0 a1 a2 a3 a4 a5 a6 a7 a8 a9 a10 v2_0 v4_1 v4_0 v5_3 v5_4 v5_5 v5_6 v5_7 p1 n u hF) (cwV 1 hta (ga_V mA1134 mA1135 mA1136 mA108 mA253) rfl rfl rfl (by decide +kernel) ⟨Nat.le_of_ble_eq_true rfl, Nat.le_of_ble_eq_true rfl⟩) ⟨q_fb, va_recv hK hP (ci := 10) (q0 := 0) rfl rfl, q_ps hPc hKi hDc⟩ rfl rfl hl.1 rfl (lv_room (Nat.le_of_ble_eq_true rfl)) dL_reverse_4 ⟨Nat.zero_le _, Nat.zero_le _⟩) (fun H locs hP hD hS => ?_)
  refine lv_i2l hx hb dL_reverse_7 rfl ?_
  refine va_last hx hb hK hP hD hS 6 1 rfl rfl (vpi_in (by decide)) dL_reverse_8 (fun H locs hP hD hS => ?_)
  have hP : va_P (dC, dI) vwCl ((wd_X11_reverse cI a0 a1 a2 a3 a4 a5 a6 a7 a8 a9 a10 u.2.1 u.2.2.1 u.2.2.2.1 u.2.2.2.2 v5_4 v5_5 v5_6 v5_7) ++ [(bo, .inl (cL, 1, .inr (.inl (vp_updL w (0 : Int32).toNatClampNeg u.1.toInt64))))]) H := hP
  have hD : va_D A ((wd_X11_reverse cI a0 a1 a2 a3 a4 a5 a6 a7 a8 a9 a10 u.2.1 u.2.2.1 u.2.2.2.1 u.2.2.2.2 v5_4 v5_5 v5_6 v5_7) ++ [(bo, .inl (cL, 1, .inr (.inl (vp_updL w (0 : Int32).toNatClampNeg u.1.toInt64))))]) := hD
  refine lv_goto (tgt := 15) hx hb dL_reverse_9 (by decide) ?_
  refine lv_iconst (v := 0) hx hb dL_reverse_15 (by decide) ?_
  exact W.iret (v := 0) hx hb hr (fun t ht hW => ⟨⟨0, (), rfl, rfl, by rw [ht]; exact hP, va_K.moved hW.alike hK, hD⟩, hS.F ht⟩) hS.2.2 dL_reverse_16
abbrev rmx_L_reverse : Room := { frames := 8, cells := 1, slots := 6, locals := 124 }
set_option maxHeartbeats 4000000 in
set_option maxRecDepth 100000 in
theorem c_L_reverse_x3 (l : Launch) (hlt : l.stackTraces = false) (S : Nat → Nat) (dC : Nat → ClassId) (dI : Nat → Nat → Nat) (cI cL : ClassId) (sz : Nat) (a0 : Nat → Nat) (a1 : Nat → Nat) (a2 : Nat → Nat) (a3 : Nat → Nat) (a4 : Nat → Nat) (a5 : Nat → Nat) (a6 : Nat → Nat) (a7 : Nat → Nat) (a8 : Nat → Nat) (a9 : Nat → Nat) (a10 : Nat → Nat) (v2_0 : Nat → Int32) (v4_1 : Int32) (v4_0 : Nat → Int32) (v5_3 : Int32) (v5_4 : Int32) (v5_5 : Int32) (v5_6 : Int32) (v5_7 : Int32) (bo : Nat) (w : Nat → Int64) (p1 : Int32) (n : Nat) (x : (Nat × (Nat → Int32) × Int32 × (Nat → Int32) × Int32)) (hF : F_X11_reverse n v2_0 v4_1 v4_0 v5_3 p1 = some (.inr x)) (hk : x.1 = 3) : Met l yL_reverse wz_L_reverse rmx_L_reverse (va_Pc [.ref (a0 0), .int p1, .ref bo] (qx_preL S dC dI cI cL ((wd_X11_reverse cI a0 a1 a2 a3 a4 a5 a6 a7 a8 a9 a10 v2_0 v4_1 v4_0 v5_3 v5_4 v5_5 v5_6 v5_7) ++ [(bo, .inl (cL, 1, .inr (.inl w)))]) sz)) (va_Qi (fun (r : Int32) (_ : Unit) => r = 1) (fun _ => q_atL dC dI cI cL (va_A ((wd_X11_reverse cI a0 a1 a2 a3 a4 a5 a6 a7 a8 a9 a10 v2_0 v4_1 v4_0 v5_3 v5_4 v5_5 v5_6 v5_7) ++ [(bo, .inl (cL, 1, .inr (.inl w)))]) sz) ((wd_X11_reverse cI a0 a1 a2 a3 a4 a5 a6 a7 a8 a9 a10 x.2.1 x.2.2.1 x.2.2.2.1 x.2.2.2.2 v5_4 v5_5 v5_6 v5_7) ++ [(bo, .inl (cL, 1, .inr (.inl w)))])) (va_A ((wd_X11_reverse cI a0 a1 a2 a3 a4 a5 a6 a7 a8 a9 a10 v2_0 v4_1 v4_0 v5_3 v5_4 v5_5 v5_6 v5_7) ++ [(bo, .inl (cL, 1, .inr (.inl w)))]) sz)) 1 6 (va_A ((wd_X11_reverse cI a0 a1 a2 a3 a4 a5 a6 a7 a8 a9 a10 v2_0 v4_1 v4_0 v5_3 v5_4 v5_5 v5_6 v5_7) ++ [(bo, .inl (cL, 1, .inr (.inl w)))]) sz) := by
  refine q_ofWH (cc := cL_reverse) (maxL := 4) (ret := (some .int)) (hh := [(0, 9, 12, 28)]) (by decide) rfl ?_
  intro p e s m args below meth c s₁ B hml hv
  obtain ⟨rfl, ⟨hsz, hP, hK, hD0⟩, hE, hC⟩ := hv
  have hx := B.exec
  have hb := B.bytes
  have hr := B.returns
  have hts := atoms_spec (ws := wz_L_reverse) B.pre
  have hta := wz_tl hts
  have hown : s.vm.findClass RL = some m.cls := findClass_of_methodNamed B.named
  have hlocks := B.notSynchronized
  subst hsz
  have hD := hD0.self (sz := s.heap.size)
  generalize hAe : va_A ((wd_X11_reverse cI a0 a1 a2 a3 a4 a5 a6 a7 a8 a9 a10 v2_0 v4_1 v4_0 v5_3 v5_4 v5_5 v5_6 v5_7) ++ [(bo, .inl (cL, 1, .inr (.inl w)))]) s.heap.size = A at hD hE ⊢
  have hA : ∀ q : Nat, s.heap.size ≤ q → A q := fun q h => by rw [← hAe]; exact Or.inr h
  have hS : va_S A s.heap s.heap [] := va_S.rf
  have hl := lv_entry ([.ref (a0 0), .int p1, .ref bo]) (n := 4) (Nat.le_of_ble_eq_true rfl)
  rw [lg_entry_eq]
  generalize (lg_sl ([.ref (a0 0), .int p1, .ref bo]) ++ List.replicate (4 - (lg_sl ([.ref (a0 0), .int p1, .ref bo])).length) Slot.unset).toArray = ls at hl ⊢
  have hl : lv_has ls 4 [(0, .ref (a0 0)), (1, .int p1), (2, .ref bo)] := hl
  obtain ⟨H, hHe⟩ : ∃ H, H = s.heap := ⟨_, rfl⟩
  have hS : va_S A s.heap H [] := by rw [hHe]; exact hS
  have hP : va_P (dC, dI) vwCl ((wd_X11_reverse cI a0 a1 a2 a3 a4 a5 a6 a7 a8 a9 a10 v2_0 v4_1 v4_0 v5_3 v5_4 v5_5 v5_6 v5_7) ++ [(bo, .inl (cL, 1, .inr (.inl w)))]) H := by rw [hHe]; exact hP
  rw [← hHe]
  have hKi : va_K (dC, dI) vwCl [(cI, .int)] s := hK.sub [0] rfl
  refine lv_aload_n hx hb dL_reverse_0 rfl (lv_at hl 2 rfl) ?_
  refine lv_iconst (v := 0) hx hb dL_reverse_1 (by decide) ?_
  refine lv_aload_n hx hb dL_reverse_2 rfl (lv_at hl 0 rfl) ?_
  refine lv_iload_n hx hb dL_reverse_3 rfl (lv_at hl 1 rfl) ?_
  have hPc := hP.sub (ws' := (wd_X11_reverse cI a0 a1 a2 a3 a4 a5 a6 a7 a8 a9 a10 v2_0 v4_1 v4_0 v5_3 v5_4 v5_5 v5_6 v5_7)) [0, 1, 2, 3, 4, 5] rfl
  have hDc := hD.sub (ws' := (wd_X11_reverse cI a0 a1 a2 a3 a4 a5 a6 a7 a8 a9 a10 v2_0 v4_1 v4_0 v5_3 v5_4 v5_5 v5_6 v5_7)) [0, 1, 2, 3, 4, 5] rfl rfl
  refine qx_cat (kd := x.1) (wc := (wd_X11_reverse cI a0 a1 a2 a3 a4 a5 a6 a7 a8 a9 a10 v2_0 v4_1 v4_0 v5_3 v5_4 v5_5 v5_6 v5_7)) (w1 := (wd_X11_reverse cI a0 a1 a2 a3 a4 a5 a6 a7 a8 a9 a10 x.2.1 x.2.2.1 x.2.2.2.1 x.2.2.2.2 v5_4 v5_5 v5_6 v5_7)) (ws' := ((wd_X11_reverse cI a0 a1 a2 a3 a4 a5 a6 a7 a8 a9 a10 x.2.1 x.2.2.1 x.2.2.2.1 x.2.2.2.2 v5_4 v5_5 v5_6 v5_7) ++ [(bo, .inl (cL, 1, .inr (.inl w)))])) hP hD hS hA [0, 1, 2, 3, 4, 5] [6] [1, 2, 3, 4, 5, 6, 0] rfl rfl rfl (by decide) rfl rfl (vx_runV (As := [.int p1]) (rest := [.int 0, .ref bo]) ⟨hx, hb, hml, hown, hta⟩ (c_X11_reverse_x l hlt S dC dI cI H.size a0 a1 a2 a3 a4 a5 a6 a7 a8 a9 a10 v2_0 v4_1 v4_0 v5_3 v5_4 v5_5 v5_6 v5_7 p1 n x hF) (cwV 1 hta (ga_V mA1134 mA1135 mA1136 mA108 mA253) rfl rfl rfl (by decide +kernel) ⟨Nat.le_of_ble_eq_true rfl, Nat.le_of_ble_eq_true rfl⟩) ⟨qx_fb, va_recv hK hP (ci := 10) (q0 := 0) rfl rfl, qx_ps hPc hKi hDc hE hS (va_free (wc := (wd_X11_reverse cI a0 a1 a2 a3 a4 a5 a6 a7 a8 a9 a10 v2_0 v4_1 v4_0 v5_3 v5_4 v5_5 v5_6 v5_7)) hD hS hA [0, 1, 2, 3, 4, 5] rfl)⟩ rfl rfl hl.1 rfl (lv_room (Nat.le_of_ble_eq_true rfl)) dL_reverse_4 ⟨Nat.le_of_ble_eq_true rfl, Nat.le_of_ble_eq_true rfl⟩) (fun ce q9 H locs hP hD hS hce hcv hcl => ?_)
  rw [hk] at hcl
  have hcl : s.vm.findClass xIO = some ce.cls := hcl
  refine vx_catch (E := xIO) hown [] ⟨0, 9, 12, 28⟩ [] (vx_table (x := yL_moveTo) B (hts _ List.mem_cons_self)) (fun z hz => absurd hz List.not_mem_nil) (by decide) (by decide) (hta _ mA1129) (va_Nw.use rfl hE.2.2.2.2.2.1) hce hcv hcl ?_
  refine lv_astore_n (lv' := [(3, .ref q9), (0, .ref (a0 0)), (1, .int p1), (2, .ref bo)]) hx hb dL_reverse_12 rfl hl (by decide) rfl (fun ls hl => ?_)
  refine lv_iconst (v := 1) hx hb dL_reverse_13 (by decide) ?_
  exact W.iret (v := 1) hx hb hr (fun t ht hW => ⟨⟨1, (), rfl, rfl, by rw [ht]; exact hP, va_K.moved hW.alike hK, hD⟩, hS.F ht⟩) hS.2.2 dL_reverse_14

abbrev wz_L_simplify : List Cond := .codeWith yL_simplify cL_simplify 4 (some .int) [(0, 9, 12, 28)] :: wALL
abbrev rm_L_simplify : Room := { frames := 7, cells := 0, slots := 0, locals := 165 }
set_option maxHeartbeats 4000000 in
set_option maxRecDepth 100000 in
theorem c_L_simplify (l : Launch) (dC : Nat → ClassId) (dI : Nat → Nat → Nat) (cI cL : ClassId) (sz : Nat) (a0 : Nat → Nat) (a1 : Nat → Nat) (a2 : Nat → Nat) (a3 : Nat → Nat) (a4 : Nat → Nat) (a5 : Nat → Nat) (a6 : Nat → Nat) (a7 : Nat → Nat) (a8 : Nat → Nat) (a9 : Nat → Nat) (a10 : Nat → Nat) (v2_0 : Nat → Int32) (v4_1 : Int32) (v4_0 : Nat → Int32) (v5_3 : Int32) (v5_4 : Int32) (v5_5 : Int32) (v5_6 : Int32) (v5_7 : Int32) (bo : Nat) (w : Nat → Int64) (p1 : Int32) (n : Nat) (u : (Int32 × (Nat → Int32) × Int32 × (Nat → Int32) × Int32)) (hF : F_X11_simplify n v2_0 v4_1 v4_0 v5_3 p1 = some (.inl u)) : Met l yL_simplify wz_L_simplify rm_L_simplify (va_Pc [.ref (a0 0), .int p1, .ref bo] (q_preL dC dI cI cL ((wd_X11_simplify cI a0 a1 a2 a3 a4 a5 a6 a7 a8 a9 a10 v2_0 v4_1 v4_0 v5_3 v5_4 v5_5 v5_6 v5_7) ++ [(bo, .inl (cL, 1, .inr (.inl w)))]) sz)) (va_Qi (fun (r : Int32) (_ : Unit) => r = 0) (fun _ => q_atL dC dI cI cL (va_A ((wd_X11_simplify cI a0 a1 a2 a3 a4 a5 a6 a7 a8 a9 a10 v2_0 v4_1 v4_0 v5_3 v5_4 v5_5 v5_6 v5_7) ++ [(bo, .inl (cL, 1, .inr (.inl w)))]) sz) ((wd_X11_simplify cI a0 a1 a2 a3 a4 a5 a6 a7 a8 a9 a10 u.2.1 u.2.2.1 u.2.2.2.1 u.2.2.2.2 v5_4 v5_5 v5_6 v5_7) ++ [(bo, .inl (cL, 1, .inr (.inl (vp_updL w (0 : Int32).toNatClampNeg u.1.toInt64))))])) (va_A ((wd_X11_simplify cI a0 a1 a2 a3 a4 a5 a6 a7 a8 a9 a10 v2_0 v4_1 v4_0 v5_3 v5_4 v5_5 v5_6 v5_7) ++ [(bo, .inl (cL, 1, .inr (.inl w)))]) sz)) 0 0 (va_A ((wd_X11_simplify cI a0 a1 a2 a3 a4 a5 a6 a7 a8 a9 a10 v2_0 v4_1 v4_0 v5_3 v5_4 v5_5 v5_6 v5_7) ++ [(bo, .inl (cL, 1, .inr (.inl w)))]) sz) := by
  refine q_ofWH (cc := cL_simplify) (maxL := 4) (ret := (some .int)) (hh := [(0, 9, 12, 28)]) (by decide) rfl ?_
  intro p e s m args below meth c s₁ B hml hv
  obtain ⟨rfl, hsz, hP, hK, hD0⟩ := hv
  have hx := B.exec
  have hb := B.bytes
  have hr := B.returns
  have hts := atoms_spec (ws := wz_L_simplify) B.pre
  have hta := wz_tl hts
  have hown : s.vm.findClass RL = some m.cls := findClass_of_methodNamed B.named
  have hlocks := B.notSynchronized
  subst hsz
  have hD := hD0.self (sz := s.heap.size)
  generalize hAe : va_A ((wd_X11_simplify cI a0 a1 a2 a3 a4 a5 a6 a7 a8 a9 a10 v2_0 v4_1 v4_0 v5_3 v5_4 v5_5 v5_6 v5_7) ++ [(bo, .inl (cL, 1, .inr (.inl w)))]) s.heap.size = A at hD ⊢
  have hA : ∀ q : Nat, s.heap.size ≤ q → A q := fun q h => by rw [← hAe]; exact Or.inr h
  have hS : va_S A s.heap s.heap [] := va_S.rf
  have hl := lv_entry ([.ref (a0 0), .int p1, .ref bo]) (n := 4) (Nat.le_of_ble_eq_true rfl)
  rw [lg_entry_eq]
  generalize (lg_sl ([.ref (a0 0), .int p1, .ref bo]) ++ List.replicate (4 - (lg_sl ([.ref (a0 0), .int p1, .ref bo])).length) Slot.unset).toArray = ls at hl ⊢
  have hl : lv_has ls 4 [(0, .ref (a0 0)), (1, .int p1), (2, .ref bo)] := hl
  obtain ⟨H, hHe⟩ : ∃ H, H = s.heap := ⟨_, rfl⟩
  have hS : va_S A s.heap H [] := by rw [hHe]; exact hS
  have hP : va_P (dC, dI) vwCl ((wd_X11_simplify cI a0 a1 a2 a3 a4 a5 a6 a7 a8 a9 a10 v2_0 v4_1 v4_0 v5_3 v5_4 v5_5 v5_6 v5_7) ++ [(bo, .inl (cL, 1, .inr (.inl w)))]) H := by rw [hHe]; exact hP
  rw [← hHe]
  have hKi : va_K (dC, dI) vwCl [(cI, .int)] s := hK.sub [0] rfl
  refine lv_aload_n hx hb dL_simplify_0 rfl (lv_at hl 2 rfl) ?_
  refine lv_iconst (v := 0) hx hb dL_simplify_1 (by decide) ?_
  refine lv_aload_n hx hb dL_simplify_2 rfl (lv_at hl 0 rfl) ?_
  refine lv_iload_n hx hb dL_simplify_3 rfl (lv_at hl 1 rfl) ?_
  have hPc := hP.sub (ws' := (wd_X11_simplify cI a0 a1 a2 a3 a4 a5 a6 a7 a8 a9 a10 v2_0 v4_1 v4_0 v5_3 v5_4 v5_5 v5_6 v5_7)) [0, 1, 2, 3, 4, 5] rfl
  have hDc := hD.sub (ws' := (wd_X11_simplify cI a0 a1 a2 a3 a4 a5 a6 a7 a8 a9 a10 v2_0 v4_1 v4_0 v5_3 v5_4 v5_5 v5_6 v5_7)) [0, 1, 2, 3, 4, 5] rfl rfl
  refine q_calli (wc := (wd_X11_simplify cI a0 a1 a2 a3 a4 a5 a6 a7 a8 a9 a10 v2_0 v4_1 v4_0 v5_3 v5_4 v5_5 v5_6 v5_7)) (w1 := (wd_X11_simplify cI a0 a1 a2 a3 a4 a5 a6 a7 a8 a9 a10 u.2.1 u.2.2.1 u.2.2.2.1 u.2.2.2.2 v5_4 v5_5 v5_6 v5_7)) (ws' := ((wd_X11_simplify cI a0 a1 a2 a3 a4 a5 a6 a7 a8 a9 a10 u.2.1 u.2.2.1 u.2.2.2.1 u.2.2.2.2 v5_4 v5_5 v5_6 v5_7) ++ [(bo, .inl (cL, 1, .inr (.inl w)))])) hP hD hS hA [0, 1, 2, 3, 4, 5] [6] [1, 2, 3, 4, 5, 6, 0] rfl rfl rfl (by decide) rfl rfl (va_runV (As := [.int p1]) (rest := [.int 0, .ref bo]) ⟨hx, hb, hml, hown, hta⟩ (c_X11_simplify l dC dI cI H.size a0 a1 a2 a3 a4 a5 a6 a7 a8 a9 a10 v2_0 v4_1 v4_0 v5_3 v5_4 v5_5 v5_6 v5_7 p1 n u hF) (cwV 1 hta (ga_V mA1138 mA1139 mA1140 mA108 mA260) rfl rfl rfl (by decide +kernel) ⟨Nat.le_of_ble_eq_true rfl, Nat.le_of_ble_eq_true rfl⟩) ⟨q_fb, va_recv hK hP (ci := 10) (q0 := 0) rfl rfl, q_ps hPc hKi hDc⟩ rfl rfl hl.1 rfl (lv_room (Nat.le_of_ble_eq_true rfl)) dL_simplify_4 ⟨Nat.zero_le _, Nat.zero_le _⟩) (fun H locs hP hD hS => ?_)
  refine lv_i2l hx hb dL_simplify_7 rfl ?_
  refine va_last hx hb hK hP hD hS 6 1 rfl rfl (vpi_in (by decide)) dL_simplify_8 (fun H locs hP hD hS => ?_)
  have hP : va_P (dC, dI) vwCl ((wd_X11_simplify cI a0 a1 a2 a3 a4 a5 a6 a7 a8 a9 a10 u.2.1 u.2.2.1 u.2.2.2.1 u.2.2.2.2 v5_4 v5_5 v5_6 v5_7) ++ [(bo, .inl (cL, 1, .inr (.inl (vp_updL w (0 : Int32).toNatClampNeg u.1.toInt64))))]) H := hP
  have hD : va_D A ((wd_X11_simplify cI a0 a1 a2 a3 a4 a5 a6 a7 a8 a9 a10 u.2.1 u.2.2.1 u.2.2.2.1 u.2.2.2.2 v5_4 v5_5 v5_6 v5_7) ++ [(bo, .inl (cL, 1, .inr (.inl (vp_updL w (0 : Int32).toNatClampNeg u.1.toInt64))))]) := hD
  refine lv_goto (tgt := 15) hx hb dL_simplify_9 (by decide) ?_
  refine lv_iconst (v := 0) hx hb dL_simplify_15 (by decide) ?_
  exact W.iret (v := 0) hx hb hr (fun t ht hW => ⟨⟨0, (), rfl, rfl, by rw [ht]; exact hP, va_K.moved hW.alike hK, hD⟩, hS.F ht⟩) hS.2.2 dL_simplify_16
abbrev rmx_L_simplify : Room := { frames := 8, cells := 1, slots := 6, locals := 165 }
set_option maxHeartbeats 4000000 in
set_option maxRecDepth 100000 in
theorem c_L_simplify_x3 (l : Launch) (hlt : l.stackTraces = false) (S : Nat → Nat) (dC : Nat → ClassId) (dI : Nat → Nat → Nat) (cI cL : ClassId) (sz : Nat) (a0 : Nat → Nat) (a1 : Nat → Nat) (a2 : Nat → Nat) (a3 : Nat → Nat) (a4 : Nat → Nat) (a5 : Nat → Nat) (a6 : Nat → Nat) (a7 : Nat → Nat) (a8 : Nat → Nat) (a9 : Nat → Nat) (a10 : Nat → Nat) (v2_0 : Nat → Int32) (v4_1 : Int32) (v4_0 : Nat → Int32) (v5_3 : Int32) (v5_4 : Int32) (v5_5 : Int32) (v5_6 : Int32) (v5_7 : Int32) (bo : Nat) (w : Nat → Int64) (p1 : Int32) (n : Nat) (x : (Nat × (Nat → Int32) × Int32 × (Nat → Int32) × Int32)) (hF : F_X11_simplify n v2_0 v4_1 v4_0 v5_3 p1 = some (.inr x)) (hk : x.1 = 3) : Met l yL_simplify wz_L_simplify rmx_L_simplify (va_Pc [.ref (a0 0), .int p1, .ref bo] (qx_preL S dC dI cI cL ((wd_X11_simplify cI a0 a1 a2 a3 a4 a5 a6 a7 a8 a9 a10 v2_0 v4_1 v4_0 v5_3 v5_4 v5_5 v5_6 v5_7) ++ [(bo, .inl (cL, 1, .inr (.inl w)))]) sz)) (va_Qi (fun (r : Int32) (_ : Unit) => r = 1) (fun _ => q_atL dC dI cI cL (va_A ((wd_X11_simplify cI a0 a1 a2 a3 a4 a5 a6 a7 a8 a9 a10 v2_0 v4_1 v4_0 v5_3 v5_4 v5_5 v5_6 v5_7) ++ [(bo, .inl (cL, 1, .inr (.inl w)))]) sz) ((wd_X11_simplify cI a0 a1 a2 a3 a4 a5 a6 a7 a8 a9 a10 x.2.1 x.2.2.1 x.2.2.2.1 x.2.2.2.2 v5_4 v5_5 v5_6 v5_7) ++ [(bo, .inl (cL, 1, .inr (.inl w)))])) (va_A ((wd_X11_simplify cI a0 a1 a2 a3 a4 a5 a6 a7 a8 a9 a10 v2_0 v4_1 v4_0 v5_3 v5_4 v5_5 v5_6 v5_7) ++ [(bo, .inl (cL, 1, .inr (.inl w)))]) sz)) 1 6 (va_A ((wd_X11_simplify cI a0 a1 a2 a3 a4 a5 a6 a7 a8 a9 a10 v2_0 v4_1 v4_0 v5_3 v5_4 v5_5 v5_6 v5_7) ++ [(bo, .inl (cL, 1, .inr (.inl w)))]) sz) := by
  refine q_ofWH (cc := cL_simplify) (maxL := 4) (ret := (some .int)) (hh := [(0, 9, 12, 28)]) (by decide) rfl ?_
  intro p e s m args below meth c s₁ B hml hv
  obtain ⟨rfl, ⟨hsz, hP, hK, hD0⟩, hE, hC⟩ := hv
  have hx := B.exec
  have hb := B.bytes
  have hr := B.returns
  have hts := atoms_spec (ws := wz_L_simplify) B.pre
  have hta := wz_tl hts
  have hown : s.vm.findClass RL = some m.cls := findClass_of_methodNamed B.named
  have hlocks := B.notSynchronized
  subst hsz
  have hD := hD0.self (sz := s.heap.size)
  generalize hAe : va_A ((wd_X11_simplify cI a0 a1 a2 a3 a4 a5 a6 a7 a8 a9 a10 v2_0 v4_1 v4_0 v5_3 v5_4 v5_5 v5_6 v5_7) ++ [(bo, .inl (cL, 1, .inr (.inl w)))]) s.heap.size = A at hD hE ⊢
  have hA : ∀ q : Nat, s.heap.size ≤ q → A q := fun q h => by rw [← hAe]; exact Or.inr h
  have hS : va_S A s.heap s.heap [] := va_S.rf
  have hl := lv_entry ([.ref (a0 0), .int p1, .ref bo]) (n := 4) (Nat.le_of_ble_eq_true rfl)
  rw [lg_entry_eq]
  generalize (lg_sl ([.ref (a0 0), .int p1, .ref bo]) ++ List.replicate (4 - (lg_sl ([.ref (a0 0), .int p1, .ref bo])).length) Slot.unset).toArray = ls at hl ⊢
  have hl : lv_has ls 4 [(0, .ref (a0 0)), (1, .int p1), (2, .ref bo)] := hl
  obtain ⟨H, hHe⟩ : ∃ H, H = s.heap := ⟨_, rfl⟩
  have hS : va_S A s.heap H [] := by rw [hHe]; exact hS
  have hP : va_P (dC, dI) vwCl ((wd_X11_simplify cI a0 a1 a2 a3 a4 a5 a6 a7 a8 a9 a10 v2_0 v4_1 v4_0 v5_3 v5_4 v5_5 v5_6 v5_7) ++ [(bo, .inl (cL, 1, .inr (.inl w)))]) H := by rw [hHe]; exact hP
  rw [← hHe]
  have hKi : va_K (dC, dI) vwCl [(cI, .int)] s := hK.sub [0] rfl
  refine lv_aload_n hx hb dL_simplify_0 rfl (lv_at hl 2 rfl) ?_
  refine lv_iconst (v := 0) hx hb dL_simplify_1 (by decide) ?_
  refine lv_aload_n hx hb dL_simplify_2 rfl (lv_at hl 0 rfl) ?_
  refine lv_iload_n hx hb dL_simplify_3 rfl (lv_at hl 1 rfl) ?_
  have hPc := hP.sub (ws' := (wd_X11_simplify cI a0 a1 a2 a3 a4 a5 a6 a7 a8 a9 a10 v2_0 v4_1 v4_0 v5_3 v5_4 v5_5 v5_6 v5_7)) [0, 1, 2, 3, 4, 5] rfl
  have hDc := hD.sub (ws' := (wd_X11_simplify cI a0 a1 a2 a3 a4 a5 a6 a7 a8 a9 a10 v2_0 v4_1 v4_0 v5_3 v5_4 v5_5 v5_6 v5_7)) [0, 1, 2, 3, 4, 5] rfl rfl
  refine qx_cat (kd := x.1) (wc := (wd_X11_simplify cI a0 a1 a2 a3 a4 a5 a6 a7 a8 a9 a10 v2_0 v4_1 v4_0 v5_3 v5_4 v5_5 v5_6 v5_7)) (w1 := (wd_X11_simplify cI a0 a1 a2 a3 a4 a5 a6 a7 a8 a9 a10 x.2.1 x.2.2.1 x.2.2.2.1 x.2.2.2.2 v5_4 v5_5 v5_6 v5_7)) (ws' := ((wd_X11_simplify cI a0 a1 a2 a3 a4 a5 a6 a7 a8 a9 a10 x.2.1 x.2.2.1 x.2.2.2.1 x.2.2.2.2 v5_4 v5_5 v5_6 v5_7) ++ [(bo, .inl (cL, 1, .inr (.inl w)))])) hP hD hS hA [0, 1, 2, 3, 4, 5] [6] [1, 2, 3, 4, 5, 6, 0] rfl rfl rfl (by decide) rfl rfl (vx_runV (As := [.int p1]) (rest := [.int 0, .ref bo]) ⟨hx, hb, hml, hown, hta⟩ (c_X11_simplify_x l hlt S dC dI cI H.size a0 a1 a2 a3 a4 a5 a6 a7 a8 a9 a10 v2_0 v4_1 v4_0 v5_3 v5_4 v5_5 v5_6 v5_7 p1 n x hF) (cwV 1 hta (ga_V mA1138 mA1139 mA1140 mA108 mA260) rfl rfl rfl (by decide +kernel) ⟨Nat.le_of_ble_eq_true rfl, Nat.le_of_ble_eq_true rfl⟩) ⟨qx_fb, va_recv hK hP (ci := 10) (q0 := 0) rfl rfl, qx_ps hPc hKi hDc hE hS (va_free (wc := (wd_X11_simplify cI a0 a1 a2 a3 a4 a5 a6 a7 a8 a9 a10 v2_0 v4_1 v4_0 v5_3 v5_4 v5_5 v5_6 v5_7)) hD hS hA [0, 1, 2, 3, 4, 5] rfl)⟩ rfl rfl hl.1 rfl (lv_room (Nat.le_of_ble_eq_true rfl)) dL_simplify_4 ⟨Nat.le_of_ble_eq_true rfl, Nat.le_of_ble_eq_true rfl⟩) (fun ce q9 H locs hP hD hS hce hcv hcl => ?_)
  rw [hk] at hcl
  have hcl : s.vm.findClass xIO = some ce.cls := hcl
  refine vx_catch (E := xIO) hown [] ⟨0, 9, 12, 28⟩ [] (vx_table (x := yL_moveTo) B (hts _ List.mem_cons_self)) (fun z hz => absurd hz List.not_mem_nil) (by decide) (by decide) (hta _ mA1129) (va_Nw.use rfl hE.2.2.2.2.2.1) hce hcv hcl ?_
  refine lv_astore_n (lv' := [(3, .ref q9), (0, .ref (a0 0)), (1, .int p1), (2, .ref bo)]) hx hb dL_simplify_12 rfl hl (by decide) rfl (fun ls hl => ?_)
  refine lv_iconst (v := 1) hx hb dL_simplify_13 (by decide) ?_
  exact W.iret (v := 1) hx hb hr (fun t ht hW => ⟨⟨1, (), rfl, rfl, by rw [ht]; exact hP, va_K.moved hW.alike hK, hD⟩, hS.F ht⟩) hS.2.2 dL_simplify_14

abbrev wz_L_transform : List Cond := .codeWith yL_transform cL_transform 6 (some .int) [(0, 12, 15, 13), (0, 12, 19, 15)] :: wALL
abbrev rm_L_transform : Room := { frames := 5, cells := 0, slots := 0, locals := 112 }
set_option maxHeartbeats 4000000 in
set_option maxRecDepth 100000 in
theorem c_L_transform (l : Launch) (dC : Nat → ClassId) (dI : Nat → Nat → Nat) (cI cL : ClassId) (sz : Nat) (a0 : Nat → Nat) (a1 : Nat → Nat) (a2 : Nat → Nat) (a3 : Nat → Nat) (a4 : Nat → Nat) (a5 : Nat → Nat) (a6 : Nat → Nat) (a7 : Nat → Nat) (a8 : Nat → Nat) (a9 : Nat → Nat) (a10 : Nat → Nat) (v2_0 : Nat → Int32) (v4_1 : Int32) (v4_0 : Nat → Int32) (v5_3 : Int32) (v5_4 : Int32) (v5_5 : Int32) (v5_6 : Int32) (v5_7 : Int32) (bo : Nat) (w : Nat → Int64) (p1 : Int32) (p2 : Int32) (p3 : Int32) (n : Nat) (u : (Int32 × (Nat → Int32) × Int32 × (Nat → Int32) × Int32)) (hF : F_X11_transform n v2_0 v4_1 v4_0 v5_3 p1 p2 p3 = some (.inl u)) : Met l yL_transform wz_L_transform rm_L_transform (va_Pc [.ref (a0 0), .int p1, .int p2, .int p3, .ref bo] (q_preL dC dI cI cL ((wd_X11_transform cI a0 a1 a2 a3 a4 a5 a6 a7 a8 a9 a10 v2_0 v4_1 v4_0 v5_3 v5_4 v5_5 v5_6 v5_7) ++ [(bo, .inl (cL, 1, .inr (.inl w)))]) sz)) (va_Qi (fun (r : Int32) (_ : Unit) => r = 0) (fun _ => q_atL dC dI cI cL (va_A ((wd_X11_transform cI a0 a1 a2 a3 a4 a5 a6 a7 a8 a9 a10 v2_0 v4_1 v4_0 v5_3 v5_4 v5_5 v5_6 v5_7) ++ [(bo, .inl (cL, 1, .inr (.inl w)))]) sz) ((wd_X11_transform cI a0 a1 a2 a3 a4 a5 a6 a7 a8 a9 a10 u.2.1 u.2.2.1 u.2.2.2.1 u.2.2.2.2 v5_4 v5_5 v5_6 v5_7) ++ [(bo, .inl (cL, 1, .inr (.inl (vp_updL w (0 : Int32).toNatClampNeg u.1.toInt64))))])) (va_A ((wd_X11_transform cI a0 a1 a2 a3 a4 a5 a6 a7 a8 a9 a10 v2_0 v4_1 v4_0 v5_3 v5_4 v5_5 v5_6 v5_7) ++ [(bo, .inl (cL, 1, .inr (.inl w)))]) sz)) 0 0 (va_A ((wd_X11_transform cI a0 a1 a2 a3 a4 a5 a6 a7 a8 a9 a10 v2_0 v4_1 v4_0 v5_3 v5_4 v5_5 v5_6 v5_7) ++ [(bo, .inl (cL, 1, .inr (.inl w)))]) sz) := by
  refine q_ofWH (cc := cL_transform) (maxL := 6) (ret := (some .int)) (hh := [(0, 12, 15, 13), (0, 12, 19, 15)]) (by decide) rfl ?_
  intro p e s m args below meth c s₁ B hml hv
  obtain ⟨rfl, hsz, hP, hK, hD0⟩ := hv
  have hx := B.exec
  have hb := B.bytes
  have hr := B.returns
  have hts := atoms_spec (ws := wz_L_transform) B.pre
  have hta := wz_tl hts
  have hown : s.vm.findClass RL = some m.cls := findClass_of_methodNamed B.named
  have hlocks := B.notSynchronized
  subst hsz
  have hD := hD0.self (sz := s.heap.size)
  generalize hAe : va_A ((wd_X11_transform cI a0 a1 a2 a3 a4 a5 a6 a7 a8 a9 a10 v2_0 v4_1 v4_0 v5_3 v5_4 v5_5 v5_6 v5_7) ++ [(bo, .inl (cL, 1, .inr (.inl w)))]) s.heap.size = A at hD ⊢
  have hA : ∀ q : Nat, s.heap.size ≤ q → A q := fun q h => by rw [← hAe]; exact Or.inr h
  have hS : va_S A s.heap s.heap [] := va_S.rf
  have hl := lv_entry ([.ref (a0 0), .int p1, .int p2, .int p3, .ref bo]) (n := 6) (Nat.le_of_ble_eq_true rfl)
  rw [lg_entry_eq]
  generalize (lg_sl ([.ref (a0 0), .int p1, .int p2, .int p3, .ref bo]) ++ List.replicate (6 - (lg_sl ([.ref (a0 0), .int p1, .int p2, .int p3, .ref bo])).length) Slot.unset).toArray = ls at hl ⊢
  have hl : lv_has ls 6 [(0, .ref (a0 0)), (1, .int p1), (2, .int p2), (3, .int p3), (4, .ref bo)] := hl
  obtain ⟨H, hHe⟩ : ∃ H, H = s.heap := ⟨_, rfl⟩
  have hS : va_S A s.heap H [] := by rw [hHe]; exact hS
  have hP : va_P (dC, dI) vwCl ((wd_X11_transform cI a0 a1 a2 a3 a4 a5 a6 a7 a8 a9 a10 v2_0 v4_1 v4_0 v5_3 v5_4 v5_5 v5_6 v5_7) ++ [(bo, .inl (cL, 1, .inr (.inl w)))]) H := by rw [hHe]; exact hP
  rw [← hHe]
  have hKi : va_K (dC, dI) vwCl [(cI, .int)] s := hK.sub [0] rfl
  refine lv_aload hx hb dL_transform_0 (lv_at hl 4 rfl) ?_
  refine lv_iconst (v := 0) hx hb dL_transform_2 (by decide) ?_
  refine lv_aload_n hx hb dL_transform_3 rfl (lv_at hl 0 rfl) ?_
  refine lv_iload_n hx hb dL_transform_4 rfl (lv_at hl 1 rfl) ?_
  refine lv_iload_n hx hb dL_transform_5 rfl (lv_at hl 2 rfl) ?_
  refine lv_iload_n hx hb dL_transform_6 rfl (lv_at hl 3 rfl) ?_
  have hPc := hP.sub (ws' := (wd_X11_transform cI a0 a1 a2 a3 a4 a5 a6 a7 a8 a9 a10 v2_0 v4_1 v4_0 v5_3 v5_4 v5_5 v5_6 v5_7)) [0, 1, 2, 3, 4, 5] rfl
  have hDc := hD.sub (ws' := (wd_X11_transform cI a0 a1 a2 a3 a4 a5 a6 a7 a8 a9 a10 v2_0 v4_1 v4_0 v5_3 v5_4 v5_5 v5_6 v5_7)) [0, 1, 2, 3, 4, 5] rfl rfl
  refine q_calli (wc := (wd_X11_transform cI a0 a1 a2 a3 a4 a5 a6 a7 a8 a9 a10 v2_0 v4_1 v4_0 v5_3 v5_4 v5_5 v5_6 v5_7)) (w1 := (wd_X11_transform cI a0 a1 a2 a3 a4 a5 a6 a7 a8 a9 a10 u.2.1 u.2.2.1 u.2.2.2.1 u.2.2.2.2 v5_4 v5_5 v5_6 v5_7)) (ws' := ((wd_X11_transform cI a0 a1 a2 a3 a4 a5 a6 a7 a8 a9 a10 u.2.1 u.2.2.1 u.2.2.2.1 u.2.2.2.2 v5_4 v5_5 v5_6 v5_7) ++ [(bo, .inl (cL, 1, .inr (.inl w)))])) hP hD hS hA [0, 1, 2, 3, 4, 5] [6] [1, 2, 3, 4, 5, 6, 0] rfl rfl rfl (by decide) rfl rfl (va_runV (As := [.int p1, .int p2, .int p3]) (rest := [.int 0, .ref bo]) ⟨hx, hb, hml, hown, hta⟩ (c_X11_transform l dC dI cI H.size a0 a1 a2 a3 a4 a5 a6 a7 a8 a9 a10 v2_0 v4_1 v4_0 v5_3 v5_4 v5_5 v5_6 v5_7 p1 p2 p3 n u hF) (cwV 3 hta (ga_V mA1142 mA1143 mA1144 mA108 mA289) rfl rfl rfl (by decide +kernel) ⟨Nat.le_of_ble_eq_true rfl, Nat.le_of_ble_eq_true rfl⟩) ⟨q_fb, va_recv hK hP (ci := 10) (q0 := 0) rfl rfl, q_ps hPc hKi hDc⟩ rfl rfl hl.1 rfl (lv_room (Nat.le_of_ble_eq_true rfl)) dL_transform_7 ⟨Nat.zero_le _, Nat.zero_le _⟩) (fun H locs hP hD hS => ?_)
  refine lv_i2l hx hb dL_transform_10 rfl ?_
  refine va_last hx hb hK hP hD hS 6 1 rfl rfl (vpi_in (by decide)) dL_transform_11 (fun H locs hP hD hS => ?_)
  have hP : va_P (dC, dI) vwCl ((wd_X11_transform cI a0 a1 a2 a3 a4 a5 a6 a7 a8 a9 a10 u.2.1 u.2.2.1 u.2.2.2.1 u.2.2.2.2 v5_4 v5_5 v5_6 v5_7) ++ [(bo, .inl (cL, 1, .inr (.inl (vp_updL w (0 : Int32).toNatClampNeg u.1.toInt64))))]) H := hP
  have hD : va_D A ((wd_X11_transform cI a0 a1 a2 a3 a4 a5 a6 a7 a8 a9 a10 u.2.1 u.2.2.1 u.2.2.2.1 u.2.2.2.2 v5_4 v5_5 v5_6 v5_7) ++ [(bo, .inl (cL, 1, .inr (.inl (vp_updL w (0 : Int32).toNatClampNeg u.1.toInt64))))]) := hD
  refine lv_goto (tgt := 23) hx hb dL_transform_12 (by decide) ?_
  refine lv_iconst (v := 0) hx hb dL_transform_23 (by decide) ?_
  exact W.iret (v := 0) hx hb hr (fun t ht hW => ⟨⟨0, (), rfl, rfl, by rw [ht]; exact hP, va_K.moved hW.alike hK, hD⟩, hS.F ht⟩) hS.2.2 dL_transform_24
abbrev rmx_L_transform : Room := { frames := 8, cells := 1, slots := 6, locals := 127 }
set_option maxHeartbeats 4000000 in
set_option maxRecDepth 100000 in
theorem c_L_transform_x1 (l : Launch) (hlt : l.stackTraces = false) (S : Nat → Nat) (dC : Nat → ClassId) (dI : Nat → Nat → Nat) (cI cL : ClassId) (sz : Nat) (a0 : Nat → Nat) (a1 : Nat → Nat) (a2 : Nat → Nat) (a3 : Nat → Nat) (a4 : Nat → Nat) (a5 : Nat → Nat) (a6 : Nat → Nat) (a7 : Nat → Nat) (a8 : Nat → Nat) (a9 : Nat → Nat) (a10 : Nat → Nat) (v2_0 : Nat → Int32) (v4_1 : Int32) (v4_0 : Nat → Int32) (v5_3 : Int32) (v5_4 : Int32) (v5_5 : Int32) (v5_6 : Int32) (v5_7 : Int32) (bo : Nat) (w : Nat → Int64) (p1 : Int32) (p2 : Int32) (p3 : Int32) (n : Nat) (x : (Nat × (Nat → Int32) × Int32 × (Nat → Int32) × Int32)) (hF : F_X11_transform n v2_0 v4_1 v4_0 v5_3 p1 p2 p3 = some (.inr x)) (hk : x.1 = 1) : Met l yL_transform wz_L_transform rmx_L_transform (va_Pc [.ref (a0 0), .int p1, .int p2, .int p3, .ref bo] (qx_preL S dC dI cI cL ((wd_X11_transform cI a0 a1 a2 a3 a4 a5 a6 a7 a8 a9 a10 v2_0 v4_1 v4_0 v5_3 v5_4 v5_5 v5_6 v5_7) ++ [(bo, .inl (cL, 1, .inr (.inl w)))]) sz)) (va_Qi (fun (r : Int32) (_ : Unit) => r = 1) (fun _ => q_atL dC dI cI cL (va_A ((wd_X11_transform cI a0 a1 a2 a3 a4 a5 a6 a7 a8 a9 a10 v2_0 v4_1 v4_0 v5_3 v5_4 v5_5 v5_6 v5_7) ++ [(bo, .inl (cL, 1, .inr (.inl w)))]) sz) ((wd_X11_transform cI a0 a1 a2 a3 a4 a5 a6 a7 a8 a9 a10 x.2.1 x.2.2.1 x.2.2.2.1 x.2.2.2.2 v5_4 v5_5 v5_6 v5_7) ++ [(bo, .inl (cL, 1, .inr (.inl w)))])) (va_A ((wd_X11_transform cI a0 a1 a2 a3 a4 a5 a6 a7 a8 a9 a10 v2_0 v4_1 v4_0 v5_3 v5_4 v5_5 v5_6 v5_7) ++ [(bo, .inl (cL, 1, .inr (.inl w)))]) sz)) 1 6 (va_A ((wd_X11_transform cI a0 a1 a2 a3 a4 a5 a6 a7 a8 a9 a10 v2_0 v4_1 v4_0 v5_3 v5_4 v5_5 v5_6 v5_7) ++ [(bo, .inl (cL, 1, .inr (.inl w)))]) sz) := by
  refine q_ofWH (cc := cL_transform) (maxL := 6) (ret := (some .int)) (hh := [(0, 12, 15, 13), (0, 12, 19, 15)]) (by decide) rfl ?_
  intro p e s m args below meth c s₁ B hml hv
  obtain ⟨rfl, ⟨hsz, hP, hK, hD0⟩, hE, hC⟩ := hv
  have hx := B.exec
  have hb := B.bytes
  have hr := B.returns
  have hts := atoms_spec (ws := wz_L_transform) B.pre
  have hta := wz_tl hts
  have hown : s.vm.findClass RL = some m.cls := findClass_of_methodNamed B.named
  have hlocks := B.notSynchronized
  subst hsz
  have hD := hD0.self (sz := s.heap.size)
  generalize hAe : va_A ((wd_X11_transform cI a0 a1 a2 a3 a4 a5 a6 a7 a8 a9 a10 v2_0 v4_1 v4_0 v5_3 v5_4 v5_5 v5_6 v5_7) ++ [(bo, .inl (cL, 1, .inr (.inl w)))]) s.heap.size = A at hD hE ⊢
  have hA : ∀ q : Nat, s.heap.size ≤ q → A q := fun q h => by rw [← hAe]; exact Or.inr h
  have hS : va_S A s.heap s.heap [] := va_S.rf
  have hl := lv_entry ([.ref (a0 0), .int p1, .int p2, .int p3, .ref bo]) (n := 6) (Nat.le_of_ble_eq_true rfl)
  rw [lg_entry_eq]
  generalize (lg_sl ([.ref (a0 0), .int p1, .int p2, .int p3, .ref bo]) ++ List.replicate (6 - (lg_sl ([.ref (a0 0), .int p1, .int p2, .int p3, .ref bo])).length) Slot.unset).toArray = ls at hl ⊢
  have hl : lv_has ls 6 [(0, .ref (a0 0)), (1, .int p1), (2, .int p2), (3, .int p3), (4, .ref bo)] := hl
  obtain ⟨H, hHe⟩ : ∃ H, H = s.heap := ⟨_, rfl⟩
  have hS : va_S A s.heap H [] := by rw [hHe]; exact hS
  have hP : va_P (dC, dI) vwCl ((wd_X11_transform cI a0 a1 a2 a3 a4 a5 a6 a7 a8 a9 a10 v2_0 v4_1 v4_0 v5_3 v5_4 v5_5 v5_6 v5_7) ++ [(bo, .inl (cL, 1, .inr (.inl w)))]) H := by rw [hHe]; exact hP
  rw [← hHe]
  have hKi : va_K (dC, dI) vwCl [(cI, .int)] s := hK.sub [0] rfl
  refine lv_aload hx hb dL_transform_0 (lv_at hl 4 rfl) ?_
  refine lv_iconst (v := 0) hx hb dL_transform_2 (by decide) ?_
  refine lv_aload_n hx hb dL_transform_3 rfl (lv_at hl 0 rfl) ?_
  refine lv_iload_n hx hb dL_transform_4 rfl (lv_at hl 1 rfl) ?_
  refine lv_iload_n hx hb dL_transform_5 rfl (lv_at hl 2 rfl) ?_
  refine lv_iload_n hx hb dL_transform_6 rfl (lv_at hl 3 rfl) ?_
  have hPc := hP.sub (ws' := (wd_X11_transform cI a0 a1 a2 a3 a4 a5 a6 a7 a8 a9 a10 v2_0 v4_1 v4_0 v5_3 v5_4 v5_5 v5_6 v5_7)) [0, 1, 2, 3, 4, 5] rfl
  have hDc := hD.sub (ws' := (wd_X11_transform cI a0 a1 a2 a3 a4 a5 a6 a7 a8 a9 a10 v2_0 v4_1 v4_0 v5_3 v5_4 v5_5 v5_6 v5_7)) [0, 1, 2, 3, 4, 5] rfl rfl
  refine qx_cat (kd := x.1) (wc := (wd_X11_transform cI a0 a1 a2 a3 a4 a5 a6 a7 a8 a9 a10 v2_0 v4_1 v4_0 v5_3 v5_4 v5_5 v5_6 v5_7)) (w1 := (wd_X11_transform cI a0 a1 a2 a3 a4 a5 a6 a7 a8 a9 a10 x.2.1 x.2.2.1 x.2.2.2.1 x.2.2.2.2 v5_4 v5_5 v5_6 v5_7)) (ws' := ((wd_X11_transform cI a0 a1 a2 a3 a4 a5 a6 a7 a8 a9 a10 x.2.1 x.2.2.1 x.2.2.2.1 x.2.2.2.2 v5_4 v5_5 v5_6 v5_7) ++ [(bo, .inl (cL, 1, .inr (.inl w)))])) hP hD hS hA [0, 1, 2, 3, 4, 5] [6] [1, 2, 3, 4, 5, 6, 0] rfl rfl rfl (by decide) rfl rfl (vx_runV (As := [.int p1, .int p2, .int p3]) (rest := [.int 0, .ref bo]) ⟨hx, hb, hml, hown, hta⟩ (c_X11_transform_x l hlt S dC dI cI H.size a0 a1 a2 a3 a4 a5 a6 a7 a8 a9 a10 v2_0 v4_1 v4_0 v5_3 v5_4 v5_5 v5_6 v5_7 p1 p2 p3 n x hF) (cwV 3 hta (ga_V mA1142 mA1143 mA1144 mA108 mA289) rfl rfl rfl (by decide +kernel) ⟨Nat.le_of_ble_eq_true rfl, Nat.le_of_ble_eq_true rfl⟩) ⟨qx_fb, va_recv hK hP (ci := 10) (q0 := 0) rfl rfl, qx_ps hPc hKi hDc hE hS (va_free (wc := (wd_X11_transform cI a0 a1 a2 a3 a4 a5 a6 a7 a8 a9 a10 v2_0 v4_1 v4_0 v5_3 v5_4 v5_5 v5_6 v5_7)) hD hS hA [0, 1, 2, 3, 4, 5] rfl)⟩ rfl rfl hl.1 rfl (lv_room (Nat.le_of_ble_eq_true rfl)) dL_transform_7 ⟨Nat.le_of_ble_eq_true rfl, Nat.le_of_ble_eq_true rfl⟩) (fun ce q9 H locs hP hD hS hce hcv hcl => ?_)
  rw [hk] at hcl
  have hcl : s.vm.findClass xIA = some ce.cls := hcl
  refine vx_catch (E := xIA) hown [] ⟨0, 12, 15, 13⟩ [⟨0, 12, 19, 15⟩] (vx_table (x := yL_moveTo) B (hts _ List.mem_cons_self)) (fun z hz => absurd hz List.not_mem_nil) (by decide) (by decide) (hta _ mA1115) (va_Nw.use rfl hE.2.2.2.1) hce hcv hcl ?_
  refine lv_astore (lv' := [(5, .ref q9), (0, .ref (a0 0)), (1, .int p1), (2, .int p2), (3, .int p3), (4, .ref bo)]) hx hb dL_transform_15 hl (by decide) rfl (fun ls hl => ?_)
  refine lv_iconst (v := 1) hx hb dL_transform_17 (by decide) ?_
  exact W.iret (v := 1) hx hb hr (fun t ht hW => ⟨⟨1, (), rfl, rfl, by rw [ht]; exact hP, va_K.moved hW.alike hK, hD⟩, hS.F ht⟩) hS.2.2 dL_transform_18
set_option maxHeartbeats 4000000 in
set_option maxRecDepth 100000 in
theorem c_L_transform_x2 (l : Launch) (hlt : l.stackTraces = false) (S : Nat → Nat) (dC : Nat → ClassId) (dI : Nat → Nat → Nat) (cI cL : ClassId) (sz : Nat) (a0 : Nat → Nat) (a1 : Nat → Nat) (a2 : Nat → Nat) (a3 : Nat → Nat) (a4 : Nat → Nat) (a5 : Nat → Nat) (a6 : Nat → Nat) (a7 : Nat → Nat) (a8 : Nat → Nat) (a9 : Nat → Nat) (a10 : Nat → Nat) (v2_0 : Nat → Int32) (v4_1 : Int32) (v4_0 : Nat → Int32) (v5_3 : Int32) (v5_4 : Int32) (v5_5 : Int32) (v5_6 : Int32) (v5_7 : Int32) (bo : Nat) (w : Nat → Int64) (p1 : Int32) (p2 : Int32) (p3 : Int32) (n : Nat) (x : (Nat × (Nat → Int32) × Int32 × (Nat → Int32) × Int32)) (hF : F_X11_transform n v2_0 v4_1 v4_0 v5_3 p1 p2 p3 = some (.inr x)) (hk : x.1 = 2) : Met l yL_transform wz_L_transform rmx_L_transform (va_Pc [.ref (a0 0), .int p1, .int p2, .int p3, .ref bo] (qx_preL S dC dI cI cL ((wd_X11_transform cI a0 a1 a2 a3 a4 a5 a6 a7 a8 a9 a10 v2_0 v4_1 v4_0 v5_3 v5_4 v5_5 v5_6 v5_7) ++ [(bo, .inl (cL, 1, .inr (.inl w)))]) sz)) (va_Qi (fun (r : Int32) (_ : Unit) => r = 2) (fun _ => q_atL dC dI cI cL (va_A ((wd_X11_transform cI a0 a1 a2 a3 a4 a5 a6 a7 a8 a9 a10 v2_0 v4_1 v4_0 v5_3 v5_4 v5_5 v5_6 v5_7) ++ [(bo, .inl (cL, 1, .inr (.inl w)))]) sz) ((wd_X11_transform cI a0 a1 a2 a3 a4 a5 a6 a7 a8 a9 a10 x.2.1 x.2.2.1 x.2.2.2.1 x.2.2.2.2 v5_4 v5_5 v5_6 v5_7) ++ [(bo, .inl (cL, 1, .inr (.inl w)))])) (va_A ((wd_X11_transform cI a0 a1 a2 a3 a4 a5 a6 a7 a8 a9 a10 v2_0 v4_1 v4_0 v5_3 v5_4 v5_5 v5_6 v5_7) ++ [(bo, .inl (cL, 1, .inr (.inl w)))]) sz)) 1 6 (va_A ((wd_X11_transform cI a0 a1 a2 a3 a4 a5 a6 a7 a8 a9 a10 v2_0 v4_1 v4_0 v5_3 v5_4 v5_5 v5_6 v5_7) ++ [(bo, .inl (cL, 1, .inr (.inl w)))]) sz) := by
  refine q_ofWH (cc := cL_transform) (maxL := 6) (ret := (some .int)) (hh := [(0, 12, 15, 13), (0, 12, 19, 15)]) (by decide) rfl ?_
  intro p e s m args below meth c s₁ B hml hv
  obtain ⟨rfl, ⟨hsz, hP, hK, hD0⟩, hE, hC⟩ := hv
  have hx := B.exec
  have hb := B.bytes
  have hr := B.returns
  have hts := atoms_spec (ws := wz_L_transform) B.pre
  have hta := wz_tl hts
  have hown : s.vm.findClass RL = some m.cls := findClass_of_methodNamed B.named
  have hlocks := B.notSynchronized
  subst hsz
  have hD := hD0.self (sz := s.heap.size)
  generalize hAe : va_A ((wd_X11_transform cI a0 a1 a2 a3 a4 a5 a6 a7 a8 a9 a10 v2_0 v4_1 v4_0 v5_3 v5_4 v5_5 v5_6 v5_7) ++ [(bo, .inl (cL, 1, .inr (.inl w)))]) s.heap.size = A at hD hE ⊢
  have hA : ∀ q : Nat, s.heap.size ≤ q → A q := fun q h => by rw [← hAe]; exact Or.inr h
  have hS : va_S A s.heap s.heap [] := va_S.rf
  have hl := lv_entry ([.ref (a0 0), .int p1, .int p2, .int p3, .ref bo]) (n := 6) (Nat.le_of_ble_eq_true rfl)
  rw [lg_entry_eq]
  generalize (lg_sl ([.ref (a0 0), .int p1, .int p2, .int p3, .ref bo]) ++ List.replicate (6 - (lg_sl ([.ref (a0 0), .int p1, .int p2, .int p3, .ref bo])).length) Slot.unset).toArray = ls at hl ⊢
  have hl : lv_has ls 6 [(0, .ref (a0 0)), (1, .int p1), (2, .int p2), (3, .int p3), (4, .ref bo)] := hl
  obtain ⟨H, hHe⟩ : ∃ H, H = s.heap := ⟨_, rfl⟩
  have hS : va_S A s.heap H [] := by rw [hHe]; exact hS
  have hP : va_P (dC, dI) vwCl ((wd_X11_transform cI a0 a1 a2 a3 a4 a5 a6 a7 a8 a9 a10 v2_0 v4_1 v4_0 v5_3 v5_4 v5_5 v5_6 v5_7) ++ [(bo, .inl (cL, 1, .inr (.inl w)))]) H := by rw [hHe]; exact hP
  rw [← hHe]
  have hKi : va_K (dC, dI) vwCl [(cI, .int)] s := hK.sub [0] rfl
  refine lv_aload hx hb dL_transform_0 (lv_at hl 4 rfl) ?_
  refine lv_iconst (v := 0) hx hb dL_transform_2 (by decide) ?_
  refine lv_aload_n hx hb dL_transform_3 rfl (lv_at hl 0 rfl) ?_
  refine lv_iload_n hx hb dL_transform_4 rfl (lv_at hl 1 rfl) ?_
  refine lv_iload_n hx hb dL_transform_5 rfl (lv_at hl 2 rfl) ?_
  refine lv_iload_n hx hb dL_transform_6 rfl (lv_at hl 3 rfl) ?_
  have hPc := hP.sub (ws' := (wd_X11_transform cI a0 a1 a2 a3 a4 a5 a6 a7 a8 a9 a10 v2_0 v4_1 v4_0 v5_3 v5_4 v5_5 v5_6 v5_7)) [0, 1, 2, 3, 4, 5] rfl
  have hDc := hD.sub (ws' := (wd_X11_transform cI a0 a1 a2 a3 a4 a5 a6 a7 a8 a9 a10 v2_0 v4_1 v4_0 v5_3 v5_4 v5_5 v5_6 v5_7)) [0, 1, 2, 3, 4, 5] rfl rfl
  refine qx_cat (kd := x.1) (wc := (wd_X11_transform cI a0 a1 a2 a3 a4 a5 a6 a7 a8 a9 a10 v2_0 v4_1 v4_0 v5_3 v5_4 v5_5 v5_6 v5_7)) (w1 := (wd_X11_transform cI a0 a1 a2 a3 a4 a5 a6 a7 a8 a9 a10 x.2.1 x.2.2.1 x.2.2.2.1 x.2.2.2.2 v5_4 v5_5 v5_6 v5_7)) (ws' := ((wd_X11_transform cI a0 a1 a2 a3 a4 a5 a6 a7 a8 a9 a10 x.2.1 x.2.2.1 x.2.2.2.1 x.2.2.2.2 v5_4 v5_5 v5_6 v5_7) ++ [(bo, .inl (cL, 1, .inr (.inl w)))])) hP hD hS hA [0, 1, 2, 3, 4, 5] [6] [1, 2, 3, 4, 5, 6, 0] rfl rfl rfl (by decide) rfl rfl (vx_runV (As := [.int p1, .int p2, .int p3]) (rest := [.int 0, .ref bo]) ⟨hx, hb, hml, hown, hta⟩ (c_X11_transform_x l hlt S dC dI cI H.size a0 a1 a2 a3 a4 a5 a6 a7 a8 a9 a10 v2_0 v4_1 v4_0 v5_3 v5_4 v5_5 v5_6 v5_7 p1 p2 p3 n x hF) (cwV 3 hta (ga_V mA1142 mA1143 mA1144 mA108 mA289) rfl rfl rfl (by decide +kernel) ⟨Nat.le_of_ble_eq_true rfl, Nat.le_of_ble_eq_true rfl⟩) ⟨qx_fb, va_recv hK hP (ci := 10) (q0 := 0) rfl rfl, qx_ps hPc hKi hDc hE hS (va_free (wc := (wd_X11_transform cI a0 a1 a2 a3 a4 a5 a6 a7 a8 a9 a10 v2_0 v4_1 v4_0 v5_3 v5_4 v5_5 v5_6 v5_7)) hD hS hA [0, 1, 2, 3, 4, 5] rfl)⟩ rfl rfl hl.1 rfl (lv_room (Nat.le_of_ble_eq_true rfl)) dL_transform_7 ⟨Nat.le_of_ble_eq_true rfl, Nat.le_of_ble_eq_true rfl⟩) (fun ce q9 H locs hP hD hS hce hcv hcl => ?_)
  rw [hk] at hcl
  have hcl : s.vm.findClass xIS = some ce.cls := hcl
  refine vx_catch (E := xIS) hown [⟨0, 12, 15, 13⟩] ⟨0, 12, 19, 15⟩ [] (vx_table (x := yL_moveTo) B (hts _ List.mem_cons_self)) (fun z hz => by rw [List.mem_singleton.mp hz]; exact Or.inr ⟨by decide, xIA, hta _ mA1115, hC.1⟩) (by decide) (by decide) (hta _ mA1116) (va_Nw.use rfl hE.2.2.2.2.1) hce hcv hcl ?_
  refine lv_astore (lv' := [(5, .ref q9), (0, .ref (a0 0)), (1, .int p1), (2, .int p2), (3, .int p3), (4, .ref bo)]) hx hb dL_transform_19 hl (by decide) rfl (fun ls hl => ?_)
  refine lv_iconst (v := 2) hx hb dL_transform_21 (by decide) ?_
  exact W.iret (v := 2) hx hb hr (fun t ht hW => ⟨⟨2, (), rfl, rfl, by rw [ht]; exact hP, va_K.moved hW.alike hK, hD⟩, hS.F ht⟩) hS.2.2 dL_transform_22

abbrev wz_L_subpath : List Cond := .codeWith yL_subpath cL_subpath 5 (some .int) [(0, 10, 13, 28), (0, 10, 17, 13)] :: wALL
abbrev rm_L_subpath : Room := { frames := 6, cells := 0, slots := 0, locals := 153 }
set_option maxHeartbeats 4000000 in
set_option maxRecDepth 100000 in
theorem c_L_subpath (l : Launch) (dC : Nat → ClassId) (dI : Nat → Nat → Nat) (cI cL : ClassId) (sz : Nat) (a0 : Nat → Nat) (a1 : Nat → Nat) (a2 : Nat → Nat) (a3 : Nat → Nat) (a4 : Nat → Nat) (a5 : Nat → Nat) (a6 : Nat → Nat) (a7 : Nat → Nat) (a8 : Nat → Nat) (a9 : Nat → Nat) (a10 : Nat → Nat) (v2_0 : Nat → Int32) (v5_3 : Int32) (v5_4 : Int32) (v5_5 : Int32) (v5_6 : Int32) (v5_7 : Int32) (v8_10 : Int32) (v8_0 : Nat → Int32) (v8_1 : Nat → Int32) (v8_2 : Nat → Int32) (v8_3 : Nat → Int32) (v8_4 : Nat → Int32) (v8_5 : Nat → Int32) (v8_6 : Nat → Int32) (v8_7 : Nat → Int32) (v8_8 : Nat → Int32) (v8_9 : Nat → Int32) (bo : Nat) (w : Nat → Int64) (p1 : Int32) (p2 : Int32) (n : Nat) (u : (Int32 × Int32 × Int32 × (Nat → Int32) × (Nat → Int32) × (Nat → Int32) × (Nat → Int32) × (Nat → Int32) × (Nat → Int32) × (Nat → Int32) × (Nat → Int32) × (Nat → Int32) × (Nat → Int32))) (hF : F_X11_subpath n v2_0 v5_3 v8_10 v8_0 v8_1 v8_2 v8_3 v8_4 v8_5 v8_6 v8_7 v8_8 v8_9 p1 p2 = some (.inl u)) : Met l yL_subpath wz_L_subpath rm_L_subpath (va_Pc [.ref (a0 0), .int p1, .int p2, .ref bo] (q_preL dC dI cI cL ((wd_X11_subpath cI a0 a1 a2 a3 a4 a5 a6 a7 a8 a9 a10 v2_0 v5_3 v5_4 v5_5 v5_6 v5_7 v8_10 v8_0 v8_1 v8_2 v8_3 v8_4 v8_5 v8_6 v8_7 v8_8 v8_9) ++ [(bo, .inl (cL, 1, .inr (.inl w)))]) sz)) (va_Qi (fun (r : Int32) (_ : Unit) => r = 0) (fun _ => q_atL dC dI cI cL (va_A ((wd_X11_subpath cI a0 a1 a2 a3 a4 a5 a6 a7 a8 a9 a10 v2_0 v5_3 v5_4 v5_5 v5_6 v5_7 v8_10 v8_0 v8_1 v8_2 v8_3 v8_4 v8_5 v8_6 v8_7 v8_8 v8_9) ++ [(bo, .inl (cL, 1, .inr (.inl w)))]) sz) ((wd_X11_subpath cI a0 a1 a2 a3 a4 a5 a6 a7 a8 a9 a10 v2_0 u.2.1 v5_4 v5_5 v5_6 v5_7 u.2.2.1 u.2.2.2.1 u.2.2.2.2.1 u.2.2.2.2.2.1 u.2.2.2.2.2.2.1 u.2.2.2.2.2.2.2.1 u.2.2.2.2.2.2.2.2.1 u.2.2.2.2.2.2.2.2.2.1 u.2.2.2.2.2.2.2.2.2.2.1 u.2.2.2.2.2.2.2.2.2.2.2.1 u.2.2.2.2.2.2.2.2.2.2.2.2) ++ [(bo, .inl (cL, 1, .inr (.inl (vp_updL w (0 : Int32).toNatClampNeg u.1.toInt64))))])) (va_A ((wd_X11_subpath cI a0 a1 a2 a3 a4 a5 a6 a7 a8 a9 a10 v2_0 v5_3 v5_4 v5_5 v5_6 v5_7 v8_10 v8_0 v8_1 v8_2 v8_3 v8_4 v8_5 v8_6 v8_7 v8_8 v8_9) ++ [(bo, .inl (cL, 1, .inr (.inl w)))]) sz)) 0 0 (va_A ((wd_X11_subpath cI a0 a1 a2 a3 a4 a5 a6 a7 a8 a9 a10 v2_0 v5_3 v5_4 v5_5 v5_6 v5_7 v8_10 v8_0 v8_1 v8_2 v8_3 v8_4 v8_5 v8_6 v8_7 v8_8 v8_9) ++ [(bo, .inl (cL, 1, .inr (.inl w)))]) sz) := by
  refine q_ofWH (cc := cL_subpath) (maxL := 5) (ret := (some .int)) (hh := [(0, 10, 13, 28), (0, 10, 17, 13)]) (by decide) rfl ?_
  intro p e s m args below meth c s₁ B hml hv
  obtain ⟨rfl, hsz, hP, hK, hD0⟩ := hv
  have hx := B.exec
  have hb := B.bytes
  have hr := B.returns
  have hts := atoms_spec (ws := wz_L_subpath) B.pre
  have hta := wz_tl hts
  have hown : s.vm.findClass RL = some m.cls := findClass_of_methodNamed B.named
  have hlocks := B.notSynchronized
  subst hsz
  have hD := hD0.self (sz := s.heap.size)
  generalize hAe : va_A ((wd_X11_subpath cI a0 a1 a2 a3 a4 a5 a6 a7 a8 a9 a10 v2_0 v5_3 v5_4 v5_5 v5_6 v5_7 v8_10 v8_0 v8_1 v8_2 v8_3 v8_4 v8_5 v8_6 v8_7 v8_8 v8_9) ++ [(bo, .inl (cL, 1, .inr (.inl w)))]) s.heap.size = A at hD ⊢
  have hA : ∀ q : Nat, s.heap.size ≤ q → A q := fun q h => by rw [← hAe]; exact Or.inr h
  have hS : va_S A s.heap s.heap [] := va_S.rf
  have hl := lv_entry ([.ref (a0 0), .int p1, .int p2, .ref bo]) (n := 5) (Nat.le_of_ble_eq_true rfl)
  rw [lg_entry_eq]
  generalize (lg_sl ([.ref (a0 0), .int p1, .int p2, .ref bo]) ++ List.replicate (5 - (lg_sl ([.ref (a0 0), .int p1, .int p2, .ref bo])).length) Slot.unset).toArray = ls at hl ⊢
  have hl : lv_has ls 5 [(0, .ref (a0 0)), (1, .int p1), (2, .int p2), (3, .ref bo)] := hl
  obtain ⟨H, hHe⟩ : ∃ H, H = s.heap := ⟨_, rfl⟩
  have hS : va_S A s.heap H [] := by rw [hHe]; exact hS
  have hP : va_P (dC, dI) vwCl ((wd_X11_subpath cI a0 a1 a2 a3 a4 a5 a6 a7 a8 a9 a10 v2_0 v5_3 v5_4 v5_5 v5_6 v5_7 v8_10 v8_0 v8_1 v8_2 v8_3 v8_4 v8_5 v8_6 v8_7 v8_8 v8_9) ++ [(bo, .inl (cL, 1, .inr (.inl w)))]) H := by rw [hHe]; exact hP
  rw [← hHe]
  have hKi : va_K (dC, dI) vwCl [(cI, .int)] s := hK.sub [0] rfl
  refine lv_aload_n hx hb dL_subpath_0 rfl (lv_at hl 3 rfl) ?_
  refine lv_iconst (v := 0) hx hb dL_subpath_1 (by decide) ?_
  refine lv_aload_n hx hb dL_subpath_2 rfl (lv_at hl 0 rfl) ?_
  refine lv_iload_n hx hb dL_subpath_3 rfl (lv_at hl 1 rfl) ?_
  refine lv_iload_n hx hb dL_subpath_4 rfl (lv_at hl 2 rfl) ?_
  have hPc := hP.sub (ws' := (wd_X11_subpath cI a0 a1 a2 a3 a4 a5 a6 a7 a8 a9 a10 v2_0 v5_3 v5_4 v5_5 v5_6 v5_7 v8_10 v8_0 v8_1 v8_2 v8_3 v8_4 v8_5 v8_6 v8_7 v8_8 v8_9)) [0, 1, 2, 3, 4, 5, 6, 7, 8, 9, 10, 11, 12, 13, 14] rfl
  have hDc := hD.sub (ws' := (wd_X11_subpath cI a0 a1 a2 a3 a4 a5 a6 a7 a8 a9 a10 v2_0 v5_3 v5_4 v5_5 v5_6 v5_7 v8_10 v8_0 v8_1 v8_2 v8_3 v8_4 v8_5 v8_6 v8_7 v8_8 v8_9)) [0, 1, 2, 3, 4, 5, 6, 7, 8, 9, 10, 11, 12, 13, 14] rfl rfl
  refine q_calli (wc := (wd_X11_subpath cI a0 a1 a2 a3 a4 a5 a6 a7 a8 a9 a10 v2_0 v5_3 v5_4 v5_5 v5_6 v5_7 v8_10 v8_0 v8_1 v8_2 v8_3 v8_4 v8_5 v8_6 v8_7 v8_8 v8_9)) (w1 := (wd_X11_subpath cI a0 a1 a2 a3 a4 a5 a6 a7 a8 a9 a10 v2_0 u.2.1 v5_4 v5_5 v5_6 v5_7 u.2.2.1 u.2.2.2.1 u.2.2.2.2.1 u.2.2.2.2.2.1 u.2.2.2.2.2.2.1 u.2.2.2.2.2.2.2.1 u.2.2.2.2.2.2.2.2.1 u.2.2.2.2.2.2.2.2.2.1 u.2.2.2.2.2.2.2.2.2.2.1 u.2.2.2.2.2.2.2.2.2.2.2.1 u.2.2.2.2.2.2.2.2.2.2.2.2)) (ws' := ((wd_X11_subpath cI a0 a1 a2 a3 a4 a5 a6 a7 a8 a9 a10 v2_0 u.2.1 v5_4 v5_5 v5_6 v5_7 u.2.2.1 u.2.2.2.1 u.2.2.2.2.1 u.2.2.2.2.2.1 u.2.2.2.2.2.2.1 u.2.2.2.2.2.2.2.1 u.2.2.2.2.2.2.2.2.1 u.2.2.2.2.2.2.2.2.2.1 u.2.2.2.2.2.2.2.2.2.2.1 u.2.2.2.2.2.2.2.2.2.2.2.1 u.2.2.2.2.2.2.2.2.2.2.2.2) ++ [(bo, .inl (cL, 1, .inr (.inl w)))])) hP hD hS hA [0, 1, 2, 3, 4, 5, 6, 7, 8, 9, 10, 11, 12, 13, 14] [15] [1, 2, 3, 4, 5, 6, 7, 8, 9, 10, 11, 12, 13, 14, 15, 0] rfl rfl rfl (by decide) rfl rfl (va_runV (As := [.int p1, .int p2]) (rest := [.int 0, .ref bo]) ⟨hx, hb, hml, hown, hta⟩ (c_X11_subpath l dC dI cI H.size a0 a1 a2 a3 a4 a5 a6 a7 a8 a9 a10 v2_0 v5_3 v5_4 v5_5 v5_6 v5_7 v8_10 v8_0 v8_1 v8_2 v8_3 v8_4 v8_5 v8_6 v8_7 v8_8 v8_9 p1 p2 n u hF) (cwV 2 hta (ga_V mA1146 mA1147 mA1148 mA108 mA308) rfl rfl rfl (by decide +kernel) ⟨Nat.le_of_ble_eq_true rfl, Nat.le_of_ble_eq_true rfl⟩) ⟨q_fb, va_recv hK hP (ci := 10) (q0 := 0) rfl rfl, q_ps hPc hKi hDc⟩ rfl rfl hl.1 rfl (lv_room (Nat.le_of_ble_eq_true rfl)) dL_subpath_5 ⟨Nat.zero_le _, Nat.zero_le _⟩) (fun H locs hP hD hS => ?_)
  refine lv_i2l hx hb dL_subpath_8 rfl ?_
  refine va_last hx hb hK hP hD hS 15 1 rfl rfl (vpi_in (by decide)) dL_subpath_9 (fun H locs hP hD hS => ?_)
  have hP : va_P (dC, dI) vwCl ((wd_X11_subpath cI a0 a1 a2 a3 a4 a5 a6 a7 a8 a9 a10 v2_0 u.2.1 v5_4 v5_5 v5_6 v5_7 u.2.2.1 u.2.2.2.1 u.2.2.2.2.1 u.2.2.2.2.2.1 u.2.2.2.2.2.2.1 u.2.2.2.2.2.2.2.1 u.2.2.2.2.2.2.2.2.1 u.2.2.2.2.2.2.2.2.2.1 u.2.2.2.2.2.2.2.2.2.2.1 u.2.2.2.2.2.2.2.2.2.2.2.1 u.2.2.2.2.2.2.2.2.2.2.2.2) ++ [(bo, .inl (cL, 1, .inr (.inl (vp_updL w (0 : Int32).toNatClampNeg u.1.toInt64))))]) H := hP
  have hD : va_D A ((wd_X11_subpath cI a0 a1 a2 a3 a4 a5 a6 a7 a8 a9 a10 v2_0 u.2.1 v5_4 v5_5 v5_6 v5_7 u.2.2.1 u.2.2.2.1 u.2.2.2.2.1 u.2.2.2.2.2.1 u.2.2.2.2.2.2.1 u.2.2.2.2.2.2.2.1 u.2.2.2.2.2.2.2.2.1 u.2.2.2.2.2.2.2.2.2.1 u.2.2.2.2.2.2.2.2.2.2.1 u.2.2.2.2.2.2.2.2.2.2.2.1 u.2.2.2.2.2.2.2.2.2.2.2.2) ++ [(bo, .inl (cL, 1, .inr (.inl (vp_updL w (0 : Int32).toNatClampNeg u.1.toInt64))))]) := hD
  refine lv_goto (tgt := 21) hx hb dL_subpath_10 (by decide) ?_
  refine lv_iconst (v := 0) hx hb dL_subpath_21 (by decide) ?_
  exact W.iret (v := 0) hx hb hr (fun t ht hW => ⟨⟨0, (), rfl, rfl, by rw [ht]; exact hP, va_K.moved hW.alike hK, hD⟩, hS.F ht⟩) hS.2.2 dL_subpath_22
abbrev rmx_L_subpath : Room := { frames := 8, cells := 1, slots := 6, locals := 153 }
set_option maxHeartbeats 4000000 in
set_option maxRecDepth 100000 in
theorem c_L_subpath_x3 (l : Launch) (hlt : l.stackTraces = false) (S : Nat → Nat) (dC : Nat → ClassId) (dI : Nat → Nat → Nat) (cI cL : ClassId) (sz : Nat) (a0 : Nat → Nat) (a1 : Nat → Nat) (a2 : Nat → Nat) (a3 : Nat → Nat) (a4 : Nat → Nat) (a5 : Nat → Nat) (a6 : Nat → Nat) (a7 : Nat → Nat) (a8 : Nat → Nat) (a9 : Nat → Nat) (a10 : Nat → Nat) (v2_0 : Nat → Int32) (v5_3 : Int32) (v5_4 : Int32) (v5_5 : Int32) (v5_6 : Int32) (v5_7 : Int32) (v8_10 : Int32) (v8_0 : Nat → Int32) (v8_1 : Nat → Int32) (v8_2 : Nat → Int32) (v8_3 : Nat → Int32) (v8_4 : Nat → Int32) (v8_5 : Nat → Int32) (v8_6 : Nat → Int32) (v8_7 : Nat → Int32) (v8_8 : Nat → Int32) (v8_9 : Nat → Int32) (bo : Nat) (w : Nat → Int64) (p1 : Int32) (p2 : Int32) (n : Nat) (x : (Nat × Int32 × Int32 × (Nat → Int32) × (Nat → Int32) × (Nat → Int32) × (Nat → Int32) × (Nat → Int32) × (Nat → Int32) × (Nat → Int32) × (Nat → Int32) × (Nat → Int32) × (Nat → Int32))) (hF : F_X11_subpath n v2_0 v5_3 v8_10 v8_0 v8_1 v8_2 v8_3 v8_4 v8_5 v8_6 v8_7 v8_8 v8_9 p1 p2 = some (.inr x)) (hk : x.1 = 3) : Met l yL_subpath wz_L_subpath rmx_L_subpath (va_Pc [.ref (a0 0), .int p1, .int p2, .ref bo] (qx_preL S dC dI cI cL ((wd_X11_subpath cI a0 a1 a2 a3 a4 a5 a6 a7 a8 a9 a10 v2_0 v5_3 v5_4 v5_5 v5_6 v5_7 v8_10 v8_0 v8_1 v8_2 v8_3 v8_4 v8_5 v8_6 v8_7 v8_8 v8_9) ++ [(bo, .inl (cL, 1, .inr (.inl w)))]) sz)) (va_Qi (fun (r : Int32) (_ : Unit) => r = 1) (fun _ => q_atL dC dI cI cL (va_A ((wd_X11_subpath cI a0 a1 a2 a3 a4 a5 a6 a7 a8 a9 a10 v2_0 v5_3 v5_4 v5_5 v5_6 v5_7 v8_10 v8_0 v8_1 v8_2 v8_3 v8_4 v8_5 v8_6 v8_7 v8_8 v8_9) ++ [(bo, .inl (cL, 1, .inr (.inl w)))]) sz) ((wd_X11_subpath cI a0 a1 a2 a3 a4 a5 a6 a7 a8 a9 a10 v2_0 x.2.1 v5_4 v5_5 v5_6 v5_7 x.2.2.1 x.2.2.2.1 x.2.2.2.2.1 x.2.2.2.2.2.1 x.2.2.2.2.2.2.1 x.2.2.2.2.2.2.2.1 x.2.2.2.2.2.2.2.2.1 x.2.2.2.2.2.2.2.2.2.1 x.2.2.2.2.2.2.2.2.2.2.1 x.2.2.2.2.2.2.2.2.2.2.2.1 x.2.2.2.2.2.2.2.2.2.2.2.2) ++ [(bo, .inl (cL, 1, .inr (.inl w)))])) (va_A ((wd_X11_subpath cI a0 a1 a2 a3 a4 a5 a6 a7 a8 a9 a10 v2_0 v5_3 v5_4 v5_5 v5_6 v5_7 v8_10 v8_0 v8_1 v8_2 v8_3 v8_4 v8_5 v8_6 v8_7 v8_8 v8_9) ++ [(bo, .inl (cL, 1, .inr (.inl w)))]) sz)) 1 6 (va_A ((wd_X11_subpath cI a0 a1 a2 a3 a4 a5 a6 a7 a8 a9 a10 v2_0 v5_3 v5_4 v5_5 v5_6 v5_7 v8_10 v8_0 v8_1 v8_2 v8_3 v8_4 v8_5 v8_6 v8_7 v8_8 v8_9) ++ [(bo, .inl (cL, 1, .inr (.inl w)))]) sz) := by
  refine q_ofWH (cc := cL_subpath) (maxL := 5) (ret := (some .int)) (hh := [(0, 10, 13, 28), (0, 10, 17, 13)]) (by decide) rfl ?_
  intro p e s m args below meth c s₁ B hml hv
  obtain ⟨rfl, ⟨hsz, hP, hK, hD0⟩, hE, hC⟩ := hv
  have hx := B.exec
  have hb := B.bytes
  have hr := B.returns
  have hts := atoms_spec (ws := wz_L_subpath) B.pre
  have hta := wz_tl hts
  have hown : s.vm.findClass RL = some m.cls := findClass_of_methodNamed B.named
  have hlocks := B.notSynchronized
  subst hsz
  have hD := hD0.self (sz := s.heap.size)
  generalize hAe : va_A ((wd_X11_subpath cI a0 a1 a2 a3 a4 a5 a6 a7 a8 a9 a10 v2_0 v5_3 v5_4 v5_5 v5_6 v5_7 v8_10 v8_0 v8_1 v8_2 v8_3 v8_4 v8_5 v8_6 v8_7 v8_8 v8_9) ++ [(bo, .inl (cL, 1, .inr (.inl w)))]) s.heap.size = A at hD hE ⊢
  have hA : ∀ q : Nat, s.heap.size ≤ q → A q := fun q h => by rw [← hAe]; exact Or.inr h
  have hS : va_S A s.heap s.heap [] := va_S.rf
  have hl := lv_entry ([.ref (a0 0), .int p1, .int p2, .ref bo]) (n := 5) (Nat.le_of_ble_eq_true rfl)
  rw [lg_entry_eq]
  generalize (lg_sl ([.ref (a0 0), .int p1, .int p2, .ref bo]) ++ List.replicate (5 - (lg_sl ([.ref (a0 0), .int p1, .int p2, .ref bo])).length) Slot.unset).toArray = ls at hl ⊢
  have hl : lv_has ls 5 [(0, .ref (a0 0)), (1, .int p1), (2, .int p2), (3, .ref bo)] := hl
  obtain ⟨H, hHe⟩ : ∃ H, H = s.heap := ⟨_, rfl⟩
  have hS : va_S A s.heap H [] := by rw [hHe]; exact hS
  have hP : va_P (dC, dI) vwCl ((wd_X11_subpath cI a0 a1 a2 a3 a4 a5 a6 a7 a8 a9 a10 v2_0 v5_3 v5_4 v5_5 v5_6 v5_7 v8_10 v8_0 v8_1 v8_2 v8_3 v8_4 v8_5 v8_6 v8_7 v8_8 v8_9) ++ [(bo, .inl (cL, 1, .inr (.inl w)))]) H := by rw [hHe]; exact hP
  rw [← hHe]
  have hKi : va_K (dC, dI) vwCl [(cI, .int)] s := hK.sub [0] rfl
  refine lv_aload_n hx hb dL_subpath_0 rfl (lv_at hl 3 rfl) ?_
  refine lv_iconst (v := 0) hx hb dL_subpath_1 (by decide) ?_
  refine lv_aload_n hx hb dL_subpath_2 rfl (lv_at hl 0 rfl) ?_
  refine lv_iload_n hx hb dL_subpath_3 rfl (lv_at hl 1 rfl) ?_
  refine lv_iload_n hx hb dL_subpath_4 rfl (lv_at hl 2 rfl) ?_
  have hPc := hP.sub (ws' := (wd_X11_subpath cI a0 a1 a2 a3 a4 a5 a6 a7 a8 a9 a10 v2_0 v5_3 v5_4 v5_5 v5_6 v5_7 v8_10 v8_0 v8_1 v8_2 v8_3 v8_4 v8_5 v8_6 v8_7 v8_8 v8_9)) [0, 1, 2, 3, 4, 5, 6, 7, 8, 9, 10, 11, 12, 13, 14] rfl
  have hDc := hD.sub (ws' := (wd_X11_subpath cI a0 a1 a2 a3 a4 a5 a6 a7 a8 a9 a10 v2_0 v5_3 v5_4 v5_5 v5_6 v5_7 v8_10 v8_0 v8_1 v8_2 v8_3 v8_4 v8_5 v8_6 v8_7 v8_8 v8_9)) [0, 1, 2, 3, 4, 5, 6, 7, 8, 9, 10, 11, 12, 13, 14] rfl rfl
  refine qx_cat (kd := x.1) (wc := (wd_X11_subpath cI a0 a1 a2 a3 a4 a5 a6 a7 a8 a9 a10 v2_0 v5_3 v5_4 v5_5 v5_6 v5_7 v8_10 v8_0 v8_1 v8_2 v8_3 v8_4 v8_5 v8_6 v8_7 v8_8 v8_9)) (w1 := (wd_X11_subpath cI a0 a1 a2 a3 a4 a5 a6 a7 a8 a9 a10 v2_0 x.2.1 v5_4 v5_5 v5_6 v5_7 x.2.2.1 x.2.2.2.1 x.2.2.2.2.1 x.2.2.2.2.2.1 x.2.2.2.2.2.2.1 x.2.2.2.2.2.2.2.1 x.2.2.2.2.2.2.2.2.1 x.2.2.2.2.2.2.2.2.2.1 x.2.2.2.2.2.2.2.2.2.2.1 x.2.2.2.2.2.2.2.2.2.2.2.1 x.2.2.2.2.2.2.2.2.2.2.2.2)) (ws' := ((wd_X11_subpath cI a0 a1 a2 a3 a4 a5 a6 a7 a8 a9 a10 v2_0 x.2.1 v5_4 v5_5 v5_6 v5_7 x.2.2.1 x.2.2.2.1 x.2.2.2.2.1 x.2.2.2.2.2.1 x.2.2.2.2.2.2.1 x.2.2.2.2.2.2.2.1 x.2.2.2.2.2.2.2.2.1 x.2.2.2.2.2.2.2.2.2.1 x.2.2.2.2.2.2.2.2.2.2.1 x.2.2.2.2.2.2.2.2.2.2.2.1 x.2.2.2.2.2.2.2.2.2.2.2.2) ++ [(bo, .inl (cL, 1, .inr (.inl w)))])) hP hD hS hA [0, 1, 2, 3, 4, 5, 6, 7, 8, 9, 10, 11, 12, 13, 14] [15] [1, 2, 3, 4, 5, 6, 7, 8, 9, 10, 11, 12, 13, 14, 15, 0] rfl rfl rfl (by decide) rfl rfl (vx_runV (As := [.int p1, .int p2]) (rest := [.int 0, .ref bo]) ⟨hx, hb, hml, hown, hta⟩ (c_X11_subpath_x l hlt S dC dI cI H.size a0 a1 a2 a3 a4 a5 a6 a7 a8 a9 a10 v2_0 v5_3 v5_4 v5_5 v5_6 v5_7 v8_10 v8_0 v8_1 v8_2 v8_3 v8_4 v8_5 v8_6 v8_7 v8_8 v8_9 p1 p2 n x hF) (cwV 2 hta (ga_V mA1146 mA1147 mA1148 mA108 mA308) rfl rfl rfl (by decide +kernel) ⟨Nat.le_of_ble_eq_true rfl, Nat.le_of_ble_eq_true rfl⟩) ⟨qx_fb, va_recv hK hP (ci := 10) (q0 := 0) rfl rfl, qx_ps hPc hKi hDc hE hS (va_free (wc := (wd_X11_subpath cI a0 a1 a2 a3 a4 a5 a6 a7 a8 a9 a10 v2_0 v5_3 v5_4 v5_5 v5_6 v5_7 v8_10 v8_0 v8_1 v8_2 v8_3 v8_4 v8_5 v8_6 v8_7 v8_8 v8_9)) hD hS hA [0, 1, 2, 3, 4, 5, 6, 7, 8, 9, 10, 11, 12, 13, 14] rfl)⟩ rfl rfl hl.1 rfl (lv_room (Nat.le_of_ble_eq_true rfl)) dL_subpath_5 ⟨Nat.le_of_ble_eq_true rfl, Nat.le_of_ble_eq_true rfl⟩) (fun ce q9 H locs hP hD hS hce hcv hcl => ?_)
  rw [hk] at hcl
  have hcl : s.vm.findClass xIO = some ce.cls := hcl
  refine vx_catch (E := xIO) hown [] ⟨0, 10, 13, 28⟩ [⟨0, 10, 17, 13⟩] (vx_table (x := yL_moveTo) B (hts _ List.mem_cons_self)) (fun z hz => absurd hz List.not_mem_nil) (by decide) (by decide) (hta _ mA1129) (va_Nw.use rfl hE.2.2.2.2.2.1) hce hcv hcl ?_
  refine lv_astore (lv' := [(4, .ref q9), (0, .ref (a0 0)), (1, .int p1), (2, .int p2), (3, .ref bo)]) hx hb dL_subpath_13 hl (by decide) rfl (fun ls hl => ?_)
  refine lv_iconst (v := 1) hx hb dL_subpath_15 (by decide) ?_
  exact W.iret (v := 1) hx hb hr (fun t ht hW => ⟨⟨1, (), rfl, rfl, by rw [ht]; exact hP, va_K.moved hW.alike hK, hD⟩, hS.F ht⟩) hS.2.2 dL_subpath_16
set_option maxHeartbeats 4000000 in
set_option maxRecDepth 100000 in
theorem c_L_subpath_x1 (l : Launch) (hlt : l.stackTraces = false) (S : Nat → Nat) (dC : Nat → ClassId) (dI : Nat → Nat → Nat) (cI cL : ClassId) (sz : Nat) (a0 : Nat → Nat) (a1 : Nat → Nat) (a2 : Nat → Nat) (a3 : Nat → Nat) (a4 : Nat → Nat) (a5 : Nat → Nat) (a6 : Nat → Nat) (a7 : Nat → Nat) (a8 : Nat → Nat) (a9 : Nat → Nat) (a10 : Nat → Nat) (v2_0 : Nat → Int32) (v5_3 : Int32) (v5_4 : Int32) (v5_5 : Int32) (v5_6 : Int32) (v5_7 : Int32) (v8_10 : Int32) (v8_0 : Nat → Int32) (v8_1 : Nat → Int32) (v8_2 : Nat → Int32) (v8_3 : Nat → Int32) (v8_4 : Nat → Int32) (v8_5 : Nat → Int32) (v8_6 : Nat → Int32) (v8_7 : Nat → Int32) (v8_8 : Nat → Int32) (v8_9 : Nat → Int32) (bo : Nat) (w : Nat → Int64) (p1 : Int32) (p2 : Int32) (n : Nat) (x : (Nat × Int32 × Int32 × (Nat → Int32) × (Nat → Int32) × (Nat → Int32) × (Nat → Int32) × (Nat → Int32) × (Nat → Int32) × (Nat → Int32) × (Nat → Int32) × (Nat → Int32) × (Nat → Int32))) (hF : F_X11_subpath n v2_0 v5_3 v8_10 v8_0 v8_1 v8_2 v8_3 v8_4 v8_5 v8_6 v8_7 v8_8 v8_9 p1 p2 = some (.inr x)) (hk : x.1 = 1) : Met l yL_subpath wz_L_subpath rmx_L_subpath (va_Pc [.ref (a0 0), .int p1, .int p2, .ref bo] (qx_preL S dC dI cI cL ((wd_X11_subpath cI a0 a1 a2 a3 a4 a5 a6 a7 a8 a9 a10 v2_0 v5_3 v5_4 v5_5 v5_6 v5_7 v8_10 v8_0 v8_1 v8_2 v8_3 v8_4 v8_5 v8_6 v8_7 v8_8 v8_9) ++ [(bo, .inl (cL, 1, .inr (.inl w)))]) sz)) (va_Qi (fun (r : Int32) (_ : Unit) => r = 2) (fun _ => q_atL dC dI cI cL (va_A ((wd_X11_subpath cI a0 a1 a2 a3 a4 a5 a6 a7 a8 a9 a10 v2_0 v5_3 v5_4 v5_5 v5_6 v5_7 v8_10 v8_0 v8_1 v8_2 v8_3 v8_4 v8_5 v8_6 v8_7 v8_8 v8_9) ++ [(bo, .inl (cL, 1, .inr (.inl w)))]) sz) ((wd_X11_subpath cI a0 a1 a2 a3 a4 a5 a6 a7 a8 a9 a10 v2_0 x.2.1 v5_4 v5_5 v5_6 v5_7 x.2.2.1 x.2.2.2.1 x.2.2.2.2.1 x.2.2.2.2.2.1 x.2.2.2.2.2.2.1 x.2.2.2.2.2.2.2.1 x.2.2.2.2.2.2.2.2.1 x.2.2.2.2.2.2.2.2.2.1 x.2.2.2.2.2.2.2.2.2.2.1 x.2.2.2.2.2.2.2.2.2.2.2.1 x.2.2.2.2.2.2.2.2.2.2.2.2) ++ [(bo, .inl (cL, 1, .inr (.inl w)))])) (va_A ((wd_X11_subpath cI a0 a1 a2 a3 a4 a5 a6 a7 a8 a9 a10 v2_0 v5_3 v5_4 v5_5 v5_6 v5_7 v8_10 v8_0 v8_1 v8_2 v8_3 v8_4 v8_5 v8_6 v8_7 v8_8 v8_9) ++ [(bo, .inl (cL, 1, .inr (.inl w)))]) sz)) 1 6 (va_A ((wd_X11_subpath cI a0 a1 a2 a3 a4 a5 a6 a7 a8 a9 a10 v2_0 v5_3 v5_4 v5_5 v5_6 v5_7 v8_10 v8_0 v8_1 v8_2 v8_3 v8_4 v8_5 v8_6 v8_7 v8_8 v8_9) ++ [(bo, .inl (cL, 1, .inr (.inl w)))]) sz) := by
  refine q_ofWH (cc := cL_subpath) (maxL := 5) (ret := (some .int)) (hh := [(0, 10, 13, 28), (0, 10, 17, 13)]) (by decide) rfl ?_
  intro p e s m args below meth c s₁ B hml hv
  obtain ⟨rfl, ⟨hsz, hP, hK, hD0⟩, hE, hC⟩ := hv
  have hx := B.exec
  have hb := B.bytes
  have hr := B.returns
  have hts := atoms_spec (ws := wz_L_subpath) B.pre
  have hta := wz_tl hts
  have hown : s.vm.findClass RL = some m.cls := findClass_of_methodNamed B.named
  have hlocks := B.notSynchronized
  subst hsz
  have hD := hD0.self (sz := s.heap.size)
  generalize hAe : va_A ((wd_X11_subpath cI a0 a1 a2 a3 a4 a5 a6 a7 a8 a9 a10 v2_0 v5_3 v5_4 v5_5 v5_6 v5_7 v8_10 v8_0 v8_1 v8_2 v8_3 v8_4 v8_5 v8_6 v8_7 v8_8 v8_9) ++ [(bo, .inl (cL, 1, .inr (.inl w)))]) s.heap.size = A at hD hE ⊢
  have hA : ∀ q : Nat, s.heap.size ≤ q → A q := fun q h => by rw [← hAe]; exact Or.inr h
  have hS : va_S A s.heap s.heap [] := va_S.rf
  have hl := lv_entry ([.ref (a0 0), .int p1, .int p2, .ref bo]) (n := 5) (Nat.le_of_ble_eq_true rfl)
  rw [lg_entry_eq]
  generalize (lg_sl ([.ref (a0 0), .int p1, .int p2, .ref bo]) ++ List.replicate (5 - (lg_sl ([.ref (a0 0), .int p1, .int p2, .ref bo])).length) Slot.unset).toArray = ls at hl ⊢
  have hl : lv_has ls 5 [(0, .ref (a0 0)), (1, .int p1), (2, .int p2), (3, .ref bo)] := hl
  obtain ⟨H, hHe⟩ : ∃ H, H = s.heap := ⟨_, rfl⟩
  have hS : va_S A s.heap H [] := by rw [hHe]; exact hS
  have hP : va_P (dC, dI) vwCl ((wd_X11_subpath cI a0 a1 a2 a3 a4 a5 a6 a7 a8 a9 a10 v2_0 v5_3 v5_4 v5_5 v5_6 v5_7 v8_10 v8_0 v8_1 v8_2 v8_3 v8_4 v8_5 v8_6 v8_7 v8_8 v8_9) ++ [(bo, .inl (cL, 1, .inr (.inl w)))]) H := by rw [hHe]; exact hP
  rw [← hHe]
  have hKi : va_K (dC, dI) vwCl [(cI, .int)] s := hK.sub [0] rfl
  refine lv_aload_n hx hb dL_subpath_0 rfl (lv_at hl 3 rfl) ?_
  refine lv_iconst (v := 0) hx hb dL_subpath_1 (by decide) ?_
  refine lv_aload_n hx hb dL_subpath_2 rfl (lv_at hl 0 rfl) ?_
  refine lv_iload_n hx hb dL_subpath_3 rfl (lv_at hl 1 rfl) ?_
  refine lv_iload_n hx hb dL_subpath_4 rfl (lv_at hl 2 rfl) ?_
  have hPc := hP.sub (ws' := (wd_X11_subpath cI a0 a1 a2 a3 a4 a5 a6 a7 a8 a9 a10 v2_0 v5_3 v5_4 v5_5 v5_6 v5_7 v8_10 v8_0 v8_1 v8_2 v8_3 v8_4 v8_5 v8_6 v8_7 v8_8 v8_9)) [0, 1, 2, 3, 4, 5, 6, 7, 8, 9, 10, 11, 12, 13, 14] rfl
  have hDc := hD.sub (ws' := (wd_X11_subpath cI a0 a1 a2 a3 a4 a5 a6 a7 a8 a9 a10 v2_0 v5_3 v5_4 v5_5 v5_6 v5_7 v8_10 v8_0 v8_1 v8_2 v8_3 v8_4 v8_5 v8_6 v8_7 v8_8 v8_9)) [0, 1, 2, 3, 4, 5, 6, 7, 8, 9, 10, 11, 12, 13, 14] rfl rfl
  refine qx_cat (kd := x.1) (wc := (wd_X11_subpath cI a0 a1 a2 a3 a4 a5 a6 a7 a8 a9 a10 v2_0 v5_3 v5_4 v5_5 v5_6 v5_7 v8_10 v8_0 v8_1 v8_2 v8_3 v8_4 v8_5 v8_6 v8_7 v8_8 v8_9)) (w1 := (wd_X11_subpath cI a0 a1 a2 a3 a4 a5 a6 a7 a8 a9 a10 v2_0 x.2.1 v5_4 v5_5 v5_6 v5_7 x.2.2.1 x.2.2.2.1 x.2.2.2.2.1 x.2.2.2.2.2.1 x.2.2.2.2.2.2.1 x.2.2.2.2.2.2.2.1 x.2.2.2.2.2.2.2.2.1 x.2.2.2.2.2.2.2.2.2.1 x.2.2.2.2.2.2.2.2.2.2.1 x.2.2.2.2.2.2.2.2.2.2.2.1 x.2.2.2.2.2.2.2.2.2.2.2.2)) (ws' := ((wd_X11_subpath cI a0 a1 a2 a3 a4 a5 a6 a7 a8 a9 a10 v2_0 x.2.1 v5_4 v5_5 v5_6 v5_7 x.2.2.1 x.2.2.2.1 x.2.2.2.2.1 x.2.2.2.2.2.1 x.2.2.2.2.2.2.1 x.2.2.2.2.2.2.2.1 x.2.2.2.2.2.2.2.2.1 x.2.2.2.2.2.2.2.2.2.1 x.2.2.2.2.2.2.2.2.2.2.1 x.2.2.2.2.2.2.2.2.2.2.2.1 x.2.2.2.2.2.2.2.2.2.2.2.2) ++ [(bo, .inl (cL, 1, .inr (.inl w)))])) hP hD hS hA [0, 1, 2, 3, 4, 5, 6, 7, 8, 9, 10, 11, 12, 13, 14] [15] [1, 2, 3, 4, 5, 6, 7, 8, 9, 10, 11, 12, 13, 14, 15, 0] rfl rfl rfl (by decide) rfl rfl (vx_runV (As := [.int p1, .int p2]) (rest := [.int 0, .ref bo]) ⟨hx, hb, hml, hown, hta⟩ (c_X11_subpath_x l hlt S dC dI cI H.size a0 a1 a2 a3 a4 a5 a6 a7 a8 a9 a10 v2_0 v5_3 v5_4 v5_5 v5_6 v5_7 v8_10 v8_0 v8_1 v8_2 v8_3 v8_4 v8_5 v8_6 v8_7 v8_8 v8_9 p1 p2 n x hF) (cwV 2 hta (ga_V mA1146 mA1147 mA1148 mA108 mA308) rfl rfl rfl (by decide +kernel) ⟨Nat.le_of_ble_eq_true rfl, Nat.le_of_ble_eq_true rfl⟩) ⟨qx_fb, va_recv hK hP (ci := 10) (q0 := 0) rfl rfl, qx_ps hPc hKi hDc hE hS (va_free (wc := (wd_X11_subpath cI a0 a1 a2 a3 a4 a5 a6 a7 a8 a9 a10 v2_0 v5_3 v5_4 v5_5 v5_6 v5_7 v8_10 v8_0 v8_1 v8_2 v8_3 v8_4 v8_5 v8_6 v8_7 v8_8 v8_9)) hD hS hA [0, 1, 2, 3, 4, 5, 6, 7, 8, 9, 10, 11, 12, 13, 14] rfl)⟩ rfl rfl hl.1 rfl (lv_room (Nat.le_of_ble_eq_true rfl)) dL_subpath_5 ⟨Nat.le_of_ble_eq_true rfl, Nat.le_of_ble_eq_true rfl⟩) (fun ce q9 H locs hP hD hS hce hcv hcl => ?_)
  rw [hk] at hcl
  have hcl : s.vm.findClass xIA = some ce.cls := hcl
  refine vx_catch (E := xIA) hown [⟨0, 10, 13, 28⟩] ⟨0, 10, 17, 13⟩ [] (vx_table (x := yL_moveTo) B (hts _ List.mem_cons_self)) (fun z hz => by rw [List.mem_singleton.mp hz]; exact Or.inr ⟨by decide, xIO, hta _ mA1129, hC.2⟩) (by decide) (by decide) (hta _ mA1115) (va_Nw.use rfl hE.2.2.2.1) hce hcv hcl ?_
  refine lv_astore (lv' := [(4, .ref q9), (0, .ref (a0 0)), (1, .int p1), (2, .int p2), (3, .ref bo)]) hx hb dL_subpath_17 hl (by decide) rfl (fun ls hl => ?_)
  refine lv_iconst (v := 2) hx hb dL_subpath_19 (by decide) ?_
  exact W.iret (v := 2) hx hb hr (fun t ht hW => ⟨⟨2, (), rfl, rfl, by rw [ht]; exact hP, va_K.moved hW.alike hK, hD⟩, hS.F ht⟩) hS.2.2 dL_subpath_20

abbrev wz_L_point : List Cond := .codeWith yL_point cL_point 6 (some .int) [(0, 12, 15, 28)] :: wALL
abbrev rm_L_point : Room := { frames := 3, cells := 0, slots := 0, locals := 66 }
set_option maxHeartbeats 4000000 in
set_option maxRecDepth 100000 in
theorem c_L_point (l : Launch) (dC : Nat → ClassId) (dI : Nat → Nat → Nat) (cI cL : ClassId) (sz : Nat) (a0 : Nat → Nat) (a1 : Nat → Nat) (a2 : Nat → Nat) (a3 : Nat → Nat) (a4 : Nat → Nat) (a5 : Nat → Nat) (a6 : Nat → Nat) (a7 : Nat → Nat) (v2_0 : Nat → Int32) (bo : Nat) (w : Nat → Int64) (p1 : Int32) (p2 : Int32) (p3 : Int32) (u : (Int32)) (hF : F_X11_point v2_0 p1 p2 p3 = some (.inl u)) : Met l yL_point wz_L_point rm_L_point (va_Pc [.ref (a0 0), .int p1, .int p2, .int p3, .ref bo] (q_preL dC dI cI cL ((wd_X11_point cI a0 a1 a2 a3 a4 a5 a6 a7 v2_0) ++ [(bo, .inl (cL, 1, .inr (.inl w)))]) sz)) (va_Qi (fun (r : Int32) (_ : Unit) => r = 0) (fun _ => q_atL dC dI cI cL (va_A ((wd_X11_point cI a0 a1 a2 a3 a4 a5 a6 a7 v2_0) ++ [(bo, .inl (cL, 1, .inr (.inl w)))]) sz) ((wd_X11_point cI a0 a1 a2 a3 a4 a5 a6 a7 v2_0) ++ [(bo, .inl (cL, 1, .inr (.inl (vp_updL w (0 : Int32).toNatClampNeg u.toInt64))))])) (va_A ((wd_X11_point cI a0 a1 a2 a3 a4 a5 a6 a7 v2_0) ++ [(bo, .inl (cL, 1, .inr (.inl w)))]) sz)) 0 0 (va_A ((wd_X11_point cI a0 a1 a2 a3 a4 a5 a6 a7 v2_0) ++ [(bo, .inl (cL, 1, .inr (.inl w)))]) sz) := by
  refine q_ofWH (cc := cL_point) (maxL := 6) (ret := (some .int)) (hh := [(0, 12, 15, 28)]) (by decide) rfl ?_
  intro p e s m args below meth c s₁ B hml hv
  obtain ⟨rfl, hsz, hP, hK, hD0⟩ := hv
  have hx := B.exec
  have hb := B.bytes
  have hr := B.returns
  have hts := atoms_spec (ws := wz_L_point) B.pre
  have hta := wz_tl hts
  have hown : s.vm.findClass RL = some m.cls := findClass_of_methodNamed B.named
  have hlocks := B.notSynchronized
  subst hsz
  have hD := hD0.self (sz := s.heap.size)
  generalize hAe : va_A ((wd_X11_point cI a0 a1 a2 a3 a4 a5 a6 a7 v2_0) ++ [(bo, .inl (cL, 1, .inr (.inl w)))]) s.heap.size = A at hD ⊢
  have hA : ∀ q : Nat, s.heap.size ≤ q → A q := fun q h => by rw [← hAe]; exact Or.inr h
  have hS : va_S A s.heap s.heap [] := va_S.rf
  have hl := lv_entry ([.ref (a0 0), .int p1, .int p2, .int p3, .ref bo]) (n := 6) (Nat.le_of_ble_eq_true rfl)
  rw [lg_entry_eq]
  generalize (lg_sl ([.ref (a0 0), .int p1, .int p2, .int p3, .ref bo]) ++ List.replicate (6 - (lg_sl ([.ref (a0 0), .int p1, .int p2, .int p3, .ref bo])).length) Slot.unset).toArray = ls at hl ⊢
  have hl : lv_has ls 6 [(0, .ref (a0 0)), (1, .int p1), (2, .int p2), (3, .int p3), (4, .ref bo)] := hl
  obtain ⟨H, hHe⟩ : ∃ H, H = s.heap := ⟨_, rfl⟩
  have hS : va_S A s.heap H [] := by rw [hHe]; exact hS
  have hP : va_P (dC, dI) vwCl ((wd_X11_point cI a0 a1 a2 a3 a4 a5 a6 a7 v2_0) ++ [(bo, .inl (cL, 1, .inr (.inl w)))]) H := by rw [hHe]; exact hP
  rw [← hHe]
  have hKi : va_K (dC, dI) vwCl [(cI, .int)] s := hK.sub [0] rfl
  refine lv_aload hx hb dL_point_0 (lv_at hl 4 rfl) ?_
  refine lv_iconst (v := 0) hx hb dL_point_2 (by decide) ?_
  refine lv_aload_n hx hb dL_point_3 rfl (lv_at hl 0 rfl) ?_
  refine lv_iload_n hx hb dL_point_4 rfl (lv_at hl 1 rfl) ?_
  refine lv_iload_n hx hb dL_point_5 rfl (lv_at hl 2 rfl) ?_
  refine lv_iload_n hx hb dL_point_6 rfl (lv_at hl 3 rfl) ?_
  have hPc := hP.sub (ws' := (wd_X11_point cI a0 a1 a2 a3 a4 a5 a6 a7 v2_0)) [0, 1, 2] rfl
  have hDc := hD.sub (ws' := (wd_X11_point cI a0 a1 a2 a3 a4 a5 a6 a7 v2_0)) [0, 1, 2] rfl rfl
  refine q_calli (wc := (wd_X11_point cI a0 a1 a2 a3 a4 a5 a6 a7 v2_0)) (w1 := (wd_X11_point cI a0 a1 a2 a3 a4 a5 a6 a7 v2_0)) (ws' := ((wd_X11_point cI a0 a1 a2 a3 a4 a5 a6 a7 v2_0) ++ [(bo, .inl (cL, 1, .inr (.inl w)))])) hP hD hS hA [0, 1, 2] [3] [1, 2, 3, 0] rfl rfl rfl (by decide) rfl rfl (va_runV (As := [.int p1, .int p2, .int p3]) (rest := [.int 0, .ref bo]) ⟨hx, hb, hml, hown, hta⟩ (c_X11_point l dC dI cI H.size a0 a1 a2 a3 a4 a5 a6 a7 v2_0 p1 p2 p3 u hF) (cwV 3 hta (ga_V mA1150 mA1151 mA1152 mA108 mA321) rfl rfl rfl (by decide +kernel) ⟨Nat.le_of_ble_eq_true rfl, Nat.le_of_ble_eq_true rfl⟩) ⟨q_fb, va_recv hK hP (ci := 10) (q0 := 0) rfl rfl, q_ps hPc hKi hDc⟩ rfl rfl hl.1 rfl (lv_room (Nat.le_of_ble_eq_true rfl)) dL_point_7 ⟨Nat.zero_le _, Nat.zero_le _⟩) (fun H locs hP hD hS => ?_)
  refine lv_i2l hx hb dL_point_10 rfl ?_
  refine va_last hx hb hK hP hD hS 3 1 rfl rfl (vpi_in (by decide)) dL_point_11 (fun H locs hP hD hS => ?_)
  have hP : va_P (dC, dI) vwCl ((wd_X11_point cI a0 a1 a2 a3 a4 a5 a6 a7 v2_0) ++ [(bo, .inl (cL, 1, .inr (.inl (vp_updL w (0 : Int32).toNatClampNeg u.toInt64))))]) H := hP
  have hD : va_D A ((wd_X11_point cI a0 a1 a2 a3 a4 a5 a6 a7 v2_0) ++ [(bo, .inl (cL, 1, .inr (.inl (vp_updL w (0 : Int32).toNatClampNeg u.toInt64))))]) := hD
  refine lv_goto (tgt := 19) hx hb dL_point_12 (by decide) ?_
  refine lv_iconst (v := 0) hx hb dL_point_19 (by decide) ?_
  exact W.iret (v := 0) hx hb hr (fun t ht hW => ⟨⟨0, (), rfl, rfl, by rw [ht]; exact hP, va_K.moved hW.alike hK, hD⟩, hS.F ht⟩) hS.2.2 dL_point_20
abbrev rmx_L_point : Room := { frames := 8, cells := 1, slots := 6, locals := 126 }
set_option maxHeartbeats 4000000 in
set_option maxRecDepth 100000 in
theorem c_L_point_x3 (l : Launch) (hlt : l.stackTraces = false) (S : Nat → Nat) (dC : Nat → ClassId) (dI : Nat → Nat → Nat) (cI cL : ClassId) (sz : Nat) (a0 : Nat → Nat) (a1 : Nat → Nat) (a2 : Nat → Nat) (a3 : Nat → Nat) (a4 : Nat → Nat) (a5 : Nat → Nat) (a6 : Nat → Nat) (a7 : Nat → Nat) (v2_0 : Nat → Int32) (bo : Nat) (w : Nat → Int64) (p1 : Int32) (p2 : Int32) (p3 : Int32) (x : (Nat)) (hF : F_X11_point v2_0 p1 p2 p3 = some (.inr x)) (hk : x = 3) : Met l yL_point wz_L_point rmx_L_point (va_Pc [.ref (a0 0), .int p1, .int p2, .int p3, .ref bo] (qx_preL S dC dI cI cL ((wd_X11_point cI a0 a1 a2 a3 a4 a5 a6 a7 v2_0) ++ [(bo, .inl (cL, 1, .inr (.inl w)))]) sz)) (va_Qi (fun (r : Int32) (_ : Unit) => r = 1) (fun _ => q_atL dC dI cI cL (va_A ((wd_X11_point cI a0 a1 a2 a3 a4 a5 a6 a7 v2_0) ++ [(bo, .inl (cL, 1, .inr (.inl w)))]) sz) ((wd_X11_point cI a0 a1 a2 a3 a4 a5 a6 a7 v2_0) ++ [(bo, .inl (cL, 1, .inr (.inl w)))])) (va_A ((wd_X11_point cI a0 a1 a2 a3 a4 a5 a6 a7 v2_0) ++ [(bo, .inl (cL, 1, .inr (.inl w)))]) sz)) 1 6 (va_A ((wd_X11_point cI a0 a1 a2 a3 a4 a5 a6 a7 v2_0) ++ [(bo, .inl (cL, 1, .inr (.inl w)))]) sz) := by
  refine q_ofWH (cc := cL_point) (maxL := 6) (ret := (some .int)) (hh := [(0, 12, 15, 28)]) (by decide) rfl ?_
  intro p e s m args below meth c s₁ B hml hv
  obtain ⟨rfl, ⟨hsz, hP, hK, hD0⟩, hE, hC⟩ := hv
  have hx := B.exec
  have hb := B.bytes
  have hr := B.returns
  have hts := atoms_spec (ws := wz_L_point) B.pre
  have hta := wz_tl hts
  have hown : s.vm.findClass RL = some m.cls := findClass_of_methodNamed B.named
  have hlocks := B.notSynchronized
  subst hsz
  have hD := hD0.self (sz := s.heap.size)
  generalize hAe : va_A ((wd_X11_point cI a0 a1 a2 a3 a4 a5 a6 a7 v2_0) ++ [(bo, .inl (cL, 1, .inr (.inl w)))]) s.heap.size = A at hD hE ⊢
  have hA : ∀ q : Nat, s.heap.size ≤ q → A q := fun q h => by rw [← hAe]; exact Or.inr h
  have hS : va_S A s.heap s.heap [] := va_S.rf
  have hl := lv_entry ([.ref (a0 0), .int p1, .int p2, .int p3, .ref bo]) (n := 6) (Nat.le_of_ble_eq_true rfl)
  rw [lg_entry_eq]
  generalize (lg_sl ([.ref (a0 0), .int p1, .int p2, .int p3, .ref bo]) ++ List.replicate (6 - (lg_sl ([.ref (a0 0), .int p1, .int p2, .int p3, .ref bo])).length) Slot.unset).toArray = ls at hl ⊢
  have hl : lv_has ls 6 [(0, .ref (a0 0)), (1, .int p1), (2, .int p2), (3, .int p3), (4, .ref bo)] := hl
  obtain ⟨H, hHe⟩ : ∃ H, H = s.heap := ⟨_, rfl⟩
  have hS : va_S A s.heap H [] := by rw [hHe]; exact hS
  have hP : va_P (dC, dI) vwCl ((wd_X11_point cI a0 a1 a2 a3 a4 a5 a6 a7 v2_0) ++ [(bo, .inl (cL, 1, .inr (.inl w)))]) H := by rw [hHe]; exact hP
  rw [← hHe]
  have hKi : va_K (dC, dI) vwCl [(cI, .int)] s := hK.sub [0] rfl
  refine lv_aload hx hb dL_point_0 (lv_at hl 4 rfl) ?_
  refine lv_iconst (v := 0) hx hb dL_point_2 (by decide) ?_
  refine lv_aload_n hx hb dL_point_3 rfl (lv_at hl 0 rfl) ?_
  refine lv_iload_n hx hb dL_point_4 rfl (lv_at hl 1 rfl) ?_
  refine lv_iload_n hx hb dL_point_5 rfl (lv_at hl 2 rfl) ?_
  refine lv_iload_n hx hb dL_point_6 rfl (lv_at hl 3 rfl) ?_
  have hPc := hP.sub (ws' := (wd_X11_point cI a0 a1 a2 a3 a4 a5 a6 a7 v2_0)) [0, 1, 2] rfl
  have hDc := hD.sub (ws' := (wd_X11_point cI a0 a1 a2 a3 a4 a5 a6 a7 v2_0)) [0, 1, 2] rfl rfl
  refine qx_cat (kd := x) (wc := (wd_X11_point cI a0 a1 a2 a3 a4 a5 a6 a7 v2_0)) (w1 := (wd_X11_point cI a0 a1 a2 a3 a4 a5 a6 a7 v2_0)) (ws' := ((wd_X11_point cI a0 a1 a2 a3 a4 a5 a6 a7 v2_0) ++ [(bo, .inl (cL, 1, .inr (.inl w)))])) hP hD hS hA [0, 1, 2] [3] [1, 2, 3, 0] rfl rfl rfl (by decide) rfl rfl (vx_runV (As := [.int p1, .int p2, .int p3]) (rest := [.int 0, .ref bo]) ⟨hx, hb, hml, hown, hta⟩ (c_X11_point_x l hlt S dC dI cI H.size a0 a1 a2 a3 a4 a5 a6 a7 v2_0 p1 p2 p3 x hF) (cwV 3 hta (ga_V mA1150 mA1151 mA1152 mA108 mA321) rfl rfl rfl (by decide +kernel) ⟨Nat.le_of_ble_eq_true rfl, Nat.le_of_ble_eq_true rfl⟩) ⟨qx_fb, va_recv hK hP (ci := 10) (q0 := 0) rfl rfl, qx_ps hPc hKi hDc hE hS (va_free (wc := (wd_X11_point cI a0 a1 a2 a3 a4 a5 a6 a7 v2_0)) hD hS hA [0, 1, 2] rfl)⟩ rfl rfl hl.1 rfl (lv_room (Nat.le_of_ble_eq_true rfl)) dL_point_7 ⟨Nat.le_of_ble_eq_true rfl, Nat.le_of_ble_eq_true rfl⟩) (fun ce q9 H locs hP hD hS hce hcv hcl => ?_)
  rw [hk] at hcl
  have hcl : s.vm.findClass xIO = some ce.cls := hcl
  refine vx_catch (E := xIO) hown [] ⟨0, 12, 15, 28⟩ [] (vx_table (x := yL_moveTo) B (hts _ List.mem_cons_self)) (fun z hz => absurd hz List.not_mem_nil) (by decide) (by decide) (hta _ mA1129) (va_Nw.use rfl hE.2.2.2.2.2.1) hce hcv hcl ?_
  refine lv_astore (lv' := [(5, .ref q9), (0, .ref (a0 0)), (1, .int p1), (2, .int p2), (3, .int p3), (4, .ref bo)]) hx hb dL_point_15 hl (by decide) rfl (fun ls hl => ?_)
  refine lv_iconst (v := 1) hx hb dL_point_17 (by decide) ?_
  exact W.iret (v := 1) hx hb hr (fun t ht hW => ⟨⟨1, (), rfl, rfl, by rw [ht]; exact hP, va_K.moved hW.alike hK, hD⟩, hS.F ht⟩) hS.2.2 dL_point_18

abbrev wz_L_pointAt : List Cond := .codeWith yL_pointAt cL_pointAt 6 (some .int) [(0, 12, 15, 28), (0, 12, 19, 13)] :: wALL
abbrev rm_L_pointAt : Room := { frames := 5, cells := 0, slots := 0, locals := 134 }
set_option maxHeartbeats 4000000 in
set_option maxRecDepth 100000 in
theorem c_L_pointAt (l : Launch) (dC : Nat → ClassId) (dI : Nat → Nat → Nat) (cI cL : ClassId) (sz : Nat) (a0 : Nat → Nat) (a1 : Nat → Nat) (a2 : Nat → Nat) (a3 : Nat → Nat) (a4 : Nat → Nat) (a5 : Nat → Nat) (a6 : Nat → Nat) (a7 : Nat → Nat) (a8 : Nat → Nat) (a9 : Nat → Nat) (a10 : Nat → Nat) (v2_0 : Nat → Int32) (v5_3 : Int32) (v5_4 : Int32) (v5_5 : Int32) (v5_6 : Int32) (v5_7 : Int32) (v8_10 : Int32) (v8_0 : Nat → Int32) (v8_1 : Nat → Int32) (v8_2 : Nat → Int32) (v8_3 : Nat → Int32) (v8_4 : Nat → Int32) (v8_5 : Nat → Int32) (v8_6 : Nat → Int32) (v8_7 : Nat → Int32) (v8_8 : Nat → Int32) (v8_9 : Nat → Int32) (bo : Nat) (w : Nat → Int64) (p1 : Int32) (p2 : Int32) (p3 : Int32) (n : Nat) (u : (Int32 × Int32 × Int32 × (Nat → Int32) × (Nat → Int32) × (Nat → Int32) × (Nat → Int32) × (Nat → Int32) × (Nat → Int32) × (Nat → Int32) × (Nat → Int32) × (Nat → Int32) × (Nat → Int32))) (hF : F_X11_pointAt n v2_0 v5_3 v8_10 v8_0 v8_1 v8_2 v8_3 v8_4 v8_5 v8_6 v8_7 v8_8 v8_9 p1 p2 p3 = some (.inl u)) : Met l yL_pointAt wz_L_pointAt rm_L_pointAt (va_Pc [.ref (a0 0), .int p1, .int p2, .int p3, .ref bo] (q_preL dC dI cI cL ((wd_X11_pointAt cI a0 a1 a2 a3 a4 a5 a6 a7 a8 a9 a10 v2_0 v5_3 v5_4 v5_5 v5_6 v5_7 v8_10 v8_0 v8_1 v8_2 v8_3 v8_4 v8_5 v8_6 v8_7 v8_8 v8_9) ++ [(bo, .inl (cL, 1, .inr (.inl w)))]) sz)) (va_Qi (fun (r : Int32) (_ : Unit) => r = 0) (fun _ => q_atL dC dI cI cL (va_A ((wd_X11_pointAt cI a0 a1 a2 a3 a4 a5 a6 a7 a8 a9 a10 v2_0 v5_3 v5_4 v5_5 v5_6 v5_7 v8_10 v8_0 v8_1 v8_2 v8_3 v8_4 v8_5 v8_6 v8_7 v8_8 v8_9) ++ [(bo, .inl (cL, 1, .inr (.inl w)))]) sz) ((wd_X11_pointAt cI a0 a1 a2 a3 a4 a5 a6 a7 a8 a9 a10 v2_0 u.2.1 v5_4 v5_5 v5_6 v5_7 u.2.2.1 u.2.2.2.1 u.2.2.2.2.1 u.2.2.2.2.2.1 u.2.2.2.2.2.2.1 u.2.2.2.2.2.2.2.1 u.2.2.2.2.2.2.2.2.1 u.2.2.2.2.2.2.2.2.2.1 u.2.2.2.2.2.2.2.2.2.2.1 u.2.2.2.2.2.2.2.2.2.2.2.1 u.2.2.2.2.2.2.2.2.2.2.2.2) ++ [(bo, .inl (cL, 1, .inr (.inl (vp_updL w (0 : Int32).toNatClampNeg u.1.toInt64))))])) (va_A ((wd_X11_pointAt cI a0 a1 a2 a3 a4 a5 a6 a7 a8 a9 a10 v2_0 v5_3 v5_4 v5_5 v5_6 v5_7 v8_10 v8_0 v8_1 v8_2 v8_3 v8_4 v8_5 v8_6 v8_7 v8_8 v8_9) ++ [(bo, .inl (cL, 1, .inr (.inl w)))]) sz)) 0 0 (va_A ((wd_X11_pointAt cI a0 a1 a2 a3 a4 a5 a6 a7 a8 a9 a10 v2_0 v5_3 v5_4 v5_5 v5_6 v5_7 v8_10 v8_0 v8_1 v8_2 v8_3 v8_4 v8_5 v8_6 v8_7 v8_8 v8_9) ++ [(bo, .inl (cL, 1, .inr (.inl w)))]) sz) := by
  refine q_ofWH (cc := cL_pointAt) (maxL := 6) (ret := (some .int)) (hh := [(0, 12, 15, 28), (0, 12, 19, 13)]) (by decide) rfl ?_
  intro p e s m args below meth c s₁ B hml hv
  obtain ⟨rfl, hsz, hP, hK, hD0⟩ := hv
  have hx := B.exec
  have hb := B.bytes
  have hr := B.returns
  have hts := atoms_spec (ws := wz_L_pointAt) B.pre
  have hta := wz_tl hts
  have hown : s.vm.findClass RL = some m.cls := findClass_of_methodNamed B.named
  have hlocks := B.notSynchronized
  subst hsz
  have hD := hD0.self (sz := s.heap.size)
  generalize hAe : va_A ((wd_X11_pointAt cI a0 a1 a2 a3 a4 a5 a6 a7 a8 a9 a10 v2_0 v5_3 v5_4 v5_5 v5_6 v5_7 v8_10 v8_0 v8_1 v8_2 v8_3 v8_4 v8_5 v8_6 v8_7 v8_8 v8_9) ++ [(bo, .inl (cL, 1, .inr (.inl w)))]) s.heap.size = A at hD ⊢
  have hA : ∀ q : Nat, s.heap.size ≤ q → A q := fun q h => by rw [← hAe]; exact Or.inr h
  have hS : va_S A s.heap s.heap [] := va_S.rf
  have hl := lv_entry ([.ref (a0 0), .int p1, .int p2, .int p3, .ref bo]) (n := 6) (Nat.le_of_ble_eq_true rfl)
  rw [lg_entry_eq]
  generalize (lg_sl ([.ref (a0 0), .int p1, .int p2, .int p3, .ref bo]) ++ List.replicate (6 - (lg_sl ([.ref (a0 0), .int p1, .int p2, .int p3, .ref bo])).length) Slot.unset).toArray = ls at hl ⊢
  have hl : lv_has ls 6 [(0, .ref (a0 0)), (1, .int p1), (2, .int p2), (3, .int p3), (4, .ref bo)] := hl
  obtain ⟨H, hHe⟩ : ∃ H, H = s.heap := ⟨_, rfl⟩
  have hS : va_S A s.heap H [] := by rw [hHe]; exact hS
  have hP : va_P (dC, dI) vwCl ((wd_X11_pointAt cI a0 a1 a2 a3 a4 a5 a6 a7 a8 a9 a10 v2_0 v5_3 v5_4 v5_5 v5_6 v5_7 v8_10 v8_0 v8_1 v8_2 v8_3 v8_4 v8_5 v8_6 v8_7 v8_8 v8_9) ++ [(bo, .inl (cL, 1, .inr (.inl w)))]) H := by rw [hHe]; exact hP
  rw [← hHe]
  have hKi : va_K (dC, dI) vwCl [(cI, .int)] s := hK.sub [0] rfl
  refine lv_aload hx hb dL_pointAt_0 (lv_at hl 4 rfl) ?_
  refine lv_iconst (v := 0) hx hb dL_pointAt_2 (by decide) ?_
  refine lv_aload_n hx hb dL_pointAt_3 rfl (lv_at hl 0 rfl) ?_
  refine lv_iload_n hx hb dL_pointAt_4 rfl (lv_at hl 1 rfl) ?_
  refine lv_iload_n hx hb dL_pointAt_5 rfl (lv_at hl 2 rfl) ?_
  refine lv_iload_n hx hb dL_pointAt_6 rfl (lv_at hl 3 rfl) ?_
  have hPc := hP.sub (ws' := (wd_X11_pointAt cI a0 a1 a2 a3 a4 a5 a6 a7 a8 a9 a10 v2_0 v5_3 v5_4 v5_5 v5_6 v5_7 v8_10 v8_0 v8_1 v8_2 v8_3 v8_4 v8_5 v8_6 v8_7 v8_8 v8_9)) [0, 1, 2, 3, 4, 5, 6, 7, 8, 9, 10, 11, 12, 13, 14] rfl
  have hDc := hD.sub (ws' := (wd_X11_pointAt cI a0 a1 a2 a3 a4 a5 a6 a7 a8 a9 a10 v2_0 v5_3 v5_4 v5_5 v5_6 v5_7 v8_10 v8_0 v8_1 v8_2 v8_3 v8_4 v8_5 v8_6 v8_7 v8_8 v8_9)) [0, 1, 2, 3, 4, 5, 6, 7, 8, 9, 10, 11, 12, 13, 14] rfl rfl
  refine q_calli (wc := (wd_X11_pointAt cI a0 a1 a2 a3 a4 a5 a6 a7 a8 a9 a10 v2_0 v5_3 v5_4 v5_5 v5_6 v5_7 v8_10 v8_0 v8_1 v8_2 v8_3 v8_4 v8_5 v8_6 v8_7 v8_8 v8_9)) (w1 := (wd_X11_pointAt cI a0 a1 a2 a3 a4 a5 a6 a7 a8 a9 a10 v2_0 u.2.1 v5_4 v5_5 v5_6 v5_7 u.2.2.1 u.2.2.2.1 u.2.2.2.2.1 u.2.2.2.2.2.1 u.2.2.2.2.2.2.1 u.2.2.2.2.2.2.2.1 u.2.2.2.2.2.2.2.2.1 u.2.2.2.2.2.2.2.2.2.1 u.2.2.2.2.2.2.2.2.2.2.1 u.2.2.2.2.2.2.2.2.2.2.2.1 u.2.2.2.2.2.2.2.2.2.2.2.2)) (ws' := ((wd_X11_pointAt cI a0 a1 a2 a3 a4 a5 a6 a7 a8 a9 a10 v2_0 u.2.1 v5_4 v5_5 v5_6 v5_7 u.2.2.1 u.2.2.2.1 u.2.2.2.2.1 u.2.2.2.2.2.1 u.2.2.2.2.2.2.1 u.2.2.2.2.2.2.2.1 u.2.2.2.2.2.2.2.2.1 u.2.2.2.2.2.2.2.2.2.1 u.2.2.2.2.2.2.2.2.2.2.1 u.2.2.2.2.2.2.2.2.2.2.2.1 u.2.2.2.2.2.2.2.2.2.2.2.2) ++ [(bo, .inl (cL, 1, .inr (.inl w)))])) hP hD hS hA [0, 1, 2, 3, 4, 5, 6, 7, 8, 9, 10, 11, 12, 13, 14] [15] [1, 2, 3, 4, 5, 6, 7, 8, 9, 10, 11, 12, 13, 14, 15, 0] rfl rfl rfl (by decide) rfl rfl (va_runV (As := [.int p1, .int p2, .int p3]) (rest := [.int 0, .ref bo]) ⟨hx, hb, hml, hown, hta⟩ (c_X11_pointAt l dC dI cI H.size a0 a1 a2 a3 a4 a5 a6 a7 a8 a9 a10 v2_0 v5_3 v5_4 v5_5 v5_6 v5_7 v8_10 v8_0 v8_1 v8_2 v8_3 v8_4 v8_5 v8_6 v8_7 v8_8 v8_9 p1 p2 p3 n u hF) (cwV 3 hta (ga_V mA1154 mA1155 mA1156 mA108 mA324) rfl rfl rfl (by decide +kernel) ⟨Nat.le_of_ble_eq_true rfl, Nat.le_of_ble_eq_true rfl⟩) ⟨q_fb, va_recv hK hP (ci := 10) (q0 := 0) rfl rfl, q_ps hPc hKi hDc⟩ rfl rfl hl.1 rfl (lv_room (Nat.le_of_ble_eq_true rfl)) dL_pointAt_7 ⟨Nat.zero_le _, Nat.zero_le _⟩) (fun H locs hP hD hS => ?_)
  refine lv_i2l hx hb dL_pointAt_10 rfl ?_
  refine va_last hx hb hK hP hD hS 15 1 rfl rfl (vpi_in (by decide)) dL_pointAt_11 (fun H locs hP hD hS => ?_)
  have hP : va_P (dC, dI) vwCl ((wd_X11_pointAt cI a0 a1 a2 a3 a4 a5 a6 a7 a8 a9 a10 v2_0 u.2.1 v5_4 v5_5 v5_6 v5_7 u.2.2.1 u.2.2.2.1 u.2.2.2.2.1 u.2.2.2.2.2.1 u.2.2.2.2.2.2.1 u.2.2.2.2.2.2.2.1 u.2.2.2.2.2.2.2.2.1 u.2.2.2.2.2.2.2.2.2.1 u.2.2.2.2.2.2.2.2.2.2.1 u.2.2.2.2.2.2.2.2.2.2.2.1 u.2.2.2.2.2.2.2.2.2.2.2.2) ++ [(bo, .inl (cL, 1, .inr (.inl (vp_updL w (0 : Int32).toNatClampNeg u.1.toInt64))))]) H := hP
  have hD : va_D A ((wd_X11_pointAt cI a0 a1 a2 a3 a4 a5 a6 a7 a8 a9 a10 v2_0 u.2.1 v5_4 v5_5 v5_6 v5_7 u.2.2.1 u.2.2.2.1 u.2.2.2.2.1 u.2.2.2.2.2.1 u.2.2.2.2.2.2.1 u.2.2.2.2.2.2.2.1 u.2.2.2.2.2.2.2.2.1 u.2.2.2.2.2.2.2.2.2.1 u.2.2.2.2.2.2.2.2.2.2.1 u.2.2.2.2.2.2.2.2.2.2.2.1 u.2.2.2.2.2.2.2.2.2.2.2.2) ++ [(bo, .inl (cL, 1, .inr (.inl (vp_updL w (0 : Int32).toNatClampNeg u.1.toInt64))))]) := hD
  refine lv_goto (tgt := 23) hx hb dL_pointAt_12 (by decide) ?_
  refine lv_iconst (v := 0) hx hb dL_pointAt_23 (by decide) ?_
  exact W.iret (v := 0) hx hb hr (fun t ht hW => ⟨⟨0, (), rfl, rfl, by rw [ht]; exact hP, va_K.moved hW.alike hK, hD⟩, hS.F ht⟩) hS.2.2 dL_pointAt_24
abbrev rmx_L_pointAt : Room := { frames := 8, cells := 1, slots := 6, locals := 134 }
set_option maxHeartbeats 4000000 in
set_option maxRecDepth 100000 in
theorem c_L_pointAt_x3 (l : Launch) (hlt : l.stackTraces = false) (S : Nat → Nat) (dC : Nat → ClassId) (dI : Nat → Nat → Nat) (cI cL : ClassId) (sz : Nat) (a0 : Nat → Nat) (a1 : Nat → Nat) (a2 : Nat → Nat) (a3 : Nat → Nat) (a4 : Nat → Nat) (a5 : Nat → Nat) (a6 : Nat → Nat) (a7 : Nat → Nat) (a8 : Nat → Nat) (a9 : Nat → Nat) (a10 : Nat → Nat) (v2_0 : Nat → Int32) (v5_3 : Int32) (v5_4 : Int32) (v5_5 : Int32) (v5_6 : Int32) (v5_7 : Int32) (v8_10 : Int32) (v8_0 : Nat → Int32) (v8_1 : Nat → Int32) (v8_2 : Nat → Int32) (v8_3 : Nat → Int32) (v8_4 : Nat → Int32) (v8_5 : Nat → Int32) (v8_6 : Nat → Int32) (v8_7 : Nat → Int32) (v8_8 : Nat → Int32) (v8_9 : Nat → Int32) (bo : Nat) (w : Nat → Int64) (p1 : Int32) (p2 : Int32) (p3 : Int32) (n : Nat) (x : (Nat × Int32 × Int32 × (Nat → Int32) × (Nat → Int32) × (Nat → Int32) × (Nat → Int32) × (Nat → Int32) × (Nat → Int32) × (Nat → Int32) × (Nat → Int32) × (Nat → Int32) × (Nat → Int32))) (hF : F_X11_pointAt n v2_0 v5_3 v8_10 v8_0 v8_1 v8_2 v8_3 v8_4 v8_5 v8_6 v8_7 v8_8 v8_9 p1 p2 p3 = some (.inr x)) (hk : x.1 = 3) : Met l yL_pointAt wz_L_pointAt rmx_L_pointAt (va_Pc [.ref (a0 0), .int p1, .int p2, .int p3, .ref bo] (qx_preL S dC dI cI cL ((wd_X11_pointAt cI a0 a1 a2 a3 a4 a5 a6 a7 a8 a9 a10 v2_0 v5_3 v5_4 v5_5 v5_6 v5_7 v8_10 v8_0 v8_1 v8_2 v8_3 v8_4 v8_5 v8_6 v8_7 v8_8 v8_9) ++ [(bo, .inl (cL, 1, .inr (.inl w)))]) sz)) (va_Qi (fun (r : Int32) (_ : Unit) => r = 1) (fun _ => q_atL dC dI cI cL (va_A ((wd_X11_pointAt cI a0 a1 a2 a3 a4 a5 a6 a7 a8 a9 a10 v2_0 v5_3 v5_4 v5_5 v5_6 v5_7 v8_10 v8_0 v8_1 v8_2 v8_3 v8_4 v8_5 v8_6 v8_7 v8_8 v8_9) ++ [(bo, .inl (cL, 1, .inr (.inl w)))]) sz) ((wd_X11_pointAt cI a0 a1 a2 a3 a4 a5 a6 a7 a8 a9 a10 v2_0 x.2.1 v5_4 v5_5 v5_6 v5_7 x.2.2.1 x.2.2.2.1 x.2.2.2.2.1 x.2.2.2.2.2.1 x.2.2.2.2.2.2.1 x.2.2.2.2.2.2.2.1 x.2.2.2.2.2.2.2.2.1 x.2.2.2.2.2.2.2.2.2.1 x.2.2.2.2.2.2.2.2.2.2.1 x.2.2.2.2.2.2.2.2.2.2.2.1 x.2.2.2.2.2.2.2.2.2.2.2.2) ++ [(bo, .inl (cL, 1, .inr (.inl w)))])) (va_A ((wd_X11_pointAt cI a0 a1 a2 a3 a4 a5 a6 a7 a8 a9 a10 v2_0 v5_3 v5_4 v5_5 v5_6 v5_7 v8_10 v8_0 v8_1 v8_2 v8_3 v8_4 v8_5 v8_6 v8_7 v8_8 v8_9) ++ [(bo, .inl (cL, 1, .inr (.inl w)))]) sz)) 1 6 (va_A ((wd_X11_pointAt cI a0 a1 a2 a3 a4 a5 a6 a7 a8 a9 a10 v2_0 v5_3 v5_4 v5_5 v5_6 v5_7 v8_10 v8_0 v8_1 v8_2 v8_3 v8_4 v8_5 v8_6 v8_7 v8_8 v8_9) ++ [(bo, .inl (cL, 1, .inr (.inl w)))]) sz) := by
  refine q_ofWH (cc := cL_pointAt) (maxL := 6) (ret := (some .int)) (hh := [(0, 12, 15, 28), (0, 12, 19, 13)]) (by decide) rfl ?_
  intro p e s m args below meth c s₁ B hml hv
  obtain ⟨rfl, ⟨hsz, hP, hK, hD0⟩, hE, hC⟩ := hv
  have hx := B.exec
  have hb := B.bytes
  have hr := B.returns
  have hts := atoms_spec (ws := wz_L_pointAt) B.pre
  have hta := wz_tl hts
  have hown : s.vm.findClass RL = some m.cls := findClass_of_methodNamed B.named
  have hlocks := B.notSynchronized
  subst hsz
  have hD := hD0.self (sz := s.heap.size)
  generalize hAe : va_A ((wd_X11_pointAt cI a0 a1 a2 a3 a4 a5 a6 a7 a8 a9 a10 v2_0 v5_3 v5_4 v5_5 v5_6 v5_7 v8_10 v8_0 v8_1 v8_2 v8_3 v8_4 v8_5 v8_6 v8_7 v8_8 v8_9) ++ [(bo, .inl (cL, 1, .inr (.inl w)))]) s.heap.size = A at hD hE ⊢
  have hA : ∀ q : Nat, s.heap.size ≤ q → A q := fun q h => by rw [← hAe]; exact Or.inr h
  have hS : va_S A s.heap s.heap [] := va_S.rf
  have hl := lv_entry ([.ref (a0 0), .int p1, .int p2, .int p3, .ref bo]) (n := 6) (Nat.le_of_ble_eq_true rfl)
  rw [lg_entry_eq]
  generalize (lg_sl ([.ref (a0 0), .int p1, .int p2, .int p3, .ref bo]) ++ List.replicate (6 - (lg_sl ([.ref (a0 0), .int p1, .int p2, .int p3, .ref bo])).length) Slot.unset).toArray = ls at hl ⊢
  have hl : lv_has ls 6 [(0, .ref (a0 0)), (1, .int p1), (2, .int p2), (3, .int p3), (4, .ref bo)] := hl
  obtain ⟨H, hHe⟩ : ∃ H, H = s.heap := ⟨_, rfl⟩
  have hS : va_S A s.heap H [] := by rw [hHe]; exact hS
  have hP : va_P (dC, dI) vwCl ((wd_X11_pointAt cI a0 a1 a2 a3 a4 a5 a6 a7 a8 a9 a10 v2_0 v5_3 v5_4 v5_5 v5_6 v5_7 v8_10 v8_0 v8_1 v8_2 v8_3 v8_4 v8_5 v8_6 v8_7 v8_8 v8_9) ++ [(bo, .inl (cL, 1, .inr (.inl w)))]) H := by rw [hHe]; exact hP
  rw [← hHe]
  have hKi : va_K (dC, dI) vwCl [(cI, .int)] s := hK.sub [0] rfl
  refine lv_aload hx hb dL_pointAt_0 (lv_at hl 4 rfl) ?_
  refine lv_iconst (v := 0) hx hb dL_pointAt_2 (by decide) ?_
  refine lv_aload_n hx hb dL_pointAt_3 rfl (lv_at hl 0 rfl) ?_
  refine lv_iload_n hx hb dL_pointAt_4 rfl (lv_at hl 1 rfl) ?_
  refine lv_iload_n hx hb dL_pointAt_5 rfl (lv_at hl 2 rfl) ?_
  refine lv_iload_n hx hb dL_pointAt_6 rfl (lv_at hl 3 rfl) ?_
  have hPc := hP.sub (ws' := (wd_X11_pointAt cI a0 a1 a2 a3 a4 a5 a6 a7 a8 a9 a10 v2_0 v5_3 v5_4 v5_5 v5_6 v5_7 v8_10 v8_0 v8_1 v8_2 v8_3 v8_4 v8_5 v8_6 v8_7 v8_8 v8_9)) [0, 1, 2, 3, 4, 5, 6, 7, 8, 9, 10, 11, 12, 13, 14] rfl
  have hDc := hD.sub (ws' := (wd_X11_pointAt cI a0 a1 a2 a3 a4 a5 a6 a7 a8 a9 a10 v2_0 v5_3 v5_4 v5_5 v5_6 v5_7 v8_10 v8_0 v8_1 v8_2 v8_3 v8_4 v8_5 v8_6 v8_7 v8_8 v8_9)) [0, 1, 2, 3, 4, 5, 6, 7, 8, 9, 10, 11, 12, 13, 14] rfl rfl
  refine qx_cat (kd := x.1) (wc := (wd_X11_pointAt cI a0 a1 a2 a3 a4 a5 a6 a7 a8 a9 a10 v2_0 v5_3 v5_4 v5_5 v5_6 v5_7 v8_10 v8_0 v8_1 v8_2 v8_3 v8_4 v8_5 v8_6 v8_7 v8_8 v8_9)) (w1 := (wd_X11_pointAt cI a0 a1 a2 a3 a4 a5 a6 a7 a8 a9 a10 v2_0 x.2.1 v5_4 v5_5 v5_6 v5_7 x.2.2.1 x.2.2.2.1 x.2.2.2.2.1 x.2.2.2.2.2.1 x.2.2.2.2.2.2.1 x.2.2.2.2.2.2.2.1 x.2.2.2.2.2.2.2.2.1 x.2.2.2.2.2.2.2.2.2.1 x.2.2.2.2.2.2.2.2.2.2.1 x.2.2.2.2.2.2.2.2.2.2.2.1 x.2.2.2.2.2.2.2.2.2.2.2.2)) (ws' := ((wd_X11_pointAt cI a0 a1 a2 a3 a4 a5 a6 a7 a8 a9 a10 v2_0 x.2.1 v5_4 v5_5 v5_6 v5_7 x.2.2.1 x.2.2.2.1 x.2.2.2.2.1 x.2.2.2.2.2.1 x.2.2.2.2.2.2.1 x.2.2.2.2.2.2.2.1 x.2.2.2.2.2.2.2.2.1 x.2.2.2.2.2.2.2.2.2.1 x.2.2.2.2.2.2.2.2.2.2.1 x.2.2.2.2.2.2.2.2.2.2.2.1 x.2.2.2.2.2.2.2.2.2.2.2.2) ++ [(bo, .inl (cL, 1, .inr (.inl w)))])) hP hD hS hA [0, 1, 2, 3, 4, 5, 6, 7, 8, 9, 10, 11, 12, 13, 14] [15] [1, 2, 3, 4, 5, 6, 7, 8, 9, 10, 11, 12, 13, 14, 15, 0] rfl rfl rfl (by decide) rfl rfl (vx_runV (As := [.int p1, .int p2, .int p3]) (rest := [.int 0, .ref bo]) ⟨hx, hb, hml, hown, hta⟩ (c_X11_pointAt_x l hlt S dC dI cI H.size a0 a1 a2 a3 a4 a5 a6 a7 a8 a9 a10 v2_0 v5_3 v5_4 v5_5 v5_6 v5_7 v8_10 v8_0 v8_1 v8_2 v8_3 v8_4 v8_5 v8_6 v8_7 v8_8 v8_9 p1 p2 p3 n x hF) (cwV 3 hta (ga_V mA1154 mA1155 mA1156 mA108 mA324) rfl rfl rfl (by decide +kernel) ⟨Nat.le_of_ble_eq_true rfl, Nat.le_of_ble_eq_true rfl⟩) ⟨qx_fb, va_recv hK hP (ci := 10) (q0 := 0) rfl rfl, qx_ps hPc hKi hDc hE hS (va_free (wc := (wd_X11_pointAt cI a0 a1 a2 a3 a4 a5 a6 a7 a8 a9 a10 v2_0 v5_3 v5_4 v5_5 v5_6 v5_7 v8_10 v8_0 v8_1 v8_2 v8_3 v8_4 v8_5 v8_6 v8_7 v8_8 v8_9)) hD hS hA [0, 1, 2, 3, 4, 5, 6, 7, 8, 9, 10, 11, 12, 13, 14] rfl)⟩ rfl rfl hl.1 rfl (lv_room (Nat.le_of_ble_eq_true rfl)) dL_pointAt_7 ⟨Nat.le_of_ble_eq_true rfl, Nat.le_of_ble_eq_true rfl⟩) (fun ce q9 H locs hP hD hS hce hcv hcl => ?_)
  rw [hk] at hcl
  have hcl : s.vm.findClass xIO = some ce.cls := hcl
  refine vx_catch (E := xIO) hown [] ⟨0, 12, 15, 28⟩ [⟨0, 12, 19, 13⟩] (vx_table (x := yL_moveTo) B (hts _ List.mem_cons_self)) (fun z hz => absurd hz List.not_mem_nil) (by decide) (by decide) (hta _ mA1129) (va_Nw.use rfl hE.2.2.2.2.2.1) hce hcv hcl ?_
  refine lv_astore (lv' := [(5, .ref q9), (0, .ref (a0 0)), (1, .int p1), (2, .int p2), (3, .int p3), (4, .ref bo)]) hx hb dL_pointAt_15 hl (by decide) rfl (fun ls hl => ?_)
  refine lv_iconst (v := 1) hx hb dL_pointAt_17 (by decide) ?_
  exact W.iret (v := 1) hx hb hr (fun t ht hW => ⟨⟨1, (), rfl, rfl, by rw [ht]; exact hP, va_K.moved hW.alike hK, hD⟩, hS.F ht⟩) hS.2.2 dL_pointAt_18
set_option maxHeartbeats 4000000 in
set_option maxRecDepth 100000 in
theorem c_L_pointAt_x1 (l : Launch) (hlt : l.stackTraces = false) (S : Nat → Nat) (dC : Nat → ClassId) (dI : Nat → Nat → Nat) (cI cL : ClassId) (sz : Nat) (a0 : Nat → Nat) (a1 : Nat → Nat) (a2 : Nat → Nat) (a3 : Nat → Nat) (a4 : Nat → Nat) (a5 : Nat → Nat) (a6 : Nat → Nat) (a7 : Nat → Nat) (a8 : Nat → Nat) (a9 : Nat → Nat) (a10 : Nat → Nat) (v2_0 : Nat → Int32) (v5_3 : Int32) (v5_4 : Int32) (v5_5 : Int32) (v5_6 : Int32) (v5_7 : Int32) (v8_10 : Int32) (v8_0 : Nat → Int32) (v8_1 : Nat → Int32) (v8_2 : Nat → Int32) (v8_3 : Nat → Int32) (v8_4 : Nat → Int32) (v8_5 : Nat → Int32) (v8_6 : Nat → Int32) (v8_7 : Nat → Int32) (v8_8 : Nat → Int32) (v8_9 : Nat → Int32) (bo : Nat) (w : Nat → Int64) (p1 : Int32) (p2 : Int32) (p3 : Int32) (n : Nat) (x : (Nat × Int32 × Int32 × (Nat → Int32) × (Nat → Int32) × (Nat → Int32) × (Nat → Int32) × (Nat → Int32) × (Nat → Int32) × (Nat → Int32) × (Nat → Int32) × (Nat → Int32) × (Nat → Int32))) (hF : F_X11_pointAt n v2_0 v5_3 v8_10 v8_0 v8_1 v8_2 v8_3 v8_4 v8_5 v8_6 v8_7 v8_8 v8_9 p1 p2 p3 = some (.inr x)) (hk : x.1 = 1) : Met l yL_pointAt wz_L_pointAt rmx_L_pointAt (va_Pc [.ref (a0 0), .int p1, .int p2, .int p3, .ref bo] (qx_preL S dC dI cI cL ((wd_X11_pointAt cI a0 a1 a2 a3 a4 a5 a6 a7 a8 a9 a10 v2_0 v5_3 v5_4 v5_5 v5_6 v5_7 v8_10 v8_0 v8_1 v8_2 v8_3 v8_4 v8_5 v8_6 v8_7 v8_8 v8_9) ++ [(bo, .inl (cL, 1, .inr (.inl w)))]) sz)) (va_Qi (fun (r : Int32) (_ : Unit) => r = 2) (fun _ => q_atL dC dI cI cL (va_A ((wd_X11_pointAt cI a0 a1 a2 a3 a4 a5 a6 a7 a8 a9 a10 v2_0 v5_3 v5_4 v5_5 v5_6 v5_7 v8_10 v8_0 v8_1 v8_2 v8_3 v8_4 v8_5 v8_6 v8_7 v8_8 v8_9) ++ [(bo, .inl (cL, 1, .inr (.inl w)))]) sz) ((wd_X11_pointAt cI a0 a1 a2 a3 a4 a5 a6 a7 a8 a9 a10 v2_0 x.2.1 v5_4 v5_5 v5_6 v5_7 x.2.2.1 x.2.2.2.1 x.2.2.2.2.1 x.2.2.2.2.2.1 x.2.2.2.2.2.2.1 x.2.2.2.2.2.2.2.1 x.2.2.2.2.2.2.2.2.1 x.2.2.2.2.2.2.2.2.2.1 x.2.2.2.2.2.2.2.2.2.2.1 x.2.2.2.2.2.2.2.2.2.2.2.1 x.2.2.2.2.2.2.2.2.2.2.2.2) ++ [(bo, .inl (cL, 1, .inr (.inl w)))])) (va_A ((wd_X11_pointAt cI a0 a1 a2 a3 a4 a5 a6 a7 a8 a9 a10 v2_0 v5_3 v5_4 v5_5 v5_6 v5_7 v8_10 v8_0 v8_1 v8_2 v8_3 v8_4 v8_5 v8_6 v8_7 v8_8 v8_9) ++ [(bo, .inl (cL, 1, .inr (.inl w)))]) sz)) 1 6 (va_A ((wd_X11_pointAt cI a0 a1 a2 a3 a4 a5 a6 a7 a8 a9 a10 v2_0 v5_3 v5_4 v5_5 v5_6 v5_7 v8_10 v8_0 v8_1 v8_2 v8_3 v8_4 v8_5 v8_6 v8_7 v8_8 v8_9) ++ [(bo, .inl (cL, 1, .inr (.inl w)))]) sz) := by
  refine q_ofWH (cc := cL_pointAt) (maxL := 6) (ret := (some .int)) (hh := [(0, 12, 15, 28), (0, 12, 19, 13)]) (by decide) rfl ?_
  intro p e s m args below meth c s₁ B hml hv
  obtain ⟨rfl, ⟨hsz, hP, hK, hD0⟩, hE, hC⟩ := hv
  have hx := B.exec
  have hb := B.bytes
  have hr := B.returns
  have hts := atoms_spec (ws := wz_L_pointAt) B.pre
  have hta := wz_tl hts
  have hown : s.vm.findClass RL = some m.cls := findClass_of_methodNamed B.named
  have hlocks := B.notSynchronized
  subst hsz
  have hD := hD0.self (sz := s.heap.size)
  generalize hAe : va_A ((wd_X11_pointAt cI a0 a1 a2 a3 a4 a5 a6 a7 a8 a9 a10 v2_0 v5_3 v5_4 v5_5 v5_6 v5_7 v8_10 v8_0 v8_1 v8_2 v8_3 v8_4 v8_5 v8_6 v8_7 v8_8 v8_9) ++ [(bo, .inl (cL, 1, .inr (.inl w)))]) s.heap.size = A at hD hE ⊢
  have hA : ∀ q : Nat, s.heap.size ≤ q → A q := fun q h => by rw [← hAe]; exact Or.inr h
  have hS : va_S A s.heap s.heap [] := va_S.rf
  have hl := lv_entry ([.ref (a0 0), .int p1, .int p2, .int p3, .ref bo]) (n := 6) (Nat.le_of_ble_eq_true rfl)
  rw [lg_entry_eq]
  generalize (lg_sl ([.ref (a0 0), .int p1, .int p2, .int p3, .ref bo]) ++ List.replicate (6 - (lg_sl ([.ref (a0 0), .int p1, .int p2, .int p3, .ref bo])).length) Slot.unset).toArray = ls at hl ⊢
  have hl : lv_has ls 6 [(0, .ref (a0 0)), (1, .int p1), (2, .int p2), (3, .int p3), (4, .ref bo)] := hl
  obtain ⟨H, hHe⟩ : ∃ H, H = s.heap := ⟨_, rfl⟩
  have hS : va_S A s.heap H [] := by rw [hHe]; exact hS
  have hP : va_P (dC, dI) vwCl ((wd_X11_pointAt cI a0 a1 a2 a3 a4 a5 a6 a7 a8 a9 a10 v2_0 v5_3 v5_4 v5_5 v5_6 v5_7 v8_10 v8_0 v8_1 v8_2 v8_3 v8_4 v8_5 v8_6 v8_7 v8_8 v8_9) ++ [(bo, .inl (cL, 1, .inr (.inl w)))]) H := by rw [hHe]; exact hP
  rw [← hHe]
  have hKi : va_K (dC, dI) vwCl [(cI, .int)] s := hK.sub [0] rfl
  refine lv_aload hx hb dL_pointAt_0 (lv_at hl 4 rfl) ?_
  refine lv_iconst (v := 0) hx hb dL_pointAt_2 (by decide) ?_
  refine lv_aload_n hx hb dL_pointAt_3 rfl (lv_at hl 0 rfl) ?_
  refine lv_iload_n hx hb dL_pointAt_4 rfl (lv_at hl 1 rfl) ?_
  refine lv_iload_n hx hb dL_pointAt_5 rfl (lv_at hl 2 rfl) ?_
  refine lv_iload_n hx hb dL_pointAt_6 rfl (lv_at hl 3 rfl) ?_
  have hPc := hP.sub (ws' := (wd_X11_pointAt cI a0 a1 a2 a3 a4 a5 a6 a7 a8 a9 a10 v2_0 v5_3 v5_4 v5_5 v5_6 v5_7 v8_10 v8_0 v8_1 v8_2 v8_3 v8_4 v8_5 v8_6 v8_7 v8_8 v8_9)) [0, 1, 2, 3, 4, 5, 6, 7, 8, 9, 10, 11, 12, 13, 14] rfl
  have hDc := hD.sub (ws' := (wd_X11_pointAt cI a0 a1 a2 a3 a4 a5 a6 a7 a8 a9 a10 v2_0 v5_3 v5_4 v5_5 v5_6 v5_7 v8_10 v8_0 v8_1 v8_2 v8_3 v8_4 v8_5 v8_6 v8_7 v8_8 v8_9)) [0, 1, 2, 3, 4, 5, 6, 7, 8, 9, 10, 11, 12, 13, 14] rfl rfl
  refine qx_cat (kd := x.1) (wc := (wd_X11_pointAt cI a0 a1 a2 a3 a4 a5 a6 a7 a8 a9 a10 v2_0 v5_3 v5_4 v5_5 v5_6 v5_7 v8_10 v8_0 v8_1 v8_2 v8_3 v8_4 v8_5 v8_6 v8_7 v8_8 v8_9)) (w1 := (wd_X11_pointAt cI a0 a1 a2 a3 a4 a5 a6 a7 a8 a9 a10 v2_0 x.2.1 v5_4 v5_5 v5_6 v5_7 x.2.2.1 x.2.2.2.1 x.2.2.2.2.1 x.2.2.2.2.2.1 x.2.2.2.2.2.2.1 x.2.2.2.2.2.2.2.1 x.2.2.2.2.2.2.2.2.1 x.2.2.2.2.2.2.2.2.2.1 x.2.2.2.2.2.2.2.2.2.2.1 x.2.2.2.2.2.2.2.2.2.2.2.1 x.2.2.2.2.2.2.2.2.2.2.2.2)) (ws' := ((wd_X11_pointAt cI a0 a1 a2 a3 a4 a5 a6 a7 a8 a9 a10 v2_0 x.2.1 v5_4 v5_5 v5_6 v5_7 x.2.2.1 x.2.2.2.1 x.2.2.2.2.1 x.2.2.2.2.2.1 x.2.2.2.2.2.2.1 x.2.2.2.2.2.2.2.1 x.2.2.2.2.2.2.2.2.1 x.2.2.2.2.2.2.2.2.2.1 x.2.2.2.2.2.2.2.2.2.2.1 x.2.2.2.2.2.2.2.2.2.2.2.1 x.2.2.2.2.2.2.2.2.2.2.2.2) ++ [(bo, .inl (cL, 1, .inr (.inl w)))])) hP hD hS hA [0, 1, 2, 3, 4, 5, 6, 7, 8, 9, 10, 11, 12, 13, 14] [15] [1, 2, 3, 4, 5, 6, 7, 8, 9, 10, 11, 12, 13, 14, 15, 0] rfl rfl rfl (by decide) rfl rfl (vx_runV (As := [.int p1, .int p2, .int p3]) (rest := [.int 0, .ref bo]) ⟨hx, hb, hml, hown, hta⟩ (c_X11_pointAt_x l hlt S dC dI cI H.size a0 a1 a2 a3 a4 a5 a6 a7 a8 a9 a10 v2_0 v5_3 v5_4 v5_5 v5_6 v5_7 v8_10 v8_0 v8_1 v8_2 v8_3 v8_4 v8_5 v8_6 v8_7 v8_8 v8_9 p1 p2 p3 n x hF) (cwV 3 hta (ga_V mA1154 mA1155 mA1156 mA108 mA324) rfl rfl rfl (by decide +kernel) ⟨Nat.le_of_ble_eq_true rfl, Nat.le_of_ble_eq_true rfl⟩) ⟨qx_fb, va_recv hK hP (ci := 10) (q0 := 0) rfl rfl, qx_ps hPc hKi hDc hE hS (va_free (wc := (wd_X11_pointAt cI a0 a1 a2 a3 a4 a5 a6 a7 a8 a9 a10 v2_0 v5_3 v5_4 v5_5 v5_6 v5_7 v8_10 v8_0 v8_1 v8_2 v8_3 v8_4 v8_5 v8_6 v8_7 v8_8 v8_9)) hD hS hA [0, 1, 2, 3, 4, 5, 6, 7, 8, 9, 10, 11, 12, 13, 14] rfl)⟩ rfl rfl hl.1 rfl (lv_room (Nat.le_of_ble_eq_true rfl)) dL_pointAt_7 ⟨Nat.le_of_ble_eq_true rfl, Nat.le_of_ble_eq_true rfl⟩) (fun ce q9 H locs hP hD hS hce hcv hcl => ?_)
  rw [hk] at hcl
  have hcl : s.vm.findClass xIA = some ce.cls := hcl
  refine vx_catch (E := xIA) hown [⟨0, 12, 15, 28⟩] ⟨0, 12, 19, 13⟩ [] (vx_table (x := yL_moveTo) B (hts _ List.mem_cons_self)) (fun z hz => by rw [List.mem_singleton.mp hz]; exact Or.inr ⟨by decide, xIO, hta _ mA1129, hC.2⟩) (by decide) (by decide) (hta _ mA1115) (va_Nw.use rfl hE.2.2.2.1) hce hcv hcl ?_
  refine lv_astore (lv' := [(5, .ref q9), (0, .ref (a0 0)), (1, .int p1), (2, .int p2), (3, .int p3), (4, .ref bo)]) hx hb dL_pointAt_19 hl (by decide) rfl (fun ls hl => ?_)
  refine lv_iconst (v := 2) hx hb dL_pointAt_21 (by decide) ?_
  exact W.iret (v := 2) hx hb hr (fun t ht hW => ⟨⟨2, (), rfl, rfl, by rw [ht]; exact hP, va_K.moved hW.alike hK, hD⟩, hS.F ht⟩) hS.2.2 dL_pointAt_22

abbrev wz_L_setStyle : List Cond := .codeWith yL_setStyle cL_setStyle 7 (some .int) [(0, 14, 17, 13)] :: wALL
abbrev rm_L_setStyle : Room := { frames := 5, cells := 0, slots := 0, locals := 114 }
set_option maxHeartbeats 4000000 in
set_option maxRecDepth 100000 in
theorem c_L_setStyle (l : Launch) (dC : Nat → ClassId) (dI : Nat → Nat → Nat) (cI cL : ClassId) (sz : Nat) (a0 : Nat → Nat) (a1 : Nat → Nat) (a2 : Nat → Nat) (a3 : Nat → Nat) (a4 : Nat → Nat) (a5 : Nat → Nat) (a6 : Nat → Nat) (a7 : Nat → Nat) (a8 : Nat → Nat) (a9 : Nat → Nat) (a10 : Nat → Nat) (v2_0 : Nat → Int32) (v4_1 : Int32) (v4_0 : Nat → Int32) (v5_3 : Int32) (v5_4 : Int32) (v5_5 : Int32) (v5_6 : Int32) (v5_7 : Int32) (bo : Nat) (w : Nat → Int64) (p1 : Int32) (p2 : Int32) (p3 : Int32) (p4 : Int32) (u : (Int32 × (Nat → Int32) × Int32 × (Nat → Int32) × Int32)) (hF : F_X11_setStyle v2_0 v4_1 v4_0 v5_3 p1 p2 p3 p4 = some (.inl u)) : Met l yL_setStyle wz_L_setStyle rm_L_setStyle (va_Pc [.ref (a0 0), .int p1, .int p2, .int p3, .int p4, .ref bo] (q_preL dC dI cI cL ((wd_X11_setStyle cI a0 a1 a2 a3 a4 a5 a6 a7 a8 a9 a10 v2_0 v4_1 v4_0 v5_3 v5_4 v5_5 v5_6 v5_7) ++ [(bo, .inl (cL, 1, .inr (.inl w)))]) sz)) (va_Qi (fun (r : Int32) (_ : Unit) => r = 0) (fun _ => q_atL dC dI cI cL (va_A ((wd_X11_setStyle cI a0 a1 a2 a3 a4 a5 a6 a7 a8 a9 a10 v2_0 v4_1 v4_0 v5_3 v5_4 v5_5 v5_6 v5_7) ++ [(bo, .inl (cL, 1, .inr (.inl w)))]) sz) ((wd_X11_setStyle cI a0 a1 a2 a3 a4 a5 a6 a7 a8 a9 a10 u.2.1 u.2.2.1 u.2.2.2.1 u.2.2.2.2 v5_4 v5_5 v5_6 v5_7) ++ [(bo, .inl (cL, 1, .inr (.inl (vp_updL w (0 : Int32).toNatClampNeg u.1.toInt64))))])) (va_A ((wd_X11_setStyle cI a0 a1 a2 a3 a4 a5 a6 a7 a8 a9 a10 v2_0 v4_1 v4_0 v5_3 v5_4 v5_5 v5_6 v5_7) ++ [(bo, .inl (cL, 1, .inr (.inl w)))]) sz)) 0 0 (va_A ((wd_X11_setStyle cI a0 a1 a2 a3 a4 a5 a6 a7 a8 a9 a10 v2_0 v4_1 v4_0 v5_3 v5_4 v5_5 v5_6 v5_7) ++ [(bo, .inl (cL, 1, .inr (.inl w)))]) sz) := by
  refine q_ofWH (cc := cL_setStyle) (maxL := 7) (ret := (some .int)) (hh := [(0, 14, 17, 13)]) (by decide) rfl ?_
  intro p e s m args below meth c s₁ B hml hv
  obtain ⟨rfl, hsz, hP, hK, hD0⟩ := hv
  have hx := B.exec
  have hb := B.bytes
  have hr := B.returns
  have hts := atoms_spec (ws := wz_L_setStyle) B.pre
  have hta := wz_tl hts
  have hown : s.vm.findClass RL = some m.cls := findClass_of_methodNamed B.named
  have hlocks := B.notSynchronized
  subst hsz
  have hD := hD0.self (sz := s.heap.size)
  generalize hAe : va_A ((wd_X11_setStyle cI a0 a1 a2 a3 a4 a5 a6 a7 a8 a9 a10 v2_0 v4_1 v4_0 v5_3 v5_4 v5_5 v5_6 v5_7) ++ [(bo, .inl (cL, 1, .inr (.inl w)))]) s.heap.size = A at hD ⊢
  have hA : ∀ q : Nat, s.heap.size ≤ q → A q := fun q h => by rw [← hAe]; exact Or.inr h
  have hS : va_S A s.heap s.heap [] := va_S.rf
  have hl := lv_entry ([.ref (a0 0), .int p1, .int p2, .int p3, .int p4, .ref bo]) (n := 7) (Nat.le_of_ble_eq_true rfl)
  rw [lg_entry_eq]
  generalize (lg_sl ([.ref (a0 0), .int p1, .int p2, .int p3, .int p4, .ref bo]) ++ List.replicate (7 - (lg_sl ([.ref (a0 0), .int p1, .int p2, .int p3, .int p4, .ref bo])).length) Slot.unset).toArray = ls at hl ⊢
  have hl : lv_has ls 7 [(0, .ref (a0 0)), (1, .int p1), (2, .int p2), (3, .int p3), (4, .int p4), (5, .ref bo)] := hl
  obtain ⟨H, hHe⟩ : ∃ H, H = s.heap := ⟨_, rfl⟩
  have hS : va_S A s.heap H [] := by rw [hHe]; exact hS
  have hP : va_P (dC, dI) vwCl ((wd_X11_setStyle cI a0 a1 a2 a3 a4 a5 a6 a7 a8 a9 a10 v2_0 v4_1 v4_0 v5_3 v5_4 v5_5 v5_6 v5_7) ++ [(bo, .inl (cL, 1, .inr (.inl w)))]) H := by rw [hHe]; exact hP
  rw [← hHe]
  have hKi : va_K (dC, dI) vwCl [(cI, .int)] s := hK.sub [0] rfl
  refine lv_aload hx hb dL_setStyle_0 (lv_at hl 5 rfl) ?_
  refine lv_iconst (v := 0) hx hb dL_setStyle_2 (by decide) ?_
  refine lv_aload_n hx hb dL_setStyle_3 rfl (lv_at hl 0 rfl) ?_
  refine lv_iload_n hx hb dL_setStyle_4 rfl (lv_at hl 1 rfl) ?_
  refine lv_iload_n hx hb dL_setStyle_5 rfl (lv_at hl 2 rfl) ?_
  refine lv_iload_n hx hb dL_setStyle_6 rfl (lv_at hl 3 rfl) ?_
  refine lv_iload hx hb dL_setStyle_7 (lv_at hl 4 rfl) ?_
  have hPc := hP.sub (ws' := (wd_X11_setStyle cI a0 a1 a2 a3 a4 a5 a6 a7 a8 a9 a10 v2_0 v4_1 v4_0 v5_3 v5_4 v5_5 v5_6 v5_7)) [0, 1, 2, 3, 4, 5] rfl
  have hDc := hD.sub (ws' := (wd_X11_setStyle cI a0 a1 a2 a3 a4 a5 a6 a7 a8 a9 a10 v2_0 v4_1 v4_0 v5_3 v5_4 v5_5 v5_6 v5_7)) [0, 1, 2, 3, 4, 5] rfl rfl
  refine q_calli (wc := (wd_X11_setStyle cI a0 a1 a2 a3 a4 a5 a6 a7 a8 a9 a10 v2_0 v4_1 v4_0 v5_3 v5_4 v5_5 v5_6 v5_7)) (w1 := (wd_X11_setStyle cI a0 a1 a2 a3 a4 a5 a6 a7 a8 a9 a10 u.2.1 u.2.2.1 u.2.2.2.1 u.2.2.2.2 v5_4 v5_5 v5_6 v5_7)) (ws' := ((wd_X11_setStyle cI a0 a1 a2 a3 a4 a5 a6 a7 a8 a9 a10 u.2.1 u.2.2.1 u.2.2.2.1 u.2.2.2.2 v5_4 v5_5 v5_6 v5_7) ++ [(bo, .inl (cL, 1, .inr (.inl w)))])) hP hD hS hA [0, 1, 2, 3, 4, 5] [6] [1, 2, 3, 4, 5, 6, 0] rfl rfl rfl (by decide) rfl rfl (va_runV (As := [.int p1, .int p2, .int p3, .int p4]) (rest := [.int 0, .ref bo]) ⟨hx, hb, hml, hown, hta⟩ (c_X11_setStyle l dC dI cI H.size a0 a1 a2 a3 a4 a5 a6 a7 a8 a9 a10 v2_0 v4_1 v4_0 v5_3 v5_4 v5_5 v5_6 v5_7 p1 p2 p3 p4 u hF) (cwV 4 hta (ga_V mA1158 mA1159 mA1160 mA108 mA343) rfl rfl rfl (by decide +kernel) ⟨Nat.le_of_ble_eq_true rfl, Nat.le_of_ble_eq_true rfl⟩) ⟨q_fb, va_recv hK hP (ci := 10) (q0 := 0) rfl rfl, q_ps hPc hKi hDc⟩ rfl rfl hl.1 rfl (lv_room (Nat.le_of_ble_eq_true rfl)) dL_setStyle_9 ⟨Nat.zero_le _, Nat.zero_le _⟩) (fun H locs hP hD hS => ?_)
  refine lv_i2l hx hb dL_setStyle_12 rfl ?_
  refine va_last hx hb hK hP hD hS 6 1 rfl rfl (vpi_in (by decide)) dL_setStyle_13 (fun H locs hP hD hS => ?_)
  have hP : va_P (dC, dI) vwCl ((wd_X11_setStyle cI a0 a1 a2 a3 a4 a5 a6 a7 a8 a9 a10 u.2.1 u.2.2.1 u.2.2.2.1 u.2.2.2.2 v5_4 v5_5 v5_6 v5_7) ++ [(bo, .inl (cL, 1, .inr (.inl (vp_updL w (0 : Int32).toNatClampNeg u.1.toInt64))))]) H := hP
  have hD : va_D A ((wd_X11_setStyle cI a0 a1 a2 a3 a4 a5 a6 a7 a8 a9 a10 u.2.1 u.2.2.1 u.2.2.2.1 u.2.2.2.2 v5_4 v5_5 v5_6 v5_7) ++ [(bo, .inl (cL, 1, .inr (.inl (vp_updL w (0 : Int32).toNatClampNeg u.1.toInt64))))]) := hD
  refine lv_goto (tgt := 21) hx hb dL_setStyle_14 (by decide) ?_
  refine lv_iconst (v := 0) hx hb dL_setStyle_21 (by decide) ?_
  exact W.iret (v := 0) hx hb hr (fun t ht hW => ⟨⟨0, (), rfl, rfl, by rw [ht]; exact hP, va_K.moved hW.alike hK, hD⟩, hS.F ht⟩) hS.2.2 dL_setStyle_22
abbrev rmx_L_setStyle : Room := { frames := 8, cells := 1, slots := 6, locals := 129 }
set_option maxHeartbeats 4000000 in
set_option maxRecDepth 100000 in
theorem c_L_setStyle_x1 (l : Launch) (hlt : l.stackTraces = false) (S : Nat → Nat) (dC : Nat → ClassId) (dI : Nat → Nat → Nat) (cI cL : ClassId) (sz : Nat) (a0 : Nat → Nat) (a1 : Nat → Nat) (a2 : Nat → Nat) (a3 : Nat → Nat) (a4 : Nat → Nat) (a5 : Nat → Nat) (a6 : Nat → Nat) (a7 : Nat → Nat) (a8 : Nat → Nat) (a9 : Nat → Nat) (a10 : Nat → Nat) (v2_0 : Nat → Int32) (v4_1 : Int32) (v4_0 : Nat → Int32) (v5_3 : Int32) (v5_4 : Int32) (v5_5 : Int32) (v5_6 : Int32) (v5_7 : Int32) (bo : Nat) (w : Nat → Int64) (p1 : Int32) (p2 : Int32) (p3 : Int32) (p4 : Int32) (x : (Nat × (Nat → Int32) × Int32 × (Nat → Int32) × Int32)) (hF : F_X11_setStyle v2_0 v4_1 v4_0 v5_3 p1 p2 p3 p4 = some (.inr x)) (hk : x.1 = 1) : Met l yL_setStyle wz_L_setStyle rmx_L_setStyle (va_Pc [.ref (a0 0), .int p1, .int p2, .int p3, .int p4, .ref bo] (qx_preL S dC dI cI cL ((wd_X11_setStyle cI a0 a1 a2 a3 a4 a5 a6 a7 a8 a9 a10 v2_0 v4_1 v4_0 v5_3 v5_4 v5_5 v5_6 v5_7) ++ [(bo, .inl (cL, 1, .inr (.inl w)))]) sz)) (va_Qi (fun (r : Int32) (_ : Unit) => r = 1) (fun _ => q_atL dC dI cI cL (va_A ((wd_X11_setStyle cI a0 a1 a2 a3 a4 a5 a6 a7 a8 a9 a10 v2_0 v4_1 v4_0 v5_3 v5_4 v5_5 v5_6 v5_7) ++ [(bo, .inl (cL, 1, .inr (.inl w)))]) sz) ((wd_X11_setStyle cI a0 a1 a2 a3 a4 a5 a6 a7 a8 a9 a10 x.2.1 x.2.2.1 x.2.2.2.1 x.2.2.2.2 v5_4 v5_5 v5_6 v5_7) ++ [(bo, .inl (cL, 1, .inr (.inl w)))])) (va_A ((wd_X11_setStyle cI a0 a1 a2 a3 a4 a5 a6 a7 a8 a9 a10 v2_0 v4_1 v4_0 v5_3 v5_4 v5_5 v5_6 v5_7) ++ [(bo, .inl (cL, 1, .inr (.inl w)))]) sz)) 1 6 (va_A ((wd_X11_setStyle cI a0 a1 a2 a3 a4 a5 a6 a7 a8 a9 a10 v2_0 v4_1 v4_0 v5_3 v5_4 v5_5 v5_6 v5_7) ++ [(bo, .inl (cL, 1, .inr (.inl w)))]) sz) := by
  refine q_ofWH (cc := cL_setStyle) (maxL := 7) (ret := (some .int)) (hh := [(0, 14, 17, 13)]) (by decide) rfl ?_
  intro p e s m args below meth c s₁ B hml hv
  obtain ⟨rfl, ⟨hsz, hP, hK, hD0⟩, hE, hC⟩ := hv
  have hx := B.exec
  have hb := B.bytes
  have hr := B.returns
  have hts := atoms_spec (ws := wz_L_setStyle) B.pre
  have hta := wz_tl hts
  have hown : s.vm.findClass RL = some m.cls := findClass_of_methodNamed B.named
  have hlocks := B.notSynchronized
  subst hsz
  have hD := hD0.self (sz := s.heap.size)
  generalize hAe : va_A ((wd_X11_setStyle cI a0 a1 a2 a3 a4 a5 a6 a7 a8 a9 a10 v2_0 v4_1 v4_0 v5_3 v5_4 v5_5 v5_6 v5_7) ++ [(bo, .inl (cL, 1, .inr (.inl w)))]) s.heap.size = A at hD hE ⊢
  have hA : ∀ q : Nat, s.heap.size ≤ q → A q := fun q h => by rw [← hAe]; exact Or.inr h
  have hS : va_S A s.heap s.heap [] := va_S.rf
  have hl := lv_entry ([.ref (a0 0), .int p1, .int p2, .int p3, .int p4, .ref bo]) (n := 7) (Nat.le_of_ble_eq_true rfl)
  rw [lg_entry_eq]
  generalize (lg_sl ([.ref (a0 0), .int p1, .int p2, .int p3, .int p4, .ref bo]) ++ List.replicate (7 - (lg_sl ([.ref (a0 0), .int p1, .int p2, .int p3, .int p4, .ref bo])).length) Slot.unset).toArray = ls at hl ⊢
  have hl : lv_has ls 7 [(0, .ref (a0 0)), (1, .int p1), (2, .int p2), (3, .int p3), (4, .int p4), (5, .ref bo)] := hl
  obtain ⟨H, hHe⟩ : ∃ H, H = s.heap := ⟨_, rfl⟩
  have hS : va_S A s.heap H [] := by rw [hHe]; exact hS
  have hP : va_P (dC, dI) vwCl ((wd_X11_setStyle cI a0 a1 a2 a3 a4 a5 a6 a7 a8 a9 a10 v2_0 v4_1 v4_0 v5_3 v5_4 v5_5 v5_6 v5_7) ++ [(bo, .inl (cL, 1, .inr (.inl w)))]) H := by rw [hHe]; exact hP
  rw [← hHe]
  have hKi : va_K (dC, dI) vwCl [(cI, .int)] s := hK.sub [0] rfl
  refine lv_aload hx hb dL_setStyle_0 (lv_at hl 5 rfl) ?_
  refine lv_iconst (v := 0) hx hb dL_setStyle_2 (by decide) ?_
  refine lv_aload_n hx hb dL_setStyle_3 rfl (lv_at hl 0 rfl) ?_
  refine lv_iload_n hx hb dL_setStyle_4 rfl (lv_at hl 1 rfl) ?_
  refine lv_iload_n hx hb dL_setStyle_5 rfl (lv_at hl 2 rfl) ?_
  refine lv_iload_n hx hb dL_setStyle_6 rfl (lv_at hl 3 rfl) ?_
  refine lv_iload hx hb dL_setStyle_7 (lv_at hl 4 rfl) ?_
  have hPc := hP.sub (ws' := (wd_X11_setStyle cI a0 a1 a2 a3 a4 a5 a6 a7 a8 a9 a10 v2_0 v4_1 v4_0 v5_3 v5_4 v5_5 v5_6 v5_7)) [0, 1, 2, 3, 4, 5] rfl
  have hDc := hD.sub (ws' := (wd_X11_setStyle cI a0 a1 a2 a3 a4 a5 a6 a7 a8 a9 a10 v2_0 v4_1 v4_0 v5_3 v5_4 v5_5 v5_6 v5_7)) [0, 1, 2, 3, 4, 5] rfl rfl
  refine qx_cat (kd := x.1) (wc := (wd_X11_setStyle cI a0 a1 a2 a3 a4 a5 a6 a7 a8 a9 a10 v2_0 v4_1 v4_0 v5_3 v5_4 v5_5 v5_6 v5_7)) (w1 := (wd_X11_setStyle cI a0 a1 a2 a3 a4 a5 a6 a7 a8 a9 a10 x.2.1 x.2.2.1 x.2.2.2.1 x.2.2.2.2 v5_4 v5_5 v5_6 v5_7)) (ws' := ((wd_X11_setStyle cI a0 a1 a2 a3 a4 a5 a6 a7 a8 a9 a10 x.2.1 x.2.2.1 x.2.2.2.1 x.2.2.2.2 v5_4 v5_5 v5_6 v5_7) ++ [(bo, .inl (cL, 1, .inr (.inl w)))])) hP hD hS hA [0, 1, 2, 3, 4, 5] [6] [1, 2, 3, 4, 5, 6, 0] rfl rfl rfl (by decide) rfl rfl (vx_runV (As := [.int p1, .int p2, .int p3, .int p4]) (rest := [.int 0, .ref bo]) ⟨hx, hb, hml, hown, hta⟩ (c_X11_setStyle_x l hlt S dC dI cI H.size a0 a1 a2 a3 a4 a5 a6 a7 a8 a9 a10 v2_0 v4_1 v4_0 v5_3 v5_4 v5_5 v5_6 v5_7 p1 p2 p3 p4 x hF) (cwV 4 hta (ga_V mA1158 mA1159 mA1160 mA108 mA343) rfl rfl rfl (by decide +kernel) ⟨Nat.le_of_ble_eq_true rfl, Nat.le_of_ble_eq_true rfl⟩) ⟨qx_fb, va_recv hK hP (ci := 10) (q0 := 0) rfl rfl, qx_ps hPc hKi hDc hE hS (va_free (wc := (wd_X11_setStyle cI a0 a1 a2 a3 a4 a5 a6 a7 a8 a9 a10 v2_0 v4_1 v4_0 v5_3 v5_4 v5_5 v5_6 v5_7)) hD hS hA [0, 1, 2, 3, 4, 5] rfl)⟩ rfl rfl hl.1 rfl (lv_room (Nat.le_of_ble_eq_true rfl)) dL_setStyle_9 ⟨Nat.le_of_ble_eq_true rfl, Nat.le_of_ble_eq_true rfl⟩) (fun ce q9 H locs hP hD hS hce hcv hcl => ?_)
  rw [hk] at hcl
  have hcl : s.vm.findClass xIA = some ce.cls := hcl
  refine vx_catch (E := xIA) hown [] ⟨0, 14, 17, 13⟩ [] (vx_table (x := yL_moveTo) B (hts _ List.mem_cons_self)) (fun z hz => absurd hz List.not_mem_nil) (by decide) (by decide) (hta _ mA1115) (va_Nw.use rfl hE.2.2.2.1) hce hcv hcl ?_
  refine lv_astore (lv' := [(6, .ref q9), (0, .ref (a0 0)), (1, .int p1), (2, .int p2), (3, .int p3), (4, .int p4), (5, .ref bo)]) hx hb dL_setStyle_17 hl (by decide) rfl (fun ls hl => ?_)
  refine lv_iconst (v := 1) hx hb dL_setStyle_19 (by decide) ?_
  exact W.iret (v := 1) hx hb hr (fun t ht hW => ⟨⟨1, (), rfl, rfl, by rw [ht]; exact hP, va_K.moved hW.alike hK, hD⟩, hS.F ht⟩) hS.2.2 dL_setStyle_20

abbrev wz_L_setDashes : List Cond := .codeWith yL_setDashes cL_setDashes 5 (some .int) [(0, 10, 13, 13)] :: wALL
abbrev rm_L_setDashes : Room := { frames := 5, cells := 0, slots := 0, locals := 112 }
set_option maxHeartbeats 4000000 in
set_option maxRecDepth 100000 in
theorem c_L_setDashes (l : Launch) (dC : Nat → ClassId) (dI : Nat → Nat → Nat) (cI cL : ClassId) (sz : Nat) (a0 : Nat → Nat) (a1 : Nat → Nat) (a2 : Nat → Nat) (a3 : Nat → Nat) (a4 : Nat → Nat) (a5 : Nat → Nat) (a6 : Nat → Nat) (a7 : Nat → Nat) (a8 : Nat → Nat) (a9 : Nat → Nat) (a10 : Nat → Nat) (v2_0 : Nat → Int32) (v4_1 : Int32) (v4_0 : Nat → Int32) (v5_3 : Int32) (v5_4 : Int32) (v5_5 : Int32) (v5_6 : Int32) (v5_7 : Int32) (bo : Nat) (w : Nat → Int64) (p1 : Int32) (p2 : Int32) (u : (Int32 × (Nat → Int32) × Int32 × (Nat → Int32) × Int32)) (hF : F_X11_setDashes v2_0 v4_1 v4_0 v5_3 p1 p2 = some (.inl u)) : Met l yL_setDashes wz_L_setDashes rm_L_setDashes (va_Pc [.ref (a0 0), .int p1, .int p2, .ref bo] (q_preL dC dI cI cL ((wd_X11_setDashes cI a0 a1 a2 a3 a4 a5 a6 a7 a8 a9 a10 v2_0 v4_1 v4_0 v5_3 v5_4 v5_5 v5_6 v5_7) ++ [(bo, .inl (cL, 1, .inr (.inl w)))]) sz)) (va_Qi (fun (r : Int32) (_ : Unit) => r = 0) (fun _ => q_atL dC dI cI cL (va_A ((wd_X11_setDashes cI a0 a1 a2 a3 a4 a5 a6 a7 a8 a9 a10 v2_0 v4_1 v4_0 v5_3 v5_4 v5_5 v5_6 v5_7) ++ [(bo, .inl (cL, 1, .inr (.inl w)))]) sz) ((wd_X11_setDashes cI a0 a1 a2 a3 a4 a5 a6 a7 a8 a9 a10 u.2.1 u.2.2.1 u.2.2.2.1 u.2.2.2.2 v5_4 v5_5 v5_6 v5_7) ++ [(bo, .inl (cL, 1, .inr (.inl (vp_updL w (0 : Int32).toNatClampNeg u.1.toInt64))))])) (va_A ((wd_X11_setDashes cI a0 a1 a2 a3 a4 a5 a6 a7 a8 a9 a10 v2_0 v4_1 v4_0 v5_3 v5_4 v5_5 v5_6 v5_7) ++ [(bo, .inl (cL, 1, .inr (.inl w)))]) sz)) 0 0 (va_A ((wd_X11_setDashes cI a0 a1 a2 a3 a4 a5 a6 a7 a8 a9 a10 v2_0 v4_1 v4_0 v5_3 v5_4 v5_5 v5_6 v5_7) ++ [(bo, .inl (cL, 1, .inr (.inl w)))]) sz) := by
  refine q_ofWH (cc := cL_setDashes) (maxL := 5) (ret := (some .int)) (hh := [(0, 10, 13, 13)]) (by decide) rfl ?_
  intro p e s m args below meth c s₁ B hml hv
  obtain ⟨rfl, hsz, hP, hK, hD0⟩ := hv
  have hx := B.exec
  have hb := B.bytes
  have hr := B.returns
  have hts := atoms_spec (ws := wz_L_setDashes) B.pre
  have hta := wz_tl hts
  have hown : s.vm.findClass RL = some m.cls := findClass_of_methodNamed B.named
  have hlocks := B.notSynchronized
  subst hsz
  have hD := hD0.self (sz := s.heap.size)
  generalize hAe : va_A ((wd_X11_setDashes cI a0 a1 a2 a3 a4 a5 a6 a7 a8 a9 a10 v2_0 v4_1 v4_0 v5_3 v5_4 v5_5 v5_6 v5_7) ++ [(bo, .inl (cL, 1, .inr (.inl w)))]) s.heap.size = A at hD ⊢
  have hA : ∀ q : Nat, s.heap.size ≤ q → A q := fun q h => by rw [← hAe]; exact Or.inr h
  have hS : va_S A s.heap s.heap [] := va_S.rf
  have hl := lv_entry ([.ref (a0 0), .int p1, .int p2, .ref bo]) (n := 5) (Nat.le_of_ble_eq_true rfl)
  rw [lg_entry_eq]
  generalize (lg_sl ([.ref (a0 0), .int p1, .int p2, .ref bo]) ++ List.replicate (5 - (lg_sl ([.ref (a0 0), .int p1, .int p2, .ref bo])).length) Slot.unset).toArray = ls at hl ⊢
  have hl : lv_has ls 5 [(0, .ref (a0 0)), (1, .int p1), (2, .int p2), (3, .ref bo)] := hl
  obtain ⟨H, hHe⟩ : ∃ H, H = s.heap := ⟨_, rfl⟩
  have hS : va_S A s.heap H [] := by rw [hHe]; exact hS
  have hP : va_P (dC, dI) vwCl ((wd_X11_setDashes cI a0 a1 a2 a3 a4 a5 a6 a7 a8 a9 a10 v2_0 v4_1 v4_0 v5_3 v5_4 v5_5 v5_6 v5_7) ++ [(bo, .inl (cL, 1, .inr (.inl w)))]) H := by rw [hHe]; exact hP
  rw [← hHe]
  have hKi : va_K (dC, dI) vwCl [(cI, .int)] s := hK.sub [0] rfl
  refine lv_aload_n hx hb dL_setDashes_0 rfl (lv_at hl 3 rfl) ?_
  refine lv_iconst (v := 0) hx hb dL_setDashes_1 (by decide) ?_
  refine lv_aload_n hx hb dL_setDashes_2 rfl (lv_at hl 0 rfl) ?_
  refine lv_iload_n hx hb dL_setDashes_3 rfl (lv_at hl 1 rfl) ?_
  refine lv_iload_n hx hb dL_setDashes_4 rfl (lv_at hl 2 rfl) ?_
  have hPc := hP.sub (ws' := (wd_X11_setDashes cI a0 a1 a2 a3 a4 a5 a6 a7 a8 a9 a10 v2_0 v4_1 v4_0 v5_3 v5_4 v5_5 v5_6 v5_7)) [0, 1, 2, 3, 4, 5] rfl
  have hDc := hD.sub (ws' := (wd_X11_setDashes cI a0 a1 a2 a3 a4 a5 a6 a7 a8 a9 a10 v2_0 v4_1 v4_0 v5_3 v5_4 v5_5 v5_6 v5_7)) [0, 1, 2, 3, 4, 5] rfl rfl
  refine q_calli (wc := (wd_X11_setDashes cI a0 a1 a2 a3 a4 a5 a6 a7 a8 a9 a10 v2_0 v4_1 v4_0 v5_3 v5_4 v5_5 v5_6 v5_7)) (w1 := (wd_X11_setDashes cI a0 a1 a2 a3 a4 a5 a6 a7 a8 a9 a10 u.2.1 u.2.2.1 u.2.2.2.1 u.2.2.2.2 v5_4 v5_5 v5_6 v5_7)) (ws' := ((wd_X11_setDashes cI a0 a1 a2 a3 a4 a5 a6 a7 a8 a9 a10 u.2.1 u.2.2.1 u.2.2.2.1 u.2.2.2.2 v5_4 v5_5 v5_6 v5_7) ++ [(bo, .inl (cL, 1, .inr (.inl w)))])) hP hD hS hA [0, 1, 2, 3, 4, 5] [6] [1, 2, 3, 4, 5, 6, 0] rfl rfl rfl (by decide) rfl rfl (va_runV (As := [.int p1, .int p2]) (rest := [.int 0, .ref bo]) ⟨hx, hb, hml, hown, hta⟩ (c_X11_setDashes l dC dI cI H.size a0 a1 a2 a3 a4 a5 a6 a7 a8 a9 a10 v2_0 v4_1 v4_0 v5_3 v5_4 v5_5 v5_6 v5_7 p1 p2 u hF) (cwV 2 hta (ga_V mA1162 mA1163 mA1164 mA108 mA346) rfl rfl rfl (by decide +kernel) ⟨Nat.le_of_ble_eq_true rfl, Nat.le_of_ble_eq_true rfl⟩) ⟨q_fb, va_recv hK hP (ci := 10) (q0 := 0) rfl rfl, q_ps hPc hKi hDc⟩ rfl rfl hl.1 rfl (lv_room (Nat.le_of_ble_eq_true rfl)) dL_setDashes_5 ⟨Nat.zero_le _, Nat.zero_le _⟩) (fun H locs hP hD hS => ?_)
  refine lv_i2l hx hb dL_setDashes_8 rfl ?_
  refine va_last hx hb hK hP hD hS 6 1 rfl rfl (vpi_in (by decide)) dL_setDashes_9 (fun H locs hP hD hS => ?_)
  have hP : va_P (dC, dI) vwCl ((wd_X11_setDashes cI a0 a1 a2 a3 a4 a5 a6 a7 a8 a9 a10 u.2.1 u.2.2.1 u.2.2.2.1 u.2.2.2.2 v5_4 v5_5 v5_6 v5_7) ++ [(bo, .inl (cL, 1, .inr (.inl (vp_updL w (0 : Int32).toNatClampNeg u.1.toInt64))))]) H := hP
  have hD : va_D A ((wd_X11_setDashes cI a0 a1 a2 a3 a4 a5 a6 a7 a8 a9 a10 u.2.1 u.2.2.1 u.2.2.2.1 u.2.2.2.2 v5_4 v5_5 v5_6 v5_7) ++ [(bo, .inl (cL, 1, .inr (.inl (vp_updL w (0 : Int32).toNatClampNeg u.1.toInt64))))]) := hD
  refine lv_goto (tgt := 17) hx hb dL_setDashes_10 (by decide) ?_
  refine lv_iconst (v := 0) hx hb dL_setDashes_17 (by decide) ?_
  exact W.iret (v := 0) hx hb hr (fun t ht hW => ⟨⟨0, (), rfl, rfl, by rw [ht]; exact hP, va_K.moved hW.alike hK, hD⟩, hS.F ht⟩) hS.2.2 dL_setDashes_18
abbrev rmx_L_setDashes : Room := { frames := 8, cells := 1, slots := 6, locals := 127 }
set_option maxHeartbeats 4000000 in
set_option maxRecDepth 100000 in
theorem c_L_setDashes_x1 (l : Launch) (hlt : l.stackTraces = false) (S : Nat → Nat) (dC : Nat → ClassId) (dI : Nat → Nat → Nat) (cI cL : ClassId) (sz : Nat) (a0 : Nat → Nat) (a1 : Nat → Nat) (a2 : Nat → Nat) (a3 : Nat → Nat) (a4 : Nat → Nat) (a5 : Nat → Nat) (a6 : Nat → Nat) (a7 : Nat → Nat) (a8 : Nat → Nat) (a9 : Nat → Nat) (a10 : Nat → Nat) (v2_0 : Nat → Int32) (v4_1 : Int32) (v4_0 : Nat → Int32) (v5_3 : Int32) (v5_4 : Int32) (v5_5 : Int32) (v5_6 : Int32) (v5_7 : Int32) (bo : Nat) (w : Nat → Int64) (p1 : Int32) (p2 : Int32) (x : (Nat × (Nat → Int32) × Int32 × (Nat → Int32) × Int32)) (hF : F_X11_setDashes v2_0 v4_1 v4_0 v5_3 p1 p2 = some (.inr x)) (hk : x.1 = 1) : Met l yL_setDashes wz_L_setDashes rmx_L_setDashes (va_Pc [.ref (a0 0), .int p1, .int p2, .ref bo] (qx_preL S dC dI cI cL ((wd_X11_setDashes cI a0 a1 a2 a3 a4 a5 a6 a7 a8 a9 a10 v2_0 v4_1 v4_0 v5_3 v5_4 v5_5 v5_6 v5_7) ++ [(bo, .inl (cL, 1, .inr (.inl w)))]) sz)) (va_Qi (fun (r : Int32) (_ : Unit) => r = 1) (fun _ => q_atL dC dI cI cL (va_A ((wd_X11_setDashes cI a0 a1 a2 a3 a4 a5 a6 a7 a8 a9 a10 v2_0 v4_1 v4_0 v5_3 v5_4 v5_5 v5_6 v5_7) ++ [(bo, .inl (cL, 1, .inr (.inl w)))]) sz) ((wd_X11_setDashes cI a0 a1 a2 a3 a4 a5 a6 a7 a8 a9 a10 x.2.1 x.2.2.1 x.2.2.2.1 x.2.2.2.2 v5_4 v5_5 v5_6 v5_7) ++ [(bo, .inl (cL, 1, .inr (.inl w)))])) (va_A ((wd_X11_setDashes cI a0 a1 a2 a3 a4 a5 a6 a7 a8 a9 a10 v2_0 v4_1 v4_0 v5_3 v5_4 v5_5 v5_6 v5_7) ++ [(bo, .inl (cL, 1, .inr (.inl w)))]) sz)) 1 6 (va_A ((wd_X11_setDashes cI a0 a1 a2 a3 a4 a5 a6 a7 a8 a9 a10 v2_0 v4_1 v4_0 v5_3 v5_4 v5_5 v5_6 v5_7) ++ [(bo, .inl (cL, 1, .inr (.inl w)))]) sz) := by
  refine q_ofWH (cc := cL_setDashes) (maxL := 5) (ret := (some .int)) (hh := [(0, 10, 13, 13)]) (by decide) rfl ?_
  intro p e s m args below meth c s₁ B hml hv
  obtain ⟨rfl, ⟨hsz, hP, hK, hD0⟩, hE, hC⟩ := hv
  have hx := B.exec
  have hb := B.bytes
  have hr := B.returns
  have hts := atoms_spec (ws := wz_L_setDashes) B.pre
  have hta := wz_tl hts
  have hown : s.vm.findClass RL = some m.cls := findClass_of_methodNamed B.named
  have hlocks := B.notSynchronized
  subst hsz
  have hD := hD0.self (sz := s.heap.size)
  generalize hAe : va_A ((wd_X11_setDashes cI a0 a1 a2 a3 a4 a5 a6 a7 a8 a9 a10 v2_0 v4_1 v4_0 v5_3 v5_4 v5_5 v5_6 v5_7) ++ [(bo, .inl (cL, 1, .inr (.inl w)))]) s.heap.size = A at hD hE ⊢
  have hA : ∀ q : Nat, s.heap.size ≤ q → A q := fun q h => by rw [← hAe]; exact Or.inr h
  have hS : va_S A s.heap s.heap [] := va_S.rf
  have hl := lv_entry ([.ref (a0 0), .int p1, .int p2, .ref bo]) (n := 5) (Nat.le_of_ble_eq_true rfl)
  rw [lg_entry_eq]
  generalize (lg_sl ([.ref (a0 0), .int p1, .int p2, .ref bo]) ++ List.replicate (5 - (lg_sl ([.ref (a0 0), .int p1, .int p2, .ref bo])).length) Slot.unset).toArray = ls at hl ⊢
  have hl : lv_has ls 5 [(0, .ref (a0 0)), (1, .int p1), (2, .int p2), (3, .ref bo)] := hl
  obtain ⟨H, hHe⟩ : ∃ H, H = s.heap := ⟨_, rfl⟩
  have hS : va_S A s.heap H [] := by rw [hHe]; exact hS
  have hP : va_P (dC, dI) vwCl ((wd_X11_setDashes cI a0 a1 a2 a3 a4 a5 a6 a7 a8 a9 a10 v2_0 v4_1 v4_0 v5_3 v5_4 v5_5 v5_6 v5_7) ++ [(bo, .inl (cL, 1, .inr (.inl w)))]) H := by rw [hHe]; exact hP
  rw [← hHe]
  have hKi : va_K (dC, dI) vwCl [(cI, .int)] s := hK.sub [0] rfl
  refine lv_aload_n hx hb dL_setDashes_0 rfl (lv_at hl 3 rfl) ?_
  refine lv_iconst (v := 0) hx hb dL_setDashes_1 (by decide) ?_
  refine lv_aload_n hx hb dL_setDashes_2 rfl (lv_at hl 0 rfl) ?_
  refine lv_iload_n hx hb dL_setDashes_3 rfl (lv_at hl 1 rfl) ?_
  refine lv_iload_n hx hb dL_setDashes_4 rfl (lv_at hl 2 rfl) ?_
  have hPc := hP.sub (ws' := (wd_X11_setDashes cI a0 a1 a2 a3 a4 a5 a6 a7 a8 a9 a10 v2_0 v4_1 v4_0 v5_3 v5_4 v5_5 v5_6 v5_7)) [0, 1, 2, 3, 4, 5] rfl
  have hDc := hD.sub (ws' := (wd_X11_setDashes cI a0 a1 a2 a3 a4 a5 a6 a7 a8 a9 a10 v2_0 v4_1 v4_0 v5_3 v5_4 v5_5 v5_6 v5_7)) [0, 1, 2, 3, 4, 5] rfl rfl
  refine qx_cat (kd := x.1) (wc := (wd_X11_setDashes cI a0 a1 a2 a3 a4 a5 a6 a7 a8 a9 a10 v2_0 v4_1 v4_0 v5_3 v5_4 v5_5 v5_6 v5_7)) (w1 := (wd_X11_setDashes cI a0 a1 a2 a3 a4 a5 a6 a7 a8 a9 a10 x.2.1 x.2.2.1 x.2.2.2.1 x.2.2.2.2 v5_4 v5_5 v5_6 v5_7)) (ws' := ((wd_X11_setDashes cI a0 a1 a2 a3 a4 a5 a6 a7 a8 a9 a10 x.2.1 x.2.2.1 x.2.2.2.1 x.2.2.2.2 v5_4 v5_5 v5_6 v5_7) ++ [(bo, .inl (cL, 1, .inr (.inl w)))])) hP hD hS hA [0, 1, 2, 3, 4, 5] [6] [1, 2, 3, 4, 5, 6, 0] rfl rfl rfl (by decide) rfl rfl (vx_runV (As := [.int p1, .int p2]) (rest := [.int 0, .ref bo]) ⟨hx, hb, hml, hown, hta⟩ (c_X11_setDashes_x l hlt S dC dI cI H.size a0 a1 a2 a3 a4 a5 a6 a7 a8 a9 a10 v2_0 v4_1 v4_0 v5_3 v5_4 v5_5 v5_6 v5_7 p1 p2 x hF) (cwV 2 hta (ga_V mA1162 mA1163 mA1164 mA108 mA346) rfl rfl rfl (by decide +kernel) ⟨Nat.le_of_ble_eq_true rfl, Nat.le_of_ble_eq_true rfl⟩) ⟨qx_fb, va_recv hK hP (ci := 10) (q0 := 0) rfl rfl, qx_ps hPc hKi hDc hE hS (va_free (wc := (wd_X11_setDashes cI a0 a1 a2 a3 a4 a5 a6 a7 a8 a9 a10 v2_0 v4_1 v4_0 v5_3 v5_4 v5_5 v5_6 v5_7)) hD hS hA [0, 1, 2, 3, 4, 5] rfl)⟩ rfl rfl hl.1 rfl (lv_room (Nat.le_of_ble_eq_true rfl)) dL_setDashes_5 ⟨Nat.le_of_ble_eq_true rfl, Nat.le_of_ble_eq_true rfl⟩) (fun ce q9 H locs hP hD hS hce hcv hcl => ?_)
  rw [hk] at hcl
  have hcl : s.vm.findClass xIA = some ce.cls := hcl
  refine vx_catch (E := xIA) hown [] ⟨0, 10, 13, 13⟩ [] (vx_table (x := yL_moveTo) B (hts _ List.mem_cons_self)) (fun z hz => absurd hz List.not_mem_nil) (by decide) (by decide) (hta _ mA1115) (va_Nw.use rfl hE.2.2.2.1) hce hcv hcl ?_
  refine lv_astore (lv' := [(4, .ref q9), (0, .ref (a0 0)), (1, .int p1), (2, .int p2), (3, .ref bo)]) hx hb dL_setDashes_13 hl (by decide) rfl (fun ls hl => ?_)
  refine lv_iconst (v := 1) hx hb dL_setDashes_15 (by decide) ?_
  exact W.iret (v := 1) hx hb hr (fun t ht hW => ⟨⟨1, (), rfl, rfl, by rw [ht]; exact hP, va_K.moved hW.alike hK, hD⟩, hS.F ht⟩) hS.2.2 dL_setDashes_16
