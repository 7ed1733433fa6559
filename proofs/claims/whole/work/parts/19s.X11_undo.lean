-- StrokeOutliner.undo()I
def F_X11_undo_j15 (v2_0 : Nat → Int32) (v4_1 : Int32) (v4_0 : Nat → Int32) (v5_3 : Int32) (t0 : Int32) : Option (Sum (Int32 × (Nat → Int32) × Int32 × Int32) (Nat × (Nat → Int32) × Int32 × Int32)) :=
  obx (F_X11_checkState t0) (fun x_2 => some (.inr (x_2, v2_0, v4_1, v5_3))) (fun u_1 => lt (F_X10_forget) (fun u_3 => obd (F_X3_bringBack v4_1 v4_0 v2_0) (fun u_4 => lt (F_X3_size u_4.1) (fun u_5 => some (.inl (u_5, u_4.2, u_4.1, u_3))))))
def F_X11_undo (v2_0 : Nat → Int32) (v4_1 : Int32) (v4_0 : Nat → Int32) (v5_3 : Int32) : Option (Sum (Int32 × (Nat → Int32) × Int32 × Int32) (Nat × (Nat → Int32) × Int32 × Int32)) :=
  lt (F_X3_size v4_1) (fun u_6 => if u_6 ≤ 0 then F_X11_undo_j15 v2_0 v4_1 v4_0 v5_3 0 else F_X11_undo_j15 v2_0 v4_1 v4_0 v5_3 1)
abbrev wd_X11_undo (cI : ClassId) (a0 : Nat → Nat) (a1 : Nat → Nat) (a2 : Nat → Nat) (a3 : Nat → Nat) (a4 : Nat → Nat) (a5 : Nat → Nat) (a6 : Nat → Nat) (a7 : Nat → Nat) (a8 : Nat → Nat) (a9 : Nat → Nat) (a10 : Nat → Nat) (v2_0 : Nat → Int32) (v4_1 : Int32) (v4_0 : Nat → Int32) (v5_3 : Int32) (v5_4 : Int32) (v5_5 : Int32) (v5_6 : Int32) (v5_7 : Int32) : va_W := [(a0 0, .inr (10, [.ref (a2 0), .ref (a1 0), .ref (a4 0), .ref (a9 0), .ref (a10 0), .ref (a5 0), .ref (a3 0)])), (a2 0, .inr (1, [.ref (a2 1)])), (a2 1, .inl (cI, 86, .inl v2_0)), (a4 0, .inr (3, [.ref (a4 1), .int v4_1])), (a4 1, .inl (cI, 344, .inl v4_0)), (a5 0, .inr (9, [.ref (a8 0), .ref (a7 0), .ref (a6 0), .int v5_3, .int v5_4, .int v5_5, .int v5_6, .int v5_7]))]
abbrev wz_X11_undo : List Cond := .code yX11_undo cX11_undo 1 (some .int) :: wALL
abbrev rm_X11_undo : Room := { frames := 3, cells := 0, slots := 0, locals := 69 }
abbrev Q_X11_undo (dC : Nat → ClassId) (dI : Nat → Nat → Nat) (cI : ClassId) (a0 : Nat → Nat) (a1 : Nat → Nat) (a2 : Nat → Nat) (a3 : Nat → Nat) (a4 : Nat → Nat) (a5 : Nat → Nat) (a6 : Nat → Nat) (a7 : Nat → Nat) (a8 : Nat → Nat) (a9 : Nat → Nat) (a10 : Nat → Nat) (v4_0 : Nat → Int32) (v5_4 : Int32) (v5_5 : Int32) (v5_6 : Int32) (v5_7 : Int32) (u : (Int32 × (Nat → Int32) × Int32 × Int32)) (A : Nat → Prop) : Array Value → State → Outcome → State → Prop := va_Qi (fun (r : Int32) (_ : Unit) => r = u.1) (fun _ => q_at dC dI cI A (wd_X11_undo cI a0 a1 a2 a3 a4 a5 a6 a7 a8 a9 a10 u.2.1 u.2.2.1 v4_0 u.2.2.2 v5_4 v5_5 v5_6 v5_7)) A
set_option maxHeartbeats 4000000 in
set_option maxRecDepth 100000 in
theorem c_X11_undo (l : Launch) (dC : Nat → ClassId) (dI : Nat → Nat → Nat) (cI : ClassId) (sz : Nat) (a0 : Nat → Nat) (a1 : Nat → Nat) (a2 : Nat → Nat) (a3 : Nat → Nat) (a4 : Nat → Nat) (a5 : Nat → Nat) (a6 : Nat → Nat) (a7 : Nat → Nat) (a8 : Nat → Nat) (a9 : Nat → Nat) (a10 : Nat → Nat) (v2_0 : Nat → Int32) (v4_1 : Int32) (v4_0 : Nat → Int32) (v5_3 : Int32) (v5_4 : Int32) (v5_5 : Int32) (v5_6 : Int32) (v5_7 : Int32) (u : (Int32 × (Nat → Int32) × Int32 × Int32)) (hF : F_X11_undo v2_0 v4_1 v4_0 v5_3 = some (.inl u)) : Met l yX11_undo wz_X11_undo rm_X11_undo (va_Pc [.ref (a0 0)] (q_pre dC dI cI (wd_X11_undo cI a0 a1 a2 a3 a4 a5 a6 a7 a8 a9 a10 v2_0 v4_1 v4_0 v5_3 v5_4 v5_5 v5_6 v5_7) sz)) (Q_X11_undo dC dI cI a0 a1 a2 a3 a4 a5 a6 a7 a8 a9 a10 v4_0 v5_4 v5_5 v5_6 v5_7 u (va_A (wd_X11_undo cI a0 a1 a2 a3 a4 a5 a6 a7 a8 a9 a10 v2_0 v4_1 v4_0 v5_3 v5_4 v5_5 v5_6 v5_7) sz)) 0 0 (va_A (wd_X11_undo cI a0 a1 a2 a3 a4 a5 a6 a7 a8 a9 a10 v2_0 v4_1 v4_0 v5_3 v5_4 v5_5 v5_6 v5_7) sz) := by
  refine Met.ofW (cc := cX11_undo) (maxL := 1) (ret := (some .int)) (by decide) rfl ?_
  intro p e s m args below meth c s₁ B hml hv
  obtain ⟨rfl, hsz, hP, hK, hD0⟩ := hv
  have hx := B.exec
  have hb := B.bytes
  have hr := B.returns
  have hts := atoms_spec (ws := wz_X11_undo) B.pre
  have hta := wz_tl hts
  have hown : s.vm.findClass RX11 = some m.cls := findClass_of_methodNamed B.named
  have hlocks := B.notSynchronized
  subst hsz
  have hD := hD0.self (sz := s.heap.size)
  generalize hAe : va_A (wd_X11_undo cI a0 a1 a2 a3 a4 a5 a6 a7 a8 a9 a10 v2_0 v4_1 v4_0 v5_3 v5_4 v5_5 v5_6 v5_7) s.heap.size = A at hD ⊢
  have hA : ∀ q : Nat, s.heap.size ≤ q → A q := fun q h => by rw [← hAe]; exact Or.inr h
  have hS : va_S A s.heap s.heap [] := va_S.rf
  have hP : va_P (dC, dI) vwCl (wd_X11_undo cI a0 a1 a2 a3 a4 a5 a6 a7 a8 a9 a10 v2_0 v4_1 v4_0 v5_3 v5_4 v5_5 v5_6 v5_7) s.heap := hP
  have hl := lv_entry ([.ref (a0 0)]) (n := 1) (Nat.le_of_ble_eq_true rfl)
  rw [lg_entry_eq]
  generalize (lg_sl ([.ref (a0 0)]) ++ List.replicate (1 - (lg_sl ([.ref (a0 0)])).length) Slot.unset).toArray = ls at hl ⊢
  have hl : lv_has ls 1 [(0, .ref (a0 0))] := hl
  obtain ⟨H, hHe⟩ : ∃ H, H = s.heap := ⟨_, rfl⟩
  have hS : va_S A s.heap H [] := by rw [hHe]; exact hS
  have hP : va_P (dC, dI) vwCl (wd_X11_undo cI a0 a1 a2 a3 a4 a5 a6 a7 a8 a9 a10 v2_0 v4_1 v4_0 v5_3 v5_4 v5_5 v5_6 v5_7) H := by rw [hHe]; exact hP
  rw [← hHe]
  unfold F_X11_undo at hF
  have j15 : ∀ (v2_0 : Nat → Int32) (v4_1 : Int32) (v5_3 : Int32) (t0 : Int32), F_X11_undo_j15 v2_0 v4_1 v4_0 v5_3 t0 = some (.inl u) → ∀ (H : Heap) (locs : List Loc) (ls : Array Slot), va_P (dC, dI) vwCl (wd_X11_undo cI a0 a1 a2 a3 a4 a5 a6 a7 a8 a9 a10 v2_0 v4_1 v4_0 v5_3 v5_4 v5_5 v5_6 v5_7) H → va_D A (wd_X11_undo cI a0 a1 a2 a3 a4 a5 a6 a7 a8 a9 a10 v2_0 v4_1 v4_0 v5_3 v5_4 v5_5 v5_6 v5_7) → va_S A s.heap H locs → lv_has ls 1 [(0, .ref (a0 0))] → W p l e (headSpec wz_X11_undo rm_X11_undo).room s m [.ref (a0 0)].toArray below meth c H locs 0 0 (MQ below (Q_X11_undo dC dI cI a0 a1 a2 a3 a4 a5 a6 a7 a8 a9 a10 v4_0 v5_4 v5_5 v5_6 v5_7 u A) [.ref (a0 0)].toArray s 0 0 A) (F0 m 15 ls [.int t0]) := by
    intro v2_0 v4_1 v5_3 t0 hF H locs ls hP hD hS hl
    unfold F_X11_undo_j15 at hF
    refine obx_elim hF (fun x_2 hx_2 hF => ?_) (fun u_1 hu_1 hF => ?_)
    · exact absurd hF no_rl
    have hPc := hP.sub (ws' := ([] : va_W)) [] rfl
    have hDc := hD.sub (ws' := ([] : va_W)) [] rfl rfl
    refine q_callv (wc := ([] : va_W)) (w1 := ([] : va_W)) (ws' := (wd_X11_undo cI a0 a1 a2 a3 a4 a5 a6 a7 a8 a9 a10 v2_0 v4_1 v4_0 v5_3 v5_4 v5_5 v5_6 v5_7)) hP hD hS hA [] [0, 1, 2, 3, 4, 5] [0, 1, 2, 3, 4, 5] rfl rfl rfl (by decide) rfl rfl (va_runS (As := [.int t0]) (rest := []) ⟨hx, hb, hml, hown, hta⟩ (c_X11_checkState l dC dI cI H.size t0 u_1 hu_1) (va_cwS 1 hta (ga_S mA120 mA121 mA108 mA122) rfl rfl rfl (by decide +kernel) ⟨Nat.le_of_ble_eq_true rfl, Nat.le_of_ble_eq_true rfl⟩) ⟨q_fb, q_ps hPc hK hDc⟩ rfl rfl hl.1 rfl (lv_room (Nat.le_of_ble_eq_true rfl)) dX11_undo_15 ⟨Nat.zero_le _, Nat.zero_le _⟩) (fun H locs hP hD hS => ?_)
    refine lv_aload_n hx hb dX11_undo_18 rfl (lv_at hl 0 rfl) ?_
    refine va_get (D := (dC, dI)) (ci := 10) (v := .ref (a5 0)) (C := RX11) (T := TX11) (N := 7) hx hb hta uw_X11 hown hK hP 0 rfl rfl 5 (by decide) (hta _ mA24) (fun _ h9 => h9) rfl dX11_undo_19 ?_
    obtain ⟨u_3, hu_3, hF⟩ := lt_some hF
    have hPc := hP.sub (ws' := (wd_X10_forget cI a5 a6 a7 a8 v5_3 v5_4 v5_5 v5_6 v5_7)) [5] rfl
    have hDc := hD.sub (ws' := (wd_X10_forget cI a5 a6 a7 a8 v5_3 v5_4 v5_5 v5_6 v5_7)) [5] rfl rfl
    refine q_callv (wc := (wd_X10_forget cI a5 a6 a7 a8 v5_3 v5_4 v5_5 v5_6 v5_7)) (w1 := (wd_X10_forget cI a5 a6 a7 a8 u_3 v5_4 v5_5 v5_6 v5_7)) (ws' := (wd_X11_undo cI a0 a1 a2 a3 a4 a5 a6 a7 a8 a9 a10 v2_0 v4_1 v4_0 u_3 v5_4 v5_5 v5_6 v5_7)) hP hD hS hA [5] [0, 1, 2, 3, 4] [0, 1, 2, 3, 4, 5] rfl rfl rfl (by decide) rfl rfl (va_runV (As := []) (rest := []) ⟨hx, hb, hml, hown, hta⟩ (c_X10_forget l dC dI cI H.size a5 a6 a7 a8 v5_3 v5_4 v5_5 v5_6 v5_7 u_3 hu_3.symm) (cwV 0 hta (ga_V mA143 mA144 mA145 mA23 mA146) rfl rfl rfl (by decide +kernel) ⟨Nat.le_of_ble_eq_true rfl, Nat.le_of_ble_eq_true rfl⟩) ⟨q_fb, va_recv hK hP (ci := 9) (q0 := 5) rfl rfl, q_ps hPc hK hDc⟩ rfl rfl hl.1 rfl (lv_room (Nat.le_of_ble_eq_true rfl)) dX11_undo_22 ⟨Nat.zero_le _, Nat.zero_le _⟩) (fun H locs hP hD hS => ?_)
    refine lv_aload_n hx hb dX11_undo_25 rfl (lv_at hl 0 rfl) ?_
    refine va_get (D := (dC, dI)) (ci := 10) (v := .ref (a4 0)) (C := RX11) (T := TX11) (N := 7) hx hb hta uw_X11 hown hK hP 0 rfl rfl 2 (by decide) (hta _ mA12) (fun _ h9 => h9) rfl dX11_undo_26 ?_
    refine lv_aload_n hx hb dX11_undo_29 rfl (lv_at hl 0 rfl) ?_
    refine va_get (D := (dC, dI)) (ci := 10) (v := .ref (a2 0)) (C := RX11) (T := TX11) (N := 7) hx hb hta uw_X11 hown hK hP 0 rfl rfl 0 (by decide) (hta _ mA7) (fun _ h9 => h9) rfl dX11_undo_30 ?_
    obtain ⟨u_4, hu_4, hF⟩ := obd_some hF
    have hPc := hP.sub (ws' := (wd_X3_bringBack cI a4 a2 v4_1 v4_0 v2_0)) [3, 4, 1, 2] rfl
    have hDc := hD.sub (ws' := (wd_X3_bringBack cI a4 a2 v4_1 v4_0 v2_0)) [3, 4, 1, 2] rfl rfl
    refine q_callv (wc := (wd_X3_bringBack cI a4 a2 v4_1 v4_0 v2_0)) (w1 := (wd_X3_bringBack cI a4 a2 u_4.1 v4_0 u_4.2)) (ws' := (wd_X11_undo cI a0 a1 a2 a3 a4 a5 a6 a7 a8 a9 a10 u_4.2 u_4.1 v4_0 u_3 v5_4 v5_5 v5_6 v5_7)) hP hD hS hA [3, 4, 1, 2] [0, 5] [0, 4, 5, 2, 3, 1] rfl rfl rfl (by decide) rfl rfl (va_runV (As := [.ref (a2 0)]) (rest := []) ⟨hx, hb, hml, hown, hta⟩ (c_X3_bringBack l dC dI cI H.size a4 a2 v4_1 v4_0 v2_0 u_4 hu_4) (cwV 1 hta (ga_V mA759 mA760 mA761 mA11 mA762) rfl rfl rfl (by decide +kernel) ⟨Nat.le_of_ble_eq_true rfl, Nat.le_of_ble_eq_true rfl⟩) ⟨q_fb, va_recv hK hP (ci := 3) (q0 := 3) rfl rfl, q_ps hPc hK hDc⟩ rfl rfl hl.1 rfl (lv_room (Nat.le_of_ble_eq_true rfl)) dX11_undo_33 ⟨Nat.zero_le _, Nat.zero_le _⟩) (fun H locs hP hD hS => ?_)
    refine lv_aload_n hx hb dX11_undo_36 rfl (lv_at hl 0 rfl) ?_
    refine va_get (D := (dC, dI)) (ci := 10) (v := .ref (a4 0)) (C := RX11) (T := TX11) (N := 7) hx hb hta uw_X11 hown hK hP 0 rfl rfl 2 (by decide) (hta _ mA12) (fun _ h9 => h9) rfl dX11_undo_37 ?_
    obtain ⟨u_5, hu_5, hF⟩ := lt_some hF
    have hPc := hP.sub (ws' := (wd_X3_size cI a4 u_4.1)) [3] rfl
    have hDc := hD.sub (ws' := (wd_X3_size cI a4 u_4.1)) [3] rfl rfl
    refine q_calli (wc := (wd_X3_size cI a4 u_4.1)) (w1 := (wd_X3_size cI a4 u_4.1)) (ws' := (wd_X11_undo cI a0 a1 a2 a3 a4 a5 a6 a7 a8 a9 a10 u_4.2 u_4.1 v4_0 u_3 v5_4 v5_5 v5_6 v5_7)) hP hD hS hA [3] [0, 1, 2, 4, 5] [0, 1, 2, 5, 3, 4] rfl rfl rfl (by decide) rfl rfl (va_runV (As := []) (rest := []) ⟨hx, hb, hml, hown, hta⟩ (c_X3_size l dC dI cI H.size a4 u_4.1 u_5 hu_5.symm) (cwV 0 hta (ga_V mA755 mA756 mA757 mA11 mA758) rfl rfl rfl (by decide +kernel) ⟨Nat.le_of_ble_eq_true rfl, Nat.le_of_ble_eq_true rfl⟩) ⟨q_fb, va_recv hK hP (ci := 3) (q0 := 3) rfl rfl, q_ps hPc hK hDc⟩ rfl rfl hl.1 rfl (lv_room (Nat.le_of_ble_eq_true rfl)) dX11_undo_40 ⟨Nat.zero_le _, Nat.zero_le _⟩) (fun H locs hP hD hS => ?_)
    obtain rfl := Sum.inl.inj (Option.some.inj hF)
    exact W.iret (v := u_5) hx hb hr (fun t ht hW => ⟨⟨u_5, (), rfl, rfl, by rw [ht]; exact hP, va_K.moved hW.alike hK, hD⟩, hS.F ht⟩) hS.2.2 dX11_undo_43
  refine lv_aload_n hx hb dX11_undo_0 rfl (lv_at hl 0 rfl) ?_
  refine va_get (D := (dC, dI)) (ci := 10) (v := .ref (a4 0)) (C := RX11) (T := TX11) (N := 7) hx hb hta uw_X11 hown hK hP 0 rfl rfl 2 (by decide) (hta _ mA12) (fun _ h9 => h9) rfl dX11_undo_1 ?_
  obtain ⟨u_6, hu_6, hF⟩ := lt_some hF
  have hPc := hP.sub (ws' := (wd_X3_size cI a4 v4_1)) [3] rfl
  have hDc := hD.sub (ws' := (wd_X3_size cI a4 v4_1)) [3] rfl rfl
  refine q_calli (wc := (wd_X3_size cI a4 v4_1)) (w1 := (wd_X3_size cI a4 v4_1)) (ws' := (wd_X11_undo cI a0 a1 a2 a3 a4 a5 a6 a7 a8 a9 a10 v2_0 v4_1 v4_0 v5_3 v5_4 v5_5 v5_6 v5_7)) hP hD hS hA [3] [0, 1, 2, 4, 5] [0, 1, 2, 5, 3, 4] rfl rfl rfl (by decide) rfl rfl (va_runV (As := []) (rest := []) ⟨hx, hb, hml, hown, hta⟩ (c_X3_size l dC dI cI H.size a4 v4_1 u_6 hu_6.symm) (cwV 0 hta (ga_V mA755 mA756 mA757 mA11 mA758) rfl rfl rfl (by decide +kernel) ⟨Nat.le_of_ble_eq_true rfl, Nat.le_of_ble_eq_true rfl⟩) ⟨q_fb, va_recv hK hP (ci := 3) (q0 := 3) rfl rfl, q_ps hPc hK hDc⟩ rfl rfl hl.1 rfl (lv_room (Nat.le_of_ble_eq_true rfl)) dX11_undo_4 ⟨Nat.zero_le _, Nat.zero_le _⟩) (fun H locs hP hD hS => ?_)
  refine lv_if_le (tgt := 14) hx hb dX11_undo_7 (by decide) (fun c_7 => ?_) (fun c_7 => ?_)
  · have hF := it_t hF c_7
    refine lv_iconst (v := 0) hx hb dX11_undo_14 (by decide) ?_
    exact j15 v2_0 v4_1 v5_3 0 hF _ _ _ hP hD hS (lv_sub hl [0] rfl)
  · have hF := it_f hF c_7
    refine lv_iconst (v := 1) hx hb dX11_undo_10 (by decide) ?_
    refine lv_goto (tgt := 15) hx hb dX11_undo_11 (by decide) ?_
    exact j15 v2_0 v4_1 v5_3 1 hF _ _ _ hP hD hS (lv_sub hl [0] rfl)
abbrev rmx_X11_undo : Room := { frames := 7, cells := 1, slots := 6, locals := 102 }
abbrev XC_X11_undo (dC : Nat → ClassId) (dI : Nat → Nat → Nat) (cI : ClassId) (a0 : Nat → Nat) (a1 : Nat → Nat) (a2 : Nat → Nat) (a3 : Nat → Nat) (a4 : Nat → Nat) (a5 : Nat → Nat) (a6 : Nat → Nat) (a7 : Nat → Nat) (a8 : Nat → Nat) (a9 : Nat → Nat) (a10 : Nat → Nat) (v4_0 : Nat → Int32) (v5_4 : Int32) (v5_5 : Int32) (v5_6 : Int32) (v5_7 : Int32) (x : (Nat × (Nat → Int32) × Int32 × Int32)) (A : Nat → Prop) : String → State → State → Prop := vx_X (fun (_ : Unit) => True) (fun E _ t => E = exN x.1 ∧ q_at dC dI cI A (wd_X11_undo cI a0 a1 a2 a3 a4 a5 a6 a7 a8 a9 a10 x.2.1 x.2.2.1 v4_0 x.2.2.2 v5_4 v5_5 v5_6 v5_7) t) A
set_option maxHeartbeats 4000000 in
set_option maxRecDepth 100000 in
theorem c_X11_undo_x (l : Launch) (hlt : l.stackTraces = false) (S : Nat → Nat) (dC : Nat → ClassId) (dI : Nat → Nat → Nat) (cI : ClassId) (sz : Nat) (a0 : Nat → Nat) (a1 : Nat → Nat) (a2 : Nat → Nat) (a3 : Nat → Nat) (a4 : Nat → Nat) (a5 : Nat → Nat) (a6 : Nat → Nat) (a7 : Nat → Nat) (a8 : Nat → Nat) (a9 : Nat → Nat) (a10 : Nat → Nat) (v2_0 : Nat → Int32) (v4_1 : Int32) (v4_0 : Nat → Int32) (v5_3 : Int32) (v5_4 : Int32) (v5_5 : Int32) (v5_6 : Int32) (v5_7 : Int32) (x : (Nat × (Nat → Int32) × Int32 × Int32)) (hF : F_X11_undo v2_0 v4_1 v4_0 v5_3 = some (.inr x)) : vx_Met l yX11_undo wz_X11_undo rmx_X11_undo (va_Pc [.ref (a0 0)] (qx_pre S dC dI cI (wd_X11_undo cI a0 a1 a2 a3 a4 a5 a6 a7 a8 a9 a10 v2_0 v4_1 v4_0 v5_3 v5_4 v5_5 v5_6 v5_7) sz)) (va_Qv (fun (_ : Unit) => False) (fun _ _ => True) (va_A (wd_X11_undo cI a0 a1 a2 a3 a4 a5 a6 a7 a8 a9 a10 v2_0 v4_1 v4_0 v5_3 v5_4 v5_5 v5_6 v5_7) sz)) (XC_X11_undo dC dI cI a0 a1 a2 a3 a4 a5 a6 a7 a8 a9 a10 v4_0 v5_4 v5_5 v5_6 v5_7 x (va_A (wd_X11_undo cI a0 a1 a2 a3 a4 a5 a6 a7 a8 a9 a10 v2_0 v4_1 v4_0 v5_3 v5_4 v5_5 v5_6 v5_7) sz)) 1 6 (va_A (wd_X11_undo cI a0 a1 a2 a3 a4 a5 a6 a7 a8 a9 a10 v2_0 v4_1 v4_0 v5_3 v5_4 v5_5 v5_6 v5_7) sz) := by
  refine vx_ofW (cc := cX11_undo) (maxL := 1) (ret := (some .int)) (by decide) rfl ?_
  intro p e s m args below meth c s₁ B hml hxt hv
  obtain ⟨rfl, ⟨hsz, hP, hK, hD0⟩, hE⟩ := hv
  have hx := B.exec
  have hb := B.bytes
  have hr := B.returns
  have hts := atoms_spec (ws := wz_X11_undo) B.pre
  have hta := wz_tl hts
  have hown : s.vm.findClass RX11 = some m.cls := findClass_of_methodNamed B.named
  have hlocks := B.notSynchronized
  subst hsz
  have hD := hD0.self (sz := s.heap.size)
  generalize hAe : va_A (wd_X11_undo cI a0 a1 a2 a3 a4 a5 a6 a7 a8 a9 a10 v2_0 v4_1 v4_0 v5_3 v5_4 v5_5 v5_6 v5_7) s.heap.size = A at hD hE ⊢
  have hA : ∀ q : Nat, s.heap.size ≤ q → A q := fun q h => by rw [← hAe]; exact Or.inr h
  have hS : va_S A s.heap s.heap [] := va_S.rf
  have hP : va_P (dC, dI) vwCl (wd_X11_undo cI a0 a1 a2 a3 a4 a5 a6 a7 a8 a9 a10 v2_0 v4_1 v4_0 v5_3 v5_4 v5_5 v5_6 v5_7) s.heap := hP
  have hl := lv_entry ([.ref (a0 0)]) (n := 1) (Nat.le_of_ble_eq_true rfl)
  rw [lg_entry_eq]
  generalize (lg_sl ([.ref (a0 0)]) ++ List.replicate (1 - (lg_sl ([.ref (a0 0)])).length) Slot.unset).toArray = ls at hl ⊢
  have hl : lv_has ls 1 [(0, .ref (a0 0))] := hl
  obtain ⟨H, hHe⟩ : ∃ H, H = s.heap := ⟨_, rfl⟩
  have hS : va_S A s.heap H [] := by rw [hHe]; exact hS
  have hP : va_P (dC, dI) vwCl (wd_X11_undo cI a0 a1 a2 a3 a4 a5 a6 a7 a8 a9 a10 v2_0 v4_1 v4_0 v5_3 v5_4 v5_5 v5_6 v5_7) H := by rw [hHe]; exact hP
  rw [← hHe]
  unfold F_X11_undo at hF
  have j15 : ∀ (v2_0 : Nat → Int32) (v4_1 : Int32) (v5_3 : Int32) (t0 : Int32), F_X11_undo_j15 v2_0 v4_1 v4_0 v5_3 t0 = some (.inr x) → ∀ (H : Heap) (locs : List Loc) (ls : Array Slot), va_P (dC, dI) vwCl (wd_X11_undo cI a0 a1 a2 a3 a4 a5 a6 a7 a8 a9 a10 v2_0 v4_1 v4_0 v5_3 v5_4 v5_5 v5_6 v5_7) H → va_D A (wd_X11_undo cI a0 a1 a2 a3 a4 a5 a6 a7 a8 a9 a10 v2_0 v4_1 v4_0 v5_3 v5_4 v5_5 v5_6 v5_7) → va_S A s.heap H locs → lv_has ls 1 [(0, .ref (a0 0))] → W p l e (headSpec wz_X11_undo rmx_X11_undo).room s m [.ref (a0 0)].toArray below meth c H locs 0 0 (vx_MQ below (va_Qv (fun (_ : Unit) => False) (fun _ _ => True) A) (XC_X11_undo dC dI cI a0 a1 a2 a3 a4 a5 a6 a7 a8 a9 a10 v4_0 v5_4 v5_5 v5_6 v5_7 x A) [.ref (a0 0)].toArray s 1 6 A) (F0 m 15 ls [.int t0]) := by
    intro v2_0 v4_1 v5_3 t0 hF H locs ls hP hD hS hl
    unfold F_X11_undo_j15 at hF
    refine obx_elim hF (fun x_2 hx_2 hF => ?_) (fun u_1 hu_1 hF => ?_)
    · obtain rfl := Sum.inr.inj (Option.some.inj hF)
      have hPc := hP.sub (ws' := ([] : va_W)) [] rfl
      have hDc := hD.sub (ws' := ([] : va_W)) [] rfl rfl
      refine qx_thr (kd := x_2) hP hD hK hS hA hxt hlocks (vx_runS (As := [.int t0]) (rest := []) ⟨hx, hb, hml, hown, hta⟩ (c_X11_checkState_x l hlt S dC dI cI H.size t0 x_2 hx_2) (va_cwS 1 hta (ga_S mA120 mA121 mA108 mA122) rfl rfl rfl (by decide +kernel) ⟨Nat.le_of_ble_eq_true rfl, Nat.le_of_ble_eq_true rfl⟩) ⟨qx_fb, qx_ps hPc hK hDc hE hS (va_free (wc := ([] : va_W)) hD hS hA [] rfl)⟩ rfl rfl hl.1 rfl (lv_room (Nat.le_of_ble_eq_true rfl)) dX11_undo_15 ⟨Nat.le_of_ble_eq_true rfl, Nat.le_of_ble_eq_true rfl⟩) (fun t hP hK hF9 => ⟨(), trivial, ⟨rfl, hP, hK, hD⟩, hF9⟩) (Nat.le_of_ble_eq_true rfl) (Nat.le_of_ble_eq_true rfl)
    have hPc := hP.sub (ws' := ([] : va_W)) [] rfl
    have hDc := hD.sub (ws' := ([] : va_W)) [] rfl rfl
    refine q_callv (wc := ([] : va_W)) (w1 := ([] : va_W)) (ws' := (wd_X11_undo cI a0 a1 a2 a3 a4 a5 a6 a7 a8 a9 a10 v2_0 v4_1 v4_0 v5_3 v5_4 v5_5 v5_6 v5_7)) hP hD hS hA [] [0, 1, 2, 3, 4, 5] [0, 1, 2, 3, 4, 5] rfl rfl rfl (by decide) rfl rfl (va_runS (As := [.int t0]) (rest := []) ⟨hx, hb, hml, hown, hta⟩ (c_X11_checkState l dC dI cI H.size t0 u_1 hu_1) (va_cwS 1 hta (ga_S mA120 mA121 mA108 mA122) rfl rfl rfl (by decide +kernel) ⟨Nat.le_of_ble_eq_true rfl, Nat.le_of_ble_eq_true rfl⟩) ⟨q_fb, q_ps hPc hK hDc⟩ rfl rfl hl.1 rfl (lv_room (Nat.le_of_ble_eq_true rfl)) dX11_undo_15 ⟨Nat.zero_le _, Nat.zero_le _⟩) (fun H locs hP hD hS => ?_)
    refine lv_aload_n hx hb dX11_undo_18 rfl (lv_at hl 0 rfl) ?_
    refine va_get (D := (dC, dI)) (ci := 10) (v := .ref (a5 0)) (C := RX11) (T := TX11) (N := 7) hx hb hta uw_X11 hown hK hP 0 rfl rfl 5 (by decide) (hta _ mA24) (fun _ h9 => h9) rfl dX11_undo_19 ?_
    obtain ⟨u_3, hu_3, hF⟩ := lt_some hF
    have hPc := hP.sub (ws' := (wd_X10_forget cI a5 a6 a7 a8 v5_3 v5_4 v5_5 v5_6 v5_7)) [5] rfl
    have hDc := hD.sub (ws' := (wd_X10_forget cI a5 a6 a7 a8 v5_3 v5_4 v5_5 v5_6 v5_7)) [5] rfl rfl
    refine q_callv (wc := (wd_X10_forget cI a5 a6 a7 a8 v5_3 v5_4 v5_5 v5_6 v5_7)) (w1 := (wd_X10_forget cI a5 a6 a7 a8 u_3 v5_4 v5_5 v5_6 v5_7)) (ws' := (wd_X11_undo cI a0 a1 a2 a3 a4 a5 a6 a7 a8 a9 a10 v2_0 v4_1 v4_0 u_3 v5_4 v5_5 v5_6 v5_7)) hP hD hS hA [5] [0, 1, 2, 3, 4] [0, 1, 2, 3, 4, 5] rfl rfl rfl (by decide) rfl rfl (va_runV (As := []) (rest := []) ⟨hx, hb, hml, hown, hta⟩ (c_X10_forget l dC dI cI H.size a5 a6 a7 a8 v5_3 v5_4 v5_5 v5_6 v5_7 u_3 hu_3.symm) (cwV 0 hta (ga_V mA143 mA144 mA145 mA23 mA146) rfl rfl rfl (by decide +kernel) ⟨Nat.le_of_ble_eq_true rfl, Nat.le_of_ble_eq_true rfl⟩) ⟨q_fb, va_recv hK hP (ci := 9) (q0 := 5) rfl rfl, q_ps hPc hK hDc⟩ rfl rfl hl.1 rfl (lv_room (Nat.le_of_ble_eq_true rfl)) dX11_undo_22 ⟨Nat.zero_le _, Nat.zero_le _⟩) (fun H locs hP hD hS => ?_)
    refine lv_aload_n hx hb dX11_undo_25 rfl (lv_at hl 0 rfl) ?_
    refine va_get (D := (dC, dI)) (ci := 10) (v := .ref (a4 0)) (C := RX11) (T := TX11) (N := 7) hx hb hta uw_X11 hown hK hP 0 rfl rfl 2 (by decide) (hta _ mA12) (fun _ h9 => h9) rfl dX11_undo_26 ?_
    refine lv_aload_n hx hb dX11_undo_29 rfl (lv_at hl 0 rfl) ?_
    refine va_get (D := (dC, dI)) (ci := 10) (v := .ref (a2 0)) (C := RX11) (T := TX11) (N := 7) hx hb hta uw_X11 hown hK hP 0 rfl rfl 0 (by decide) (hta _ mA7) (fun _ h9 => h9) rfl dX11_undo_30 ?_
    obtain ⟨u_4, hu_4, hF⟩ := obd_some hF
    have hPc := hP.sub (ws' := (wd_X3_bringBack cI a4 a2 v4_1 v4_0 v2_0)) [3, 4, 1, 2] rfl
    have hDc := hD.sub (ws' := (wd_X3_bringBack cI a4 a2 v4_1 v4_0 v2_0)) [3, 4, 1, 2] rfl rfl
    refine q_callv (wc := (wd_X3_bringBack cI a4 a2 v4_1 v4_0 v2_0)) (w1 := (wd_X3_bringBack cI a4 a2 u_4.1 v4_0 u_4.2)) (ws' := (wd_X11_undo cI a0 a1 a2 a3 a4 a5 a6 a7 a8 a9 a10 u_4.2 u_4.1 v4_0 u_3 v5_4 v5_5 v5_6 v5_7)) hP hD hS hA [3, 4, 1, 2] [0, 5] [0, 4, 5, 2, 3, 1] rfl rfl rfl (by decide) rfl rfl (va_runV (As := [.ref (a2 0)]) (rest := []) ⟨hx, hb, hml, hown, hta⟩ (c_X3_bringBack l dC dI cI H.size a4 a2 v4_1 v4_0 v2_0 u_4 hu_4) (cwV 1 hta (ga_V mA759 mA760 mA761 mA11 mA762) rfl rfl rfl (by decide +kernel) ⟨Nat.le_of_ble_eq_true rfl, Nat.le_of_ble_eq_true rfl⟩) ⟨q_fb, va_recv hK hP (ci := 3) (q0 := 3) rfl rfl, q_ps hPc hK hDc⟩ rfl rfl hl.1 rfl (lv_room (Nat.le_of_ble_eq_true rfl)) dX11_undo_33 ⟨Nat.zero_le _, Nat.zero_le _⟩) (fun H locs hP hD hS => ?_)
    refine lv_aload_n hx hb dX11_undo_36 rfl (lv_at hl 0 rfl) ?_
    refine va_get (D := (dC, dI)) (ci := 10) (v := .ref (a4 0)) (C := RX11) (T := TX11) (N := 7) hx hb hta uw_X11 hown hK hP 0 rfl rfl 2 (by decide) (hta _ mA12) (fun _ h9 => h9) rfl dX11_undo_37 ?_
    obtain ⟨u_5, hu_5, hF⟩ := lt_some hF
    have hPc := hP.sub (ws' := (wd_X3_size cI a4 u_4.1)) [3] rfl
    have hDc := hD.sub (ws' := (wd_X3_size cI a4 u_4.1)) [3] rfl rfl
    refine q_calli (wc := (wd_X3_size cI a4 u_4.1)) (w1 := (wd_X3_size cI a4 u_4.1)) (ws' := (wd_X11_undo cI a0 a1 a2 a3 a4 a5 a6 a7 a8 a9 a10 u_4.2 u_4.1 v4_0 u_3 v5_4 v5_5 v5_6 v5_7)) hP hD hS hA [3] [0, 1, 2, 4, 5] [0, 1, 2, 5, 3, 4] rfl rfl rfl (by decide) rfl rfl (va_runV (As := []) (rest := []) ⟨hx, hb, hml, hown, hta⟩ (c_X3_size l dC dI cI H.size a4 u_4.1 u_5 hu_5.symm) (cwV 0 hta (ga_V mA755 mA756 mA757 mA11 mA758) rfl rfl rfl (by decide +kernel) ⟨Nat.le_of_ble_eq_true rfl, Nat.le_of_ble_eq_true rfl⟩) ⟨q_fb, va_recv hK hP (ci := 3) (q0 := 3) rfl rfl, q_ps hPc hK hDc⟩ rfl rfl hl.1 rfl (lv_room (Nat.le_of_ble_eq_true rfl)) dX11_undo_40 ⟨Nat.zero_le _, Nat.zero_le _⟩) (fun H locs hP hD hS => ?_)
    exact absurd hF no_lr
  refine lv_aload_n hx hb dX11_undo_0 rfl (lv_at hl 0 rfl) ?_
  refine va_get (D := (dC, dI)) (ci := 10) (v := .ref (a4 0)) (C := RX11) (T := TX11) (N := 7) hx hb hta uw_X11 hown hK hP 0 rfl rfl 2 (by decide) (hta _ mA12) (fun _ h9 => h9) rfl dX11_undo_1 ?_
  obtain ⟨u_6, hu_6, hF⟩ := lt_some hF
  have hPc := hP.sub (ws' := (wd_X3_size cI a4 v4_1)) [3] rfl
  have hDc := hD.sub (ws' := (wd_X3_size cI a4 v4_1)) [3] rfl rfl
  refine q_calli (wc := (wd_X3_size cI a4 v4_1)) (w1 := (wd_X3_size cI a4 v4_1)) (ws' := (wd_X11_undo cI a0 a1 a2 a3 a4 a5 a6 a7 a8 a9 a10 v2_0 v4_1 v4_0 v5_3 v5_4 v5_5 v5_6 v5_7)) hP hD hS hA [3] [0, 1, 2, 4, 5] [0, 1, 2, 5, 3, 4] rfl rfl rfl (by decide) rfl rfl (va_runV (As := []) (rest := []) ⟨hx, hb, hml, hown, hta⟩ (c_X3_size l dC dI cI H.size a4 v4_1 u_6 hu_6.symm) (cwV 0 hta (ga_V mA755 mA756 mA757 mA11 mA758) rfl rfl rfl (by decide +kernel) ⟨Nat.le_of_ble_eq_true rfl, Nat.le_of_ble_eq_true rfl⟩) ⟨q_fb, va_recv hK hP (ci := 3) (q0 := 3) rfl rfl, q_ps hPc hK hDc⟩ rfl rfl hl.1 rfl (lv_room (Nat.le_of_ble_eq_true rfl)) dX11_undo_4 ⟨Nat.zero_le _, Nat.zero_le _⟩) (fun H locs hP hD hS => ?_)
  refine lv_if_le (tgt := 14) hx hb dX11_undo_7 (by decide) (fun c_7 => ?_) (fun c_7 => ?_)
  · have hF := it_t hF c_7
    refine lv_iconst (v := 0) hx hb dX11_undo_14 (by decide) ?_
    exact j15 v2_0 v4_1 v5_3 0 hF _ _ _ hP hD hS (lv_sub hl [0] rfl)
  · have hF := it_f hF c_7
    refine lv_iconst (v := 1) hx hb dX11_undo_10 (by decide) ?_
    refine lv_goto (tgt := 15) hx hb dX11_undo_11 (by decide) ?_
    exact j15 v2_0 v4_1 v5_3 1 hF _ _ _ hP hD hS (lv_sub hl [0] rfl)

-- StrokeOutliner.mix(JJ)J
def F_X11_mix (p0 : Int64) (p2 : Int64) : (Int64) :=
  ((31 * p0) + p2)
abbrev wz_X11_mix : List Cond := .code yX11_mix cX11_mix 4 (some .long) :: wALL
abbrev rm_X11_mix : Room := { frames := 0, cells := 0, slots := 0, locals := 0 }
abbrev Q_X11_mix (dC : Nat → ClassId) (dI : Nat → Nat → Nat) (cI : ClassId) (u : (Int64)) (A : Nat → Prop) : Array Value → State → Outcome → State → Prop := va_Ql (fun (r : Int64) (_ : Unit) => r = u) (fun _ => q_at dC dI cI A ([] : va_W)) A
set_option maxHeartbeats 4000000 in
set_option maxRecDepth 100000 in
theorem c_X11_mix (l : Launch) (dC : Nat → ClassId) (dI : Nat → Nat → Nat) (cI : ClassId) (sz : Nat) (p0 : Int64) (p2 : Int64) (u : (Int64)) (hF : F_X11_mix p0 p2 = u) : Met l yX11_mix wz_X11_mix rm_X11_mix (va_Pc [.long p0, .long p2] (q_pre dC dI cI ([] : va_W) sz)) (Q_X11_mix dC dI cI u (va_A ([] : va_W) sz)) 0 0 (va_A ([] : va_W) sz) := by
  refine Met.ofW (cc := cX11_mix) (maxL := 4) (ret := (some .long)) (by decide) rfl ?_
  intro p e s m args below meth c s₁ B hml hv
  obtain ⟨rfl, hsz, hP, hK, hD0⟩ := hv
  have hx := B.exec
  have hb := B.bytes
  have hr := B.returns
  have hts := atoms_spec (ws := wz_X11_mix) B.pre
  have hta := wz_tl hts
  have hown : s.vm.findClass RX11 = some m.cls := findClass_of_methodNamed B.named
  have hlocks := B.notSynchronized
  subst hsz
  have hD := hD0.self (sz := s.heap.size)
  generalize hAe : va_A ([] : va_W) s.heap.size = A at hD ⊢
  have hA : ∀ q : Nat, s.heap.size ≤ q → A q := fun q h => by rw [← hAe]; exact Or.inr h
  have hS : va_S A s.heap s.heap [] := va_S.rf
  have hP : va_P (dC, dI) vwCl ([] : va_W) s.heap := hP
  have hl := lv_entry ([.long p0, .long p2]) (n := 4) (Nat.le_of_ble_eq_true rfl)
  rw [lg_entry_eq]
  generalize (lg_sl ([.long p0, .long p2]) ++ List.replicate (4 - (lg_sl ([.long p0, .long p2])).length) Slot.unset).toArray = ls at hl ⊢
  have hl : lv_has ls 4 [(0, .long p0), (2, .long p2)] := hl
  obtain ⟨H, hHe⟩ : ∃ H, H = s.heap := ⟨_, rfl⟩
  have hS : va_S A s.heap H [] := by rw [hHe]; exact hS
  have hP : va_P (dC, dI) vwCl ([] : va_W) H := by rw [hHe]; exact hP
  rw [← hHe]
  unfold F_X11_mix at hF
  refine lv_ldc2 (v := 31) hx hb hown (hta _ mA772) dX11_mix_0 ?_
  refine lv_lload_n hx hb dX11_mix_3 rfl (lv_at hl 0 rfl) ?_
  refine lv_lmul hx hb dX11_mix_4 ?_
  refine lv_lload_n hx hb dX11_mix_5 rfl (lv_at hl 1 rfl) ?_
  refine lv_ladd hx hb dX11_mix_6 ?_
  subst hF
  exact W.lret (v := ((31 * p0) + p2)) hx hb hr (fun t ht hW => ⟨⟨((31 * p0) + p2), (), rfl, rfl, by rw [ht]; exact hP, va_K.moved hW.alike hK, hD⟩, hS.F ht⟩) hS.2.2 dX11_mix_7

-- StrokeOutliner.mixStyle(J)J
def F_X11_mixStyle_j47 (x3 : Int64) : Option (Int64) :=
  some x3
def F_X11_mixStyle_b19 (v2_0 : Nat → Int32) (x5 : Int32) (s19 : Int64 × Int32) : Option (Sum (Int64 × Int32) (Int64)) :=
  if x5 ≤ s19.2 then some (.inr s19.1) else obd (F_X1_cell v2_0 s19.2) (fun u_2 => lt (F_X11_mix s19.1 u_2.toInt64) (fun u_3 => lt (s19.2 + 1) (fun y_4 => some (.inl (u_3, y_4)))))
def F_X11_mixStyle_j19 (n : Nat) (v2_0 : Nat → Int32) (x3 : Int64) (x5 : Int32) (x6 : Int32) : Option (Int64) :=
  obd (lpq (F_X11_mixStyle_b19 v2_0 x5) n (x3, x6)) (fun x_19 => F_X11_mixStyle_j47 x_19)
def F_X11_mixStyle (n : Nat) (v2_0 : Nat → Int32) (p1 : Int64) : Option (Int64) :=
  obd (F_X1_cell v2_0 6) (fun u_5 => lt (7 + u_5) (fun y_6 => F_X11_mixStyle_j19 n v2_0 p1 y_6 0))
abbrev wd_X11_mixStyle (cI : ClassId) (a0 : Nat → Nat) (a1 : Nat → Nat) (a2 : Nat → Nat) (a3 : Nat → Nat) (a4 : Nat → Nat) (a5 : Nat → Nat) (a6 : Nat → Nat) (a7 : Nat → Nat) (v2_0 : Nat → Int32) : va_W := [(a0 0, .inr (10, [.ref (a2 0), .ref (a1 0), .ref (a4 0), .ref (a6 0), .ref (a7 0), .ref (a5 0), .ref (a3 0)])), (a2 0, .inr (1, [.ref (a2 1)])), (a2 1, .inl (cI, 86, .inl v2_0))]
abbrev wz_X11_mixStyle : List Cond := .code yX11_mixStyle cX11_mixStyle 7 (some .long) :: wALL
abbrev rm_X11_mixStyle : Room := { frames := 1, cells := 0, slots := 0, locals := 23 }
abbrev Q_X11_mixStyle (dC : Nat → ClassId) (dI : Nat → Nat → Nat) (cI : ClassId) (a0 : Nat → Nat) (a1 : Nat → Nat) (a2 : Nat → Nat) (a3 : Nat → Nat) (a4 : Nat → Nat) (a5 : Nat → Nat) (a6 : Nat → Nat) (a7 : Nat → Nat) (v2_0 : Nat → Int32) (u : (Int64)) (A : Nat → Prop) : Array Value → State → Outcome → State → Prop := va_Ql (fun (r : Int64) (_ : Unit) => r = u) (fun _ => q_at dC dI cI A (wd_X11_mixStyle cI a0 a1 a2 a3 a4 a5 a6 a7 v2_0)) A
set_option maxHeartbeats 4000000 in
set_option maxRecDepth 100000 in
theorem c_X11_mixStyle (l : Launch) (dC : Nat → ClassId) (dI : Nat → Nat → Nat) (cI : ClassId) (sz : Nat) (a0 : Nat → Nat) (a1 : Nat → Nat) (a2 : Nat → Nat) (a3 : Nat → Nat) (a4 : Nat → Nat) (a5 : Nat → Nat) (a6 : Nat → Nat) (a7 : Nat → Nat) (v2_0 : Nat → Int32) (p1 : Int64) (n : Nat) (u : (Int64)) (hF : F_X11_mixStyle n v2_0 p1 = some u) : Met l yX11_mixStyle wz_X11_mixStyle rm_X11_mixStyle (va_Pc [.ref (a0 0), .long p1] (q_pre dC dI cI (wd_X11_mixStyle cI a0 a1 a2 a3 a4 a5 a6 a7 v2_0) sz)) (Q_X11_mixStyle dC dI cI a0 a1 a2 a3 a4 a5 a6 a7 v2_0 u (va_A (wd_X11_mixStyle cI a0 a1 a2 a3 a4 a5 a6 a7 v2_0) sz)) 0 0 (va_A (wd_X11_mixStyle cI a0 a1 a2 a3 a4 a5 a6 a7 v2_0) sz) := by
  refine Met.ofW (cc := cX11_mixStyle) (maxL := 7) (ret := (some .long)) (by decide) rfl ?_
  intro p e s m args below meth c s₁ B hml hv
  obtain ⟨rfl, hsz, hP, hK, hD0⟩ := hv
  have hx := B.exec
  have hb := B.bytes
  have hr := B.returns
  have hts := atoms_spec (ws := wz_X11_mixStyle) B.pre
  have hta := wz_tl hts
  have hown : s.vm.findClass RX11 = some m.cls := findClass_of_methodNamed B.named
  have hlocks := B.notSynchronized
  subst hsz
  have hD := hD0.self (sz := s.heap.size)
  generalize hAe : va_A (wd_X11_mixStyle cI a0 a1 a2 a3 a4 a5 a6 a7 v2_0) s.heap.size = A at hD ⊢
  have hA : ∀ q : Nat, s.heap.size ≤ q → A q := fun q h => by rw [← hAe]; exact Or.inr h
  have hS : va_S A s.heap s.heap [] := va_S.rf
  have hP : va_P (dC, dI) vwCl (wd_X11_mixStyle cI a0 a1 a2 a3 a4 a5 a6 a7 v2_0) s.heap := hP
  have hl := lv_entry ([.ref (a0 0), .long p1]) (n := 7) (Nat.le_of_ble_eq_true rfl)
  rw [lg_entry_eq]
  generalize (lg_sl ([.ref (a0 0), .long p1]) ++ List.replicate (7 - (lg_sl ([.ref (a0 0), .long p1])).length) Slot.unset).toArray = ls at hl ⊢
  have hl : lv_has ls 7 [(0, .ref (a0 0)), (1, .long p1)] := hl
  obtain ⟨H, hHe⟩ : ∃ H, H = s.heap := ⟨_, rfl⟩
  have hS : va_S A s.heap H [] := by rw [hHe]; exact hS
  have hP : va_P (dC, dI) vwCl (wd_X11_mixStyle cI a0 a1 a2 a3 a4 a5 a6 a7 v2_0) H := by rw [hHe]; exact hP
  rw [← hHe]
  unfold F_X11_mixStyle at hF
  have j47 : ∀ (x3 : Int64), F_X11_mixStyle_j47 x3 = some u → ∀ (H : Heap) (locs : List Loc) (ls : Array Slot), va_P (dC, dI) vwCl (wd_X11_mixStyle cI a0 a1 a2 a3 a4 a5 a6 a7 v2_0) H → va_D A (wd_X11_mixStyle cI a0 a1 a2 a3 a4 a5 a6 a7 v2_0) → va_S A s.heap H locs → lv_has ls 7 [(3, .long x3)] → W p l e (headSpec wz_X11_mixStyle rm_X11_mixStyle).room s m [.ref (a0 0), .long p1].toArray below meth c H locs 0 0 (MQ below (Q_X11_mixStyle dC dI cI a0 a1 a2 a3 a4 a5 a6 a7 v2_0 u A) [.ref (a0 0), .long p1].toArray s 0 0 A) (F0 m 47 ls []) := by
    intro x3 hF H locs ls hP hD hS hl
    unfold F_X11_mixStyle_j47 at hF
    refine lv_lload_n hx hb dX11_mixStyle_47 rfl (lv_at hl 0 rfl) ?_
    obtain rfl := Option.some.inj hF
    exact W.lret (v := x3) hx hb hr (fun t ht hW => ⟨⟨x3, (), rfl, rfl, by rw [ht]; exact hP, va_K.moved hW.alike hK, hD⟩, hS.F ht⟩) hS.2.2 dX11_mixStyle_48
  have j19 : ∀ (x3 : Int64) (x5 : Int32) (x6 : Int32), F_X11_mixStyle_j19 n v2_0 x3 x5 x6 = some u → ∀ (H : Heap) (locs : List Loc) (ls : Array Slot), va_P (dC, dI) vwCl (wd_X11_mixStyle cI a0 a1 a2 a3 a4 a5 a6 a7 v2_0) H → va_D A (wd_X11_mixStyle cI a0 a1 a2 a3 a4 a5 a6 a7 v2_0) → va_S A s.heap H locs → lv_has ls 7 [(0, .ref (a0 0)), (3, .long x3), (5, .int x5), (6, .int x6)] → W p l e (headSpec wz_X11_mixStyle rm_X11_mixStyle).room s m [.ref (a0 0), .long p1].toArray below meth c H locs 0 0 (MQ below (Q_X11_mixStyle dC dI cI a0 a1 a2 a3 a4 a5 a6 a7 v2_0 u A) [.ref (a0 0), .long p1].toArray s 0 0 A) (F0 m 19 ls []) := by
    intro x3 x5 x6 hF H locs ls hP hD hS hl
    unfold F_X11_mixStyle_j19 at hF
    obtain ⟨x_19, hL_19, hE_19⟩ := obd_some hF
    have kl_19 : ∀ (k : Nat) (s19 : Int64 × Int32), lpq (F_X11_mixStyle_b19 v2_0 x5) k s19 = some x_19 → ∀ (H : Heap) (locs : List Loc) (ls : Array Slot), va_P (dC, dI) vwCl (wd_X11_mixStyle cI a0 a1 a2 a3 a4 a5 a6 a7 v2_0) H → va_D A (wd_X11_mixStyle cI a0 a1 a2 a3 a4 a5 a6 a7 v2_0) → va_S A s.heap H locs → lv_has ls 7 [(0, .ref (a0 0)), (3, .long s19.1), (5, .int x5), (6, .int s19.2)] → W p l e (headSpec wz_X11_mixStyle rm_X11_mixStyle).room s m [.ref (a0 0), .long p1].toArray below meth c H locs 0 0 (MQ below (Q_X11_mixStyle dC dI cI a0 a1 a2 a3 a4 a5 a6 a7 v2_0 u A) [.ref (a0 0), .long p1].toArray s 0 0 A) (F0 m 19 ls []) := by
      intro k
      induction k with
      | zero => intro s19 h; exact absurd h lpq_zero
      | succ k ih_19 =>
        intro s19 h H locs ls hP hD hS hl
        obtain ⟨o_19, hF, hO_19⟩ := lpq_succ h
        unfold F_X11_mixStyle_b19 at hF
        refine lv_iload hx hb dX11_mixStyle_19 (lv_at hl 3 rfl) ?_
        refine lv_iload hx hb dX11_mixStyle_21 (lv_at hl 2 rfl) ?_
        refine lv_icmp_ge (tgt := 47) hx hb dX11_mixStyle_23 (by decide) (fun c_1 => ?_) (fun c_1 => ?_)
        · have hF := it_t hF c_1
          obtain rfl := Option.some.inj hF
          obtain rfl := lpq_x hO_19
          have hF := hE_19
          exact j47 s19.1 hF _ _ _ hP hD hS (lv_sub hl [1] rfl)
        · have hF := it_f hF c_1
          refine lv_lload_n hx hb dX11_mixStyle_26 rfl (lv_at hl 1 rfl) ?_
          refine lv_aload_n hx hb dX11_mixStyle_27 rfl (lv_at hl 0 rfl) ?_
          refine va_get (D := (dC, dI)) (ci := 10) (v := .ref (a2 0)) (C := RX11) (T := TX11) (N := 7) hx hb hta uw_X11 hown hK hP 0 rfl rfl 0 (by decide) (hta _ mA7) (fun _ h9 => h9) rfl dX11_mixStyle_28 ?_
          refine lv_iload hx hb dX11_mixStyle_31 (lv_at hl 3 rfl) ?_
          obtain ⟨u_2, hu_2, hF⟩ := obd_some hF
          have hPc := hP.sub (ws' := (wd_X1_cell cI a2 v2_0)) [1, 2] rfl
          have hDc := hD.sub (ws' := (wd_X1_cell cI a2 v2_0)) [1, 2] rfl rfl
          refine q_calli (wc := (wd_X1_cell cI a2 v2_0)) (w1 := (wd_X1_cell cI a2 v2_0)) (ws' := (wd_X11_mixStyle cI a0 a1 a2 a3 a4 a5 a6 a7 v2_0)) hP hD hS hA [1, 2] [0] [0, 1, 2] rfl rfl rfl (by decide) rfl rfl (va_runV (As := [.int s19.2]) (rest := [.long s19.1]) ⟨hx, hb, hml, hown, hta⟩ (c_X1_cell l dC dI cI H.size a2 v2_0 s19.2 u_2 hu_2) (cwV 1 hta (ga_V mA344 mA117 mA118 mA6 mA119) rfl rfl rfl (by decide +kernel) ⟨Nat.le_of_ble_eq_true rfl, Nat.le_of_ble_eq_true rfl⟩) ⟨q_fb, va_recv hK hP (ci := 1) (q0 := 1) rfl rfl, q_ps hPc hK hDc⟩ rfl rfl hl.1 rfl (lv_room (Nat.le_of_ble_eq_true rfl)) dX11_mixStyle_33 ⟨Nat.zero_le _, Nat.zero_le _⟩) (fun H locs hP hD hS => ?_)
          refine lv_i2l hx hb dX11_mixStyle_36 rfl ?_
          obtain ⟨u_3, hu_3, hF⟩ := lt_some hF
          have hPc := hP.sub (ws' := ([] : va_W)) [] rfl
          have hDc := hD.sub (ws' := ([] : va_W)) [] rfl rfl
          refine q_calll (wc := ([] : va_W)) (w1 := ([] : va_W)) (ws' := (wd_X11_mixStyle cI a0 a1 a2 a3 a4 a5 a6 a7 v2_0)) hP hD hS hA [] [0, 1, 2] [0, 1, 2] rfl rfl rfl (by decide) rfl rfl (va_runS (As := [.long s19.1, .long u_2.toInt64]) (rest := []) ⟨hx, hb, hml, hown, hta⟩ (c_X11_mix l dC dI cI H.size s19.1 u_2.toInt64 u_3 hu_3.symm) (va_cwS 2 hta (ga_S mA769 mA770 mA108 mA771) rfl rfl rfl (by decide +kernel) ⟨Nat.le_of_ble_eq_true rfl, Nat.le_of_ble_eq_true rfl⟩) ⟨q_fb, q_ps hPc hK hDc⟩ rfl rfl hl.1 rfl (lv_room (Nat.le_of_ble_eq_true rfl)) dX11_mixStyle_37 ⟨Nat.zero_le _, Nat.zero_le _⟩) (fun H locs hP hD hS => ?_)
          refine lv_lstore_n (lv' := [(3, .long u_3), (0, .ref (a0 0)), (5, .int x5), (6, .int s19.2)]) hx hb dX11_mixStyle_40 rfl hl (by decide) rfl (fun ls hl => ?_)
          obtain ⟨y_4, ey_4, hF⟩ := lt_some hF
          refine lv_iinc (v := y_4) (lv' := [(6, .int y_4), (3, .long u_3), (0, .ref (a0 0)), (5, .int x5)]) hx hb dX11_mixStyle_41 hl (k := 3) rfl (by rw [ey_4]; rfl) (by decide) rfl (fun ls hl => ?_)
          refine lv_goto (tgt := 19) hx hb dX11_mixStyle_44 (by decide) ?_
          obtain rfl := Option.some.inj hF
          exact ih_19 _ hO_19 _ _ _ hP hD hS (lv_sub hl [2, 1, 3, 0] rfl)
    exact kl_19 n _ hL_19 _ _ _ hP hD hS hl
  refine lv_lload_n hx hb dX11_mixStyle_0 rfl (lv_at hl 1 rfl) ?_
  refine lv_lstore_n (lv' := [(3, .long p1), (0, .ref (a0 0)), (1, .long p1)]) hx hb dX11_mixStyle_1 rfl hl (by decide) rfl (fun ls hl => ?_)
  refine lv_bipush (v := 7) hx hb dX11_mixStyle_2 (by decide) ?_
  refine lv_aload_n hx hb dX11_mixStyle_4 rfl (lv_at hl 1 rfl) ?_
  refine va_get (D := (dC, dI)) (ci := 10) (v := .ref (a2 0)) (C := RX11) (T := TX11) (N := 7) hx hb hta uw_X11 hown hK hP 0 rfl rfl 0 (by decide) (hta _ mA7) (fun _ h9 => h9) rfl dX11_mixStyle_5 ?_
  refine lv_bipush (v := 6) hx hb dX11_mixStyle_8 (by decide) ?_
  obtain ⟨u_5, hu_5, hF⟩ := obd_some hF
  have hPc := hP.sub (ws' := (wd_X1_cell cI a2 v2_0)) [1, 2] rfl
  have hDc := hD.sub (ws' := (wd_X1_cell cI a2 v2_0)) [1, 2] rfl rfl
  refine q_calli (wc := (wd_X1_cell cI a2 v2_0)) (w1 := (wd_X1_cell cI a2 v2_0)) (ws' := (wd_X11_mixStyle cI a0 a1 a2 a3 a4 a5 a6 a7 v2_0)) hP hD hS hA [1, 2] [0] [0, 1, 2] rfl rfl rfl (by decide) rfl rfl (va_runV (As := [.int 6]) (rest := [.int 7]) ⟨hx, hb, hml, hown, hta⟩ (c_X1_cell l dC dI cI H.size a2 v2_0 6 u_5 hu_5) (cwV 1 hta (ga_V mA344 mA117 mA118 mA6 mA119) rfl rfl rfl (by decide +kernel) ⟨Nat.le_of_ble_eq_true rfl, Nat.le_of_ble_eq_true rfl⟩) ⟨q_fb, va_recv hK hP (ci := 1) (q0 := 1) rfl rfl, q_ps hPc hK hDc⟩ rfl rfl hl.1 rfl (lv_room (Nat.le_of_ble_eq_true rfl)) dX11_mixStyle_10 ⟨Nat.zero_le _, Nat.zero_le _⟩) (fun H locs hP hD hS => ?_)
  refine lv_iadd hx hb dX11_mixStyle_13 ?_
  obtain ⟨y_6, ey_6, hF⟩ := lt_some hF
  refine lv_eqi ey_6 ?_
  refine lv_istore (lv' := [(5, .int y_6), (3, .long p1), (0, .ref (a0 0)), (1, .long p1)]) hx hb dX11_mixStyle_14 hl (by decide) rfl (fun ls hl => ?_)
  refine lv_iconst (v := 0) hx hb dX11_mixStyle_16 (by decide) ?_
  refine lv_istore (lv' := [(6, .int 0), (5, .int y_6), (3, .long p1), (0, .ref (a0 0)), (1, .long p1)]) hx hb dX11_mixStyle_17 hl (by decide) rfl (fun ls hl => ?_)
  exact j19 p1 y_6 0 hF _ _ _ hP hD hS (lv_sub hl [3, 2, 1, 0] rfl)
