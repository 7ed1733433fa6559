-- StrokeOutliner.pointAt(IIZ)I
def F_X11_pointAt_j77 (v5_3 : Int32) (v8_10 : Int32) (v8_0 : Nat → Int32) (v8_1 : Nat → Int32) (v8_2 : Nat → Int32) (v8_3 : Nat → Int32) (v8_4 : Nat → Int32) (v8_5 : Nat → Int32) (v8_6 : Nat → Int32) (v8_7 : Nat → Int32) (v8_8 : Nat → Int32) (v8_9 : Nat → Int32) (t0 : Int32) (t1 : Int32) : Option (Sum (Int32 × Int32 × Int32 × (Nat → Int32) × (Nat → Int32) × (Nat → Int32) × (Nat → Int32) × (Nat → Int32) × (Nat → Int32) × (Nat → Int32) × (Nat → Int32) × (Nat → Int32) × (Nat → Int32)) (Nat × Int32 × Int32 × (Nat → Int32) × (Nat → Int32) × (Nat → Int32) × (Nat → Int32) × (Nat → Int32) × (Nat → Int32) × (Nat → Int32) × (Nat → Int32) × (Nat → Int32) × (Nat → Int32))) :=
  some (.inl ((t0 * t1), v5_3, v8_10, v8_0, v8_1, v8_2, v8_3, v8_4, v8_5, v8_6, v8_7, v8_8, v8_9))
def F_X11_pointAt (n : Nat) (v2_0 : Nat → Int32) (v5_3 : Int32) (v8_10 : Int32) (v8_0 : Nat → Int32) (v8_1 : Nat → Int32) (v8_2 : Nat → Int32) (v8_3 : Nat → Int32) (v8_4 : Nat → Int32) (v8_5 : Nat → Int32) (v8_6 : Nat → Int32) (v8_7 : Nat → Int32) (v8_8 : Nat → Int32) (v8_9 : Nat → Int32) (p1 : Int32) (p2 : Int32) (p3 : Int32) : Option (Sum (Int32 × Int32 × Int32 × (Nat → Int32) × (Nat → Int32) × (Nat → Int32) × (Nat → Int32) × (Nat → Int32) × (Nat → Int32) × (Nat → Int32) × (Nat → Int32) × (Nat → Int32) × (Nat → Int32)) (Nat × Int32 × Int32 × (Nat → Int32) × (Nat → Int32) × (Nat → Int32) × (Nat → Int32) × (Nat → Int32) × (Nat → Int32) × (Nat → Int32) × (Nat → Int32) × (Nat → Int32) × (Nat → Int32))) :=
  obd (F_X1_subpathCount v2_0) (fun u_1 => obx (F_X11_checkIndex p1 u_1) (fun x_3 => some (.inr (x_3, v5_3, v8_10, v8_0, v8_1, v8_2, v8_3, v8_4, v8_5, v8_6, v8_7, v8_8, v8_9))) (fun u_2 => obd (F_X10_measured n v5_3 v8_10 v8_0 v8_1 v8_2 v8_3 v8_4 v8_5 v8_6 v8_7 v8_8 v8_9 v2_0) (fun u_4 => obd (F_X9_lengthOf n u_4.2.2.1 u_4.2.2.2.2.2.2.2.1 p1) (fun u_5 => obx (F_X11_checkRange p2 0 u_5) (fun x_7 => some (.inr (x_7, u_4.1, u_4.2.1, u_4.2.2.1, u_4.2.2.2.1, u_4.2.2.2.2.1, u_4.2.2.2.2.2.1, u_4.2.2.2.2.2.2.1, u_4.2.2.2.2.2.2.2.1, u_4.2.2.2.2.2.2.2.2.1, u_4.2.2.2.2.2.2.2.2.2.1, u_4.2.2.2.2.2.2.2.2.2.2.1, u_4.2.2.2.2.2.2.2.2.2.2.2))) (fun u_6 => obd (F_X9_segmentAt n u_4.2.2.1 u_4.2.2.2.2.2.2.2.1 p1 p2) (fun u_8 => if u_8 = (-1) then if p3 = 0 then obd (F_X1_xOf v2_0 p1 0) (fun u_16 => F_X11_pointAt_j77 u_4.1 u_4.2.1 u_4.2.2.1 u_4.2.2.2.1 u_4.2.2.2.2.1 u_4.2.2.2.2.2.1 u_4.2.2.2.2.2.2.1 u_4.2.2.2.2.2.2.2.1 u_4.2.2.2.2.2.2.2.2.1 u_4.2.2.2.2.2.2.2.2.2.1 u_4.2.2.2.2.2.2.2.2.2.2.1 u_4.2.2.2.2.2.2.2.2.2.2.2 64 u_16) else obd (F_X1_yOf v2_0 p1 0) (fun u_17 => F_X11_pointAt_j77 u_4.1 u_4.2.1 u_4.2.2.1 u_4.2.2.2.1 u_4.2.2.2.2.1 u_4.2.2.2.2.2.1 u_4.2.2.2.2.2.2.1 u_4.2.2.2.2.2.2.2.1 u_4.2.2.2.2.2.2.2.2.1 u_4.2.2.2.2.2.2.2.2.2.1 u_4.2.2.2.2.2.2.2.2.2.2.1 u_4.2.2.2.2.2.2.2.2.2.2.2 64 u_17) else obd (F_X9_startOf n u_4.2.2.1 u_4.2.2.2.2.2.2.2.1 p1 u_8) (fun u_10 => lt (p2 - u_10) (fun y_11 => if p3 = 0 then obd (F_X9_xAt u_4.2.2.2.1 u_4.2.2.2.2.2.1 u_4.2.2.2.2.2.2.2.1 u_8 y_11) (fun u_13 => some (.inl (u_13, u_4.1, u_4.2.1, u_4.2.2.1, u_4.2.2.2.1, u_4.2.2.2.2.1, u_4.2.2.2.2.2.1, u_4.2.2.2.2.2.2.1, u_4.2.2.2.2.2.2.2.1, u_4.2.2.2.2.2.2.2.2.1, u_4.2.2.2.2.2.2.2.2.2.1, u_4.2.2.2.2.2.2.2.2.2.2.1, u_4.2.2.2.2.2.2.2.2.2.2.2))) else obd (F_X9_yAt u_4.2.2.2.2.1 u_4.2.2.2.2.2.2.1 u_4.2.2.2.2.2.2.2.1 u_8 y_11) (fun u_14 => some (.inl (u_14, u_4.1, u_4.2.1, u_4.2.2.1, u_4.2.2.2.1, u_4.2.2.2.2.1, u_4.2.2.2.2.2.1, u_4.2.2.2.2.2.2.1, u_4.2.2.2.2.2.2.2.1, u_4.2.2.2.2.2.2.2.2.1, u_4.2.2.2.2.2.2.2.2.2.1, u_4.2.2.2.2.2.2.2.2.2.2.1, u_4.2.2.2.2.2.2.2.2.2.2.2)))))))))))
abbrev wd_X11_pointAt (cI : ClassId) (a0 : Nat → Nat) (a1 : Nat → Nat) (a2 : Nat → Nat) (a3 : Nat → Nat) (a4 : Nat → Nat) (a5 : Nat → Nat) (a6 : Nat → Nat) (a7 : Nat → Nat) (a8 : Nat → Nat) (a9 : Nat → Nat) (a10 : Nat → Nat) (v2_0 : Nat → Int32) (v5_3 : Int32) (v5_4 : Int32) (v5_5 : Int32) (v5_6 : Int32) (v5_7 : Int32) (v8_10 : Int32) (v8_0 : Nat → Int32) (v8_1 : Nat → Int32) (v8_2 : Nat → Int32) (v8_3 : Nat → Int32) (v8_4 : Nat → Int32) (v8_5 : Nat → Int32) (v8_6 : Nat → Int32) (v8_7 : Nat → Int32) (v8_8 : Nat → Int32) (v8_9 : Nat → Int32) : va_W := [(a0 0, .inr (10, [.ref (a2 0), .ref (a1 0), .ref (a4 0), .ref (a9 0), .ref (a10 0), .ref (a5 0), .ref (a3 0)])), (a2 0, .inr (1, [.ref (a2 1)])), (a2 1, .inl (cI, 86, .inl v2_0)), (a5 0, .inr (9, [.ref (a8 0), .ref (a7 0), .ref (a6 0), .int v5_3, .int v5_4, .int v5_5, .int v5_6, .int v5_7])), (a8 0, .inr (8, [.ref (a8 1), .ref (a8 2), .ref (a8 3), .ref (a8 4), .ref (a8 5), .ref (a8 6), .ref (a8 7), .ref (a8 8), .ref (a8 9), .ref (a8 10), .int v8_10])), (a8 1, .inl (cI, 5, .inl v8_0)), (a8 2, .inl (cI, 32, .inl v8_1)), (a8 3, .inl (cI, 32, .inl v8_2)), (a8 4, .inl (cI, 32, .inl v8_3)), (a8 5, .inl (cI, 32, .inl v8_4)), (a8 6, .inl (cI, 32, .inl v8_5)), (a8 7, .inl (cI, 32, .inl v8_6)), (a8 8, .inl (cI, 32, .inl v8_7)), (a8 9, .inl (cI, 32, .inl v8_8)), (a8 10, .inl (cI, 32, .inl v8_9))]
abbrev wz_X11_pointAt : List Cond := .code yX11_pointAt cX11_pointAt 7 (some .int) :: wALL
abbrev rm_X11_pointAt : Room := { frames := 4, cells := 0, slots := 0, locals := 108 }
abbrev Q_X11_pointAt (dC : Nat → ClassId) (dI : Nat → Nat → Nat) (cI : ClassId) (a0 : Nat → Nat) (a1 : Nat → Nat) (a2 : Nat → Nat) (a3 : Nat → Nat) (a4 : Nat → Nat) (a5 : Nat → Nat) (a6 : Nat → Nat) (a7 : Nat → Nat) (a8 : Nat → Nat) (a9 : Nat → Nat) (a10 : Nat → Nat) (v2_0 : Nat → Int32) (v5_4 : Int32) (v5_5 : Int32) (v5_6 : Int32) (v5_7 : Int32) (u : (Int32 × Int32 × Int32 × (Nat → Int32) × (Nat → Int32) × (Nat → Int32) × (Nat → Int32) × (Nat → Int32) × (Nat → Int32) × (Nat → Int32) × (Nat → Int32) × (Nat → Int32) × (Nat → Int32))) (A : Nat → Prop) : Array Value → State → Outcome → State → Prop := va_Qi (fun (r : Int32) (_ : Unit) => r = u.1) (fun _ => q_at dC dI cI A (wd_X11_pointAt cI a0 a1 a2 a3 a4 a5 a6 a7 a8 a9 a10 v2_0 u.2.1 v5_4 v5_5 v5_6 v5_7 u.2.2.1 u.2.2.2.1 u.2.2.2.2.1 u.2.2.2.2.2.1 u.2.2.2.2.2.2.1 u.2.2.2.2.2.2.2.1 u.2.2.2.2.2.2.2.2.1 u.2.2.2.2.2.2.2.2.2.1 u.2.2.2.2.2.2.2.2.2.2.1 u.2.2.2.2.2.2.2.2.2.2.2.1 u.2.2.2.2.2.2.2.2.2.2.2.2)) A
set_option maxHeartbeats 4000000 in
set_option maxRecDepth 100000 in
theorem c_X11_pointAt (l : Launch) (dC : Nat → ClassId) (dI : Nat → Nat → Nat) (cI : ClassId) (sz : Nat) (a0 : Nat → Nat) (a1 : Nat → Nat) (a2 : Nat → Nat) (a3 : Nat → Nat) (a4 : Nat → Nat) (a5 : Nat → Nat) (a6 : Nat → Nat) (a7 : Nat → Nat) (a8 : Nat → Nat) (a9 : Nat → Nat) (a10 : Nat → Nat) (v2_0 : Nat → Int32) (v5_3 : Int32) (v5_4 : Int32) (v5_5 : Int32) (v5_6 : Int32) (v5_7 : Int32) (v8_10 : Int32) (v8_0 : Nat → Int32) (v8_1 : Nat → Int32) (v8_2 : Nat → Int32) (v8_3 : Nat → Int32) (v8_4 : Nat → Int32) (v8_5 : Nat → Int32) (v8_6 : Nat → Int32) (v8_7 : Nat → Int32) (v8_8 : Nat → Int32) (v8_9 : Nat → Int32) (p1 : Int32) (p2 : Int32) (p3 : Int32) (n : Nat) (u : (Int32 × Int32 × Int32 × (Nat → Int32) × (Nat → Int32) × (Nat → Int32) × (Nat → Int32) × (Nat → Int32) × (Nat → Int32) × (Nat → Int32) × (Nat → Int32) × (Nat → Int32) × (Nat → Int32))) (hF : F_X11_pointAt n v2_0 v5_3 v8_10 v8_0 v8_1 v8_2 v8_3 v8_4 v8_5 v8_6 v8_7 v8_8 v8_9 p1 p2 p3 = some (.inl u)) : Met l yX11_pointAt wz_X11_pointAt rm_X11_pointAt (va_Pc [.ref (a0 0), .int p1, .int p2, .int p3] (q_pre dC dI cI (wd_X11_pointAt cI a0 a1 a2 a3 a4 a5 a6 a7 a8 a9 a10 v2_0 v5_3 v5_4 v5_5 v5_6 v5_7 v8_10 v8_0 v8_1 v8_2 v8_3 v8_4 v8_5 v8_6 v8_7 v8_8 v8_9) sz)) (Q_X11_pointAt dC dI cI a0 a1 a2 a3 a4 a5 a6 a7 a8 a9 a10 v2_0 v5_4 v5_5 v5_6 v5_7 u (va_A (wd_X11_pointAt cI a0 a1 a2 a3 a4 a5 a6 a7 a8 a9 a10 v2_0 v5_3 v5_4 v5_5 v5_6 v5_7 v8_10 v8_0 v8_1 v8_2 v8_3 v8_4 v8_5 v8_6 v8_7 v8_8 v8_9) sz)) 0 0 (va_A (wd_X11_pointAt cI a0 a1 a2 a3 a4 a5 a6 a7 a8 a9 a10 v2_0 v5_3 v5_4 v5_5 v5_6 v5_7 v8_10 v8_0 v8_1 v8_2 v8_3 v8_4 v8_5 v8_6 v8_7 v8_8 v8_9) sz) := by
  refine Met.ofW (cc := cX11_pointAt) (maxL := 7) (ret := (some .int)) (by decide) rfl ?_
  intro p e s m args below meth c s₁ B hml hv
  obtain ⟨rfl, hsz, hP, hK, hD0⟩ := hv
  have hx := B.exec
  have hb := B.bytes
  have hr := B.returns
  have hts := atoms_spec (ws := wz_X11_pointAt) B.pre
  have hta := wz_tl hts
  have hown : s.vm.findClass RX11 = some m.cls := findClass_of_methodNamed B.named
  have hlocks := B.notSynchronized
  subst hsz
  have hD := hD0.self (sz := s.heap.size)
  generalize hAe : va_A (wd_X11_pointAt cI a0 a1 a2 a3 a4 a5 a6 a7 a8 a9 a10 v2_0 v5_3 v5_4 v5_5 v5_6 v5_7 v8_10 v8_0 v8_1 v8_2 v8_3 v8_4 v8_5 v8_6 v8_7 v8_8 v8_9) s.heap.size = A at hD ⊢
  have hA : ∀ q : Nat, s.heap.size ≤ q → A q := fun q h => by rw [← hAe]; exact Or.inr h
  have hS : va_S A s.heap s.heap [] := va_S.rf
  have hP : va_P (dC, dI) vwCl (wd_X11_pointAt cI a0 a1 a2 a3 a4 a5 a6 a7 a8 a9 a10 v2_0 v5_3 v5_4 v5_5 v5_6 v5_7 v8_10 v8_0 v8_1 v8_2 v8_3 v8_4 v8_5 v8_6 v8_7 v8_8 v8_9) s.heap := hP
  have hl := lv_entry ([.ref (a0 0), .int p1, .int p2, .int p3]) (n := 7) (Nat.le_of_ble_eq_true rfl)
  rw [lg_entry_eq]
  generalize (lg_sl ([.ref (a0 0), .int p1, .int p2, .int p3]) ++ List.replicate (7 - (lg_sl ([.ref (a0 0), .int p1, .int p2, .int p3])).length) Slot.unset).toArray = ls at hl ⊢
  have hl : lv_has ls 7 [(0, .ref (a0 0)), (1, .int p1), (2, .int p2), (3, .int p3)] := hl
  obtain ⟨H, hHe⟩ : ∃ H, H = s.heap := ⟨_, rfl⟩
  have hS : va_S A s.heap H [] := by rw [hHe]; exact hS
  have hP : va_P (dC, dI) vwCl (wd_X11_pointAt cI a0 a1 a2 a3 a4 a5 a6 a7 a8 a9 a10 v2_0 v5_3 v5_4 v5_5 v5_6 v5_7 v8_10 v8_0 v8_1 v8_2 v8_3 v8_4 v8_5 v8_6 v8_7 v8_8 v8_9) H := by rw [hHe]; exact hP
  rw [← hHe]
  unfold F_X11_pointAt at hF
  have j77 : ∀ (v5_3 : Int32) (v8_10 : Int32) (v8_0 : Nat → Int32) (v8_1 : Nat → Int32) (v8_2 : Nat → Int32) (v8_3 : Nat → Int32) (v8_4 : Nat → Int32) (v8_5 : Nat → Int32) (v8_6 : Nat → Int32) (v8_7 : Nat → Int32) (v8_8 : Nat → Int32) (v8_9 : Nat → Int32) (t0 : Int32) (t1 : Int32), F_X11_pointAt_j77 v5_3 v8_10 v8_0 v8_1 v8_2 v8_3 v8_4 v8_5 v8_6 v8_7 v8_8 v8_9 t0 t1 = some (.inl u) → ∀ (H : Heap) (locs : List Loc) (ls : Array Slot), va_P (dC, dI) vwCl (wd_X11_pointAt cI a0 a1 a2 a3 a4 a5 a6 a7 a8 a9 a10 v2_0 v5_3 v5_4 v5_5 v5_6 v5_7 v8_10 v8_0 v8_1 v8_2 v8_3 v8_4 v8_5 v8_6 v8_7 v8_8 v8_9) H → va_D A (wd_X11_pointAt cI a0 a1 a2 a3 a4 a5 a6 a7 a8 a9 a10 v2_0 v5_3 v5_4 v5_5 v5_6 v5_7 v8_10 v8_0 v8_1 v8_2 v8_3 v8_4 v8_5 v8_6 v8_7 v8_8 v8_9) → va_S A s.heap H locs → lv_has ls 7 [] → W p l e (headSpec wz_X11_pointAt rm_X11_pointAt).room s m [.ref (a0 0), .int p1, .int p2, .int p3].toArray below meth c H locs 0 0 (MQ below (Q_X11_pointAt dC dI cI a0 a1 a2 a3 a4 a5 a6 a7 a8 a9 a10 v2_0 v5_4 v5_5 v5_6 v5_7 u A) [.ref (a0 0), .int p1, .int p2, .int p3].toArray s 0 0 A) (F0 m 77 ls [.int t1, .int t0]) := by
    intro v5_3 v8_10 v8_0 v8_1 v8_2 v8_3 v8_4 v8_5 v8_6 v8_7 v8_8 v8_9 t0 t1 hF H locs ls hP hD hS hl
    unfold F_X11_pointAt_j77 at hF
    refine lv_imul hx hb dX11_pointAt_77 ?_
    obtain rfl := Sum.inl.inj (Option.some.inj hF)
    exact W.iret (v := (t0 * t1)) hx hb hr (fun t ht hW => ⟨⟨(t0 * t1), (), rfl, rfl, by rw [ht]; exact hP, va_K.moved hW.alike hK, hD⟩, hS.F ht⟩) hS.2.2 dX11_pointAt_78
  refine lv_iload_n hx hb dX11_pointAt_0 rfl (lv_at hl 1 rfl) ?_
  refine lv_aload_n hx hb dX11_pointAt_1 rfl (lv_at hl 0 rfl) ?_
  refine va_get (D := (dC, dI)) (ci := 10) (v := .ref (a2 0)) (C := RX11) (T := TX11) (N := 7) hx hb hta uw_X11 hown hK hP 0 rfl rfl 0 (by decide) (hta _ mA7) (fun _ h9 => h9) rfl dX11_pointAt_2 ?_
  obtain ⟨u_1, hu_1, hF⟩ := obd_some hF
  have hPc := hP.sub (ws' := (wd_X1_subpathCount cI a2 v2_0)) [1, 2] rfl
  have hDc := hD.sub (ws' := (wd_X1_subpathCount cI a2 v2_0)) [1, 2] rfl rfl
  refine q_calli (wc := (wd_X1_subpathCount cI a2 v2_0)) (w1 := (wd_X1_subpathCount cI a2 v2_0)) (ws' := (wd_X11_pointAt cI a0 a1 a2 a3 a4 a5 a6 a7 a8 a9 a10 v2_0 v5_3 v5_4 v5_5 v5_6 v5_7 v8_10 v8_0 v8_1 v8_2 v8_3 v8_4 v8_5 v8_6 v8_7 v8_8 v8_9)) hP hD hS hA [1, 2] [0, 3, 4, 5, 6, 7, 8, 9, 10, 11, 12, 13, 14] [0, 13, 14, 1, 2, 3, 4, 5, 6, 7, 8, 9, 10, 11, 12] rfl rfl rfl (by decide) rfl rfl (va_runV (As := []) (rest := [.int p1]) ⟨hx, hb, hml, hown, hta⟩ (c_X1_subpathCount l dC dI cI H.size a2 v2_0 u_1 hu_1) (cwV 0 hta (ga_V mA112 mA113 mA114 mA6 mA115) rfl rfl rfl (by decide +kernel) ⟨Nat.le_of_ble_eq_true rfl, Nat.le_of_ble_eq_true rfl⟩) ⟨q_fb, va_recv hK hP (ci := 1) (q0 := 1) rfl rfl, q_ps hPc hK hDc⟩ rfl rfl hl.1 rfl (lv_room (Nat.le_of_ble_eq_true rfl)) dX11_pointAt_5 ⟨Nat.zero_le _, Nat.zero_le _⟩) (fun H locs hP hD hS => ?_)
  refine obx_elim hF (fun x_3 hx_3 hF => ?_) (fun u_2 hu_2 hF => ?_)
  · exact absurd hF no_rl
  have hPc := hP.sub (ws' := ([] : va_W)) [] rfl
  have hDc := hD.sub (ws' := ([] : va_W)) [] rfl rfl
  refine q_callv (wc := ([] : va_W)) (w1 := ([] : va_W)) (ws' := (wd_X11_pointAt cI a0 a1 a2 a3 a4 a5 a6 a7 a8 a9 a10 v2_0 v5_3 v5_4 v5_5 v5_6 v5_7 v8_10 v8_0 v8_1 v8_2 v8_3 v8_4 v8_5 v8_6 v8_7 v8_8 v8_9)) hP hD hS hA [] [0, 1, 2, 3, 4, 5, 6, 7, 8, 9, 10, 11, 12, 13, 14] [0, 1, 2, 3, 4, 5, 6, 7, 8, 9, 10, 11, 12, 13, 14] rfl rfl rfl (by decide) rfl rfl (va_runS (As := [.int p1, .int u_1]) (rest := []) ⟨hx, hb, hml, hown, hta⟩ (c_X11_checkIndex l dC dI cI H.size p1 u_1 u_2 hu_2) (va_cwS 2 hta (ga_S mA244 mA245 mA108 mA246) rfl rfl rfl (by decide +kernel) ⟨Nat.le_of_ble_eq_true rfl, Nat.le_of_ble_eq_true rfl⟩) ⟨q_fb, q_ps hPc hK hDc⟩ rfl rfl hl.1 rfl (lv_room (Nat.le_of_ble_eq_true rfl)) dX11_pointAt_8 ⟨Nat.zero_le _, Nat.zero_le _⟩) (fun H locs hP hD hS => ?_)
  refine lv_aload_n hx hb dX11_pointAt_11 rfl (lv_at hl 0 rfl) ?_
  refine va_get (D := (dC, dI)) (ci := 10) (v := .ref (a5 0)) (C := RX11) (T := TX11) (N := 7) hx hb hta uw_X11 hown hK hP 0 rfl rfl 5 (by decide) (hta _ mA24) (fun _ h9 => h9) rfl dX11_pointAt_12 ?_
  refine lv_aload_n hx hb dX11_pointAt_15 rfl (lv_at hl 0 rfl) ?_
  refine va_get (D := (dC, dI)) (ci := 10) (v := .ref (a2 0)) (C := RX11) (T := TX11) (N := 7) hx hb hta uw_X11 hown hK hP 0 rfl rfl 0 (by decide) (hta _ mA7) (fun _ h9 => h9) rfl dX11_pointAt_16 ?_
  obtain ⟨u_4, hu_4, hF⟩ := obd_some hF
  have hPc := hP.sub (ws' := (wd_X10_measured cI a5 a6 a7 a8 a2 v5_3 v5_4 v5_5 v5_6 v5_7 v8_10 v8_0 v8_1 v8_2 v8_3 v8_4 v8_5 v8_6 v8_7 v8_8 v8_9 v2_0)) [3, 4, 5, 6, 7, 8, 9, 10, 11, 12, 13, 14, 1, 2] rfl
  have hDc := hD.sub (ws' := (wd_X10_measured cI a5 a6 a7 a8 a2 v5_3 v5_4 v5_5 v5_6 v5_7 v8_10 v8_0 v8_1 v8_2 v8_3 v8_4 v8_5 v8_6 v8_7 v8_8 v8_9 v2_0)) [3, 4, 5, 6, 7, 8, 9, 10, 11, 12, 13, 14, 1, 2] rfl rfl
  refine q_callr (wc := (wd_X10_measured cI a5 a6 a7 a8 a2 v5_3 v5_4 v5_5 v5_6 v5_7 v8_10 v8_0 v8_1 v8_2 v8_3 v8_4 v8_5 v8_6 v8_7 v8_8 v8_9 v2_0)) (w1 := (wd_X10_measured cI a5 a6 a7 a8 a2 u_4.1 v5_4 v5_5 v5_6 v5_7 u_4.2.1 u_4.2.2.1 u_4.2.2.2.1 u_4.2.2.2.2.1 u_4.2.2.2.2.2.1 u_4.2.2.2.2.2.2.1 u_4.2.2.2.2.2.2.2.1 u_4.2.2.2.2.2.2.2.2.1 u_4.2.2.2.2.2.2.2.2.2.1 u_4.2.2.2.2.2.2.2.2.2.2.1 u_4.2.2.2.2.2.2.2.2.2.2.2 v2_0)) (ws' := (wd_X11_pointAt cI a0 a1 a2 a3 a4 a5 a6 a7 a8 a9 a10 v2_0 u_4.1 v5_4 v5_5 v5_6 v5_7 u_4.2.1 u_4.2.2.1 u_4.2.2.2.1 u_4.2.2.2.2.1 u_4.2.2.2.2.2.1 u_4.2.2.2.2.2.2.1 u_4.2.2.2.2.2.2.2.1 u_4.2.2.2.2.2.2.2.2.1 u_4.2.2.2.2.2.2.2.2.2.1 u_4.2.2.2.2.2.2.2.2.2.2.1 u_4.2.2.2.2.2.2.2.2.2.2.2)) hP hD hS hA [3, 4, 5, 6, 7, 8, 9, 10, 11, 12, 13, 14, 1, 2] [0] [0, 13, 14, 1, 2, 3, 4, 5, 6, 7, 8, 9, 10, 11, 12] rfl rfl rfl (by decide) rfl rfl (va_runV (As := [.ref (a2 0)]) (rest := []) ⟨hx, hb, hml, hown, hta⟩ (c_X10_measured l dC dI cI H.size a5 a6 a7 a8 a2 v5_3 v5_4 v5_5 v5_6 v5_7 v8_10 v8_0 v8_1 v8_2 v8_3 v8_4 v8_5 v8_6 v8_7 v8_8 v8_9 v2_0 n u_4 hu_4) (cwV 1 hta (ga_V mA192 mA193 mA194 mA23 mA195) rfl rfl rfl (by decide +kernel) ⟨Nat.le_of_ble_eq_true rfl, Nat.le_of_ble_eq_true rfl⟩) ⟨q_fb, va_recv hK hP (ci := 9) (q0 := 3) rfl rfl, q_ps hPc hK hDc⟩ rfl rfl hl.1 rfl (lv_room (Nat.le_of_ble_eq_true rfl)) dX11_pointAt_19 ⟨Nat.zero_le _, Nat.zero_le _⟩) (fun H locs hP hD hS => ?_)
  refine lv_astore (lv' := [(4, .ref (a8 0)), (0, .ref (a0 0)), (1, .int p1), (2, .int p2), (3, .int p3)]) hx hb dX11_pointAt_22 hl (by decide) rfl (fun ls hl => ?_)
  refine lv_iload_n hx hb dX11_pointAt_24 rfl (lv_at hl 3 rfl) ?_
  refine lv_iconst (v := 0) hx hb dX11_pointAt_25 (by decide) ?_
  refine lv_aload hx hb dX11_pointAt_26 (lv_at hl 0 rfl) ?_
  refine lv_iload_n hx hb dX11_pointAt_28 rfl (lv_at hl 2 rfl) ?_
  obtain ⟨u_5, hu_5, hF⟩ := obd_some hF
  have hPc := hP.sub (ws' := (wd_X9_lengthOf cI a8 u_4.2.1 u_4.2.2.1 u_4.2.2.2.2.2.2.2.1)) [4, 5, 10] rfl
  have hDc := hD.sub (ws' := (wd_X9_lengthOf cI a8 u_4.2.1 u_4.2.2.1 u_4.2.2.2.2.2.2.2.1)) [4, 5, 10] rfl rfl
  refine q_calli (wc := (wd_X9_lengthOf cI a8 u_4.2.1 u_4.2.2.1 u_4.2.2.2.2.2.2.2.1)) (w1 := (wd_X9_lengthOf cI a8 u_4.2.1 u_4.2.2.1 u_4.2.2.2.2.2.2.2.1)) (ws' := (wd_X11_pointAt cI a0 a1 a2 a3 a4 a5 a6 a7 a8 a9 a10 v2_0 u_4.1 v5_4 v5_5 v5_6 v5_7 u_4.2.1 u_4.2.2.1 u_4.2.2.2.1 u_4.2.2.2.2.1 u_4.2.2.2.2.2.1 u_4.2.2.2.2.2.2.1 u_4.2.2.2.2.2.2.2.1 u_4.2.2.2.2.2.2.2.2.1 u_4.2.2.2.2.2.2.2.2.2.1 u_4.2.2.2.2.2.2.2.2.2.2.1 u_4.2.2.2.2.2.2.2.2.2.2.2)) hP hD hS hA [4, 5, 10] [0, 1, 2, 3, 6, 7, 8, 9, 11, 12, 13, 14] [0, 1, 2, 3, 12, 13, 4, 5, 6, 7, 14, 8, 9, 10, 11] rfl rfl rfl (by decide) rfl rfl (va_runV (As := [.int p1]) (rest := [.int 0, .int p2]) ⟨hx, hb, hml, hown, hta⟩ (c_X9_lengthOf l dC dI cI H.size a8 u_4.2.1 u_4.2.2.1 u_4.2.2.2.2.2.2.2.1 p1 n u_5 hu_5) (cwV 1 hta (ga_V mA313 mA314 mA315 mA52 mA316) rfl rfl rfl (by decide +kernel) ⟨Nat.le_of_ble_eq_true rfl, Nat.le_of_ble_eq_true rfl⟩) ⟨q_fb, va_recv hK hP (ci := 8) (q0 := 4) rfl rfl, q_ps hPc hK hDc⟩ rfl rfl hl.1 rfl (lv_room (Nat.le_of_ble_eq_true rfl)) dX11_pointAt_29 ⟨Nat.zero_le _, Nat.zero_le _⟩) (fun H locs hP hD hS => ?_)
  refine obx_elim hF (fun x_7 hx_7 hF => ?_) (fun u_6 hu_6 hF => ?_)
  · exact absurd hF no_rl
  have hPc := hP.sub (ws' := ([] : va_W)) [] rfl
  have hDc := hD.sub (ws' := ([] : va_W)) [] rfl rfl
  refine q_callv (wc := ([] : va_W)) (w1 := ([] : va_W)) (ws' := (wd_X11_pointAt cI a0 a1 a2 a3 a4 a5 a6 a7 a8 a9 a10 v2_0 u_4.1 v5_4 v5_5 v5_6 v5_7 u_4.2.1 u_4.2.2.1 u_4.2.2.2.1 u_4.2.2.2.2.1 u_4.2.2.2.2.2.1 u_4.2.2.2.2.2.2.1 u_4.2.2.2.2.2.2.2.1 u_4.2.2.2.2.2.2.2.2.1 u_4.2.2.2.2.2.2.2.2.2.1 u_4.2.2.2.2.2.2.2.2.2.2.1 u_4.2.2.2.2.2.2.2.2.2.2.2)) hP hD hS hA [] [0, 1, 2, 3, 4, 5, 6, 7, 8, 9, 10, 11, 12, 13, 14] [0, 1, 2, 3, 4, 5, 6, 7, 8, 9, 10, 11, 12, 13, 14] rfl rfl rfl (by decide) rfl rfl (va_runS (As := [.int p2, .int 0, .int u_5]) (rest := []) ⟨hx, hb, hml, hown, hta⟩ (c_X11_checkRange l dC dI cI H.size p2 0 u_5 u_6 hu_6) (va_cwS 3 hta (ga_S mA106 mA107 mA108 mA109) rfl rfl rfl (by decide +kernel) ⟨Nat.le_of_ble_eq_true rfl, Nat.le_of_ble_eq_true rfl⟩) ⟨q_fb, q_ps hPc hK hDc⟩ rfl rfl hl.1 rfl (lv_room (Nat.le_of_ble_eq_true rfl)) dX11_pointAt_32 ⟨Nat.zero_le _, Nat.zero_le _⟩) (fun H locs hP hD hS => ?_)
  refine lv_aload hx hb dX11_pointAt_35 (lv_at hl 0 rfl) ?_
  refine lv_iload_n hx hb dX11_pointAt_37 rfl (lv_at hl 2 rfl) ?_
  refine lv_iload_n hx hb dX11_pointAt_38 rfl (lv_at hl 3 rfl) ?_
  obtain ⟨u_8, hu_8, hF⟩ := obd_some hF
  have hPc := hP.sub (ws' := (wd_X9_segmentAt cI a8 u_4.2.1 u_4.2.2.1 u_4.2.2.2.2.2.2.2.1)) [4, 5, 10] rfl
  have hDc := hD.sub (ws' := (wd_X9_segmentAt cI a8 u_4.2.1 u_4.2.2.1 u_4.2.2.2.2.2.2.2.1)) [4, 5, 10] rfl rfl
  refine q_calli (wc := (wd_X9_segmentAt cI a8 u_4.2.1 u_4.2.2.1 u_4.2.2.2.2.2.2.2.1)) (w1 := (wd_X9_segmentAt cI a8 u_4.2.1 u_4.2.2.1 u_4.2.2.2.2.2.2.2.1)) (ws' := (wd_X11_pointAt cI a0 a1 a2 a3 a4 a5 a6 a7 a8 a9 a10 v2_0 u_4.1 v5_4 v5_5 v5_6 v5_7 u_4.2.1 u_4.2.2.1 u_4.2.2.2.1 u_4.2.2.2.2.1 u_4.2.2.2.2.2.1 u_4.2.2.2.2.2.2.1 u_4.2.2.2.2.2.2.2.1 u_4.2.2.2.2.2.2.2.2.1 u_4.2.2.2.2.2.2.2.2.2.1 u_4.2.2.2.2.2.2.2.2.2.2.1 u_4.2.2.2.2.2.2.2.2.2.2.2)) hP hD hS hA [4, 5, 10] [0, 1, 2, 3, 6, 7, 8, 9, 11, 12, 13, 14] [0, 1, 2, 3, 12, 13, 4, 5, 6, 7, 14, 8, 9, 10, 11] rfl rfl rfl (by decide) rfl rfl (va_runV (As := [.int p1, .int p2]) (rest := []) ⟨hx, hb, hml, hown, hta⟩ (c_X9_segmentAt l dC dI cI H.size a8 u_4.2.1 u_4.2.2.1 u_4.2.2.2.2.2.2.2.1 p1 p2 n u_8 hu_8) (cwV 2 hta (ga_V mA325 mA326 mA327 mA52 mA328) rfl rfl rfl (by decide +kernel) ⟨Nat.le_of_ble_eq_true rfl, Nat.le_of_ble_eq_true rfl⟩) ⟨q_fb, va_recv hK hP (ci := 8) (q0 := 4) rfl rfl, q_ps hPc hK hDc⟩ rfl rfl hl.1 rfl (lv_room (Nat.le_of_ble_eq_true rfl)) dX11_pointAt_39 ⟨Nat.zero_le _, Nat.zero_le _⟩) (fun H locs hP hD hS => ?_)
  refine lv_istore (lv' := [(5, .int u_8), (4, .ref (a8 0)), (0, .ref (a0 0)), (1, .int p1), (2, .int p2), (3, .int p3)]) hx hb dX11_pointAt_42 hl (by decide) rfl (fun ls hl => ?_)
  refine lv_iload hx hb dX11_pointAt_44 (lv_at hl 0 rfl) ?_
  refine lv_iconst (v := (-1)) hx hb dX11_pointAt_46 (by decide) ?_
  refine lv_icmp_ne (tgt := 79) hx hb dX11_pointAt_47 (by decide) (fun c_9 => ?_) (fun c_9 => ?_)
  · have hF := it_f hF c_9
    refine lv_iload_n hx hb dX11_pointAt_79 rfl (lv_at hl 4 rfl) ?_
    refine lv_aload hx hb dX11_pointAt_80 (lv_at hl 1 rfl) ?_
    refine lv_iload_n hx hb dX11_pointAt_82 rfl (lv_at hl 3 rfl) ?_
    refine lv_iload hx hb dX11_pointAt_83 (lv_at hl 0 rfl) ?_
    obtain ⟨u_10, hu_10, hF⟩ := obd_some hF
    have hPc := hP.sub (ws' := (wd_X9_startOf cI a8 u_4.2.1 u_4.2.2.1 u_4.2.2.2.2.2.2.2.1)) [4, 5, 10] rfl
    have hDc := hD.sub (ws' := (wd_X9_startOf cI a8 u_4.2.1 u_4.2.2.1 u_4.2.2.2.2.2.2.2.1)) [4, 5, 10] rfl rfl
    refine q_calli (wc := (wd_X9_startOf cI a8 u_4.2.1 u_4.2.2.1 u_4.2.2.2.2.2.2.2.1)) (w1 := (wd_X9_startOf cI a8 u_4.2.1 u_4.2.2.1 u_4.2.2.2.2.2.2.2.1)) (ws' := (wd_X11_pointAt cI a0 a1 a2 a3 a4 a5 a6 a7 a8 a9 a10 v2_0 u_4.1 v5_4 v5_5 v5_6 v5_7 u_4.2.1 u_4.2.2.1 u_4.2.2.2.1 u_4.2.2.2.2.1 u_4.2.2.2.2.2.1 u_4.2.2.2.2.2.2.1 u_4.2.2.2.2.2.2.2.1 u_4.2.2.2.2.2.2.2.2.1 u_4.2.2.2.2.2.2.2.2.2.1 u_4.2.2.2.2.2.2.2.2.2.2.1 u_4.2.2.2.2.2.2.2.2.2.2.2)) hP hD hS hA [4, 5, 10] [0, 1, 2, 3, 6, 7, 8, 9, 11, 12, 13, 14] [0, 1, 2, 3, 12, 13, 4, 5, 6, 7, 14, 8, 9, 10, 11] rfl rfl rfl (by decide) rfl rfl (va_runV (As := [.int p1, .int u_8]) (rest := [.int p2]) ⟨hx, hb, hml, hown, hta⟩ (c_X9_startOf l dC dI cI H.size a8 u_4.2.1 u_4.2.2.1 u_4.2.2.2.2.2.2.2.1 p1 u_8 n u_10 hu_10) (cwV 2 hta (ga_V mA333 mA318 mA319 mA52 mA320) rfl rfl rfl (by decide +kernel) ⟨Nat.le_of_ble_eq_true rfl, Nat.le_of_ble_eq_true rfl⟩) ⟨q_fb, va_recv hK hP (ci := 8) (q0 := 4) rfl rfl, q_ps hPc hK hDc⟩ rfl rfl hl.1 rfl (lv_room (Nat.le_of_ble_eq_true rfl)) dX11_pointAt_85 ⟨Nat.zero_le _, Nat.zero_le _⟩) (fun H locs hP hD hS => ?_)
    refine lv_isub hx hb dX11_pointAt_88 ?_
    obtain ⟨y_11, ey_11, hF⟩ := lt_some hF
    refine lv_eqi ey_11 ?_
    refine lv_istore (lv' := [(6, .int y_11), (5, .int u_8), (4, .ref (a8 0)), (0, .ref (a0 0)), (1, .int p1), (2, .int p2), (3, .int p3)]) hx hb dX11_pointAt_89 hl (by decide) rfl (fun ls hl => ?_)
    refine lv_iload_n hx hb dX11_pointAt_91 rfl (lv_at hl 6 rfl) ?_
    refine lv_if_eq (tgt := 107) hx hb dX11_pointAt_92 (by decide) (fun c_12 => ?_) (fun c_12 => ?_)
    · have hF := it_t hF c_12
      refine lv_aload hx hb dX11_pointAt_107 (lv_at hl 2 rfl) ?_
      refine lv_iload hx hb dX11_pointAt_109 (lv_at hl 1 rfl) ?_
      refine lv_iload hx hb dX11_pointAt_111 (lv_at hl 0 rfl) ?_
      obtain ⟨u_13, hu_13, hF⟩ := obd_some hF
      have hPc := hP.sub (ws' := (wd_X9_xAt cI a8 u_4.2.1 u_4.2.2.2.1 u_4.2.2.2.2.2.1 u_4.2.2.2.2.2.2.2.1)) [4, 6, 8, 10] rfl
      have hDc := hD.sub (ws' := (wd_X9_xAt cI a8 u_4.2.1 u_4.2.2.2.1 u_4.2.2.2.2.2.1 u_4.2.2.2.2.2.2.2.1)) [4, 6, 8, 10] rfl rfl
      refine q_calli (wc := (wd_X9_xAt cI a8 u_4.2.1 u_4.2.2.2.1 u_4.2.2.2.2.2.1 u_4.2.2.2.2.2.2.2.1)) (w1 := (wd_X9_xAt cI a8 u_4.2.1 u_4.2.2.2.1 u_4.2.2.2.2.2.1 u_4.2.2.2.2.2.2.2.1)) (ws' := (wd_X11_pointAt cI a0 a1 a2 a3 a4 a5 a6 a7 a8 a9 a10 v2_0 u_4.1 v5_4 v5_5 v5_6 v5_7 u_4.2.1 u_4.2.2.1 u_4.2.2.2.1 u_4.2.2.2.2.1 u_4.2.2.2.2.2.1 u_4.2.2.2.2.2.2.1 u_4.2.2.2.2.2.2.2.1 u_4.2.2.2.2.2.2.2.2.1 u_4.2.2.2.2.2.2.2.2.2.1 u_4.2.2.2.2.2.2.2.2.2.2.1 u_4.2.2.2.2.2.2.2.2.2.2.2)) hP hD hS hA [4, 6, 8, 10] [0, 1, 2, 3, 5, 7, 9, 11, 12, 13, 14] [0, 1, 2, 3, 11, 4, 12, 5, 13, 6, 14, 7, 8, 9, 10] rfl rfl rfl (by decide) rfl rfl (va_runV (As := [.int u_8, .int y_11]) (rest := []) ⟨hx, hb, hml, hown, hta⟩ (c_X9_xAt l dC dI cI H.size a8 u_4.2.1 u_4.2.2.2.1 u_4.2.2.2.2.2.1 u_4.2.2.2.2.2.2.2.1 u_8 y_11 u_13 hu_13) (cwV 2 hta (ga_V mA339 mA340 mA341 mA52 mA342) rfl rfl rfl (by decide +kernel) ⟨Nat.le_of_ble_eq_true rfl, Nat.le_of_ble_eq_true rfl⟩) ⟨q_fb, va_recv hK hP (ci := 8) (q0 := 4) rfl rfl, q_ps hPc hK hDc⟩ rfl rfl hl.1 rfl (lv_room (Nat.le_of_ble_eq_true rfl)) dX11_pointAt_113 ⟨Nat.zero_le _, Nat.zero_le _⟩) (fun H locs hP hD hS => ?_)
      obtain rfl := Sum.inl.inj (Option.some.inj hF)
      exact W.iret (v := u_13) hx hb hr (fun t ht hW => ⟨⟨u_13, (), rfl, rfl, by rw [ht]; exact hP, va_K.moved hW.alike hK, hD⟩, hS.F ht⟩) hS.2.2 dX11_pointAt_116
    · have hF := it_f hF c_12
      refine lv_aload hx hb dX11_pointAt_95 (lv_at hl 2 rfl) ?_
      refine lv_iload hx hb dX11_pointAt_97 (lv_at hl 1 rfl) ?_
      refine lv_iload hx hb dX11_pointAt_99 (lv_at hl 0 rfl) ?_
      obtain ⟨u_14, hu_14, hF⟩ := obd_some hF
      have hPc := hP.sub (ws' := (wd_X9_yAt cI a8 u_4.2.1 u_4.2.2.2.2.1 u_4.2.2.2.2.2.2.1 u_4.2.2.2.2.2.2.2.1)) [4, 7, 9, 10] rfl
      have hDc := hD.sub (ws' := (wd_X9_yAt cI a8 u_4.2.1 u_4.2.2.2.2.1 u_4.2.2.2.2.2.2.1 u_4.2.2.2.2.2.2.2.1)) [4, 7, 9, 10] rfl rfl
      refine q_calli (wc := (wd_X9_yAt cI a8 u_4.2.1 u_4.2.2.2.2.1 u_4.2.2.2.2.2.2.1 u_4.2.2.2.2.2.2.2.1)) (w1 := (wd_X9_yAt cI a8 u_4.2.1 u_4.2.2.2.2.1 u_4.2.2.2.2.2.2.1 u_4.2.2.2.2.2.2.2.1)) (ws' := (wd_X11_pointAt cI a0 a1 a2 a3 a4 a5 a6 a7 a8 a9 a10 v2_0 u_4.1 v5_4 v5_5 v5_6 v5_7 u_4.2.1 u_4.2.2.1 u_4.2.2.2.1 u_4.2.2.2.2.1 u_4.2.2.2.2.2.1 u_4.2.2.2.2.2.2.1 u_4.2.2.2.2.2.2.2.1 u_4.2.2.2.2.2.2.2.2.1 u_4.2.2.2.2.2.2.2.2.2.1 u_4.2.2.2.2.2.2.2.2.2.2.1 u_4.2.2.2.2.2.2.2.2.2.2.2)) hP hD hS hA [4, 7, 9, 10] [0, 1, 2, 3, 5, 6, 8, 11, 12, 13, 14] [0, 1, 2, 3, 11, 4, 5, 12, 6, 13, 14, 7, 8, 9, 10] rfl rfl rfl (by decide) rfl rfl (va_runV (As := [.int u_8, .int y_11]) (rest := []) ⟨hx, hb, hml, hown, hta⟩ (c_X9_yAt l dC dI cI H.size a8 u_4.2.1 u_4.2.2.2.2.1 u_4.2.2.2.2.2.2.1 u_4.2.2.2.2.2.2.2.1 u_8 y_11 u_14 hu_14) (cwV 2 hta (ga_V mA334 mA335 mA336 mA52 mA337) rfl rfl rfl (by decide +kernel) ⟨Nat.le_of_ble_eq_true rfl, Nat.le_of_ble_eq_true rfl⟩) ⟨q_fb, va_recv hK hP (ci := 8) (q0 := 4) rfl rfl, q_ps hPc hK hDc⟩ rfl rfl hl.1 rfl (lv_room (Nat.le_of_ble_eq_true rfl)) dX11_pointAt_101 ⟨Nat.zero_le _, Nat.zero_le _⟩) (fun H locs hP hD hS => ?_)
      refine lv_goto (tgt := 116) hx hb dX11_pointAt_104 (by decide) ?_
      obtain rfl := Sum.inl.inj (Option.some.inj hF)
      exact W.iret (v := u_14) hx hb hr (fun t ht hW => ⟨⟨u_14, (), rfl, rfl, by rw [ht]; exact hP, va_K.moved hW.alike hK, hD⟩, hS.F ht⟩) hS.2.2 dX11_pointAt_116
  · have hF := it_t hF c_9
    refine lv_bipush (v := 64) hx hb dX11_pointAt_50 (by decide) ?_
    refine lv_iload_n hx hb dX11_pointAt_52 rfl (lv_at hl 5 rfl) ?_
    refine lv_if_eq (tgt := 68) hx hb dX11_pointAt_53 (by decide) (fun c_15 => ?_) (fun c_15 => ?_)
    · have hF := it_t hF c_15
      refine lv_aload_n hx hb dX11_pointAt_68 rfl (lv_at hl 2 rfl) ?_
      refine va_get (D := (dC, dI)) (ci := 10) (v := .ref (a2 0)) (C := RX11) (T := TX11) (N := 7) hx hb hta uw_X11 hown hK hP 0 rfl rfl 0 (by decide) (hta _ mA7) (fun _ h9 => h9) rfl dX11_pointAt_69 ?_
      refine lv_iload_n hx hb dX11_pointAt_72 rfl (lv_at hl 3 rfl) ?_
      refine lv_iconst (v := 0) hx hb dX11_pointAt_73 (by decide) ?_
      obtain ⟨u_16, hu_16, hF⟩ := obd_some hF
      have hPc := hP.sub (ws' := (wd_X1_xOf cI a2 v2_0)) [1, 2] rfl
      have hDc := hD.sub (ws' := (wd_X1_xOf cI a2 v2_0)) [1, 2] rfl rfl
      refine q_calli (wc := (wd_X1_xOf cI a2 v2_0)) (w1 := (wd_X1_xOf cI a2 v2_0)) (ws' := (wd_X11_pointAt cI a0 a1 a2 a3 a4 a5 a6 a7 a8 a9 a10 v2_0 u_4.1 v5_4 v5_5 v5_6 v5_7 u_4.2.1 u_4.2.2.1 u_4.2.2.2.1 u_4.2.2.2.2.1 u_4.2.2.2.2.2.1 u_4.2.2.2.2.2.2.1 u_4.2.2.2.2.2.2.2.1 u_4.2.2.2.2.2.2.2.2.1 u_4.2.2.2.2.2.2.2.2.2.1 u_4.2.2.2.2.2.2.2.2.2.2.1 u_4.2.2.2.2.2.2.2.2.2.2.2)) hP hD hS hA [1, 2] [0, 3, 4, 5, 6, 7, 8, 9, 10, 11, 12, 13, 14] [0, 13, 14, 1, 2, 3, 4, 5, 6, 7, 8, 9, 10, 11, 12] rfl rfl rfl (by decide) rfl rfl (va_runV (As := [.int p1, .int 0]) (rest := [.int 64]) ⟨hx, hb, hml, hown, hta⟩ (c_X1_xOf l dC dI cI H.size a2 v2_0 p1 0 u_16 hu_16) (cwV 2 hta (ga_V mA323 mA208 mA209 mA6 mA210) rfl rfl rfl (by decide +kernel) ⟨Nat.le_of_ble_eq_true rfl, Nat.le_of_ble_eq_true rfl⟩) ⟨q_fb, va_recv hK hP (ci := 1) (q0 := 1) rfl rfl, q_ps hPc hK hDc⟩ rfl rfl hl.1 rfl (lv_room (Nat.le_of_ble_eq_true rfl)) dX11_pointAt_74 ⟨Nat.zero_le _, Nat.zero_le _⟩) (fun H locs hP hD hS => ?_)
      exact j77 u_4.1 u_4.2.1 u_4.2.2.1 u_4.2.2.2.1 u_4.2.2.2.2.1 u_4.2.2.2.2.2.1 u_4.2.2.2.2.2.2.1 u_4.2.2.2.2.2.2.2.1 u_4.2.2.2.2.2.2.2.2.1 u_4.2.2.2.2.2.2.2.2.2.1 u_4.2.2.2.2.2.2.2.2.2.2.1 u_4.2.2.2.2.2.2.2.2.2.2.2 64 u_16 hF _ _ _ hP hD hS (lv_sub hl [] rfl)
    · have hF := it_f hF c_15
      refine lv_aload_n hx hb dX11_pointAt_56 rfl (lv_at hl 2 rfl) ?_
      refine va_get (D := (dC, dI)) (ci := 10) (v := .ref (a2 0)) (C := RX11) (T := TX11) (N := 7) hx hb hta uw_X11 hown hK hP 0 rfl rfl 0 (by decide) (hta _ mA7) (fun _ h9 => h9) rfl dX11_pointAt_57 ?_
      refine lv_iload_n hx hb dX11_pointAt_60 rfl (lv_at hl 3 rfl) ?_
      refine lv_iconst (v := 0) hx hb dX11_pointAt_61 (by decide) ?_
      obtain ⟨u_17, hu_17, hF⟩ := obd_some hF
      have hPc := hP.sub (ws' := (wd_X1_yOf cI a2 v2_0)) [1, 2] rfl
      have hDc := hD.sub (ws' := (wd_X1_yOf cI a2 v2_0)) [1, 2] rfl rfl
      refine q_calli (wc := (wd_X1_yOf cI a2 v2_0)) (w1 := (wd_X1_yOf cI a2 v2_0)) (ws' := (wd_X11_pointAt cI a0 a1 a2 a3 a4 a5 a6 a7 a8 a9 a10 v2_0 u_4.1 v5_4 v5_5 v5_6 v5_7 u_4.2.1 u_4.2.2.1 u_4.2.2.2.1 u_4.2.2.2.2.1 u_4.2.2.2.2.2.1 u_4.2.2.2.2.2.2.1 u_4.2.2.2.2.2.2.2.1 u_4.2.2.2.2.2.2.2.2.1 u_4.2.2.2.2.2.2.2.2.2.1 u_4.2.2.2.2.2.2.2.2.2.2.1 u_4.2.2.2.2.2.2.2.2.2.2.2)) hP hD hS hA [1, 2] [0, 3, 4, 5, 6, 7, 8, 9, 10, 11, 12, 13, 14] [0, 13, 14, 1, 2, 3, 4, 5, 6, 7, 8, 9, 10, 11, 12] rfl rfl rfl (by decide) rfl rfl (va_runV (As := [.int p1, .int 0]) (rest := [.int 64]) ⟨hx, hb, hml, hown, hta⟩ (c_X1_yOf l dC dI cI H.size a2 v2_0 p1 0 u_17 hu_17) (cwV 2 hta (ga_V mA322 mA212 mA213 mA6 mA214) rfl rfl rfl (by decide +kernel) ⟨Nat.le_of_ble_eq_true rfl, Nat.le_of_ble_eq_true rfl⟩) ⟨q_fb, va_recv hK hP (ci := 1) (q0 := 1) rfl rfl, q_ps hPc hK hDc⟩ rfl rfl hl.1 rfl (lv_room (Nat.le_of_ble_eq_true rfl)) dX11_pointAt_62 ⟨Nat.zero_le _, Nat.zero_le _⟩) (fun H locs hP hD hS => ?_)
      refine lv_goto (tgt := 77) hx hb dX11_pointAt_65 (by decide) ?_
      exact j77 u_4.1 u_4.2.1 u_4.2.2.1 u_4.2.2.2.1 u_4.2.2.2.2.1 u_4.2.2.2.2.2.1 u_4.2.2.2.2.2.2.1 u_4.2.2.2.2.2.2.2.1 u_4.2.2.2.2.2.2.2.2.1 u_4.2.2.2.2.2.2.2.2.2.1 u_4.2.2.2.2.2.2.2.2.2.2.1 u_4.2.2.2.2.2.2.2.2.2.2.2 64 u_17 hF _ _ _ hP hD hS (lv_sub hl [] rfl)
abbrev rmx_X11_pointAt : Room := { frames := 7, cells := 1, slots := 6, locals := 108 }
abbrev XC_X11_pointAt (dC : Nat → ClassId) (dI : Nat → Nat → Nat) (cI : ClassId) (a0 : Nat → Nat) (a1 : Nat → Nat) (a2 : Nat → Nat) (a3 : Nat → Nat) (a4 : Nat → Nat) (a5 : Nat → Nat) (a6 : Nat → Nat) (a7 : Nat → Nat) (a8 : Nat → Nat) (a9 : Nat → Nat) (a10 : Nat → Nat) (v2_0 : Nat → Int32) (v5_4 : Int32) (v5_5 : Int32) (v5_6 : Int32) (v5_7 : Int32) (x : (Nat × Int32 × Int32 × (Nat → Int32) × (Nat → Int32) × (Nat → Int32) × (Nat → Int32) × (Nat → Int32) × (Nat → Int32) × (Nat → Int32) × (Nat → Int32) × (Nat → Int32) × (Nat → Int32))) (A : Nat → Prop) : String → State → State → Prop := vx_X (fun (_ : Unit) => True) (fun E _ t => E = exN x.1 ∧ q_at dC dI cI A (wd_X11_pointAt cI a0 a1 a2 a3 a4 a5 a6 a7 a8 a9 a10 v2_0 x.2.1 v5_4 v5_5 v5_6 v5_7 x.2.2.1 x.2.2.2.1 x.2.2.2.2.1 x.2.2.2.2.2.1 x.2.2.2.2.2.2.1 x.2.2.2.2.2.2.2.1 x.2.2.2.2.2.2.2.2.1 x.2.2.2.2.2.2.2.2.2.1 x.2.2.2.2.2.2.2.2.2.2.1 x.2.2.2.2.2.2.2.2.2.2.2.1 x.2.2.2.2.2.2.2.2.2.2.2.2) t) A
set_option maxHeartbeats 4000000 in
set_option maxRecDepth 100000 in
theorem c_X11_pointAt_x (l : Launch) (hlt : l.stackTraces = false) (S : Nat → Nat) (dC : Nat → ClassId) (dI : Nat → Nat → Nat) (cI : ClassId) (sz : Nat) (a0 : Nat → Nat) (a1 : Nat → Nat) (a2 : Nat → Nat) (a3 : Nat → Nat) (a4 : Nat → Nat) (a5 : Nat → Nat) (a6 : Nat → Nat) (a7 : Nat → Nat) (a8 : Nat → Nat) (a9 : Nat → Nat) (a10 : Nat → Nat) (v2_0 : Nat → Int32) (v5_3 : Int32) (v5_4 : Int32) (v5_5 : Int32) (v5_6 : Int32) (v5_7 : Int32) (v8_10 : Int32) (v8_0 : Nat → Int32) (v8_1 : Nat → Int32) (v8_2 : Nat → Int32) (v8_3 : Nat → Int32) (v8_4 : Nat → Int32) (v8_5 : Nat → Int32) (v8_6 : Nat → Int32) (v8_7 : Nat → Int32) (v8_8 : Nat → Int32) (v8_9 : Nat → Int32) (p1 : Int32) (p2 : Int32) (p3 : Int32) (n : Nat) (x : (Nat × Int32 × Int32 × (Nat → Int32) × (Nat → Int32) × (Nat → Int32) × (Nat → Int32) × (Nat → Int32) × (Nat → Int32) × (Nat → Int32) × (Nat → Int32) × (Nat → Int32) × (Nat → Int32))) (hF : F_X11_pointAt n v2_0 v5_3 v8_10 v8_0 v8_1 v8_2 v8_3 v8_4 v8_5 v8_6 v8_7 v8_8 v8_9 p1 p2 p3 = some (.inr x)) : vx_Met l yX11_pointAt wz_X11_pointAt rmx_X11_pointAt (va_Pc [.ref (a0 0), .int p1, .int p2, .int p3] (qx_pre S dC dI cI (wd_X11_pointAt cI a0 a1 a2 a3 a4 a5 a6 a7 a8 a9 a10 v2_0 v5_3 v5_4 v5_5 v5_6 v5_7 v8_10 v8_0 v8_1 v8_2 v8_3 v8_4 v8_5 v8_6 v8_7 v8_8 v8_9) sz)) (va_Qv (fun (_ : Unit) => False) (fun _ _ => True) (va_A (wd_X11_pointAt cI a0 a1 a2 a3 a4 a5 a6 a7 a8 a9 a10 v2_0 v5_3 v5_4 v5_5 v5_6 v5_7 v8_10 v8_0 v8_1 v8_2 v8_3 v8_4 v8_5 v8_6 v8_7 v8_8 v8_9) sz)) (XC_X11_pointAt dC dI cI a0 a1 a2 a3 a4 a5 a6 a7 a8 a9 a10 v2_0 v5_4 v5_5 v5_6 v5_7 x (va_A (wd_X11_pointAt cI a0 a1 a2 a3 a4 a5 a6 a7 a8 a9 a10 v2_0 v5_3 v5_4 v5_5 v5_6 v5_7 v8_10 v8_0 v8_1 v8_2 v8_3 v8_4 v8_5 v8_6 v8_7 v8_8 v8_9) sz)) 1 6 (va_A (wd_X11_pointAt cI a0 a1 a2 a3 a4 a5 a6 a7 a8 a9 a10 v2_0 v5_3 v5_4 v5_5 v5_6 v5_7 v8_10 v8_0 v8_1 v8_2 v8_3 v8_4 v8_5 v8_6 v8_7 v8_8 v8_9) sz) := by
  refine vx_ofW (cc := cX11_pointAt) (maxL := 7) (ret := (some .int)) (by decide) rfl ?_
  intro p e s m args below meth c s₁ B hml hxt hv
  obtain ⟨rfl, ⟨hsz, hP, hK, hD0⟩, hE⟩ := hv
  have hx := B.exec
  have hb := B.bytes
  have hr := B.returns
  have hts := atoms_spec (ws := wz_X11_pointAt) B.pre
  have hta := wz_tl hts
  have hown : s.vm.findClass RX11 = some m.cls := findClass_of_methodNamed B.named
  have hlocks := B.notSynchronized
  subst hsz
  have hD := hD0.self (sz := s.heap.size)
  generalize hAe : va_A (wd_X11_pointAt cI a0 a1 a2 a3 a4 a5 a6 a7 a8 a9 a10 v2_0 v5_3 v5_4 v5_5 v5_6 v5_7 v8_10 v8_0 v8_1 v8_2 v8_3 v8_4 v8_5 v8_6 v8_7 v8_8 v8_9) s.heap.size = A at hD hE ⊢
  have hA : ∀ q : Nat, s.heap.size ≤ q → A q := fun q h => by rw [← hAe]; exact Or.inr h
  have hS : va_S A s.heap s.heap [] := va_S.rf
  have hP : va_P (dC, dI) vwCl (wd_X11_pointAt cI a0 a1 a2 a3 a4 a5 a6 a7 a8 a9 a10 v2_0 v5_3 v5_4 v5_5 v5_6 v5_7 v8_10 v8_0 v8_1 v8_2 v8_3 v8_4 v8_5 v8_6 v8_7 v8_8 v8_9) s.heap := hP
  have hl := lv_entry ([.ref (a0 0), .int p1, .int p2, .int p3]) (n := 7) (Nat.le_of_ble_eq_true rfl)
  rw [lg_entry_eq]
  generalize (lg_sl ([.ref (a0 0), .int p1, .int p2, .int p3]) ++ List.replicate (7 - (lg_sl ([.ref (a0 0), .int p1, .int p2, .int p3])).length) Slot.unset).toArray = ls at hl ⊢
  have hl : lv_has ls 7 [(0, .ref (a0 0)), (1, .int p1), (2, .int p2), (3, .int p3)] := hl
  obtain ⟨H, hHe⟩ : ∃ H, H = s.heap := ⟨_, rfl⟩
  have hS : va_S A s.heap H [] := by rw [hHe]; exact hS
  have hP : va_P (dC, dI) vwCl (wd_X11_pointAt cI a0 a1 a2 a3 a4 a5 a6 a7 a8 a9 a10 v2_0 v5_3 v5_4 v5_5 v5_6 v5_7 v8_10 v8_0 v8_1 v8_2 v8_3 v8_4 v8_5 v8_6 v8_7 v8_8 v8_9) H := by rw [hHe]; exact hP
  rw [← hHe]
  unfold F_X11_pointAt at hF
  have j77 : ∀ (v5_3 : Int32) (v8_10 : Int32) (v8_0 : Nat → Int32) (v8_1 : Nat → Int32) (v8_2 : Nat → Int32) (v8_3 : Nat → Int32) (v8_4 : Nat → Int32) (v8_5 : Nat → Int32) (v8_6 : Nat → Int32) (v8_7 : Nat → Int32) (v8_8 : Nat → Int32) (v8_9 : Nat → Int32) (t0 : Int32) (t1 : Int32), F_X11_pointAt_j77 v5_3 v8_10 v8_0 v8_1 v8_2 v8_3 v8_4 v8_5 v8_6 v8_7 v8_8 v8_9 t0 t1 = some (.inr x) → ∀ (H : Heap) (locs : List Loc) (ls : Array Slot), va_P (dC, dI) vwCl (wd_X11_pointAt cI a0 a1 a2 a3 a4 a5 a6 a7 a8 a9 a10 v2_0 v5_3 v5_4 v5_5 v5_6 v5_7 v8_10 v8_0 v8_1 v8_2 v8_3 v8_4 v8_5 v8_6 v8_7 v8_8 v8_9) H → va_D A (wd_X11_pointAt cI a0 a1 a2 a3 a4 a5 a6 a7 a8 a9 a10 v2_0 v5_3 v5_4 v5_5 v5_6 v5_7 v8_10 v8_0 v8_1 v8_2 v8_3 v8_4 v8_5 v8_6 v8_7 v8_8 v8_9) → va_S A s.heap H locs → lv_has ls 7 [] → W p l e (headSpec wz_X11_pointAt rmx_X11_pointAt).room s m [.ref (a0 0), .int p1, .int p2, .int p3].toArray below meth c H locs 0 0 (vx_MQ below (va_Qv (fun (_ : Unit) => False) (fun _ _ => True) A) (XC_X11_pointAt dC dI cI a0 a1 a2 a3 a4 a5 a6 a7 a8 a9 a10 v2_0 v5_4 v5_5 v5_6 v5_7 x A) [.ref (a0 0), .int p1, .int p2, .int p3].toArray s 1 6 A) (F0 m 77 ls [.int t1, .int t0]) := by
    intro v5_3 v8_10 v8_0 v8_1 v8_2 v8_3 v8_4 v8_5 v8_6 v8_7 v8_8 v8_9 t0 t1 hF H locs ls hP hD hS hl
    unfold F_X11_pointAt_j77 at hF
    refine lv_imul hx hb dX11_pointAt_77 ?_
    exact absurd hF no_lr
  refine lv_iload_n hx hb dX11_pointAt_0 rfl (lv_at hl 1 rfl) ?_
  refine lv_aload_n hx hb dX11_pointAt_1 rfl (lv_at hl 0 rfl) ?_
  refine va_get (D := (dC, dI)) (ci := 10) (v := .ref (a2 0)) (C := RX11) (T := TX11) (N := 7) hx hb hta uw_X11 hown hK hP 0 rfl rfl 0 (by decide) (hta _ mA7) (fun _ h9 => h9) rfl dX11_pointAt_2 ?_
  obtain ⟨u_1, hu_1, hF⟩ := obd_some hF
  have hPc := hP.sub (ws' := (wd_X1_subpathCount cI a2 v2_0)) [1, 2] rfl
  have hDc := hD.sub (ws' := (wd_X1_subpathCount cI a2 v2_0)) [1, 2] rfl rfl
  refine q_calli (wc := (wd_X1_subpathCount cI a2 v2_0)) (w1 := (wd_X1_subpathCount cI a2 v2_0)) (ws' := (wd_X11_pointAt cI a0 a1 a2 a3 a4 a5 a6 a7 a8 a9 a10 v2_0 v5_3 v5_4 v5_5 v5_6 v5_7 v8_10 v8_0 v8_1 v8_2 v8_3 v8_4 v8_5 v8_6 v8_7 v8_8 v8_9)) hP hD hS hA [1, 2] [0, 3, 4, 5, 6, 7, 8, 9, 10, 11, 12, 13, 14] [0, 13, 14, 1, 2, 3, 4, 5, 6, 7, 8, 9, 10, 11, 12] rfl rfl rfl (by decide) rfl rfl (va_runV (As := []) (rest := [.int p1]) ⟨hx, hb, hml, hown, hta⟩ (c_X1_subpathCount l dC dI cI H.size a2 v2_0 u_1 hu_1) (cwV 0 hta (ga_V mA112 mA113 mA114 mA6 mA115) rfl rfl rfl (by decide +kernel) ⟨Nat.le_of_ble_eq_true rfl, Nat.le_of_ble_eq_true rfl⟩) ⟨q_fb, va_recv hK hP (ci := 1) (q0 := 1) rfl rfl, q_ps hPc hK hDc⟩ rfl rfl hl.1 rfl (lv_room (Nat.le_of_ble_eq_true rfl)) dX11_pointAt_5 ⟨Nat.zero_le _, Nat.zero_le _⟩) (fun H locs hP hD hS => ?_)
  refine obx_elim hF (fun x_3 hx_3 hF => ?_) (fun u_2 hu_2 hF => ?_)
  · obtain rfl := Sum.inr.inj (Option.some.inj hF)
    have hPc := hP.sub (ws' := ([] : va_W)) [] rfl
    have hDc := hD.sub (ws' := ([] : va_W)) [] rfl rfl
    refine qx_thr (kd := x_3) hP hD hK hS hA hxt hlocks (vx_runS (As := [.int p1, .int u_1]) (rest := []) ⟨hx, hb, hml, hown, hta⟩ (c_X11_checkIndex_x l hlt S dC dI cI H.size p1 u_1 x_3 hx_3) (va_cwS 2 hta (ga_S mA244 mA245 mA108 mA246) rfl rfl rfl (by decide +kernel) ⟨Nat.le_of_ble_eq_true rfl, Nat.le_of_ble_eq_true rfl⟩) ⟨qx_fb, qx_ps hPc hK hDc hE hS (va_free (wc := ([] : va_W)) hD hS hA [] rfl)⟩ rfl rfl hl.1 rfl (lv_room (Nat.le_of_ble_eq_true rfl)) dX11_pointAt_8 ⟨Nat.le_of_ble_eq_true rfl, Nat.le_of_ble_eq_true rfl⟩) (fun t hP hK hF9 => ⟨(), trivial, ⟨rfl, hP, hK, hD⟩, hF9⟩) (Nat.le_of_ble_eq_true rfl) (Nat.le_of_ble_eq_true rfl)
  have hPc := hP.sub (ws' := ([] : va_W)) [] rfl
  have hDc := hD.sub (ws' := ([] : va_W)) [] rfl rfl
  refine q_callv (wc := ([] : va_W)) (w1 := ([] : va_W)) (ws' := (wd_X11_pointAt cI a0 a1 a2 a3 a4 a5 a6 a7 a8 a9 a10 v2_0 v5_3 v5_4 v5_5 v5_6 v5_7 v8_10 v8_0 v8_1 v8_2 v8_3 v8_4 v8_5 v8_6 v8_7 v8_8 v8_9)) hP hD hS hA [] [0, 1, 2, 3, 4, 5, 6, 7, 8, 9, 10, 11, 12, 13, 14] [0, 1, 2, 3, 4, 5, 6, 7, 8, 9, 10, 11, 12, 13, 14] rfl rfl rfl (by decide) rfl rfl (va_runS (As := [.int p1, .int u_1]) (rest := []) ⟨hx, hb, hml, hown, hta⟩ (c_X11_checkIndex l dC dI cI H.size p1 u_1 u_2 hu_2) (va_cwS 2 hta (ga_S mA244 mA245 mA108 mA246) rfl rfl rfl (by decide +kernel) ⟨Nat.le_of_ble_eq_true rfl, Nat.le_of_ble_eq_true rfl⟩) ⟨q_fb, q_ps hPc hK hDc⟩ rfl rfl hl.1 rfl (lv_room (Nat.le_of_ble_eq_true rfl)) dX11_pointAt_8 ⟨Nat.zero_le _, Nat.zero_le _⟩) (fun H locs hP hD hS => ?_)
  refine lv_aload_n hx hb dX11_pointAt_11 rfl (lv_at hl 0 rfl) ?_
  refine va_get (D := (dC, dI)) (ci := 10) (v := .ref (a5 0)) (C := RX11) (T := TX11) (N := 7) hx hb hta uw_X11 hown hK hP 0 rfl rfl 5 (by decide) (hta _ mA24) (fun _ h9 => h9) rfl dX11_pointAt_12 ?_
  refine lv_aload_n hx hb dX11_pointAt_15 rfl (lv_at hl 0 rfl) ?_
  refine va_get (D := (dC, dI)) (ci := 10) (v := .ref (a2 0)) (C := RX11) (T := TX11) (N := 7) hx hb hta uw_X11 hown hK hP 0 rfl rfl 0 (by decide) (hta _ mA7) (fun _ h9 => h9) rfl dX11_pointAt_16 ?_
  obtain ⟨u_4, hu_4, hF⟩ := obd_some hF
  have hPc := hP.sub (ws' := (wd_X10_measured cI a5 a6 a7 a8 a2 v5_3 v5_4 v5_5 v5_6 v5_7 v8_10 v8_0 v8_1 v8_2 v8_3 v8_4 v8_5 v8_6 v8_7 v8_8 v8_9 v2_0)) [3, 4, 5, 6, 7, 8, 9, 10, 11, 12, 13, 14, 1, 2] rfl
  have hDc := hD.sub (ws' := (wd_X10_measured cI a5 a6 a7 a8 a2 v5_3 v5_4 v5_5 v5_6 v5_7 v8_10 v8_0 v8_1 v8_2 v8_3 v8_4 v8_5 v8_6 v8_7 v8_8 v8_9 v2_0)) [3, 4, 5, 6, 7, 8, 9, 10, 11, 12, 13, 14, 1, 2] rfl rfl
  refine q_callr (wc := (wd_X10_measured cI a5 a6 a7 a8 a2 v5_3 v5_4 v5_5 v5_6 v5_7 v8_10 v8_0 v8_1 v8_2 v8_3 v8_4 v8_5 v8_6 v8_7 v8_8 v8_9 v2_0)) (w1 := (wd_X10_measured cI a5 a6 a7 a8 a2 u_4.1 v5_4 v5_5 v5_6 v5_7 u_4.2.1 u_4.2.2.1 u_4.2.2.2.1 u_4.2.2.2.2.1 u_4.2.2.2.2.2.1 u_4.2.2.2.2.2.2.1 u_4.2.2.2.2.2.2.2.1 u_4.2.2.2.2.2.2.2.2.1 u_4.2.2.2.2.2.2.2.2.2.1 u_4.2.2.2.2.2.2.2.2.2.2.1 u_4.2.2.2.2.2.2.2.2.2.2.2 v2_0)) (ws' := (wd_X11_pointAt cI a0 a1 a2 a3 a4 a5 a6 a7 a8 a9 a10 v2_0 u_4.1 v5_4 v5_5 v5_6 v5_7 u_4.2.1 u_4.2.2.1 u_4.2.2.2.1 u_4.2.2.2.2.1 u_4.2.2.2.2.2.1 u_4.2.2.2.2.2.2.1 u_4.2.2.2.2.2.2.2.1 u_4.2.2.2.2.2.2.2.2.1 u_4.2.2.2.2.2.2.2.2.2.1 u_4.2.2.2.2.2.2.2.2.2.2.1 u_4.2.2.2.2.2.2.2.2.2.2.2)) hP hD hS hA [3, 4, 5, 6, 7, 8, 9, 10, 11, 12, 13, 14, 1, 2] [0] [0, 13, 14, 1, 2, 3, 4, 5, 6, 7, 8, 9, 10, 11, 12] rfl rfl rfl (by decide) rfl rfl (va_runV (As := [.ref (a2 0)]) (rest := []) ⟨hx, hb, hml, hown, hta⟩ (c_X10_measured l dC dI cI H.size a5 a6 a7 a8 a2 v5_3 v5_4 v5_5 v5_6 v5_7 v8_10 v8_0 v8_1 v8_2 v8_3 v8_4 v8_5 v8_6 v8_7 v8_8 v8_9 v2_0 n u_4 hu_4) (cwV 1 hta (ga_V mA192 mA193 mA194 mA23 mA195) rfl rfl rfl (by decide +kernel) ⟨Nat.le_of_ble_eq_true rfl, Nat.le_of_ble_eq_true rfl⟩) ⟨q_fb, va_recv hK hP (ci := 9) (q0 := 3) rfl rfl, q_ps hPc hK hDc⟩ rfl rfl hl.1 rfl (lv_room (Nat.le_of_ble_eq_true rfl)) dX11_pointAt_19 ⟨Nat.zero_le _, Nat.zero_le _⟩) (fun H locs hP hD hS => ?_)
  refine lv_astore (lv' := [(4, .ref (a8 0)), (0, .ref (a0 0)), (1, .int p1), (2, .int p2), (3, .int p3)]) hx hb dX11_pointAt_22 hl (by decide) rfl (fun ls hl => ?_)
  refine lv_iload_n hx hb dX11_pointAt_24 rfl (lv_at hl 3 rfl) ?_
  refine lv_iconst (v := 0) hx hb dX11_pointAt_25 (by decide) ?_
  refine lv_aload hx hb dX11_pointAt_26 (lv_at hl 0 rfl) ?_
  refine lv_iload_n hx hb dX11_pointAt_28 rfl (lv_at hl 2 rfl) ?_
  obtain ⟨u_5, hu_5, hF⟩ := obd_some hF
  have hPc := hP.sub (ws' := (wd_X9_lengthOf cI a8 u_4.2.1 u_4.2.2.1 u_4.2.2.2.2.2.2.2.1)) [4, 5, 10] rfl
  have hDc := hD.sub (ws' := (wd_X9_lengthOf cI a8 u_4.2.1 u_4.2.2.1 u_4.2.2.2.2.2.2.2.1)) [4, 5, 10] rfl rfl
  refine q_calli (wc := (wd_X9_lengthOf cI a8 u_4.2.1 u_4.2.2.1 u_4.2.2.2.2.2.2.2.1)) (w1 := (wd_X9_lengthOf cI a8 u_4.2.1 u_4.2.2.1 u_4.2.2.2.2.2.2.2.1)) (ws' := (wd_X11_pointAt cI a0 a1 a2 a3 a4 a5 a6 a7 a8 a9 a10 v2_0 u_4.1 v5_4 v5_5 v5_6 v5_7 u_4.2.1 u_4.2.2.1 u_4.2.2.2.1 u_4.2.2.2.2.1 u_4.2.2.2.2.2.1 u_4.2.2.2.2.2.2.1 u_4.2.2.2.2.2.2.2.1 u_4.2.2.2.2.2.2.2.2.1 u_4.2.2.2.2.2.2.2.2.2.1 u_4.2.2.2.2.2.2.2.2.2.2.1 u_4.2.2.2.2.2.2.2.2.2.2.2)) hP hD hS hA [4, 5, 10] [0, 1, 2, 3, 6, 7, 8, 9, 11, 12, 13, 14] [0, 1, 2, 3, 12, 13, 4, 5, 6, 7, 14, 8, 9, 10, 11] rfl rfl rfl (by decide) rfl rfl (va_runV (As := [.int p1]) (rest := [.int 0, .int p2]) ⟨hx, hb, hml, hown, hta⟩ (c_X9_lengthOf l dC dI cI H.size a8 u_4.2.1 u_4.2.2.1 u_4.2.2.2.2.2.2.2.1 p1 n u_5 hu_5) (cwV 1 hta (ga_V mA313 mA314 mA315 mA52 mA316) rfl rfl rfl (by decide +kernel) ⟨Nat.le_of_ble_eq_true rfl, Nat.le_of_ble_eq_true rfl⟩) ⟨q_fb, va_recv hK hP (ci := 8) (q0 := 4) rfl rfl, q_ps hPc hK hDc⟩ rfl rfl hl.1 rfl (lv_room (Nat.le_of_ble_eq_true rfl)) dX11_pointAt_29 ⟨Nat.zero_le _, Nat.zero_le _⟩) (fun H locs hP hD hS => ?_)
  refine obx_elim hF (fun x_7 hx_7 hF => ?_) (fun u_6 hu_6 hF => ?_)
  · obtain rfl := Sum.inr.inj (Option.some.inj hF)
    have hPc := hP.sub (ws' := ([] : va_W)) [] rfl
    have hDc := hD.sub (ws' := ([] : va_W)) [] rfl rfl
    refine qx_thr (kd := x_7) hP hD hK hS hA hxt hlocks (vx_runS (As := [.int p2, .int 0, .int u_5]) (rest := []) ⟨hx, hb, hml, hown, hta⟩ (c_X11_checkRange_x l hlt S dC dI cI H.size p2 0 u_5 x_7 hx_7) (va_cwS 3 hta (ga_S mA106 mA107 mA108 mA109) rfl rfl rfl (by decide +kernel) ⟨Nat.le_of_ble_eq_true rfl, Nat.le_of_ble_eq_true rfl⟩) ⟨qx_fb, qx_ps hPc hK hDc hE hS (va_free (wc := ([] : va_W)) hD hS hA [] rfl)⟩ rfl rfl hl.1 rfl (lv_room (Nat.le_of_ble_eq_true rfl)) dX11_pointAt_32 ⟨Nat.le_of_ble_eq_true rfl, Nat.le_of_ble_eq_true rfl⟩) (fun t hP hK hF9 => ⟨(), trivial, ⟨rfl, hP, hK, hD⟩, hF9⟩) (Nat.le_of_ble_eq_true rfl) (Nat.le_of_ble_eq_true rfl)
  have hPc := hP.sub (ws' := ([] : va_W)) [] rfl
  have hDc := hD.sub (ws' := ([] : va_W)) [] rfl rfl
  refine q_callv (wc := ([] : va_W)) (w1 := ([] : va_W)) (ws' := (wd_X11_pointAt cI a0 a1 a2 a3 a4 a5 a6 a7 a8 a9 a10 v2_0 u_4.1 v5_4 v5_5 v5_6 v5_7 u_4.2.1 u_4.2.2.1 u_4.2.2.2.1 u_4.2.2.2.2.1 u_4.2.2.2.2.2.1 u_4.2.2.2.2.2.2.1 u_4.2.2.2.2.2.2.2.1 u_4.2.2.2.2.2.2.2.2.1 u_4.2.2.2.2.2.2.2.2.2.1 u_4.2.2.2.2.2.2.2.2.2.2.1 u_4.2.2.2.2.2.2.2.2.2.2.2)) hP hD hS hA [] [0, 1, 2, 3, 4, 5, 6, 7, 8, 9, 10, 11, 12, 13, 14] [0, 1, 2, 3, 4, 5, 6, 7, 8, 9, 10, 11, 12, 13, 14] rfl rfl rfl (by decide) rfl rfl (va_runS (As := [.int p2, .int 0, .int u_5]) (rest := []) ⟨hx, hb, hml, hown, hta⟩ (c_X11_checkRange l dC dI cI H.size p2 0 u_5 u_6 hu_6) (va_cwS 3 hta (ga_S mA106 mA107 mA108 mA109) rfl rfl rfl (by decide +kernel) ⟨Nat.le_of_ble_eq_true rfl, Nat.le_of_ble_eq_true rfl⟩) ⟨q_fb, q_ps hPc hK hDc⟩ rfl rfl hl.1 rfl (lv_room (Nat.le_of_ble_eq_true rfl)) dX11_pointAt_32 ⟨Nat.zero_le _, Nat.zero_le _⟩) (fun H locs hP hD hS => ?_)
  refine lv_aload hx hb dX11_pointAt_35 (lv_at hl 0 rfl) ?_
  refine lv_iload_n hx hb dX11_pointAt_37 rfl (lv_at hl 2 rfl) ?_
  refine lv_iload_n hx hb dX11_pointAt_38 rfl (lv_at hl 3 rfl) ?_
  obtain ⟨u_8, hu_8, hF⟩ := obd_some hF
  have hPc := hP.sub (ws' := (wd_X9_segmentAt cI a8 u_4.2.1 u_4.2.2.1 u_4.2.2.2.2.2.2.2.1)) [4, 5, 10] rfl
  have hDc := hD.sub (ws' := (wd_X9_segmentAt cI a8 u_4.2.1 u_4.2.2.1 u_4.2.2.2.2.2.2.2.1)) [4, 5, 10] rfl rfl
  refine q_calli (wc := (wd_X9_segmentAt cI a8 u_4.2.1 u_4.2.2.1 u_4.2.2.2.2.2.2.2.1)) (w1 := (wd_X9_segmentAt cI a8 u_4.2.1 u_4.2.2.1 u_4.2.2.2.2.2.2.2.1)) (ws' := (wd_X11_pointAt cI a0 a1 a2 a3 a4 a5 a6 a7 a8 a9 a10 v2_0 u_4.1 v5_4 v5_5 v5_6 v5_7 u_4.2.1 u_4.2.2.1 u_4.2.2.2.1 u_4.2.2.2.2.1 u_4.2.2.2.2.2.1 u_4.2.2.2.2.2.2.1 u_4.2.2.2.2.2.2.2.1 u_4.2.2.2.2.2.2.2.2.1 u_4.2.2.2.2.2.2.2.2.2.1 u_4.2.2.2.2.2.2.2.2.2.2.1 u_4.2.2.2.2.2.2.2.2.2.2.2)) hP hD hS hA [4, 5, 10] [0, 1, 2, 3, 6, 7, 8, 9, 11, 12, 13, 14] [0, 1, 2, 3, 12, 13, 4, 5, 6, 7, 14, 8, 9, 10, 11] rfl rfl rfl (by decide) rfl rfl (va_runV (As := [.int p1, .int p2]) (rest := []) ⟨hx, hb, hml, hown, hta⟩ (c_X9_segmentAt l dC dI cI H.size a8 u_4.2.1 u_4.2.2.1 u_4.2.2.2.2.2.2.2.1 p1 p2 n u_8 hu_8) (cwV 2 hta (ga_V mA325 mA326 mA327 mA52 mA328) rfl rfl rfl (by decide +kernel) ⟨Nat.le_of_ble_eq_true rfl, Nat.le_of_ble_eq_true rfl⟩) ⟨q_fb, va_recv hK hP (ci := 8) (q0 := 4) rfl rfl, q_ps hPc hK hDc⟩ rfl rfl hl.1 rfl (lv_room (Nat.le_of_ble_eq_true rfl)) dX11_pointAt_39 ⟨Nat.zero_le _, Nat.zero_le _⟩) (fun H locs hP hD hS => ?_)
  refine lv_istore (lv' := [(5, .int u_8), (4, .ref (a8 0)), (0, .ref (a0 0)), (1, .int p1), (2, .int p2), (3, .int p3)]) hx hb dX11_pointAt_42 hl (by decide) rfl (fun ls hl => ?_)
  refine lv_iload hx hb dX11_pointAt_44 (lv_at hl 0 rfl) ?_
  refine lv_iconst (v := (-1)) hx hb dX11_pointAt_46 (by decide) ?_
  refine lv_icmp_ne (tgt := 79) hx hb dX11_pointAt_47 (by decide) (fun c_9 => ?_) (fun c_9 => ?_)
  · have hF := it_f hF c_9
    refine lv_iload_n hx hb dX11_pointAt_79 rfl (lv_at hl 4 rfl) ?_
    refine lv_aload hx hb dX11_pointAt_80 (lv_at hl 1 rfl) ?_
    refine lv_iload_n hx hb dX11_pointAt_82 rfl (lv_at hl 3 rfl) ?_
    refine lv_iload hx hb dX11_pointAt_83 (lv_at hl 0 rfl) ?_
    obtain ⟨u_10, hu_10, hF⟩ := obd_some hF
    have hPc := hP.sub (ws' := (wd_X9_startOf cI a8 u_4.2.1 u_4.2.2.1 u_4.2.2.2.2.2.2.2.1)) [4, 5, 10] rfl
    have hDc := hD.sub (ws' := (wd_X9_startOf cI a8 u_4.2.1 u_4.2.2.1 u_4.2.2.2.2.2.2.2.1)) [4, 5, 10] rfl rfl
    refine q_calli (wc := (wd_X9_startOf cI a8 u_4.2.1 u_4.2.2.1 u_4.2.2.2.2.2.2.2.1)) (w1 := (wd_X9_startOf cI a8 u_4.2.1 u_4.2.2.1 u_4.2.2.2.2.2.2.2.1)) (ws' := (wd_X11_pointAt cI a0 a1 a2 a3 a4 a5 a6 a7 a8 a9 a10 v2_0 u_4.1 v5_4 v5_5 v5_6 v5_7 u_4.2.1 u_4.2.2.1 u_4.2.2.2.1 u_4.2.2.2.2.1 u_4.2.2.2.2.2.1 u_4.2.2.2.2.2.2.1 u_4.2.2.2.2.2.2.2.1 u_4.2.2.2.2.2.2.2.2.1 u_4.2.2.2.2.2.2.2.2.2.1 u_4.2.2.2.2.2.2.2.2.2.2.1 u_4.2.2.2.2.2.2.2.2.2.2.2)) hP hD hS hA [4, 5, 10] [0, 1, 2, 3, 6, 7, 8, 9, 11, 12, 13, 14] [0, 1, 2, 3, 12, 13, 4, 5, 6, 7, 14, 8, 9, 10, 11] rfl rfl rfl (by decide) rfl rfl (va_runV (As := [.int p1, .int u_8]) (rest := [.int p2]) ⟨hx, hb, hml, hown, hta⟩ (c_X9_startOf l dC dI cI H.size a8 u_4.2.1 u_4.2.2.1 u_4.2.2.2.2.2.2.2.1 p1 u_8 n u_10 hu_10) (cwV 2 hta (ga_V mA333 mA318 mA319 mA52 mA320) rfl rfl rfl (by decide +kernel) ⟨Nat.le_of_ble_eq_true rfl, Nat.le_of_ble_eq_true rfl⟩) ⟨q_fb, va_recv hK hP (ci := 8) (q0 := 4) rfl rfl, q_ps hPc hK hDc⟩ rfl rfl hl.1 rfl (lv_room (Nat.le_of_ble_eq_true rfl)) dX11_pointAt_85 ⟨Nat.zero_le _, Nat.zero_le _⟩) (fun H locs hP hD hS => ?_)
    refine lv_isub hx hb dX11_pointAt_88 ?_
    obtain ⟨y_11, ey_11, hF⟩ := lt_some hF
    refine lv_eqi ey_11 ?_
    refine lv_istore (lv' := [(6, .int y_11), (5, .int u_8), (4, .ref (a8 0)), (0, .ref (a0 0)), (1, .int p1), (2, .int p2), (3, .int p3)]) hx hb dX11_pointAt_89 hl (by decide) rfl (fun ls hl => ?_)
    refine lv_iload_n hx hb dX11_pointAt_91 rfl (lv_at hl 6 rfl) ?_
    refine lv_if_eq (tgt := 107) hx hb dX11_pointAt_92 (by decide) (fun c_12 => ?_) (fun c_12 => ?_)
    · have hF := it_t hF c_12
      refine lv_aload hx hb dX11_pointAt_107 (lv_at hl 2 rfl) ?_
      refine lv_iload hx hb dX11_pointAt_109 (lv_at hl 1 rfl) ?_
      refine lv_iload hx hb dX11_pointAt_111 (lv_at hl 0 rfl) ?_
      obtain ⟨u_13, hu_13, hF⟩ := obd_some hF
      have hPc := hP.sub (ws' := (wd_X9_xAt cI a8 u_4.2.1 u_4.2.2.2.1 u_4.2.2.2.2.2.1 u_4.2.2.2.2.2.2.2.1)) [4, 6, 8, 10] rfl
      have hDc := hD.sub (ws' := (wd_X9_xAt cI a8 u_4.2.1 u_4.2.2.2.1 u_4.2.2.2.2.2.1 u_4.2.2.2.2.2.2.2.1)) [4, 6, 8, 10] rfl rfl
      refine q_calli (wc := (wd_X9_xAt cI a8 u_4.2.1 u_4.2.2.2.1 u_4.2.2.2.2.2.1 u_4.2.2.2.2.2.2.2.1)) (w1 := (wd_X9_xAt cI a8 u_4.2.1 u_4.2.2.2.1 u_4.2.2.2.2.2.1 u_4.2.2.2.2.2.2.2.1)) (ws' := (wd_X11_pointAt cI a0 a1 a2 a3 a4 a5 a6 a7 a8 a9 a10 v2_0 u_4.1 v5_4 v5_5 v5_6 v5_7 u_4.2.1 u_4.2.2.1 u_4.2.2.2.1 u_4.2.2.2.2.1 u_4.2.2.2.2.2.1 u_4.2.2.2.2.2.2.1 u_4.2.2.2.2.2.2.2.1 u_4.2.2.2.2.2.2.2.2.1 u_4.2.2.2.2.2.2.2.2.2.1 u_4.2.2.2.2.2.2.2.2.2.2.1 u_4.2.2.2.2.2.2.2.2.2.2.2)) hP hD hS hA [4, 6, 8, 10] [0, 1, 2, 3, 5, 7, 9, 11, 12, 13, 14] [0, 1, 2, 3, 11, 4, 12, 5, 13, 6, 14, 7, 8, 9, 10] rfl rfl rfl (by decide) rfl rfl (va_runV (As := [.int u_8, .int y_11]) (rest := []) ⟨hx, hb, hml, hown, hta⟩ (c_X9_xAt l dC dI cI H.size a8 u_4.2.1 u_4.2.2.2.1 u_4.2.2.2.2.2.1 u_4.2.2.2.2.2.2.2.1 u_8 y_11 u_13 hu_13) (cwV 2 hta (ga_V mA339 mA340 mA341 mA52 mA342) rfl rfl rfl (by decide +kernel) ⟨Nat.le_of_ble_eq_true rfl, Nat.le_of_ble_eq_true rfl⟩) ⟨q_fb, va_recv hK hP (ci := 8) (q0 := 4) rfl rfl, q_ps hPc hK hDc⟩ rfl rfl hl.1 rfl (lv_room (Nat.le_of_ble_eq_true rfl)) dX11_pointAt_113 ⟨Nat.zero_le _, Nat.zero_le _⟩) (fun H locs hP hD hS => ?_)
      exact absurd hF no_lr
    · have hF := it_f hF c_12
      refine lv_aload hx hb dX11_pointAt_95 (lv_at hl 2 rfl) ?_
      refine lv_iload hx hb dX11_pointAt_97 (lv_at hl 1 rfl) ?_
      refine lv_iload hx hb dX11_pointAt_99 (lv_at hl 0 rfl) ?_
      obtain ⟨u_14, hu_14, hF⟩ := obd_some hF
      have hPc := hP.sub (ws' := (wd_X9_yAt cI a8 u_4.2.1 u_4.2.2.2.2.1 u_4.2.2.2.2.2.2.1 u_4.2.2.2.2.2.2.2.1)) [4, 7, 9, 10] rfl
      have hDc := hD.sub (ws' := (wd_X9_yAt cI a8 u_4.2.1 u_4.2.2.2.2.1 u_4.2.2.2.2.2.2.1 u_4.2.2.2.2.2.2.2.1)) [4, 7, 9, 10] rfl rfl
      refine q_calli (wc := (wd_X9_yAt cI a8 u_4.2.1 u_4.2.2.2.2.1 u_4.2.2.2.2.2.2.1 u_4.2.2.2.2.2.2.2.1)) (w1 := (wd_X9_yAt cI a8 u_4.2.1 u_4.2.2.2.2.1 u_4.2.2.2.2.2.2.1 u_4.2.2.2.2.2.2.2.1)) (ws' := (wd_X11_pointAt cI a0 a1 a2 a3 a4 a5 a6 a7 a8 a9 a10 v2_0 u_4.1 v5_4 v5_5 v5_6 v5_7 u_4.2.1 u_4.2.2.1 u_4.2.2.2.1 u_4.2.2.2.2.1 u_4.2.2.2.2.2.1 u_4.2.2.2.2.2.2.1 u_4.2.2.2.2.2.2.2.1 u_4.2.2.2.2.2.2.2.2.1 u_4.2.2.2.2.2.2.2.2.2.1 u_4.2.2.2.2.2.2.2.2.2.2.1 u_4.2.2.2.2.2.2.2.2.2.2.2)) hP hD hS hA [4, 7, 9, 10] [0, 1, 2, 3, 5, 6, 8, 11, 12, 13, 14] [0, 1, 2, 3, 11, 4, 5, 12, 6, 13, 14, 7, 8, 9, 10] rfl rfl rfl (by decide) rfl rfl (va_runV (As := [.int u_8, .int y_11]) (rest := []) ⟨hx, hb, hml, hown, hta⟩ (c_X9_yAt l dC dI cI H.size a8 u_4.2.1 u_4.2.2.2.2.1 u_4.2.2.2.2.2.2.1 u_4.2.2.2.2.2.2.2.1 u_8 y_11 u_14 hu_14) (cwV 2 hta (ga_V mA334 mA335 mA336 mA52 mA337) rfl rfl rfl (by decide +kernel) ⟨Nat.le_of_ble_eq_true rfl, Nat.le_of_ble_eq_true rfl⟩) ⟨q_fb, va_recv hK hP (ci := 8) (q0 := 4) rfl rfl, q_ps hPc hK hDc⟩ rfl rfl hl.1 rfl (lv_room (Nat.le_of_ble_eq_true rfl)) dX11_pointAt_101 ⟨Nat.zero_le _, Nat.zero_le _⟩) (fun H locs hP hD hS => ?_)
      refine lv_goto (tgt := 116) hx hb dX11_pointAt_104 (by decide) ?_
      exact absurd hF no_lr
  · have hF := it_t hF c_9
    refine lv_bipush (v := 64) hx hb dX11_pointAt_50 (by decide) ?_
    refine lv_iload_n hx hb dX11_pointAt_52 rfl (lv_at hl 5 rfl) ?_
    refine lv_if_eq (tgt := 68) hx hb dX11_pointAt_53 (by decide) (fun c_15 => ?_) (fun c_15 => ?_)
    · have hF := it_t hF c_15
      refine lv_aload_n hx hb dX11_pointAt_68 rfl (lv_at hl 2 rfl) ?_
      refine va_get (D := (dC, dI)) (ci := 10) (v := .ref (a2 0)) (C := RX11) (T := TX11) (N := 7) hx hb hta uw_X11 hown hK hP 0 rfl rfl 0 (by decide) (hta _ mA7) (fun _ h9 => h9) rfl dX11_pointAt_69 ?_
      refine lv_iload_n hx hb dX11_pointAt_72 rfl (lv_at hl 3 rfl) ?_
      refine lv_iconst (v := 0) hx hb dX11_pointAt_73 (by decide) ?_
      obtain ⟨u_16, hu_16, hF⟩ := obd_some hF
      have hPc := hP.sub (ws' := (wd_X1_xOf cI a2 v2_0)) [1, 2] rfl
      have hDc := hD.sub (ws' := (wd_X1_xOf cI a2 v2_0)) [1, 2] rfl rfl
      refine q_calli (wc := (wd_X1_xOf cI a2 v2_0)) (w1 := (wd_X1_xOf cI a2 v2_0)) (ws' := (wd_X11_pointAt cI a0 a1 a2 a3 a4 a5 a6 a7 a8 a9 a10 v2_0 u_4.1 v5_4 v5_5 v5_6 v5_7 u_4.2.1 u_4.2.2.1 u_4.2.2.2.1 u_4.2.2.2.2.1 u_4.2.2.2.2.2.1 u_4.2.2.2.2.2.2.1 u_4.2.2.2.2.2.2.2.1 u_4.2.2.2.2.2.2.2.2.1 u_4.2.2.2.2.2.2.2.2.2.1 u_4.2.2.2.2.2.2.2.2.2.2.1 u_4.2.2.2.2.2.2.2.2.2.2.2)) hP hD hS hA [1, 2] [0, 3, 4, 5, 6, 7, 8, 9, 10, 11, 12, 13, 14] [0, 13, 14, 1, 2, 3, 4, 5, 6, 7, 8, 9, 10, 11, 12] rfl rfl rfl (by decide) rfl rfl (va_runV (As := [.int p1, .int 0]) (rest := [.int 64]) ⟨hx, hb, hml, hown, hta⟩ (c_X1_xOf l dC dI cI H.size a2 v2_0 p1 0 u_16 hu_16) (cwV 2 hta (ga_V mA323 mA208 mA209 mA6 mA210) rfl rfl rfl (by decide +kernel) ⟨Nat.le_of_ble_eq_true rfl, Nat.le_of_ble_eq_true rfl⟩) ⟨q_fb, va_recv hK hP (ci := 1) (q0 := 1) rfl rfl, q_ps hPc hK hDc⟩ rfl rfl hl.1 rfl (lv_room (Nat.le_of_ble_eq_true rfl)) dX11_pointAt_74 ⟨Nat.zero_le _, Nat.zero_le _⟩) (fun H locs hP hD hS => ?_)
      exact j77 u_4.1 u_4.2.1 u_4.2.2.1 u_4.2.2.2.1 u_4.2.2.2.2.1 u_4.2.2.2.2.2.1 u_4.2.2.2.2.2.2.1 u_4.2.2.2.2.2.2.2.1 u_4.2.2.2.2.2.2.2.2.1 u_4.2.2.2.2.2.2.2.2.2.1 u_4.2.2.2.2.2.2.2.2.2.2.1 u_4.2.2.2.2.2.2.2.2.2.2.2 64 u_16 hF _ _ _ hP hD hS (lv_sub hl [] rfl)
    · have hF := it_f hF c_15
      refine lv_aload_n hx hb dX11_pointAt_56 rfl (lv_at hl 2 rfl) ?_
      refine va_get (D := (dC, dI)) (ci := 10) (v := .ref (a2 0)) (C := RX11) (T := TX11) (N := 7) hx hb hta uw_X11 hown hK hP 0 rfl rfl 0 (by decide) (hta _ mA7) (fun _ h9 => h9) rfl dX11_pointAt_57 ?_
      refine lv_iload_n hx hb dX11_pointAt_60 rfl (lv_at hl 3 rfl) ?_
      refine lv_iconst (v := 0) hx hb dX11_pointAt_61 (by decide) ?_
      obtain ⟨u_17, hu_17, hF⟩ := obd_some hF
      have hPc := hP.sub (ws' := (wd_X1_yOf cI a2 v2_0)) [1, 2] rfl
      have hDc := hD.sub (ws' := (wd_X1_yOf cI a2 v2_0)) [1, 2] rfl rfl
      refine q_calli (wc := (wd_X1_yOf cI a2 v2_0)) (w1 := (wd_X1_yOf cI a2 v2_0)) (ws' := (wd_X11_pointAt cI a0 a1 a2 a3 a4 a5 a6 a7 a8 a9 a10 v2_0 u_4.1 v5_4 v5_5 v5_6 v5_7 u_4.2.1 u_4.2.2.1 u_4.2.2.2.1 u_4.2.2.2.2.1 u_4.2.2.2.2.2.1 u_4.2.2.2.2.2.2.1 u_4.2.2.2.2.2.2.2.1 u_4.2.2.2.2.2.2.2.2.1 u_4.2.2.2.2.2.2.2.2.2.1 u_4.2.2.2.2.2.2.2.2.2.2.1 u_4.2.2.2.2.2.2.2.2.2.2.2)) hP hD hS hA [1, 2] [0, 3, 4, 5, 6, 7, 8, 9, 10, 11, 12, 13, 14] [0, 13, 14, 1, 2, 3, 4, 5, 6, 7, 8, 9, 10, 11, 12] rfl rfl rfl (by decide) rfl rfl (va_runV (As := [.int p1, .int 0]) (rest := [.int 64]) ⟨hx, hb, hml, hown, hta⟩ (c_X1_yOf l dC dI cI H.size a2 v2_0 p1 0 u_17 hu_17) (cwV 2 hta (ga_V mA322 mA212 mA213 mA6 mA214) rfl rfl rfl (by decide +kernel) ⟨Nat.le_of_ble_eq_true rfl, Nat.le_of_ble_eq_true rfl⟩) ⟨q_fb, va_recv hK hP (ci := 1) (q0 := 1) rfl rfl, q_ps hPc hK hDc⟩ rfl rfl hl.1 rfl (lv_room (Nat.le_of_ble_eq_true rfl)) dX11_pointAt_62 ⟨Nat.zero_le _, Nat.zero_le _⟩) (fun H locs hP hD hS => ?_)
      refine lv_goto (tgt := 77) hx hb dX11_pointAt_65 (by decide) ?_
      exact j77 u_4.1 u_4.2.1 u_4.2.2.1 u_4.2.2.2.1 u_4.2.2.2.2.1 u_4.2.2.2.2.2.1 u_4.2.2.2.2.2.2.1 u_4.2.2.2.2.2.2.2.1 u_4.2.2.2.2.2.2.2.2.1 u_4.2.2.2.2.2.2.2.2.2.1 u_4.2.2.2.2.2.2.2.2.2.2.1 u_4.2.2.2.2.2.2.2.2.2.2.2 64 u_17 hF _ _ _ hP hD hS (lv_sub hl [] rfl)
