-- StrokeOutlinerModel.laysCuts(I)V
def F_X12_laysCuts_j42 (n : Nat) (v0_12 : Int32) (v0_13 : Int32) (v0_21 : Int32) (v0_10 : Nat → Int32) (v0_11 : Nat → Int32) (v0_18 : Nat → Int32) (v0_19 : Nat → Int32) (v0_20 : Nat → Int32) (x2 : Int32) (t1 : Int32) (t2 : Int32) : Option (Int32 × (Nat → Int32) × (Nat → Int32) × (Nat → Int32)) :=
  obd (F_X12_cutsFrom n v0_12 v0_21 v0_10 v0_11 v0_18 v0_19 v0_20 t1 t2) (fun u_1 => if x2 ≤ v0_13 then some (u_1.1, u_1.2.1, u_1.2.2.1, u_1.2.2.2) else obd (F_X12_cutsFrom n v0_12 u_1.1 v0_10 v0_11 u_1.2.1 u_1.2.2.1 u_1.2.2.2 0 (x2 - v0_13)) (fun u_3 => some (u_3.1, u_3.2.1, u_3.2.2.1, u_3.2.2.2)))
def F_X12_laysCuts (n : Nat) (v0_12 : Int32) (v0_13 : Int32) (v0_10 : Nat → Int32) (v0_11 : Nat → Int32) (v0_14 : Nat → Int32) (v0_15 : Nat → Int32) (v0_18 : Nat → Int32) (v0_19 : Nat → Int32) (v0_20 : Nat → Int32) (p1 : Int32) : Option (Int32 × (Nat → Int32) × (Nat → Int32) × (Nat → Int32)) :=
  gd (decide (vpi p1 240)) (gd (decide (vpi p1 240)) (lt ((v0_14 p1.toNatClampNeg) + (v0_15 p1.toNatClampNeg)) (fun y_6 => gd (decide (vpi p1 240)) (if v0_13 ≤ y_6 then F_X12_laysCuts_j42 n v0_12 v0_13 0 v0_10 v0_11 v0_18 v0_19 v0_20 y_6 (v0_14 p1.toNatClampNeg) v0_13 else F_X12_laysCuts_j42 n v0_12 v0_13 0 v0_10 v0_11 v0_18 v0_19 v0_20 y_6 (v0_14 p1.toNatClampNeg) y_6))))
abbrev wd_X12_laysCuts (cI : ClassId) (a0 : Nat → Nat) (v0_2 : Int32) (v0_3 : Int32) (v0_5 : Int32) (v0_12 : Int32) (v0_13 : Int32) (v0_16 : Int32) (v0_17 : Int32) (v0_21 : Int32) (v0_23 : Int32) (v0_24 : Int32) (v0_25 : Int32) (v0_26 : Int32) (v0_29 : Int32) (v0_30 : Int64) (v0_10 : Nat → Int32) (v0_11 : Nat → Int32) (v0_14 : Nat → Int32) (v0_15 : Nat → Int32) (v0_18 : Nat → Int32) (v0_19 : Nat → Int32) (v0_20 : Nat → Int32) : va_W := [(a0 0, .inr (11, [.ref (a0 1), .ref (a0 2), .int v0_2, .int v0_3, .ref (a0 5), .int v0_5, .ref (a0 7), .ref (a0 8), .ref (a0 9), .ref (a0 10), .ref (a0 11), .ref (a0 12), .int v0_12, .int v0_13, .ref (a0 15), .ref (a0 16), .int v0_16, .int v0_17, .ref (a0 19), .ref (a0 20), .ref (a0 21), .int v0_21, .ref (a0 23), .int v0_23, .int v0_24, .int v0_25, .int v0_26, .ref (a0 28), .ref (a0 29), .int v0_29, .long v0_30])), (a0 11, .inl (cI, 8, .inl v0_10)), (a0 12, .inl (cI, 8, .inl v0_11)), (a0 15, .inl (cI, 240, .inl v0_14)), (a0 16, .inl (cI, 240, .inl v0_15)), (a0 19, .inl (cI, 20, .inl v0_18)), (a0 20, .inl (cI, 20, .inl v0_19)), (a0 21, .inl (cI, 20, .inl v0_20))]
abbrev wz_X12_laysCuts : List Cond := .code yX12_laysCuts cX12_laysCuts 3 none :: wALL
abbrev rm_X12_laysCuts : Room := { frames := 1, cells := 0, slots := 0, locals := 25 }
abbrev Q_X12_laysCuts (dC : Nat → ClassId) (dI : Nat → Nat → Nat) (cI : ClassId) (a0 : Nat → Nat) (v0_2 : Int32) (v0_3 : Int32) (v0_5 : Int32) (v0_12 : Int32) (v0_13 : Int32) (v0_16 : Int32) (v0_17 : Int32) (v0_23 : Int32) (v0_24 : Int32) (v0_25 : Int32) (v0_26 : Int32) (v0_29 : Int32) (v0_30 : Int64) (v0_10 : Nat → Int32) (v0_11 : Nat → Int32) (v0_14 : Nat → Int32) (v0_15 : Nat → Int32) (u : (Int32 × (Nat → Int32) × (Nat → Int32) × (Nat → Int32))) (A : Nat → Prop) : Array Value → State → Outcome → State → Prop := va_Qv (fun (_ : Unit) => True) (fun _ => q_at dC dI cI A (wd_X12_laysCuts cI a0 v0_2 v0_3 v0_5 v0_12 v0_13 v0_16 v0_17 u.1 v0_23 v0_24 v0_25 v0_26 v0_29 v0_30 v0_10 v0_11 v0_14 v0_15 u.2.1 u.2.2.1 u.2.2.2)) A
set_option maxHeartbeats 4000000 in
set_option maxRecDepth 100000 in
theorem c_X12_laysCuts (l : Launch) (dC : Nat → ClassId) (dI : Nat → Nat → Nat) (cI : ClassId) (sz : Nat) (a0 : Nat → Nat) (v0_2 : Int32) (v0_3 : Int32) (v0_5 : Int32) (v0_12 : Int32) (v0_13 : Int32) (v0_16 : Int32) (v0_17 : Int32) (v0_21 : Int32) (v0_23 : Int32) (v0_24 : Int32) (v0_25 : Int32) (v0_26 : Int32) (v0_29 : Int32) (v0_30 : Int64) (v0_10 : Nat → Int32) (v0_11 : Nat → Int32) (v0_14 : Nat → Int32) (v0_15 : Nat → Int32) (v0_18 : Nat → Int32) (v0_19 : Nat → Int32) (v0_20 : Nat → Int32) (p1 : Int32) (n : Nat) (u : (Int32 × (Nat → Int32) × (Nat → Int32) × (Nat → Int32))) (hF : F_X12_laysCuts n v0_12 v0_13 v0_10 v0_11 v0_14 v0_15 v0_18 v0_19 v0_20 p1 = some u) : Met l yX12_laysCuts wz_X12_laysCuts rm_X12_laysCuts (va_Pc [.ref (a0 0), .int p1] (q_pre dC dI cI (wd_X12_laysCuts cI a0 v0_2 v0_3 v0_5 v0_12 v0_13 v0_16 v0_17 v0_21 v0_23 v0_24 v0_25 v0_26 v0_29 v0_30 v0_10 v0_11 v0_14 v0_15 v0_18 v0_19 v0_20) sz)) (Q_X12_laysCuts dC dI cI a0 v0_2 v0_3 v0_5 v0_12 v0_13 v0_16 v0_17 v0_23 v0_24 v0_25 v0_26 v0_29 v0_30 v0_10 v0_11 v0_14 v0_15 u (va_A (wd_X12_laysCuts cI a0 v0_2 v0_3 v0_5 v0_12 v0_13 v0_16 v0_17 v0_21 v0_23 v0_24 v0_25 v0_26 v0_29 v0_30 v0_10 v0_11 v0_14 v0_15 v0_18 v0_19 v0_20) sz)) 0 0 (va_A (wd_X12_laysCuts cI a0 v0_2 v0_3 v0_5 v0_12 v0_13 v0_16 v0_17 v0_21 v0_23 v0_24 v0_25 v0_26 v0_29 v0_30 v0_10 v0_11 v0_14 v0_15 v0_18 v0_19 v0_20) sz) := by
  refine Met.ofW (cc := cX12_laysCuts) (maxL := 3) (ret := none) (by decide) rfl ?_
  intro p e s m args below meth c s₁ B hml hv
  obtain ⟨rfl, hsz, hP, hK, hD0⟩ := hv
  have hx := B.exec
  have hb := B.bytes
  have hr := B.returns
  have hts := atoms_spec (ws := wz_X12_laysCuts) B.pre
  have hta := wz_tl hts
  have hown : s.vm.findClass RX12 = some m.cls := findClass_of_methodNamed B.named
  have hlocks := B.notSynchronized
  subst hsz
  have hD := hD0.self (sz := s.heap.size)
  generalize hAe : va_A (wd_X12_laysCuts cI a0 v0_2 v0_3 v0_5 v0_12 v0_13 v0_16 v0_17 v0_21 v0_23 v0_24 v0_25 v0_26 v0_29 v0_30 v0_10 v0_11 v0_14 v0_15 v0_18 v0_19 v0_20) s.heap.size = A at hD ⊢
  have hA : ∀ q : Nat, s.heap.size ≤ q → A q := fun q h => by rw [← hAe]; exact Or.inr h
  have hS : va_S A s.heap s.heap [] := va_S.rf
  have hP : va_P (dC, dI) vwCl (wd_X12_laysCuts cI a0 v0_2 v0_3 v0_5 v0_12 v0_13 v0_16 v0_17 v0_21 v0_23 v0_24 v0_25 v0_26 v0_29 v0_30 v0_10 v0_11 v0_14 v0_15 v0_18 v0_19 v0_20) s.heap := hP
  have hl := lv_entry ([.ref (a0 0), .int p1]) (n := 3) (Nat.le_of_ble_eq_true rfl)
  rw [lg_entry_eq]
  generalize (lg_sl ([.ref (a0 0), .int p1]) ++ List.replicate (3 - (lg_sl ([.ref (a0 0), .int p1])).length) Slot.unset).toArray = ls at hl ⊢
  have hl : lv_has ls 3 [(0, .ref (a0 0)), (1, .int p1)] := hl
  obtain ⟨H, hHe⟩ : ∃ H, H = s.heap := ⟨_, rfl⟩
  have hS : va_S A s.heap H [] := by rw [hHe]; exact hS
  have hP : va_P (dC, dI) vwCl (wd_X12_laysCuts cI a0 v0_2 v0_3 v0_5 v0_12 v0_13 v0_16 v0_17 v0_21 v0_23 v0_24 v0_25 v0_26 v0_29 v0_30 v0_10 v0_11 v0_14 v0_15 v0_18 v0_19 v0_20) H := by rw [hHe]; exact hP
  rw [← hHe]
  unfold F_X12_laysCuts at hF
  have j42 : ∀ (v0_21 : Int32) (v0_18 : Nat → Int32) (v0_19 : Nat → Int32) (v0_20 : Nat → Int32) (x2 : Int32) (t1 : Int32) (t2 : Int32), F_X12_laysCuts_j42 n v0_12 v0_13 v0_21 v0_10 v0_11 v0_18 v0_19 v0_20 x2 t1 t2 = some u → ∀ (H : Heap) (locs : List Loc) (ls : Array Slot), va_P (dC, dI) vwCl (wd_X12_laysCuts cI a0 v0_2 v0_3 v0_5 v0_12 v0_13 v0_16 v0_17 v0_21 v0_23 v0_24 v0_25 v0_26 v0_29 v0_30 v0_10 v0_11 v0_14 v0_15 v0_18 v0_19 v0_20) H → va_D A (wd_X12_laysCuts cI a0 v0_2 v0_3 v0_5 v0_12 v0_13 v0_16 v0_17 v0_21 v0_23 v0_24 v0_25 v0_26 v0_29 v0_30 v0_10 v0_11 v0_14 v0_15 v0_18 v0_19 v0_20) → va_S A s.heap H locs → lv_has ls 3 [(0, .ref (a0 0)), (2, .int x2)] → W p l e (headSpec wz_X12_laysCuts rm_X12_laysCuts).room s m [.ref (a0 0), .int p1].toArray below meth c H locs 0 0 (MQ below (Q_X12_laysCuts dC dI cI a0 v0_2 v0_3 v0_5 v0_12 v0_13 v0_16 v0_17 v0_23 v0_24 v0_25 v0_26 v0_29 v0_30 v0_10 v0_11 v0_14 v0_15 u A) [.ref (a0 0), .int p1].toArray s 0 0 A) (F0 m 42 ls [.int t2, .int t1, .ref (a0 0)]) := by
    intro v0_21 v0_18 v0_19 v0_20 x2 t1 t2 hF H locs ls hP hD hS hl
    unfold F_X12_laysCuts_j42 at hF
    obtain ⟨u_1, hu_1, hF⟩ := obd_some hF
    have hPc := hP.sub (ws' := (wd_X12_cutsFrom cI a0 v0_2 v0_3 v0_5 v0_12 v0_13 v0_16 v0_17 v0_21 v0_23 v0_24 v0_25 v0_26 v0_29 v0_30 v0_10 v0_11 v0_18 v0_19 v0_20)) [0, 1, 2, 5, 6, 7] rfl
    have hDc := hD.sub (ws' := (wd_X12_cutsFrom cI a0 v0_2 v0_3 v0_5 v0_12 v0_13 v0_16 v0_17 v0_21 v0_23 v0_24 v0_25 v0_26 v0_29 v0_30 v0_10 v0_11 v0_18 v0_19 v0_20)) [0, 1, 2, 5, 6, 7] rfl rfl
    refine q_callv (wc := (wd_X12_cutsFrom cI a0 v0_2 v0_3 v0_5 v0_12 v0_13 v0_16 v0_17 v0_21 v0_23 v0_24 v0_25 v0_26 v0_29 v0_30 v0_10 v0_11 v0_18 v0_19 v0_20)) (w1 := (wd_X12_cutsFrom cI a0 v0_2 v0_3 v0_5 v0_12 v0_13 v0_16 v0_17 u_1.1 v0_23 v0_24 v0_25 v0_26 v0_29 v0_30 v0_10 v0_11 u_1.2.1 u_1.2.2.1 u_1.2.2.2)) (ws' := (wd_X12_laysCuts cI a0 v0_2 v0_3 v0_5 v0_12 v0_13 v0_16 v0_17 u_1.1 v0_23 v0_24 v0_25 v0_26 v0_29 v0_30 v0_10 v0_11 v0_14 v0_15 u_1.2.1 u_1.2.2.1 u_1.2.2.2)) hP hD hS hA [0, 1, 2, 5, 6, 7] [3, 4] [2, 3, 4, 0, 1, 5, 6, 7] rfl rfl rfl (by decide) rfl rfl (va_runV (As := [.int t1, .int t2]) (rest := []) ⟨hx, hb, hml, hown, hta⟩ (c_X12_cutsFrom l dC dI cI H.size a0 v0_2 v0_3 v0_5 v0_12 v0_13 v0_16 v0_17 v0_21 v0_23 v0_24 v0_25 v0_26 v0_29 v0_30 v0_10 v0_11 v0_18 v0_19 v0_20 t1 t2 n u_1 hu_1) (cwV 2 hta (ga_V mA935 mA936 mA937 mA814 mA932) rfl rfl rfl (by decide +kernel) ⟨Nat.le_of_ble_eq_true rfl, Nat.le_of_ble_eq_true rfl⟩) ⟨q_fb, va_recv hK hP (ci := 11) (q0 := 0) rfl rfl, q_ps hPc hK hDc⟩ rfl rfl hl.1 rfl (lv_room (Nat.le_of_ble_eq_true rfl)) dX12_laysCuts_42 ⟨Nat.zero_le _, Nat.zero_le _⟩) (fun H locs hP hD hS => ?_)
    refine lv_iload_n hx hb dX12_laysCuts_45 rfl (lv_at hl 1 rfl) ?_
    refine lv_aload_n hx hb dX12_laysCuts_46 rfl (lv_at hl 0 rfl) ?_
    refine va_get (D := (dC, dI)) (ci := 11) (v := .int v0_13) (C := RX12) (T := TX12) (N := 31) hx hb hta uw_X12 hown hK hP 0 rfl rfl 13 (by decide) (hta _ mA868) (fun _ h9 => h9) rfl dX12_laysCuts_47 ?_
    refine lv_icmp_le (tgt := 64) hx hb dX12_laysCuts_50 (by decide) (fun c_2 => ?_) (fun c_2 => ?_)
    · have hF := it_t hF c_2
      obtain rfl := Option.some.inj hF
      exact W.vret hx hb hr (fun t ht hW => ⟨⟨(), rfl, trivial, by rw [ht]; exact hP, va_K.moved hW.alike hK, hD⟩, hS.F ht⟩) hS.2.2 dX12_laysCuts_64
    · have hF := it_f hF c_2
      refine lv_aload_n hx hb dX12_laysCuts_53 rfl (lv_at hl 0 rfl) ?_
      refine lv_iconst (v := 0) hx hb dX12_laysCuts_54 (by decide) ?_
      refine lv_iload_n hx hb dX12_laysCuts_55 rfl (lv_at hl 1 rfl) ?_
      refine lv_aload_n hx hb dX12_laysCuts_56 rfl (lv_at hl 0 rfl) ?_
      refine va_get (D := (dC, dI)) (ci := 11) (v := .int v0_13) (C := RX12) (T := TX12) (N := 31) hx hb hta uw_X12 hown hK hP 0 rfl rfl 13 (by decide) (hta _ mA868) (fun _ h9 => h9) rfl dX12_laysCuts_57 ?_
      refine lv_isub hx hb dX12_laysCuts_60 ?_
      obtain ⟨u_3, hu_3, hF⟩ := obd_some hF
      have hPc := hP.sub (ws' := (wd_X12_cutsFrom cI a0 v0_2 v0_3 v0_5 v0_12 v0_13 v0_16 v0_17 u_1.1 v0_23 v0_24 v0_25 v0_26 v0_29 v0_30 v0_10 v0_11 u_1.2.1 u_1.2.2.1 u_1.2.2.2)) [0, 1, 2, 5, 6, 7] rfl
      have hDc := hD.sub (ws' := (wd_X12_cutsFrom cI a0 v0_2 v0_3 v0_5 v0_12 v0_13 v0_16 v0_17 u_1.1 v0_23 v0_24 v0_25 v0_26 v0_29 v0_30 v0_10 v0_11 u_1.2.1 u_1.2.2.1 u_1.2.2.2)) [0, 1, 2, 5, 6, 7] rfl rfl
      refine q_callv (wc := (wd_X12_cutsFrom cI a0 v0_2 v0_3 v0_5 v0_12 v0_13 v0_16 v0_17 u_1.1 v0_23 v0_24 v0_25 v0_26 v0_29 v0_30 v0_10 v0_11 u_1.2.1 u_1.2.2.1 u_1.2.2.2)) (w1 := (wd_X12_cutsFrom cI a0 v0_2 v0_3 v0_5 v0_12 v0_13 v0_16 v0_17 u_3.1 v0_23 v0_24 v0_25 v0_26 v0_29 v0_30 v0_10 v0_11 u_3.2.1 u_3.2.2.1 u_3.2.2.2)) (ws' := (wd_X12_laysCuts cI a0 v0_2 v0_3 v0_5 v0_12 v0_13 v0_16 v0_17 u_3.1 v0_23 v0_24 v0_25 v0_26 v0_29 v0_30 v0_10 v0_11 v0_14 v0_15 u_3.2.1 u_3.2.2.1 u_3.2.2.2)) hP hD hS hA [0, 1, 2, 5, 6, 7] [3, 4] [2, 3, 4, 0, 1, 5, 6, 7] rfl rfl rfl (by decide) rfl rfl (va_runV (As := [.int 0, .int (x2 - v0_13)]) (rest := []) ⟨hx, hb, hml, hown, hta⟩ (c_X12_cutsFrom l dC dI cI H.size a0 v0_2 v0_3 v0_5 v0_12 v0_13 v0_16 v0_17 u_1.1 v0_23 v0_24 v0_25 v0_26 v0_29 v0_30 v0_10 v0_11 u_1.2.1 u_1.2.2.1 u_1.2.2.2 0 (x2 - v0_13) n u_3 hu_3) (cwV 2 hta (ga_V mA935 mA936 mA937 mA814 mA932) rfl rfl rfl (by decide +kernel) ⟨Nat.le_of_ble_eq_true rfl, Nat.le_of_ble_eq_true rfl⟩) ⟨q_fb, va_recv hK hP (ci := 11) (q0 := 0) rfl rfl, q_ps hPc hK hDc⟩ rfl rfl hl.1 rfl (lv_room (Nat.le_of_ble_eq_true rfl)) dX12_laysCuts_61 ⟨Nat.zero_le _, Nat.zero_le _⟩) (fun H locs hP hD hS => ?_)
      obtain rfl := Option.some.inj hF
      exact W.vret hx hb hr (fun t ht hW => ⟨⟨(), rfl, trivial, by rw [ht]; exact hP, va_K.moved hW.alike hK, hD⟩, hS.F ht⟩) hS.2.2 dX12_laysCuts_64
  refine lv_aload_n hx hb dX12_laysCuts_0 rfl (lv_at hl 0 rfl) ?_
  refine lv_iconst (v := 0) hx hb dX12_laysCuts_1 (by decide) ?_
  refine va_put (D := (dC, dI)) (ci := 11) (v := .int 0) (ty := .int) (C := RX12) (T := TX12) (N := 31) hx hb hta uw_X12 tyX12 tyX12_ok nmX12 hown hK hP hD hS 0 rfl rfl 21 (by decide) (hta _ mA933) (fun _ h9 => h9) rfl (by decide +kernel) rfl rfl (Nat.le_of_ble_eq_true rfl) dX12_laysCuts_2 (fun H locs hP hD hS => ?_)
  have hP : va_P (dC, dI) vwCl (wd_X12_laysCuts cI a0 v0_2 v0_3 v0_5 v0_12 v0_13 v0_16 v0_17 0 v0_23 v0_24 v0_25 v0_26 v0_29 v0_30 v0_10 v0_11 v0_14 v0_15 v0_18 v0_19 v0_20) H := hP
  have hD : va_D A (wd_X12_laysCuts cI a0 v0_2 v0_3 v0_5 v0_12 v0_13 v0_16 v0_17 0 v0_23 v0_24 v0_25 v0_26 v0_29 v0_30 v0_10 v0_11 v0_14 v0_15 v0_18 v0_19 v0_20) := hD
  refine lv_aload_n hx hb dX12_laysCuts_5 rfl (lv_at hl 0 rfl) ?_
  refine va_get (D := (dC, dI)) (ci := 11) (v := .ref (a0 15)) (C := RX12) (T := TX12) (N := 31) hx hb hta uw_X12 hown hK hP 0 rfl rfl 14 (by decide) (hta _ mA799) (fun _ h9 => h9) rfl dX12_laysCuts_6 ?_
  refine lv_iload_n hx hb dX12_laysCuts_9 rfl (lv_at hl 1 rfl) ?_
  obtain ⟨g_4, hF⟩ := gd_some hF
  refine va_iald hx hb hK hP 3 0 rfl rfl (vpi_in g_4) dX12_laysCuts_10 ?_
  refine lv_aload_n hx hb dX12_laysCuts_11 rfl (lv_at hl 0 rfl) ?_
  refine va_get (D := (dC, dI)) (ci := 11) (v := .ref (a0 16)) (C := RX12) (T := TX12) (N := 31) hx hb hta uw_X12 hown hK hP 0 rfl rfl 15 (by decide) (hta _ mA800) (fun _ h9 => h9) rfl dX12_laysCuts_12 ?_
  refine lv_iload_n hx hb dX12_laysCuts_15 rfl (lv_at hl 1 rfl) ?_
  obtain ⟨g_5, hF⟩ := gd_some hF
  refine va_iald hx hb hK hP 4 0 rfl rfl (vpi_in g_5) dX12_laysCuts_16 ?_
  refine lv_iadd hx hb dX12_laysCuts_17 ?_
  obtain ⟨y_6, ey_6, hF⟩ := lt_some hF
  refine lv_eqi ey_6 ?_
  refine lv_istore_n (lv' := [(2, .int y_6), (0, .ref (a0 0)), (1, .int p1)]) hx hb dX12_laysCuts_18 rfl hl (by decide) rfl (fun ls hl => ?_)
  refine lv_aload_n hx hb dX12_laysCuts_19 rfl (lv_at hl 1 rfl) ?_
  refine lv_aload_n hx hb dX12_laysCuts_20 rfl (lv_at hl 1 rfl) ?_
  refine va_get (D := (dC, dI)) (ci := 11) (v := .ref (a0 15)) (C := RX12) (T := TX12) (N := 31) hx hb hta uw_X12 hown hK hP 0 rfl rfl 14 (by decide) (hta _ mA799) (fun _ h9 => h9) rfl dX12_laysCuts_21 ?_
  refine lv_iload_n hx hb dX12_laysCuts_24 rfl (lv_at hl 2 rfl) ?_
  obtain ⟨g_7, hF⟩ := gd_some hF
  refine va_iald hx hb hK hP 3 0 rfl rfl (vpi_in g_7) dX12_laysCuts_25 ?_
  refine lv_iload_n hx hb dX12_laysCuts_26 rfl (lv_at hl 0 rfl) ?_
  refine lv_aload_n hx hb dX12_laysCuts_27 rfl (lv_at hl 1 rfl) ?_
  refine va_get (D := (dC, dI)) (ci := 11) (v := .int v0_13) (C := RX12) (T := TX12) (N := 31) hx hb hta uw_X12 hown hK hP 0 rfl rfl 13 (by decide) (hta _ mA868) (fun _ h9 => h9) rfl dX12_laysCuts_28 ?_
  refine lv_icmp_ge (tgt := 38) hx hb dX12_laysCuts_31 (by decide) (fun c_8 => ?_) (fun c_8 => ?_)
  · have hF := it_t hF c_8
    refine lv_aload_n hx hb dX12_laysCuts_38 rfl (lv_at hl 1 rfl) ?_
    refine va_get (D := (dC, dI)) (ci := 11) (v := .int v0_13) (C := RX12) (T := TX12) (N := 31) hx hb hta uw_X12 hown hK hP 0 rfl rfl 13 (by decide) (hta _ mA868) (fun _ h9 => h9) rfl dX12_laysCuts_39 ?_
    exact j42 0 v0_18 v0_19 v0_20 y_6 (v0_14 p1.toNatClampNeg) v0_13 hF _ _ _ hP hD hS (lv_sub hl [1, 0] rfl)
  · have hF := it_f hF c_8
    refine lv_iload_n hx hb dX12_laysCuts_34 rfl (lv_at hl 0 rfl) ?_
    refine lv_goto (tgt := 42) hx hb dX12_laysCuts_35 (by decide) ?_
    exact j42 0 v0_18 v0_19 v0_20 y_6 (v0_14 p1.toNatClampNeg) y_6 hF _ _ _ hP hD hS (lv_sub hl [1, 0] rfl)

-- StrokeOutlinerModel.runs(I)I
def F_X12_runs_j14 (n : Nat) (v0_12 : Int32) (v0_13 : Int32) (v0_16 : Int32) (v0_17 : Int32) (v0_0 : Nat → Int32) (v0_6 : Nat → Int32) (v0_7 : Nat → Int32) (v0_8 : Nat → Int32) (v0_9 : Nat → Int32) (v0_10 : Nat → Int32) (v0_11 : Nat → Int32) (v0_14 : Nat → Int32) (v0_15 : Nat → Int32) (x1 : Int32) (t1 : Int32) : Option (Int32 × Int32 × Int32 × Int32 × Int32 × Int32 × (Nat → Int32) × (Nat → Int32) × (Nat → Int32) × (Nat → Int32) × (Nat → Int32) × (Nat → Int32) × (Nat → Int32) × (Nat → Int32)) :=
  lt (F_X12_refused t1) (fun u_1 => if u_1.1 = 0 then obd (F_X12_laysRuns n v0_12 v0_13 v0_0 v0_6 v0_7 v0_8 v0_9 v0_10 v0_11 v0_14 v0_15 x1) (fun u_3 => some (u_3.2.2.1, u_1.2, u_3.1, u_3.2.1, u_3.2.2.1, u_3.2.2.2.1, u_3.2.2.2.2.1, u_3.2.2.2.2.2.1, u_3.2.2.2.2.2.2.1, u_3.2.2.2.2.2.2.2.1, u_3.2.2.2.2.2.2.2.2.1, u_3.2.2.2.2.2.2.2.2.2.1, u_3.2.2.2.2.2.2.2.2.2.2.1, u_3.2.2.2.2.2.2.2.2.2.2.2)) else some (0, u_1.2, v0_12, v0_13, v0_16, v0_17, v0_6, v0_7, v0_8, v0_9, v0_10, v0_11, v0_14, v0_15))
def F_X12_runs (n : Nat) (v0_12 : Int32) (v0_13 : Int32) (v0_16 : Int32) (v0_17 : Int32) (v0_0 : Nat → Int32) (v0_6 : Nat → Int32) (v0_7 : Nat → Int32) (v0_8 : Nat → Int32) (v0_9 : Nat → Int32) (v0_10 : Nat → Int32) (v0_11 : Nat → Int32) (v0_14 : Nat → Int32) (v0_15 : Nat → Int32) (p1 : Int32) : Option (Int32 × Int32 × Int32 × Int32 × Int32 × Int32 × (Nat → Int32) × (Nat → Int32) × (Nat → Int32) × (Nat → Int32) × (Nat → Int32) × (Nat → Int32) × (Nat → Int32) × (Nat → Int32)) :=
  obd (F_X12_isSubpath v0_0 p1) (fun u_4 => if u_4 = 0 then F_X12_runs_j14 n v0_12 v0_13 v0_16 v0_17 v0_0 v0_6 v0_7 v0_8 v0_9 v0_10 v0_11 v0_14 v0_15 p1 1 else F_X12_runs_j14 n v0_12 v0_13 v0_16 v0_17 v0_0 v0_6 v0_7 v0_8 v0_9 v0_10 v0_11 v0_14 v0_15 p1 0)
abbrev wd_X12_runs (cI : ClassId) (a0 : Nat → Nat) (v0_2 : Int32) (v0_3 : Int32) (v0_5 : Int32) (v0_12 : Int32) (v0_13 : Int32) (v0_16 : Int32) (v0_17 : Int32) (v0_21 : Int32) (v0_23 : Int32) (v0_24 : Int32) (v0_25 : Int32) (v0_26 : Int32) (v0_29 : Int32) (v0_30 : Int64) (v0_0 : Nat → Int32) (v0_6 : Nat → Int32) (v0_7 : Nat → Int32) (v0_8 : Nat → Int32) (v0_9 : Nat → Int32) (v0_10 : Nat → Int32) (v0_11 : Nat → Int32) (v0_14 : Nat → Int32) (v0_15 : Nat → Int32) : va_W := [(a0 0, .inr (11, [.ref (a0 1), .ref (a0 2), .int v0_2, .int v0_3, .ref (a0 5), .int v0_5, .ref (a0 7), .ref (a0 8), .ref (a0 9), .ref (a0 10), .ref (a0 11), .ref (a0 12), .int v0_12, .int v0_13, .ref (a0 15), .ref (a0 16), .int v0_16, .int v0_17, .ref (a0 19), .ref (a0 20), .ref (a0 21), .int v0_21, .ref (a0 23), .int v0_23, .int v0_24, .int v0_25, .int v0_26, .ref (a0 28), .ref (a0 29), .int v0_29, .long v0_30])), (a0 1, .inl (cI, 86, .inl v0_0)), (a0 7, .inl (cI, 8, .inl v0_6)), (a0 8, .inl (cI, 8, .inl v0_7)), (a0 9, .inl (cI, 8, .inl v0_8)), (a0 10, .inl (cI, 8, .inl v0_9)), (a0 11, .inl (cI, 8, .inl v0_10)), (a0 12, .inl (cI, 8, .inl v0_11)), (a0 15, .inl (cI, 240, .inl v0_14)), (a0 16, .inl (cI, 240, .inl v0_15))]
abbrev wz_X12_runs : List Cond := .code yX12_runs cX12_runs 2 (some .int) :: wALL
abbrev rm_X12_runs : Room := { frames := 5, cells := 0, slots := 0, locals := 116 }
abbrev Q_X12_runs (dC : Nat → ClassId) (dI : Nat → Nat → Nat) (cI : ClassId) (a0 : Nat → Nat) (v0_2 : Int32) (v0_5 : Int32) (v0_21 : Int32) (v0_23 : Int32) (v0_24 : Int32) (v0_25 : Int32) (v0_26 : Int32) (v0_29 : Int32) (v0_30 : Int64) (v0_0 : Nat → Int32) (u : (Int32 × Int32 × Int32 × Int32 × Int32 × Int32 × (Nat → Int32) × (Nat → Int32) × (Nat → Int32) × (Nat → Int32) × (Nat → Int32) × (Nat → Int32) × (Nat → Int32) × (Nat → Int32))) (A : Nat → Prop) : Array Value → State → Outcome → State → Prop := va_Qi (fun (r : Int32) (_ : Unit) => r = u.1) (fun _ => q_at dC dI cI A (wd_X12_runs cI a0 v0_2 u.2.1 v0_5 u.2.2.1 u.2.2.2.1 u.2.2.2.2.1 u.2.2.2.2.2.1 v0_21 v0_23 v0_24 v0_25 v0_26 v0_29 v0_30 v0_0 u.2.2.2.2.2.2.1 u.2.2.2.2.2.2.2.1 u.2.2.2.2.2.2.2.2.1 u.2.2.2.2.2.2.2.2.2.1 u.2.2.2.2.2.2.2.2.2.2.1 u.2.2.2.2.2.2.2.2.2.2.2.1 u.2.2.2.2.2.2.2.2.2.2.2.2.1 u.2.2.2.2.2.2.2.2.2.2.2.2.2)) A
set_option maxHeartbeats 4000000 in
set_option maxRecDepth 100000 in
theorem c_X12_runs (l : Launch) (dC : Nat → ClassId) (dI : Nat → Nat → Nat) (cI : ClassId) (sz : Nat) (a0 : Nat → Nat) (v0_2 : Int32) (v0_3 : Int32) (v0_5 : Int32) (v0_12 : Int32) (v0_13 : Int32) (v0_16 : Int32) (v0_17 : Int32) (v0_21 : Int32) (v0_23 : Int32) (v0_24 : Int32) (v0_25 : Int32) (v0_26 : Int32) (v0_29 : Int32) (v0_30 : Int64) (v0_0 : Nat → Int32) (v0_6 : Nat → Int32) (v0_7 : Nat → Int32) (v0_8 : Nat → Int32) (v0_9 : Nat → Int32) (v0_10 : Nat → Int32) (v0_11 : Nat → Int32) (v0_14 : Nat → Int32) (v0_15 : Nat → Int32) (p1 : Int32) (n : Nat) (u : (Int32 × Int32 × Int32 × Int32 × Int32 × Int32 × (Nat → Int32) × (Nat → Int32) × (Nat → Int32) × (Nat → Int32) × (Nat → Int32) × (Nat → Int32) × (Nat → Int32) × (Nat → Int32))) (hF : F_X12_runs n v0_12 v0_13 v0_16 v0_17 v0_0 v0_6 v0_7 v0_8 v0_9 v0_10 v0_11 v0_14 v0_15 p1 = some u) : Met l yX12_runs wz_X12_runs rm_X12_runs (va_Pc [.ref (a0 0), .int p1] (q_pre dC dI cI (wd_X12_runs cI a0 v0_2 v0_3 v0_5 v0_12 v0_13 v0_16 v0_17 v0_21 v0_23 v0_24 v0_25 v0_26 v0_29 v0_30 v0_0 v0_6 v0_7 v0_8 v0_9 v0_10 v0_11 v0_14 v0_15) sz)) (Q_X12_runs dC dI cI a0 v0_2 v0_5 v0_21 v0_23 v0_24 v0_25 v0_26 v0_29 v0_30 v0_0 u (va_A (wd_X12_runs cI a0 v0_2 v0_3 v0_5 v0_12 v0_13 v0_16 v0_17 v0_21 v0_23 v0_24 v0_25 v0_26 v0_29 v0_30 v0_0 v0_6 v0_7 v0_8 v0_9 v0_10 v0_11 v0_14 v0_15) sz)) 0 0 (va_A (wd_X12_runs cI a0 v0_2 v0_3 v0_5 v0_12 v0_13 v0_16 v0_17 v0_21 v0_23 v0_24 v0_25 v0_26 v0_29 v0_30 v0_0 v0_6 v0_7 v0_8 v0_9 v0_10 v0_11 v0_14 v0_15) sz) := by
  refine Met.ofW (cc := cX12_runs) (maxL := 2) (ret := (some .int)) (by decide) rfl ?_
  intro p e s m args below meth c s₁ B hml hv
  obtain ⟨rfl, hsz, hP, hK, hD0⟩ := hv
  have hx := B.exec
  have hb := B.bytes
  have hr := B.returns
  have hts := atoms_spec (ws := wz_X12_runs) B.pre
  have hta := wz_tl hts
  have hown : s.vm.findClass RX12 = some m.cls := findClass_of_methodNamed B.named
  have hlocks := B.notSynchronized
  subst hsz
  have hD := hD0.self (sz := s.heap.size)
  generalize hAe : va_A (wd_X12_runs cI a0 v0_2 v0_3 v0_5 v0_12 v0_13 v0_16 v0_17 v0_21 v0_23 v0_24 v0_25 v0_26 v0_29 v0_30 v0_0 v0_6 v0_7 v0_8 v0_9 v0_10 v0_11 v0_14 v0_15) s.heap.size = A at hD ⊢
  have hA : ∀ q : Nat, s.heap.size ≤ q → A q := fun q h => by rw [← hAe]; exact Or.inr h
  have hS : va_S A s.heap s.heap [] := va_S.rf
  have hP : va_P (dC, dI) vwCl (wd_X12_runs cI a0 v0_2 v0_3 v0_5 v0_12 v0_13 v0_16 v0_17 v0_21 v0_23 v0_24 v0_25 v0_26 v0_29 v0_30 v0_0 v0_6 v0_7 v0_8 v0_9 v0_10 v0_11 v0_14 v0_15) s.heap := hP
  have hl := lv_entry ([.ref (a0 0), .int p1]) (n := 2) (Nat.le_of_ble_eq_true rfl)
  rw [lg_entry_eq]
  generalize (lg_sl ([.ref (a0 0), .int p1]) ++ List.replicate (2 - (lg_sl ([.ref (a0 0), .int p1])).length) Slot.unset).toArray = ls at hl ⊢
  have hl : lv_has ls 2 [(0, .ref (a0 0)), (1, .int p1)] := hl
  obtain ⟨H, hHe⟩ : ∃ H, H = s.heap := ⟨_, rfl⟩
  have hS : va_S A s.heap H [] := by rw [hHe]; exact hS
  have hP : va_P (dC, dI) vwCl (wd_X12_runs cI a0 v0_2 v0_3 v0_5 v0_12 v0_13 v0_16 v0_17 v0_21 v0_23 v0_24 v0_25 v0_26 v0_29 v0_30 v0_0 v0_6 v0_7 v0_8 v0_9 v0_10 v0_11 v0_14 v0_15) H := by rw [hHe]; exact hP
  rw [← hHe]
  unfold F_X12_runs at hF
  have j14 : ∀ (v0_3 : Int32) (v0_12 : Int32) (v0_13 : Int32) (v0_16 : Int32) (v0_17 : Int32) (v0_6 : Nat → Int32) (v0_7 : Nat → Int32) (v0_8 : Nat → Int32) (v0_9 : Nat → Int32) (v0_10 : Nat → Int32) (v0_11 : Nat → Int32) (v0_14 : Nat → Int32) (v0_15 : Nat → Int32) (x1 : Int32) (t1 : Int32), F_X12_runs_j14 n v0_12 v0_13 v0_16 v0_17 v0_0 v0_6 v0_7 v0_8 v0_9 v0_10 v0_11 v0_14 v0_15 x1 t1 = some u → ∀ (H : Heap) (locs : List Loc) (ls : Array Slot), va_P (dC, dI) vwCl (wd_X12_runs cI a0 v0_2 v0_3 v0_5 v0_12 v0_13 v0_16 v0_17 v0_21 v0_23 v0_24 v0_25 v0_26 v0_29 v0_30 v0_0 v0_6 v0_7 v0_8 v0_9 v0_10 v0_11 v0_14 v0_15) H → va_D A (wd_X12_runs cI a0 v0_2 v0_3 v0_5 v0_12 v0_13 v0_16 v0_17 v0_21 v0_23 v0_24 v0_25 v0_26 v0_29 v0_30 v0_0 v0_6 v0_7 v0_8 v0_9 v0_10 v0_11 v0_14 v0_15) → va_S A s.heap H locs → lv_has ls 2 [(0, .ref (a0 0)), (1, .int x1)] → W p l e (headSpec wz_X12_runs rm_X12_runs).room s m [.ref (a0 0), .int p1].toArray below meth c H locs 0 0 (MQ below (Q_X12_runs dC dI cI a0 v0_2 v0_5 v0_21 v0_23 v0_24 v0_25 v0_26 v0_29 v0_30 v0_0 u A) [.ref (a0 0), .int p1].toArray s 0 0 A) (F0 m 14 ls [.int t1, .ref (a0 0)]) := by
    intro v0_3 v0_12 v0_13 v0_16 v0_17 v0_6 v0_7 v0_8 v0_9 v0_10 v0_11 v0_14 v0_15 x1 t1 hF H locs ls hP hD hS hl
    unfold F_X12_runs_j14 at hF
    obtain ⟨u_1, hu_1, hF⟩ := lt_some hF
    have hPc := hP.sub (ws' := (wd_X12_refused cI a0 v0_2 v0_3 v0_5 v0_12 v0_13 v0_16 v0_17 v0_21 v0_23 v0_24 v0_25 v0_26 v0_29 v0_30)) [0] rfl
    have hDc := hD.sub (ws' := (wd_X12_refused cI a0 v0_2 v0_3 v0_5 v0_12 v0_13 v0_16 v0_17 v0_21 v0_23 v0_24 v0_25 v0_26 v0_29 v0_30)) [0] rfl rfl
    refine q_callz (wc := (wd_X12_refused cI a0 v0_2 v0_3 v0_5 v0_12 v0_13 v0_16 v0_17 v0_21 v0_23 v0_24 v0_25 v0_26 v0_29 v0_30)) (w1 := (wd_X12_refused cI a0 v0_2 u_1.2 v0_5 v0_12 v0_13 v0_16 v0_17 v0_21 v0_23 v0_24 v0_25 v0_26 v0_29 v0_30)) (ws' := (wd_X12_runs cI a0 v0_2 u_1.2 v0_5 v0_12 v0_13 v0_16 v0_17 v0_21 v0_23 v0_24 v0_25 v0_26 v0_29 v0_30 v0_0 v0_6 v0_7 v0_8 v0_9 v0_10 v0_11 v0_14 v0_15)) hP hD hS hA [0] [1, 2, 3, 4, 5, 6, 7, 8, 9] [9, 0, 1, 2, 3, 4, 5, 6, 7, 8] rfl rfl rfl (by decide) rfl rfl (va_runV (As := [.int t1]) (rest := []) ⟨hx, hb, hml, hown, hta⟩ (c_X12_refused l dC dI cI H.size a0 v0_2 v0_3 v0_5 v0_12 v0_13 v0_16 v0_17 v0_21 v0_23 v0_24 v0_25 v0_26 v0_29 v0_30 t1 u_1 hu_1.symm) (cwV 1 hta (ga_V mA822 mA823 mA824 mA814 mA809) rfl rfl rfl (by decide +kernel) ⟨Nat.le_of_ble_eq_true rfl, Nat.le_of_ble_eq_true rfl⟩) ⟨q_fb, va_recv hK hP (ci := 11) (q0 := 0) rfl rfl, q_ps hPc hK hDc⟩ rfl rfl hl.1 rfl (lv_room (Nat.le_of_ble_eq_true rfl)) dX12_runs_14 ⟨Nat.zero_le _, Nat.zero_le _⟩) (fun hzu_1 H locs hP hD hS => ?_)
    refine lv_if_eq (tgt := 22) hx hb dX12_runs_17 (by decide) (fun c_2 => ?_) (fun c_2 => ?_)
    · have hF := it_t hF c_2
      refine lv_aload_n hx hb dX12_runs_22 rfl (lv_at hl 0 rfl) ?_
      refine lv_iload_n hx hb dX12_runs_23 rfl (lv_at hl 1 rfl) ?_
      obtain ⟨u_3, hu_3, hF⟩ := obd_some hF
      have hPc := hP.sub (ws' := (wd_X12_laysRuns cI a0 v0_2 u_1.2 v0_5 v0_12 v0_13 v0_16 v0_17 v0_21 v0_23 v0_24 v0_25 v0_26 v0_29 v0_30 v0_0 v0_6 v0_7 v0_8 v0_9 v0_10 v0_11 v0_14 v0_15)) [0, 1, 2, 3, 4, 5, 6, 7, 8, 9] rfl
      have hDc := hD.sub (ws' := (wd_X12_laysRuns cI a0 v0_2 u_1.2 v0_5 v0_12 v0_13 v0_16 v0_17 v0_21 v0_23 v0_24 v0_25 v0_26 v0_29 v0_30 v0_0 v0_6 v0_7 v0_8 v0_9 v0_10 v0_11 v0_14 v0_15)) [0, 1, 2, 3, 4, 5, 6, 7, 8, 9] rfl rfl
      refine q_callv (wc := (wd_X12_laysRuns cI a0 v0_2 u_1.2 v0_5 v0_12 v0_13 v0_16 v0_17 v0_21 v0_23 v0_24 v0_25 v0_26 v0_29 v0_30 v0_0 v0_6 v0_7 v0_8 v0_9 v0_10 v0_11 v0_14 v0_15)) (w1 := (wd_X12_laysRuns cI a0 v0_2 u_1.2 v0_5 u_3.1 u_3.2.1 u_3.2.2.1 u_3.2.2.2.1 v0_21 v0_23 v0_24 v0_25 v0_26 v0_29 v0_30 v0_0 u_3.2.2.2.2.1 u_3.2.2.2.2.2.1 u_3.2.2.2.2.2.2.1 u_3.2.2.2.2.2.2.2.1 u_3.2.2.2.2.2.2.2.2.1 u_3.2.2.2.2.2.2.2.2.2.1 u_3.2.2.2.2.2.2.2.2.2.2.1 u_3.2.2.2.2.2.2.2.2.2.2.2)) (ws' := (wd_X12_runs cI a0 v0_2 u_1.2 v0_5 u_3.1 u_3.2.1 u_3.2.2.1 u_3.2.2.2.1 v0_21 v0_23 v0_24 v0_25 v0_26 v0_29 v0_30 v0_0 u_3.2.2.2.2.1 u_3.2.2.2.2.2.1 u_3.2.2.2.2.2.2.1 u_3.2.2.2.2.2.2.2.1 u_3.2.2.2.2.2.2.2.2.1 u_3.2.2.2.2.2.2.2.2.2.1 u_3.2.2.2.2.2.2.2.2.2.2.1 u_3.2.2.2.2.2.2.2.2.2.2.2)) hP hD hS hA [0, 1, 2, 3, 4, 5, 6, 7, 8, 9] [] [0, 1, 2, 3, 4, 5, 6, 7, 8, 9] rfl rfl rfl (by decide) rfl rfl (va_runV (As := [.int x1]) (rest := []) ⟨hx, hb, hml, hown, hta⟩ (c_X12_laysRuns l dC dI cI H.size a0 v0_2 u_1.2 v0_5 v0_12 v0_13 v0_16 v0_17 v0_21 v0_23 v0_24 v0_25 v0_26 v0_29 v0_30 v0_0 v0_6 v0_7 v0_8 v0_9 v0_10 v0_11 v0_14 v0_15 x1 n u_3 hu_3) (cwV 1 hta (ga_V mA939 mA940 mA941 mA814 mA923) rfl rfl rfl (by decide +kernel) ⟨Nat.le_of_ble_eq_true rfl, Nat.le_of_ble_eq_true rfl⟩) ⟨q_fb, va_recv hK hP (ci := 11) (q0 := 0) rfl rfl, q_ps hPc hK hDc⟩ rfl rfl hl.1 rfl (lv_room (Nat.le_of_ble_eq_true rfl)) dX12_runs_24 ⟨Nat.zero_le _, Nat.zero_le _⟩) (fun H locs hP hD hS => ?_)
      refine lv_aload_n hx hb dX12_runs_27 rfl (lv_at hl 0 rfl) ?_
      refine va_get (D := (dC, dI)) (ci := 11) (v := .int u_3.2.2.1) (C := RX12) (T := TX12) (N := 31) hx hb hta uw_X12 hown hK hP 0 rfl rfl 16 (by decide) (hta _ mA924) (fun _ h9 => h9) rfl dX12_runs_28 ?_
      obtain rfl := Option.some.inj hF
      exact W.iret (v := u_3.2.2.1) hx hb hr (fun t ht hW => ⟨⟨u_3.2.2.1, (), rfl, rfl, by rw [ht]; exact hP, va_K.moved hW.alike hK, hD⟩, hS.F ht⟩) hS.2.2 dX12_runs_31
    · have hF := it_f hF c_2
      refine lv_iconst (v := 0) hx hb dX12_runs_20 (by decide) ?_
      obtain rfl := Option.some.inj hF
      exact W.iret (v := 0) hx hb hr (fun t ht hW => ⟨⟨0, (), rfl, rfl, by rw [ht]; exact hP, va_K.moved hW.alike hK, hD⟩, hS.F ht⟩) hS.2.2 dX12_runs_21
  refine lv_aload_n hx hb dX12_runs_0 rfl (lv_at hl 0 rfl) ?_
  refine lv_aload_n hx hb dX12_runs_1 rfl (lv_at hl 0 rfl) ?_
  refine lv_iload_n hx hb dX12_runs_2 rfl (lv_at hl 1 rfl) ?_
  obtain ⟨u_4, hu_4, hF⟩ := obd_some hF
  have hPc := hP.sub (ws' := (wd_X12_isSubpath cI a0 v0_2 v0_3 v0_5 v0_12 v0_13 v0_16 v0_17 v0_21 v0_23 v0_24 v0_25 v0_26 v0_29 v0_30 v0_0)) [0, 1] rfl
  have hDc := hD.sub (ws' := (wd_X12_isSubpath cI a0 v0_2 v0_3 v0_5 v0_12 v0_13 v0_16 v0_17 v0_21 v0_23 v0_24 v0_25 v0_26 v0_29 v0_30 v0_0)) [0, 1] rfl rfl
  refine q_callz (wc := (wd_X12_isSubpath cI a0 v0_2 v0_3 v0_5 v0_12 v0_13 v0_16 v0_17 v0_21 v0_23 v0_24 v0_25 v0_26 v0_29 v0_30 v0_0)) (w1 := (wd_X12_isSubpath cI a0 v0_2 v0_3 v0_5 v0_12 v0_13 v0_16 v0_17 v0_21 v0_23 v0_24 v0_25 v0_26 v0_29 v0_30 v0_0)) (ws' := (wd_X12_runs cI a0 v0_2 v0_3 v0_5 v0_12 v0_13 v0_16 v0_17 v0_21 v0_23 v0_24 v0_25 v0_26 v0_29 v0_30 v0_0 v0_6 v0_7 v0_8 v0_9 v0_10 v0_11 v0_14 v0_15)) hP hD hS hA [0, 1] [2, 3, 4, 5, 6, 7, 8, 9] [8, 9, 0, 1, 2, 3, 4, 5, 6, 7] rfl rfl rfl (by decide) rfl rfl (va_runV (As := [.int p1]) (rest := [.ref (a0 0)]) ⟨hx, hb, hml, hown, hta⟩ (c_X12_isSubpath l dC dI cI H.size a0 v0_2 v0_3 v0_5 v0_12 v0_13 v0_16 v0_17 v0_21 v0_23 v0_24 v0_25 v0_26 v0_29 v0_30 v0_0 p1 u_4 hu_4) (cwV 1 hta (ga_V mA879 mA880 mA881 mA814 mA826) rfl rfl rfl (by decide +kernel) ⟨Nat.le_of_ble_eq_true rfl, Nat.le_of_ble_eq_true rfl⟩) ⟨q_fb, va_recv hK hP (ci := 11) (q0 := 0) rfl rfl, q_ps hPc hK hDc⟩ rfl rfl hl.1 rfl (lv_room (Nat.le_of_ble_eq_true rfl)) dX12_runs_3 ⟨Nat.zero_le _, Nat.zero_le _⟩) (fun hzu_4 H locs hP hD hS => ?_)
  refine lv_if_eq (tgt := 13) hx hb dX12_runs_6 (by decide) (fun c_5 => ?_) (fun c_5 => ?_)
  · have hF := it_t hF c_5
    refine lv_iconst (v := 1) hx hb dX12_runs_13 (by decide) ?_
    exact j14 v0_3 v0_12 v0_13 v0_16 v0_17 v0_6 v0_7 v0_8 v0_9 v0_10 v0_11 v0_14 v0_15 p1 1 hF _ _ _ hP hD hS (lv_sub hl [0, 1] rfl)
  · have hF := it_f hF c_5
    refine lv_iconst (v := 0) hx hb dX12_runs_9 (by decide) ?_
    refine lv_goto (tgt := 14) hx hb dX12_runs_10 (by decide) ?_
    exact j14 v0_3 v0_12 v0_13 v0_16 v0_17 v0_6 v0_7 v0_8 v0_9 v0_10 v0_11 v0_14 v0_15 p1 0 hF _ _ _ hP hD hS (lv_sub hl [0, 1] rfl)

-- StrokeOutlinerModel.tellRun(II)I
def F_X12_tellRun (n : Nat) (v0_12 : Int32) (v0_13 : Int32) (v0_17 : Int32) (v0_21 : Int32) (v0_10 : Nat → Int32) (v0_11 : Nat → Int32) (v0_14 : Nat → Int32) (v0_15 : Nat → Int32) (v0_18 : Nat → Int32) (v0_19 : Nat → Int32) (v0_20 : Nat → Int32) (p1 : Int32) (p2 : Int32) : Option (Int32 × Int32 × (Nat → Int32) × (Nat → Int32) × (Nat → Int32)) :=
  if p2 = 0 then gd (decide (vpi p1 240)) (some ((v0_14 p1.toNatClampNeg), v0_21, v0_18, v0_19, v0_20)) else if p2 = 1 then gd (decide (vpi p1 240)) (some ((v0_15 p1.toNatClampNeg), v0_21, v0_18, v0_19, v0_20)) else if p2 = 2 then obd (F_X12_laysCuts n v0_12 v0_13 v0_10 v0_11 v0_14 v0_15 v0_18 v0_19 v0_20 p1) (fun u_6 => some (u_6.1, u_6.1, u_6.2.1, u_6.2.2.1, u_6.2.2.2)) else if v0_17 = 0 then some (0, v0_21, v0_18, v0_19, v0_20) else some (1, v0_21, v0_18, v0_19, v0_20)
abbrev wd_X12_tellRun (cI : ClassId) (a0 : Nat → Nat) (v0_2 : Int32) (v0_3 : Int32) (v0_5 : Int32) (v0_12 : Int32) (v0_13 : Int32) (v0_16 : Int32) (v0_17 : Int32) (v0_21 : Int32) (v0_23 : Int32) (v0_24 : Int32) (v0_25 : Int32) (v0_26 : Int32) (v0_29 : Int32) (v0_30 : Int64) (v0_10 : Nat → Int32) (v0_11 : Nat → Int32) (v0_14 : Nat → Int32) (v0_15 : Nat → Int32) (v0_18 : Nat → Int32) (v0_19 : Nat → Int32) (v0_20 : Nat → Int32) : va_W := [(a0 0, .inr (11, [.ref (a0 1), .ref (a0 2), .int v0_2, .int v0_3, .ref (a0 5), .int v0_5, .ref (a0 7), .ref (a0 8), .ref (a0 9), .ref (a0 10), .ref (a0 11), .ref (a0 12), .int v0_12, .int v0_13, .ref (a0 15), .ref (a0 16), .int v0_16, .int v0_17, .ref (a0 19), .ref (a0 20), .ref (a0 21), .int v0_21, .ref (a0 23), .int v0_23, .int v0_24, .int v0_25, .int v0_26, .ref (a0 28), .ref (a0 29), .int v0_29, .long v0_30])), (a0 11, .inl (cI, 8, .inl v0_10)), (a0 12, .inl (cI, 8, .inl v0_11)), (a0 15, .inl (cI, 240, .inl v0_14)), (a0 16, .inl (cI, 240, .inl v0_15)), (a0 19, .inl (cI, 20, .inl v0_18)), (a0 20, .inl (cI, 20, .inl v0_19)), (a0 21, .inl (cI, 20, .inl v0_20))]
abbrev wz_X12_tellRun : List Cond := .code yX12_tellRun cX12_tellRun 3 (some .int) :: wALL
abbrev rm_X12_tellRun : Room := { frames := 2, cells := 0, slots := 0, locals := 47 }
abbrev Q_X12_tellRun (dC : Nat → ClassId) (dI : Nat → Nat → Nat) (cI : ClassId) (a0 : Nat → Nat) (v0_2 : Int32) (v0_3 : Int32) (v0_5 : Int32) (v0_12 : Int32) (v0_13 : Int32) (v0_16 : Int32) (v0_17 : Int32) (v0_23 : Int32) (v0_24 : Int32) (v0_25 : Int32) (v0_26 : Int32) (v0_29 : Int32) (v0_30 : Int64) (v0_10 : Nat → Int32) (v0_11 : Nat → Int32) (v0_14 : Nat → Int32) (v0_15 : Nat → Int32) (u : (Int32 × Int32 × (Nat → Int32) × (Nat → Int32) × (Nat → Int32))) (A : Nat → Prop) : Array Value → State → Outcome → State → Prop := va_Qi (fun (r : Int32) (_ : Unit) => r = u.1) (fun _ => q_at dC dI cI A (wd_X12_tellRun cI a0 v0_2 v0_3 v0_5 v0_12 v0_13 v0_16 v0_17 u.2.1 v0_23 v0_24 v0_25 v0_26 v0_29 v0_30 v0_10 v0_11 v0_14 v0_15 u.2.2.1 u.2.2.2.1 u.2.2.2.2)) A
set_option maxHeartbeats 4000000 in
set_option maxRecDepth 100000 in
theorem c_X12_tellRun (l : Launch) (dC : Nat → ClassId) (dI : Nat → Nat → Nat) (cI : ClassId) (sz : Nat) (a0 : Nat → Nat) (v0_2 : Int32) (v0_3 : Int32) (v0_5 : Int32) (v0_12 : Int32) (v0_13 : Int32) (v0_16 : Int32) (v0_17 : Int32) (v0_21 : Int32) (v0_23 : Int32) (v0_24 : Int32) (v0_25 : Int32) (v0_26 : Int32) (v0_29 : Int32) (v0_30 : Int64) (v0_10 : Nat → Int32) (v0_11 : Nat → Int32) (v0_14 : Nat → Int32) (v0_15 : Nat → Int32) (v0_18 : Nat → Int32) (v0_19 : Nat → Int32) (v0_20 : Nat → Int32) (p1 : Int32) (p2 : Int32) (n : Nat) (u : (Int32 × Int32 × (Nat → Int32) × (Nat → Int32) × (Nat → Int32))) (hF : F_X12_tellRun n v0_12 v0_13 v0_17 v0_21 v0_10 v0_11 v0_14 v0_15 v0_18 v0_19 v0_20 p1 p2 = some u) : Met l yX12_tellRun wz_X12_tellRun rm_X12_tellRun (va_Pc [.ref (a0 0), .int p1, .int p2] (q_pre dC dI cI (wd_X12_tellRun cI a0 v0_2 v0_3 v0_5 v0_12 v0_13 v0_16 v0_17 v0_21 v0_23 v0_24 v0_25 v0_26 v0_29 v0_30 v0_10 v0_11 v0_14 v0_15 v0_18 v0_19 v0_20) sz)) (Q_X12_tellRun dC dI cI a0 v0_2 v0_3 v0_5 v0_12 v0_13 v0_16 v0_17 v0_23 v0_24 v0_25 v0_26 v0_29 v0_30 v0_10 v0_11 v0_14 v0_15 u (va_A (wd_X12_tellRun cI a0 v0_2 v0_3 v0_5 v0_12 v0_13 v0_16 v0_17 v0_21 v0_23 v0_24 v0_25 v0_26 v0_29 v0_30 v0_10 v0_11 v0_14 v0_15 v0_18 v0_19 v0_20) sz)) 0 0 (va_A (wd_X12_tellRun cI a0 v0_2 v0_3 v0_5 v0_12 v0_13 v0_16 v0_17 v0_21 v0_23 v0_24 v0_25 v0_26 v0_29 v0_30 v0_10 v0_11 v0_14 v0_15 v0_18 v0_19 v0_20) sz) := by
  refine Met.ofW (cc := cX12_tellRun) (maxL := 3) (ret := (some .int)) (by decide) rfl ?_
  intro p e s m args below meth c s₁ B hml hv
  obtain ⟨rfl, hsz, hP, hK, hD0⟩ := hv
  have hx := B.exec
  have hb := B.bytes
  have hr := B.returns
  have hts := atoms_spec (ws := wz_X12_tellRun) B.pre
  have hta := wz_tl hts
  have hown : s.vm.findClass RX12 = some m.cls := findClass_of_methodNamed B.named
  have hlocks := B.notSynchronized
  subst hsz
  have hD := hD0.self (sz := s.heap.size)
  generalize hAe : va_A (wd_X12_tellRun cI a0 v0_2 v0_3 v0_5 v0_12 v0_13 v0_16 v0_17 v0_21 v0_23 v0_24 v0_25 v0_26 v0_29 v0_30 v0_10 v0_11 v0_14 v0_15 v0_18 v0_19 v0_20) s.heap.size = A at hD ⊢
  have hA : ∀ q : Nat, s.heap.size ≤ q → A q := fun q h => by rw [← hAe]; exact Or.inr h
  have hS : va_S A s.heap s.heap [] := va_S.rf
  have hP : va_P (dC, dI) vwCl (wd_X12_tellRun cI a0 v0_2 v0_3 v0_5 v0_12 v0_13 v0_16 v0_17 v0_21 v0_23 v0_24 v0_25 v0_26 v0_29 v0_30 v0_10 v0_11 v0_14 v0_15 v0_18 v0_19 v0_20) s.heap := hP
  have hl := lv_entry ([.ref (a0 0), .int p1, .int p2]) (n := 3) (Nat.le_of_ble_eq_true rfl)
  rw [lg_entry_eq]
  generalize (lg_sl ([.ref (a0 0), .int p1, .int p2]) ++ List.replicate (3 - (lg_sl ([.ref (a0 0), .int p1, .int p2])).length) Slot.unset).toArray = ls at hl ⊢
  have hl : lv_has ls 3 [(0, .ref (a0 0)), (1, .int p1), (2, .int p2)] := hl
  obtain ⟨H, hHe⟩ : ∃ H, H = s.heap := ⟨_, rfl⟩
  have hS : va_S A s.heap H [] := by rw [hHe]; exact hS
  have hP : va_P (dC, dI) vwCl (wd_X12_tellRun cI a0 v0_2 v0_3 v0_5 v0_12 v0_13 v0_16 v0_17 v0_21 v0_23 v0_24 v0_25 v0_26 v0_29 v0_30 v0_10 v0_11 v0_14 v0_15 v0_18 v0_19 v0_20) H := by rw [hHe]; exact hP
  rw [← hHe]
  unfold F_X12_tellRun at hF
  refine lv_iload_n hx hb dX12_tellRun_0 rfl (lv_at hl 2 rfl) ?_
  by_cases c_1 : p2 = 0
  · have hF := it_t hF c_1
    refine lv_tableIn (tgt := 28) hx hb dX12_tellRun_1 (by rw [c_1]; decide) (by rw [c_1]; decide) (by first | (rw [c_1]; done) | (rw [c_1]; rfl)) (by decide) ?_
    refine lv_aload_n hx hb dX12_tellRun_28 rfl (lv_at hl 0 rfl) ?_
    refine va_get (D := (dC, dI)) (ci := 11) (v := .ref (a0 15)) (C := RX12) (T := TX12) (N := 31) hx hb hta uw_X12 hown hK hP 0 rfl rfl 14 (by decide) (hta _ mA799) (fun _ h9 => h9) rfl dX12_tellRun_29 ?_
    refine lv_iload_n hx hb dX12_tellRun_32 rfl (lv_at hl 1 rfl) ?_
    obtain ⟨g_2, hF⟩ := gd_some hF
    refine va_iald hx hb hK hP 3 0 rfl rfl (vpi_in g_2) dX12_tellRun_33 ?_
    obtain rfl := Option.some.inj hF
    exact W.iret (v := (v0_14 p1.toNatClampNeg)) hx hb hr (fun t ht hW => ⟨⟨(v0_14 p1.toNatClampNeg), (), rfl, rfl, by rw [ht]; exact hP, va_K.moved hW.alike hK, hD⟩, hS.F ht⟩) hS.2.2 dX12_tellRun_34
  · have hF := it_f hF c_1
    by_cases c_3 : p2 = 1
    · have hF := it_t hF c_3
      refine lv_tableIn (tgt := 35) hx hb dX12_tellRun_1 (by rw [c_3]; decide) (by rw [c_3]; decide) (by first | (rw [c_3]; done) | (rw [c_3]; rfl)) (by decide) ?_
      refine lv_aload_n hx hb dX12_tellRun_35 rfl (lv_at hl 0 rfl) ?_
      refine va_get (D := (dC, dI)) (ci := 11) (v := .ref (a0 16)) (C := RX12) (T := TX12) (N := 31) hx hb hta uw_X12 hown hK hP 0 rfl rfl 15 (by decide) (hta _ mA800) (fun _ h9 => h9) rfl dX12_tellRun_36 ?_
      refine lv_iload_n hx hb dX12_tellRun_39 rfl (lv_at hl 1 rfl) ?_
      obtain ⟨g_4, hF⟩ := gd_some hF
      refine va_iald hx hb hK hP 4 0 rfl rfl (vpi_in g_4) dX12_tellRun_40 ?_
      obtain rfl := Option.some.inj hF
      exact W.iret (v := (v0_15 p1.toNatClampNeg)) hx hb hr (fun t ht hW => ⟨⟨(v0_15 p1.toNatClampNeg), (), rfl, rfl, by rw [ht]; exact hP, va_K.moved hW.alike hK, hD⟩, hS.F ht⟩) hS.2.2 dX12_tellRun_41
    · have hF := it_f hF c_3
      by_cases c_5 : p2 = 2
      · have hF := it_t hF c_5
        refine lv_tableIn (tgt := 42) hx hb dX12_tellRun_1 (by rw [c_5]; decide) (by rw [c_5]; decide) (by first | (rw [c_5]; done) | (rw [c_5]; rfl)) (by decide) ?_
        refine lv_aload_n hx hb dX12_tellRun_42 rfl (lv_at hl 0 rfl) ?_
        refine lv_iload_n hx hb dX12_tellRun_43 rfl (lv_at hl 1 rfl) ?_
        obtain ⟨u_6, hu_6, hF⟩ := obd_some hF
        have hPc := hP.sub (ws' := (wd_X12_laysCuts cI a0 v0_2 v0_3 v0_5 v0_12 v0_13 v0_16 v0_17 v0_21 v0_23 v0_24 v0_25 v0_26 v0_29 v0_30 v0_10 v0_11 v0_14 v0_15 v0_18 v0_19 v0_20)) [0, 1, 2, 3, 4, 5, 6, 7] rfl
        have hDc := hD.sub (ws' := (wd_X12_laysCuts cI a0 v0_2 v0_3 v0_5 v0_12 v0_13 v0_16 v0_17 v0_21 v0_23 v0_24 v0_25 v0_26 v0_29 v0_30 v0_10 v0_11 v0_14 v0_15 v0_18 v0_19 v0_20)) [0, 1, 2, 3, 4, 5, 6, 7] rfl rfl
        refine q_callv (wc := (wd_X12_laysCuts cI a0 v0_2 v0_3 v0_5 v0_12 v0_13 v0_16 v0_17 v0_21 v0_23 v0_24 v0_25 v0_26 v0_29 v0_30 v0_10 v0_11 v0_14 v0_15 v0_18 v0_19 v0_20)) (w1 := (wd_X12_laysCuts cI a0 v0_2 v0_3 v0_5 v0_12 v0_13 v0_16 v0_17 u_6.1 v0_23 v0_24 v0_25 v0_26 v0_29 v0_30 v0_10 v0_11 v0_14 v0_15 u_6.2.1 u_6.2.2.1 u_6.2.2.2)) (ws' := (wd_X12_tellRun cI a0 v0_2 v0_3 v0_5 v0_12 v0_13 v0_16 v0_17 u_6.1 v0_23 v0_24 v0_25 v0_26 v0_29 v0_30 v0_10 v0_11 v0_14 v0_15 u_6.2.1 u_6.2.2.1 u_6.2.2.2)) hP hD hS hA [0, 1, 2, 3, 4, 5, 6, 7] [] [0, 1, 2, 3, 4, 5, 6, 7] rfl rfl rfl (by decide) rfl rfl (va_runV (As := [.int p1]) (rest := []) ⟨hx, hb, hml, hown, hta⟩ (c_X12_laysCuts l dC dI cI H.size a0 v0_2 v0_3 v0_5 v0_12 v0_13 v0_16 v0_17 v0_21 v0_23 v0_24 v0_25 v0_26 v0_29 v0_30 v0_10 v0_11 v0_14 v0_15 v0_18 v0_19 v0_20 p1 n u_6 hu_6) (cwV 1 hta (ga_V mA943 mA944 mA945 mA814 mA934) rfl rfl rfl (by decide +kernel) ⟨Nat.le_of_ble_eq_true rfl, Nat.le_of_ble_eq_true rfl⟩) ⟨q_fb, va_recv hK hP (ci := 11) (q0 := 0) rfl rfl, q_ps hPc hK hDc⟩ rfl rfl hl.1 rfl (lv_room (Nat.le_of_ble_eq_true rfl)) dX12_tellRun_44 ⟨Nat.zero_le _, Nat.zero_le _⟩) (fun H locs hP hD hS => ?_)
        refine lv_aload_n hx hb dX12_tellRun_47 rfl (lv_at hl 0 rfl) ?_
        refine va_get (D := (dC, dI)) (ci := 11) (v := .int u_6.1) (C := RX12) (T := TX12) (N := 31) hx hb hta uw_X12 hown hK hP 0 rfl rfl 21 (by decide) (hta _ mA933) (fun _ h9 => h9) rfl dX12_tellRun_48 ?_
        obtain rfl := Option.some.inj hF
        exact W.iret (v := u_6.1) hx hb hr (fun t ht hW => ⟨⟨u_6.1, (), rfl, rfl, by rw [ht]; exact hP, va_K.moved hW.alike hK, hD⟩, hS.F ht⟩) hS.2.2 dX12_tellRun_51
      · have hF := it_f hF c_5
        refine lv_tableOut (tgt := 52) hx hb dX12_tellRun_1 (by have := lv_neT (a := 0) c_1 (by decide); have := lv_neT (a := 1) c_3 (by decide); have := lv_neT (a := 2) c_5 (by decide); omega) (by decide) ?_
        refine lv_aload_n hx hb dX12_tellRun_52 rfl (lv_at hl 0 rfl) ?_
        refine va_get (D := (dC, dI)) (ci := 11) (v := .int v0_17) (C := RX12) (T := TX12) (N := 31) hx hb hta uw_X12 hown hK hP 0 rfl rfl 17 (by decide) (hta _ mA925) (fun _ h9 => h9) rfl dX12_tellRun_53 ?_
        refine lv_if_eq (tgt := 63) hx hb dX12_tellRun_56 (by decide) (fun c_7 => ?_) (fun c_7 => ?_)
        · have hF := it_t hF c_7
          refine lv_iconst (v := 0) hx hb dX12_tellRun_63 (by decide) ?_
          obtain rfl := Option.some.inj hF
          exact W.iret (v := 0) hx hb hr (fun t ht hW => ⟨⟨0, (), rfl, rfl, by rw [ht]; exact hP, va_K.moved hW.alike hK, hD⟩, hS.F ht⟩) hS.2.2 dX12_tellRun_64
        · have hF := it_f hF c_7
          refine lv_iconst (v := 1) hx hb dX12_tellRun_59 (by decide) ?_
          refine lv_goto (tgt := 64) hx hb dX12_tellRun_60 (by decide) ?_
          obtain rfl := Option.some.inj hF
          exact W.iret (v := 1) hx hb hr (fun t ht hW => ⟨⟨1, (), rfl, rfl, by rw [ht]; exact hP, va_K.moved hW.alike hK, hD⟩, hS.F ht⟩) hS.2.2 dX12_tellRun_64

-- StrokeOutlinerModel.run(III)I
def F_X12_run_j54 (n : Nat) (v0_12 : Int32) (v0_13 : Int32) (v0_16 : Int32) (v0_17 : Int32) (v0_21 : Int32) (v0_6 : Nat → Int32) (v0_7 : Nat → Int32) (v0_8 : Nat → Int32) (v0_9 : Nat → Int32) (v0_10 : Nat → Int32) (v0_11 : Nat → Int32) (v0_14 : Nat → Int32) (v0_15 : Nat → Int32) (v0_18 : Nat → Int32) (v0_19 : Nat → Int32) (v0_20 : Nat → Int32) (x2 : Int32) (x3 : Int32) (t1 : Int32) : Option (Int32 × Int32 × Int32 × Int32 × Int32 × Int32 × Int32 × (Nat → Int32) × (Nat → Int32) × (Nat → Int32) × (Nat → Int32) × (Nat → Int32) × (Nat → Int32) × (Nat → Int32) × (Nat → Int32) × (Nat → Int32) × (Nat → Int32) × (Nat → Int32)) :=
  lt (F_X12_refused t1) (fun u_1 => if u_1.1 = 0 then obd (F_X12_tellRun n v0_12 v0_13 v0_17 v0_21 v0_10 v0_11 v0_14 v0_15 v0_18 v0_19 v0_20 x2 x3) (fun u_3 => some (u_3.1, u_1.2, v0_12, v0_13, v0_16, v0_17, u_3.2.1, v0_6, v0_7, v0_8, v0_9, v0_10, v0_11, v0_14, v0_15, u_3.2.2.1, u_3.2.2.2.1, u_3.2.2.2.2)) else some (0, u_1.2, v0_12, v0_13, v0_16, v0_17, v0_21, v0_6, v0_7, v0_8, v0_9, v0_10, v0_11, v0_14, v0_15, v0_18, v0_19, v0_20))
def F_X12_run_j36 (n : Nat) (v0_12 : Int32) (v0_13 : Int32) (v0_16 : Int32) (v0_17 : Int32) (v0_21 : Int32) (v0_6 : Nat → Int32) (v0_7 : Nat → Int32) (v0_8 : Nat → Int32) (v0_9 : Nat → Int32) (v0_10 : Nat → Int32) (v0_11 : Nat → Int32) (v0_14 : Nat → Int32) (v0_15 : Nat → Int32) (v0_18 : Nat → Int32) (v0_19 : Nat → Int32) (v0_20 : Nat → Int32) (x2 : Int32) (x3 : Int32) : Option (Int32 × Int32 × Int32 × Int32 × Int32 × Int32 × Int32 × (Nat → Int32) × (Nat → Int32) × (Nat → Int32) × (Nat → Int32) × (Nat → Int32) × (Nat → Int32) × (Nat → Int32) × (Nat → Int32) × (Nat → Int32) × (Nat → Int32) × (Nat → Int32)) :=
  F_X12_run_j54 n v0_12 v0_13 v0_16 v0_17 v0_21 v0_6 v0_7 v0_8 v0_9 v0_10 v0_11 v0_14 v0_15 v0_18 v0_19 v0_20 x2 x3 1
def F_X12_run_j13 (n : Nat) (v0_12 : Int32) (v0_13 : Int32) (v0_16 : Int32) (v0_17 : Int32) (v0_21 : Int32) (v0_0 : Nat → Int32) (v0_6 : Nat → Int32) (v0_7 : Nat → Int32) (v0_8 : Nat → Int32) (v0_9 : Nat → Int32) (v0_10 : Nat → Int32) (v0_11 : Nat → Int32) (v0_14 : Nat → Int32) (v0_15 : Nat → Int32) (v0_18 : Nat → Int32) (v0_19 : Nat → Int32) (v0_20 : Nat → Int32) (x1 : Int32) (x2 : Int32) (x3 : Int32) : Option (Int32 × Int32 × Int32 × Int32 × Int32 × Int32 × Int32 × (Nat → Int32) × (Nat → Int32) × (Nat → Int32) × (Nat → Int32) × (Nat → Int32) × (Nat → Int32) × (Nat → Int32) × (Nat → Int32) × (Nat → Int32) × (Nat → Int32) × (Nat → Int32)) :=
  obd (F_X12_isSubpath v0_0 x1) (fun u_4 => if u_4 = 0 then F_X12_run_j36 n v0_12 v0_13 v0_16 v0_17 v0_21 v0_6 v0_7 v0_8 v0_9 v0_10 v0_11 v0_14 v0_15 v0_18 v0_19 v0_20 x2 x3 else lt (F_X12_within x2 0 (v0_16 - 1)) (fun u_6 => if u_6 = 0 then F_X12_run_j36 n v0_12 v0_13 v0_16 v0_17 v0_21 v0_6 v0_7 v0_8 v0_9 v0_10 v0_11 v0_14 v0_15 v0_18 v0_19 v0_20 x2 x3 else lt (F_X12_within x3 0 3) (fun u_8 => if u_8 = 0 then F_X12_run_j54 n v0_12 v0_13 v0_16 v0_17 v0_21 v0_6 v0_7 v0_8 v0_9 v0_10 v0_11 v0_14 v0_15 v0_18 v0_19 v0_20 x2 x3 2 else F_X12_run_j54 n v0_12 v0_13 v0_16 v0_17 v0_21 v0_6 v0_7 v0_8 v0_9 v0_10 v0_11 v0_14 v0_15 v0_18 v0_19 v0_20 x2 x3 0)))
def F_X12_run (n : Nat) (v0_12 : Int32) (v0_13 : Int32) (v0_16 : Int32) (v0_17 : Int32) (v0_21 : Int32) (v0_0 : Nat → Int32) (v0_6 : Nat → Int32) (v0_7 : Nat → Int32) (v0_8 : Nat → Int32) (v0_9 : Nat → Int32) (v0_10 : Nat → Int32) (v0_11 : Nat → Int32) (v0_14 : Nat → Int32) (v0_15 : Nat → Int32) (v0_18 : Nat → Int32) (v0_19 : Nat → Int32) (v0_20 : Nat → Int32) (p1 : Int32) (p2 : Int32) (p3 : Int32) : Option (Int32 × Int32 × Int32 × Int32 × Int32 × Int32 × Int32 × (Nat → Int32) × (Nat → Int32) × (Nat → Int32) × (Nat → Int32) × (Nat → Int32) × (Nat → Int32) × (Nat → Int32) × (Nat → Int32) × (Nat → Int32) × (Nat → Int32) × (Nat → Int32)) :=
  obd (F_X12_isSubpath v0_0 p1) (fun u_10 => if u_10 = 0 then F_X12_run_j13 n v0_12 v0_13 v0_16 v0_17 v0_21 v0_0 v0_6 v0_7 v0_8 v0_9 v0_10 v0_11 v0_14 v0_15 v0_18 v0_19 v0_20 p1 p2 p3 else obd (F_X12_laysRuns n v0_12 v0_13 v0_0 v0_6 v0_7 v0_8 v0_9 v0_10 v0_11 v0_14 v0_15 p1) (fun u_12 => F_X12_run_j13 n u_12.1 u_12.2.1 u_12.2.2.1 u_12.2.2.2.1 v0_21 v0_0 u_12.2.2.2.2.1 u_12.2.2.2.2.2.1 u_12.2.2.2.2.2.2.1 u_12.2.2.2.2.2.2.2.1 u_12.2.2.2.2.2.2.2.2.1 u_12.2.2.2.2.2.2.2.2.2.1 u_12.2.2.2.2.2.2.2.2.2.2.1 u_12.2.2.2.2.2.2.2.2.2.2.2 v0_18 v0_19 v0_20 p1 p2 p3))
abbrev wd_X12_run (cI : ClassId) (a0 : Nat → Nat) (v0_2 : Int32) (v0_3 : Int32) (v0_5 : Int32) (v0_12 : Int32) (v0_13 : Int32) (v0_16 : Int32) (v0_17 : Int32) (v0_21 : Int32) (v0_23 : Int32) (v0_24 : Int32) (v0_25 : Int32) (v0_26 : Int32) (v0_29 : Int32) (v0_30 : Int64) (v0_0 : Nat → Int32) (v0_6 : Nat → Int32) (v0_7 : Nat → Int32) (v0_8 : Nat → Int32) (v0_9 : Nat → Int32) (v0_10 : Nat → Int32) (v0_11 : Nat → Int32) (v0_14 : Nat → Int32) (v0_15 : Nat → Int32) (v0_18 : Nat → Int32) (v0_19 : Nat → Int32) (v0_20 : Nat → Int32) : va_W := [(a0 0, .inr (11, [.ref (a0 1), .ref (a0 2), .int v0_2, .int v0_3, .ref (a0 5), .int v0_5, .ref (a0 7), .ref (a0 8), .ref (a0 9), .ref (a0 10), .ref (a0 11), .ref (a0 12), .int v0_12, .int v0_13, .ref (a0 15), .ref (a0 16), .int v0_16, .int v0_17, .ref (a0 19), .ref (a0 20), .ref (a0 21), .int v0_21, .ref (a0 23), .int v0_23, .int v0_24, .int v0_25, .int v0_26, .ref (a0 28), .ref (a0 29), .int v0_29, .long v0_30])), (a0 1, .inl (cI, 86, .inl v0_0)), (a0 7, .inl (cI, 8, .inl v0_6)), (a0 8, .inl (cI, 8, .inl v0_7)), (a0 9, .inl (cI, 8, .inl v0_8)), (a0 10, .inl (cI, 8, .inl v0_9)), (a0 11, .inl (cI, 8, .inl v0_10)), (a0 12, .inl (cI, 8, .inl v0_11)), (a0 15, .inl (cI, 240, .inl v0_14)), (a0 16, .inl (cI, 240, .inl v0_15)), (a0 19, .inl (cI, 20, .inl v0_18)), (a0 20, .inl (cI, 20, .inl v0_19)), (a0 21, .inl (cI, 20, .inl v0_20))]
abbrev wz_X12_run : List Cond := .code yX12_run cX12_run 4 (some .int) :: wALL
abbrev rm_X12_run : Room := { frames := 5, cells := 0, slots := 0, locals := 116 }
abbrev Q_X12_run (dC : Nat → ClassId) (dI : Nat → Nat → Nat) (cI : ClassId) (a0 : Nat → Nat) (v0_2 : Int32) (v0_5 : Int32) (v0_23 : Int32) (v0_24 : Int32) (v0_25 : Int32) (v0_26 : Int32) (v0_29 : Int32) (v0_30 : Int64) (v0_0 : Nat → Int32) (u : (Int32 × Int32 × Int32 × Int32 × Int32 × Int32 × Int32 × (Nat → Int32) × (Nat → Int32) × (Nat → Int32) × (Nat → Int32) × (Nat → Int32) × (Nat → Int32) × (Nat → Int32) × (Nat → Int32) × (Nat → Int32) × (Nat → Int32) × (Nat → Int32))) (A : Nat → Prop) : Array Value → State → Outcome → State → Prop := va_Qi (fun (r : Int32) (_ : Unit) => r = u.1) (fun _ => q_at dC dI cI A (wd_X12_run cI a0 v0_2 u.2.1 v0_5 u.2.2.1 u.2.2.2.1 u.2.2.2.2.1 u.2.2.2.2.2.1 u.2.2.2.2.2.2.1 v0_23 v0_24 v0_25 v0_26 v0_29 v0_30 v0_0 u.2.2.2.2.2.2.2.1 u.2.2.2.2.2.2.2.2.1 u.2.2.2.2.2.2.2.2.2.1 u.2.2.2.2.2.2.2.2.2.2.1 u.2.2.2.2.2.2.2.2.2.2.2.1 u.2.2.2.2.2.2.2.2.2.2.2.2.1 u.2.2.2.2.2.2.2.2.2.2.2.2.2.1 u.2.2.2.2.2.2.2.2.2.2.2.2.2.2.1 u.2.2.2.2.2.2.2.2.2.2.2.2.2.2.2.1 u.2.2.2.2.2.2.2.2.2.2.2.2.2.2.2.2.1 u.2.2.2.2.2.2.2.2.2.2.2.2.2.2.2.2.2)) A
set_option maxHeartbeats 4000000 in
set_option maxRecDepth 100000 in
theorem c_X12_run (l : Launch) (dC : Nat → ClassId) (dI : Nat → Nat → Nat) (cI : ClassId) (sz : Nat) (a0 : Nat → Nat) (v0_2 : Int32) (v0_3 : Int32) (v0_5 : Int32) (v0_12 : Int32) (v0_13 : Int32) (v0_16 : Int32) (v0_17 : Int32) (v0_21 : Int32) (v0_23 : Int32) (v0_24 : Int32) (v0_25 : Int32) (v0_26 : Int32) (v0_29 : Int32) (v0_30 : Int64) (v0_0 : Nat → Int32) (v0_6 : Nat → Int32) (v0_7 : Nat → Int32) (v0_8 : Nat → Int32) (v0_9 : Nat → Int32) (v0_10 : Nat → Int32) (v0_11 : Nat → Int32) (v0_14 : Nat → Int32) (v0_15 : Nat → Int32) (v0_18 : Nat → Int32) (v0_19 : Nat → Int32) (v0_20 : Nat → Int32) (p1 : Int32) (p2 : Int32) (p3 : Int32) (n : Nat) (u : (Int32 × Int32 × Int32 × Int32 × Int32 × Int32 × Int32 × (Nat → Int32) × (Nat → Int32) × (Nat → Int32) × (Nat → Int32) × (Nat → Int32) × (Nat → Int32) × (Nat → Int32) × (Nat → Int32) × (Nat → Int32) × (Nat → Int32) × (Nat → Int32))) (hF : F_X12_run n v0_12 v0_13 v0_16 v0_17 v0_21 v0_0 v0_6 v0_7 v0_8 v0_9 v0_10 v0_11 v0_14 v0_15 v0_18 v0_19 v0_20 p1 p2 p3 = some u) : Met l yX12_run wz_X12_run rm_X12_run (va_Pc [.ref (a0 0), .int p1, .int p2, .int p3] (q_pre dC dI cI (wd_X12_run cI a0 v0_2 v0_3 v0_5 v0_12 v0_13 v0_16 v0_17 v0_21 v0_23 v0_24 v0_25 v0_26 v0_29 v0_30 v0_0 v0_6 v0_7 v0_8 v0_9 v0_10 v0_11 v0_14 v0_15 v0_18 v0_19 v0_20) sz)) (Q_X12_run dC dI cI a0 v0_2 v0_5 v0_23 v0_24 v0_25 v0_26 v0_29 v0_30 v0_0 u (va_A (wd_X12_run cI a0 v0_2 v0_3 v0_5 v0_12 v0_13 v0_16 v0_17 v0_21 v0_23 v0_24 v0_25 v0_26 v0_29 v0_30 v0_0 v0_6 v0_7 v0_8 v0_9 v0_10 v0_11 v0_14 v0_15 v0_18 v0_19 v0_20) sz)) 0 0 (va_A (wd_X12_run cI a0 v0_2 v0_3 v0_5 v0_12 v0_13 v0_16 v0_17 v0_21 v0_23 v0_24 v0_25 v0_26 v0_29 v0_30 v0_0 v0_6 v0_7 v0_8 v0_9 v0_10 v0_11 v0_14 v0_15 v0_18 v0_19 v0_20) sz) := by
  refine Met.ofW (cc := cX12_run) (maxL := 4) (ret := (some .int)) (by decide) rfl ?_
  intro p e s m args below meth c s₁ B hml hv
  obtain ⟨rfl, hsz, hP, hK, hD0⟩ := hv
  have hx := B.exec
  have hb := B.bytes
  have hr := B.returns
  have hts := atoms_spec (ws := wz_X12_run) B.pre
  have hta := wz_tl hts
  have hown : s.vm.findClass RX12 = some m.cls := findClass_of_methodNamed B.named
  have hlocks := B.notSynchronized
  subst hsz
  have hD := hD0.self (sz := s.heap.size)
  generalize hAe : va_A (wd_X12_run cI a0 v0_2 v0_3 v0_5 v0_12 v0_13 v0_16 v0_17 v0_21 v0_23 v0_24 v0_25 v0_26 v0_29 v0_30 v0_0 v0_6 v0_7 v0_8 v0_9 v0_10 v0_11 v0_14 v0_15 v0_18 v0_19 v0_20) s.heap.size = A at hD ⊢
  have hA : ∀ q : Nat, s.heap.size ≤ q → A q := fun q h => by rw [← hAe]; exact Or.inr h
  have hS : va_S A s.heap s.heap [] := va_S.rf
  have hP : va_P (dC, dI) vwCl (wd_X12_run cI a0 v0_2 v0_3 v0_5 v0_12 v0_13 v0_16 v0_17 v0_21 v0_23 v0_24 v0_25 v0_26 v0_29 v0_30 v0_0 v0_6 v0_7 v0_8 v0_9 v0_10 v0_11 v0_14 v0_15 v0_18 v0_19 v0_20) s.heap := hP
  have hl := lv_entry ([.ref (a0 0), .int p1, .int p2, .int p3]) (n := 4) (Nat.le_of_ble_eq_true rfl)
  rw [lg_entry_eq]
  generalize (lg_sl ([.ref (a0 0), .int p1, .int p2, .int p3]) ++ List.replicate (4 - (lg_sl ([.ref (a0 0), .int p1, .int p2, .int p3])).length) Slot.unset).toArray = ls at hl ⊢
  have hl : lv_has ls 4 [(0, .ref (a0 0)), (1, .int p1), (2, .int p2), (3, .int p3)] := hl
  obtain ⟨H, hHe⟩ : ∃ H, H = s.heap := ⟨_, rfl⟩
  have hS : va_S A s.heap H [] := by rw [hHe]; exact hS
  have hP : va_P (dC, dI) vwCl (wd_X12_run cI a0 v0_2 v0_3 v0_5 v0_12 v0_13 v0_16 v0_17 v0_21 v0_23 v0_24 v0_25 v0_26 v0_29 v0_30 v0_0 v0_6 v0_7 v0_8 v0_9 v0_10 v0_11 v0_14 v0_15 v0_18 v0_19 v0_20) H := by rw [hHe]; exact hP
  rw [← hHe]
  unfold F_X12_run at hF
  have j54 : ∀ (v0_3 : Int32) (v0_12 : Int32) (v0_13 : Int32) (v0_16 : Int32) (v0_17 : Int32) (v0_21 : Int32) (v0_6 : Nat → Int32) (v0_7 : Nat → Int32) (v0_8 : Nat → Int32) (v0_9 : Nat → Int32) (v0_10 : Nat → Int32) (v0_11 : Nat → Int32) (v0_14 : Nat → Int32) (v0_15 : Nat → Int32) (v0_18 : Nat → Int32) (v0_19 : Nat → Int32) (v0_20 : Nat → Int32) (x2 : Int32) (x3 : Int32) (t1 : Int32), F_X12_run_j54 n v0_12 v0_13 v0_16 v0_17 v0_21 v0_6 v0_7 v0_8 v0_9 v0_10 v0_11 v0_14 v0_15 v0_18 v0_19 v0_20 x2 x3 t1 = some u → ∀ (H : Heap) (locs : List Loc) (ls : Array Slot), va_P (dC, dI) vwCl (wd_X12_run cI a0 v0_2 v0_3 v0_5 v0_12 v0_13 v0_16 v0_17 v0_21 v0_23 v0_24 v0_25 v0_26 v0_29 v0_30 v0_0 v0_6 v0_7 v0_8 v0_9 v0_10 v0_11 v0_14 v0_15 v0_18 v0_19 v0_20) H → va_D A (wd_X12_run cI a0 v0_2 v0_3 v0_5 v0_12 v0_13 v0_16 v0_17 v0_21 v0_23 v0_24 v0_25 v0_26 v0_29 v0_30 v0_0 v0_6 v0_7 v0_8 v0_9 v0_10 v0_11 v0_14 v0_15 v0_18 v0_19 v0_20) → va_S A s.heap H locs → lv_has ls 4 [(0, .ref (a0 0)), (2, .int x2), (3, .int x3)] → W p l e (headSpec wz_X12_run rm_X12_run).room s m [.ref (a0 0), .int p1, .int p2, .int p3].toArray below meth c H locs 0 0 (MQ below (Q_X12_run dC dI cI a0 v0_2 v0_5 v0_23 v0_24 v0_25 v0_26 v0_29 v0_30 v0_0 u A) [.ref (a0 0), .int p1, .int p2, .int p3].toArray s 0 0 A) (F0 m 54 ls [.int t1, .ref (a0 0)]) := by
    intro v0_3 v0_12 v0_13 v0_16 v0_17 v0_21 v0_6 v0_7 v0_8 v0_9 v0_10 v0_11 v0_14 v0_15 v0_18 v0_19 v0_20 x2 x3 t1 hF H locs ls hP hD hS hl
    unfold F_X12_run_j54 at hF
    obtain ⟨u_1, hu_1, hF⟩ := lt_some hF
    have hPc := hP.sub (ws' := (wd_X12_refused cI a0 v0_2 v0_3 v0_5 v0_12 v0_13 v0_16 v0_17 v0_21 v0_23 v0_24 v0_25 v0_26 v0_29 v0_30)) [0] rfl
    have hDc := hD.sub (ws' := (wd_X12_refused cI a0 v0_2 v0_3 v0_5 v0_12 v0_13 v0_16 v0_17 v0_21 v0_23 v0_24 v0_25 v0_26 v0_29 v0_30)) [0] rfl rfl
    refine q_callz (wc := (wd_X12_refused cI a0 v0_2 v0_3 v0_5 v0_12 v0_13 v0_16 v0_17 v0_21 v0_23 v0_24 v0_25 v0_26 v0_29 v0_30)) (w1 := (wd_X12_refused cI a0 v0_2 u_1.2 v0_5 v0_12 v0_13 v0_16 v0_17 v0_21 v0_23 v0_24 v0_25 v0_26 v0_29 v0_30)) (ws' := (wd_X12_run cI a0 v0_2 u_1.2 v0_5 v0_12 v0_13 v0_16 v0_17 v0_21 v0_23 v0_24 v0_25 v0_26 v0_29 v0_30 v0_0 v0_6 v0_7 v0_8 v0_9 v0_10 v0_11 v0_14 v0_15 v0_18 v0_19 v0_20)) hP hD hS hA [0] [1, 2, 3, 4, 5, 6, 7, 8, 9, 10, 11, 12] [12, 0, 1, 2, 3, 4, 5, 6, 7, 8, 9, 10, 11] rfl rfl rfl (by decide) rfl rfl (va_runV (As := [.int t1]) (rest := []) ⟨hx, hb, hml, hown, hta⟩ (c_X12_refused l dC dI cI H.size a0 v0_2 v0_3 v0_5 v0_12 v0_13 v0_16 v0_17 v0_21 v0_23 v0_24 v0_25 v0_26 v0_29 v0_30 t1 u_1 hu_1.symm) (cwV 1 hta (ga_V mA822 mA823 mA824 mA814 mA809) rfl rfl rfl (by decide +kernel) ⟨Nat.le_of_ble_eq_true rfl, Nat.le_of_ble_eq_true rfl⟩) ⟨q_fb, va_recv hK hP (ci := 11) (q0 := 0) rfl rfl, q_ps hPc hK hDc⟩ rfl rfl hl.1 rfl (lv_room (Nat.le_of_ble_eq_true rfl)) dX12_run_54 ⟨Nat.zero_le _, Nat.zero_le _⟩) (fun hzu_1 H locs hP hD hS => ?_)
    refine lv_if_eq (tgt := 64) hx hb dX12_run_57 (by decide) (fun c_2 => ?_) (fun c_2 => ?_)
    · have hF := it_t hF c_2
      refine lv_aload_n hx hb dX12_run_64 rfl (lv_at hl 0 rfl) ?_
      refine lv_iload_n hx hb dX12_run_65 rfl (lv_at hl 1 rfl) ?_
      refine lv_iload_n hx hb dX12_run_66 rfl (lv_at hl 2 rfl) ?_
      obtain ⟨u_3, hu_3, hF⟩ := obd_some hF
      have hPc := hP.sub (ws' := (wd_X12_tellRun cI a0 v0_2 u_1.2 v0_5 v0_12 v0_13 v0_16 v0_17 v0_21 v0_23 v0_24 v0_25 v0_26 v0_29 v0_30 v0_10 v0_11 v0_14 v0_15 v0_18 v0_19 v0_20)) [0, 6, 7, 8, 9, 10, 11, 12] rfl
      have hDc := hD.sub (ws' := (wd_X12_tellRun cI a0 v0_2 u_1.2 v0_5 v0_12 v0_13 v0_16 v0_17 v0_21 v0_23 v0_24 v0_25 v0_26 v0_29 v0_30 v0_10 v0_11 v0_14 v0_15 v0_18 v0_19 v0_20)) [0, 6, 7, 8, 9, 10, 11, 12] rfl rfl
      refine q_calli (wc := (wd_X12_tellRun cI a0 v0_2 u_1.2 v0_5 v0_12 v0_13 v0_16 v0_17 v0_21 v0_23 v0_24 v0_25 v0_26 v0_29 v0_30 v0_10 v0_11 v0_14 v0_15 v0_18 v0_19 v0_20)) (w1 := (wd_X12_tellRun cI a0 v0_2 u_1.2 v0_5 v0_12 v0_13 v0_16 v0_17 u_3.2.1 v0_23 v0_24 v0_25 v0_26 v0_29 v0_30 v0_10 v0_11 v0_14 v0_15 u_3.2.2.1 u_3.2.2.2.1 u_3.2.2.2.2)) (ws' := (wd_X12_run cI a0 v0_2 u_1.2 v0_5 v0_12 v0_13 v0_16 v0_17 u_3.2.1 v0_23 v0_24 v0_25 v0_26 v0_29 v0_30 v0_0 v0_6 v0_7 v0_8 v0_9 v0_10 v0_11 v0_14 v0_15 u_3.2.2.1 u_3.2.2.2.1 u_3.2.2.2.2)) hP hD hS hA [0, 6, 7, 8, 9, 10, 11, 12] [1, 2, 3, 4, 5] [5, 0, 1, 2, 3, 4, 6, 7, 8, 9, 10, 11, 12] rfl rfl rfl (by decide) rfl rfl (va_runV (As := [.int x2, .int x3]) (rest := []) ⟨hx, hb, hml, hown, hta⟩ (c_X12_tellRun l dC dI cI H.size a0 v0_2 u_1.2 v0_5 v0_12 v0_13 v0_16 v0_17 v0_21 v0_23 v0_24 v0_25 v0_26 v0_29 v0_30 v0_10 v0_11 v0_14 v0_15 v0_18 v0_19 v0_20 x2 x3 n u_3 hu_3) (cwV 2 hta (ga_V mA947 mA948 mA949 mA814 mA942) rfl rfl rfl (by decide +kernel) ⟨Nat.le_of_ble_eq_true rfl, Nat.le_of_ble_eq_true rfl⟩) ⟨q_fb, va_recv hK hP (ci := 11) (q0 := 0) rfl rfl, q_ps hPc hK hDc⟩ rfl rfl hl.1 rfl (lv_room (Nat.le_of_ble_eq_true rfl)) dX12_run_67 ⟨Nat.zero_le _, Nat.zero_le _⟩) (fun H locs hP hD hS => ?_)
      obtain rfl := Option.some.inj hF
      exact W.iret (v := u_3.1) hx hb hr (fun t ht hW => ⟨⟨u_3.1, (), rfl, rfl, by rw [ht]; exact hP, va_K.moved hW.alike hK, hD⟩, hS.F ht⟩) hS.2.2 dX12_run_70
    · have hF := it_f hF c_2
      refine lv_iconst (v := 0) hx hb dX12_run_60 (by decide) ?_
      refine lv_goto (tgt := 70) hx hb dX12_run_61 (by decide) ?_
      obtain rfl := Option.some.inj hF
      exact W.iret (v := 0) hx hb hr (fun t ht hW => ⟨⟨0, (), rfl, rfl, by rw [ht]; exact hP, va_K.moved hW.alike hK, hD⟩, hS.F ht⟩) hS.2.2 dX12_run_70
  have j36 : ∀ (v0_3 : Int32) (v0_12 : Int32) (v0_13 : Int32) (v0_16 : Int32) (v0_17 : Int32) (v0_21 : Int32) (v0_6 : Nat → Int32) (v0_7 : Nat → Int32) (v0_8 : Nat → Int32) (v0_9 : Nat → Int32) (v0_10 : Nat → Int32) (v0_11 : Nat → Int32) (v0_14 : Nat → Int32) (v0_15 : Nat → Int32) (v0_18 : Nat → Int32) (v0_19 : Nat → Int32) (v0_20 : Nat → Int32) (x2 : Int32) (x3 : Int32), F_X12_run_j36 n v0_12 v0_13 v0_16 v0_17 v0_21 v0_6 v0_7 v0_8 v0_9 v0_10 v0_11 v0_14 v0_15 v0_18 v0_19 v0_20 x2 x3 = some u → ∀ (H : Heap) (locs : List Loc) (ls : Array Slot), va_P (dC, dI) vwCl (wd_X12_run cI a0 v0_2 v0_3 v0_5 v0_12 v0_13 v0_16 v0_17 v0_21 v0_23 v0_24 v0_25 v0_26 v0_29 v0_30 v0_0 v0_6 v0_7 v0_8 v0_9 v0_10 v0_11 v0_14 v0_15 v0_18 v0_19 v0_20) H → va_D A (wd_X12_run cI a0 v0_2 v0_3 v0_5 v0_12 v0_13 v0_16 v0_17 v0_21 v0_23 v0_24 v0_25 v0_26 v0_29 v0_30 v0_0 v0_6 v0_7 v0_8 v0_9 v0_10 v0_11 v0_14 v0_15 v0_18 v0_19 v0_20) → va_S A s.heap H locs → lv_has ls 4 [(0, .ref (a0 0)), (2, .int x2), (3, .int x3)] → W p l e (headSpec wz_X12_run rm_X12_run).room s m [.ref (a0 0), .int p1, .int p2, .int p3].toArray below meth c H locs 0 0 (MQ below (Q_X12_run dC dI cI a0 v0_2 v0_5 v0_23 v0_24 v0_25 v0_26 v0_29 v0_30 v0_0 u A) [.ref (a0 0), .int p1, .int p2, .int p3].toArray s 0 0 A) (F0 m 36 ls [.ref (a0 0)]) := by
    intro v0_3 v0_12 v0_13 v0_16 v0_17 v0_21 v0_6 v0_7 v0_8 v0_9 v0_10 v0_11 v0_14 v0_15 v0_18 v0_19 v0_20 x2 x3 hF H locs ls hP hD hS hl
    unfold F_X12_run_j36 at hF
    refine lv_iconst (v := 1) hx hb dX12_run_36 (by decide) ?_
    refine lv_goto (tgt := 54) hx hb dX12_run_37 (by decide) ?_
    exact j54 v0_3 v0_12 v0_13 v0_16 v0_17 v0_21 v0_6 v0_7 v0_8 v0_9 v0_10 v0_11 v0_14 v0_15 v0_18 v0_19 v0_20 x2 x3 1 hF _ _ _ hP hD hS (lv_sub hl [0, 1, 2] rfl)
  have j13 : ∀ (v0_3 : Int32) (v0_12 : Int32) (v0_13 : Int32) (v0_16 : Int32) (v0_17 : Int32) (v0_21 : Int32) (v0_6 : Nat → Int32) (v0_7 : Nat → Int32) (v0_8 : Nat → Int32) (v0_9 : Nat → Int32) (v0_10 : Nat → Int32) (v0_11 : Nat → Int32) (v0_14 : Nat → Int32) (v0_15 : Nat → Int32) (v0_18 : Nat → Int32) (v0_19 : Nat → Int32) (v0_20 : Nat → Int32) (x1 : Int32) (x2 : Int32) (x3 : Int32), F_X12_run_j13 n v0_12 v0_13 v0_16 v0_17 v0_21 v0_0 v0_6 v0_7 v0_8 v0_9 v0_10 v0_11 v0_14 v0_15 v0_18 v0_19 v0_20 x1 x2 x3 = some u → ∀ (H : Heap) (locs : List Loc) (ls : Array Slot), va_P (dC, dI) vwCl (wd_X12_run cI a0 v0_2 v0_3 v0_5 v0_12 v0_13 v0_16 v0_17 v0_21 v0_23 v0_24 v0_25 v0_26 v0_29 v0_30 v0_0 v0_6 v0_7 v0_8 v0_9 v0_10 v0_11 v0_14 v0_15 v0_18 v0_19 v0_20) H → va_D A (wd_X12_run cI a0 v0_2 v0_3 v0_5 v0_12 v0_13 v0_16 v0_17 v0_21 v0_23 v0_24 v0_25 v0_26 v0_29 v0_30 v0_0 v0_6 v0_7 v0_8 v0_9 v0_10 v0_11 v0_14 v0_15 v0_18 v0_19 v0_20) → va_S A s.heap H locs → lv_has ls 4 [(0, .ref (a0 0)), (1, .int x1), (2, .int x2), (3, .int x3)] → W p l e (headSpec wz_X12_run rm_X12_run).room s m [.ref (a0 0), .int p1, .int p2, .int p3].toArray below meth c H locs 0 0 (MQ below (Q_X12_run dC dI cI a0 v0_2 v0_5 v0_23 v0_24 v0_25 v0_26 v0_29 v0_30 v0_0 u A) [.ref (a0 0), .int p1, .int p2, .int p3].toArray s 0 0 A) (F0 m 13 ls []) := by
    intro v0_3 v0_12 v0_13 v0_16 v0_17 v0_21 v0_6 v0_7 v0_8 v0_9 v0_10 v0_11 v0_14 v0_15 v0_18 v0_19 v0_20 x1 x2 x3 hF H locs ls hP hD hS hl
    unfold F_X12_run_j13 at hF
    refine lv_aload_n hx hb dX12_run_13 rfl (lv_at hl 0 rfl) ?_
    refine lv_aload_n hx hb dX12_run_14 rfl (lv_at hl 0 rfl) ?_
    refine lv_iload_n hx hb dX12_run_15 rfl (lv_at hl 1 rfl) ?_
    obtain ⟨u_4, hu_4, hF⟩ := obd_some hF
    have hPc := hP.sub (ws' := (wd_X12_isSubpath cI a0 v0_2 v0_3 v0_5 v0_12 v0_13 v0_16 v0_17 v0_21 v0_23 v0_24 v0_25 v0_26 v0_29 v0_30 v0_0)) [0, 1] rfl
    have hDc := hD.sub (ws' := (wd_X12_isSubpath cI a0 v0_2 v0_3 v0_5 v0_12 v0_13 v0_16 v0_17 v0_21 v0_23 v0_24 v0_25 v0_26 v0_29 v0_30 v0_0)) [0, 1] rfl rfl
    refine q_callz (wc := (wd_X12_isSubpath cI a0 v0_2 v0_3 v0_5 v0_12 v0_13 v0_16 v0_17 v0_21 v0_23 v0_24 v0_25 v0_26 v0_29 v0_30 v0_0)) (w1 := (wd_X12_isSubpath cI a0 v0_2 v0_3 v0_5 v0_12 v0_13 v0_16 v0_17 v0_21 v0_23 v0_24 v0_25 v0_26 v0_29 v0_30 v0_0)) (ws' := (wd_X12_run cI a0 v0_2 v0_3 v0_5 v0_12 v0_13 v0_16 v0_17 v0_21 v0_23 v0_24 v0_25 v0_26 v0_29 v0_30 v0_0 v0_6 v0_7 v0_8 v0_9 v0_10 v0_11 v0_14 v0_15 v0_18 v0_19 v0_20)) hP hD hS hA [0, 1] [2, 3, 4, 5, 6, 7, 8, 9, 10, 11, 12] [11, 12, 0, 1, 2, 3, 4, 5, 6, 7, 8, 9, 10] rfl rfl rfl (by decide) rfl rfl (va_runV (As := [.int x1]) (rest := [.ref (a0 0)]) ⟨hx, hb, hml, hown, hta⟩ (c_X12_isSubpath l dC dI cI H.size a0 v0_2 v0_3 v0_5 v0_12 v0_13 v0_16 v0_17 v0_21 v0_23 v0_24 v0_25 v0_26 v0_29 v0_30 v0_0 x1 u_4 hu_4) (cwV 1 hta (ga_V mA879 mA880 mA881 mA814 mA826) rfl rfl rfl (by decide +kernel) ⟨Nat.le_of_ble_eq_true rfl, Nat.le_of_ble_eq_true rfl⟩) ⟨q_fb, va_recv hK hP (ci := 11) (q0 := 0) rfl rfl, q_ps hPc hK hDc⟩ rfl rfl hl.1 rfl (lv_room (Nat.le_of_ble_eq_true rfl)) dX12_run_16 ⟨Nat.zero_le _, Nat.zero_le _⟩) (fun hzu_4 H locs hP hD hS => ?_)
    refine lv_if_eq (tgt := 36) hx hb dX12_run_19 (by decide) (fun c_5 => ?_) (fun c_5 => ?_)
    · have hF := it_t hF c_5
      exact j36 v0_3 v0_12 v0_13 v0_16 v0_17 v0_21 v0_6 v0_7 v0_8 v0_9 v0_10 v0_11 v0_14 v0_15 v0_18 v0_19 v0_20 x2 x3 hF _ _ _ hP hD hS (lv_sub hl [0, 2, 3] rfl)
    · have hF := it_f hF c_5
      refine lv_iload_n hx hb dX12_run_22 rfl (lv_at hl 2 rfl) ?_
      refine lv_iconst (v := 0) hx hb dX12_run_23 (by decide) ?_
      refine lv_aload_n hx hb dX12_run_24 rfl (lv_at hl 0 rfl) ?_
      refine va_get (D := (dC, dI)) (ci := 11) (v := .int v0_16) (C := RX12) (T := TX12) (N := 31) hx hb hta uw_X12 hown hK hP 0 rfl rfl 16 (by decide) (hta _ mA924) (fun _ h9 => h9) rfl dX12_run_25 ?_
      refine lv_iconst (v := 1) hx hb dX12_run_28 (by decide) ?_
      refine lv_isub hx hb dX12_run_29 ?_
      obtain ⟨u_6, hu_6, hF⟩ := lt_some hF
      have hPc := hP.sub (ws' := ([] : va_W)) [] rfl
      have hDc := hD.sub (ws' := ([] : va_W)) [] rfl rfl
      refine q_callz (wc := ([] : va_W)) (w1 := ([] : va_W)) (ws' := (wd_X12_run cI a0 v0_2 v0_3 v0_5 v0_12 v0_13 v0_16 v0_17 v0_21 v0_23 v0_24 v0_25 v0_26 v0_29 v0_30 v0_0 v0_6 v0_7 v0_8 v0_9 v0_10 v0_11 v0_14 v0_15 v0_18 v0_19 v0_20)) hP hD hS hA [] [0, 1, 2, 3, 4, 5, 6, 7, 8, 9, 10, 11, 12] [0, 1, 2, 3, 4, 5, 6, 7, 8, 9, 10, 11, 12] rfl rfl rfl (by decide) rfl rfl (va_runS (As := [.int x2, .int 0, .int (v0_16 - 1)]) (rest := [.ref (a0 0)]) ⟨hx, hb, hml, hown, hta⟩ (c_X12_within l dC dI cI H.size x2 0 (v0_16 - 1) u_6 hu_6.symm) (va_cwS 3 hta (ga_S mA812 mA813 mA814 mA810) rfl rfl rfl (by decide +kernel) ⟨Nat.le_of_ble_eq_true rfl, Nat.le_of_ble_eq_true rfl⟩) ⟨q_fb, q_ps hPc hK hDc⟩ rfl rfl hl.1 rfl (lv_room (Nat.le_of_ble_eq_true rfl)) dX12_run_30 ⟨Nat.zero_le _, Nat.zero_le _⟩) (fun hzu_6 H locs hP hD hS => ?_)
      refine lv_if_ne (tgt := 40) hx hb dX12_run_33 (by decide) (fun c_7 => ?_) (fun c_7 => ?_)
      · have hF := it_f hF c_7
        refine lv_iload_n hx hb dX12_run_40 rfl (lv_at hl 3 rfl) ?_
        refine lv_iconst (v := 0) hx hb dX12_run_41 (by decide) ?_
        refine lv_iconst (v := 3) hx hb dX12_run_42 (by decide) ?_
        obtain ⟨u_8, hu_8, hF⟩ := lt_some hF
        have hPc := hP.sub (ws' := ([] : va_W)) [] rfl
        have hDc := hD.sub (ws' := ([] : va_W)) [] rfl rfl
        refine q_callz (wc := ([] : va_W)) (w1 := ([] : va_W)) (ws' := (wd_X12_run cI a0 v0_2 v0_3 v0_5 v0_12 v0_13 v0_16 v0_17 v0_21 v0_23 v0_24 v0_25 v0_26 v0_29 v0_30 v0_0 v0_6 v0_7 v0_8 v0_9 v0_10 v0_11 v0_14 v0_15 v0_18 v0_19 v0_20)) hP hD hS hA [] [0, 1, 2, 3, 4, 5, 6, 7, 8, 9, 10, 11, 12] [0, 1, 2, 3, 4, 5, 6, 7, 8, 9, 10, 11, 12] rfl rfl rfl (by decide) rfl rfl (va_runS (As := [.int x3, .int 0, .int 3]) (rest := [.ref (a0 0)]) ⟨hx, hb, hml, hown, hta⟩ (c_X12_within l dC dI cI H.size x3 0 3 u_8 hu_8.symm) (va_cwS 3 hta (ga_S mA812 mA813 mA814 mA810) rfl rfl rfl (by decide +kernel) ⟨Nat.le_of_ble_eq_true rfl, Nat.le_of_ble_eq_true rfl⟩) ⟨q_fb, q_ps hPc hK hDc⟩ rfl rfl hl.1 rfl (lv_room (Nat.le_of_ble_eq_true rfl)) dX12_run_43 ⟨Nat.zero_le _, Nat.zero_le _⟩) (fun hzu_8 H locs hP hD hS => ?_)
        refine lv_if_eq (tgt := 53) hx hb dX12_run_46 (by decide) (fun c_9 => ?_) (fun c_9 => ?_)
        · have hF := it_t hF c_9
          refine lv_iconst (v := 2) hx hb dX12_run_53 (by decide) ?_
          exact j54 v0_3 v0_12 v0_13 v0_16 v0_17 v0_21 v0_6 v0_7 v0_8 v0_9 v0_10 v0_11 v0_14 v0_15 v0_18 v0_19 v0_20 x2 x3 2 hF _ _ _ hP hD hS (lv_sub hl [0, 2, 3] rfl)
        · have hF := it_f hF c_9
          refine lv_iconst (v := 0) hx hb dX12_run_49 (by decide) ?_
          refine lv_goto (tgt := 54) hx hb dX12_run_50 (by decide) ?_
          exact j54 v0_3 v0_12 v0_13 v0_16 v0_17 v0_21 v0_6 v0_7 v0_8 v0_9 v0_10 v0_11 v0_14 v0_15 v0_18 v0_19 v0_20 x2 x3 0 hF _ _ _ hP hD hS (lv_sub hl [0, 2, 3] rfl)
      · have hF := it_t hF c_7
        exact j36 v0_3 v0_12 v0_13 v0_16 v0_17 v0_21 v0_6 v0_7 v0_8 v0_9 v0_10 v0_11 v0_14 v0_15 v0_18 v0_19 v0_20 x2 x3 hF _ _ _ hP hD hS (lv_sub hl [0, 2, 3] rfl)
  refine lv_aload_n hx hb dX12_run_0 rfl (lv_at hl 0 rfl) ?_
  refine lv_iload_n hx hb dX12_run_1 rfl (lv_at hl 1 rfl) ?_
  obtain ⟨u_10, hu_10, hF⟩ := obd_some hF
  have hPc := hP.sub (ws' := (wd_X12_isSubpath cI a0 v0_2 v0_3 v0_5 v0_12 v0_13 v0_16 v0_17 v0_21 v0_23 v0_24 v0_25 v0_26 v0_29 v0_30 v0_0)) [0, 1] rfl
  have hDc := hD.sub (ws' := (wd_X12_isSubpath cI a0 v0_2 v0_3 v0_5 v0_12 v0_13 v0_16 v0_17 v0_21 v0_23 v0_24 v0_25 v0_26 v0_29 v0_30 v0_0)) [0, 1] rfl rfl
  refine q_callz (wc := (wd_X12_isSubpath cI a0 v0_2 v0_3 v0_5 v0_12 v0_13 v0_16 v0_17 v0_21 v0_23 v0_24 v0_25 v0_26 v0_29 v0_30 v0_0)) (w1 := (wd_X12_isSubpath cI a0 v0_2 v0_3 v0_5 v0_12 v0_13 v0_16 v0_17 v0_21 v0_23 v0_24 v0_25 v0_26 v0_29 v0_30 v0_0)) (ws' := (wd_X12_run cI a0 v0_2 v0_3 v0_5 v0_12 v0_13 v0_16 v0_17 v0_21 v0_23 v0_24 v0_25 v0_26 v0_29 v0_30 v0_0 v0_6 v0_7 v0_8 v0_9 v0_10 v0_11 v0_14 v0_15 v0_18 v0_19 v0_20)) hP hD hS hA [0, 1] [2, 3, 4, 5, 6, 7, 8, 9, 10, 11, 12] [11, 12, 0, 1, 2, 3, 4, 5, 6, 7, 8, 9, 10] rfl rfl rfl (by decide) rfl rfl (va_runV (As := [.int p1]) (rest := []) ⟨hx, hb, hml, hown, hta⟩ (c_X12_isSubpath l dC dI cI H.size a0 v0_2 v0_3 v0_5 v0_12 v0_13 v0_16 v0_17 v0_21 v0_23 v0_24 v0_25 v0_26 v0_29 v0_30 v0_0 p1 u_10 hu_10) (cwV 1 hta (ga_V mA879 mA880 mA881 mA814 mA826) rfl rfl rfl (by decide +kernel) ⟨Nat.le_of_ble_eq_true rfl, Nat.le_of_ble_eq_true rfl⟩) ⟨q_fb, va_recv hK hP (ci := 11) (q0 := 0) rfl rfl, q_ps hPc hK hDc⟩ rfl rfl hl.1 rfl (lv_room (Nat.le_of_ble_eq_true rfl)) dX12_run_2 ⟨Nat.zero_le _, Nat.zero_le _⟩) (fun hzu_10 H locs hP hD hS => ?_)
  refine lv_if_eq (tgt := 13) hx hb dX12_run_5 (by decide) (fun c_11 => ?_) (fun c_11 => ?_)
  · have hF := it_t hF c_11
    exact j13 v0_3 v0_12 v0_13 v0_16 v0_17 v0_21 v0_6 v0_7 v0_8 v0_9 v0_10 v0_11 v0_14 v0_15 v0_18 v0_19 v0_20 p1 p2 p3 hF _ _ _ hP hD hS (lv_sub hl [0, 1, 2, 3] rfl)
  · have hF := it_f hF c_11
    refine lv_aload_n hx hb dX12_run_8 rfl (lv_at hl 0 rfl) ?_
    refine lv_iload_n hx hb dX12_run_9 rfl (lv_at hl 1 rfl) ?_
    obtain ⟨u_12, hu_12, hF⟩ := obd_some hF
    have hPc := hP.sub (ws' := (wd_X12_laysRuns cI a0 v0_2 v0_3 v0_5 v0_12 v0_13 v0_16 v0_17 v0_21 v0_23 v0_24 v0_25 v0_26 v0_29 v0_30 v0_0 v0_6 v0_7 v0_8 v0_9 v0_10 v0_11 v0_14 v0_15)) [0, 1, 2, 3, 4, 5, 6, 7, 8, 9] rfl
    have hDc := hD.sub (ws' := (wd_X12_laysRuns cI a0 v0_2 v0_3 v0_5 v0_12 v0_13 v0_16 v0_17 v0_21 v0_23 v0_24 v0_25 v0_26 v0_29 v0_30 v0_0 v0_6 v0_7 v0_8 v0_9 v0_10 v0_11 v0_14 v0_15)) [0, 1, 2, 3, 4, 5, 6, 7, 8, 9] rfl rfl
    refine q_callv (wc := (wd_X12_laysRuns cI a0 v0_2 v0_3 v0_5 v0_12 v0_13 v0_16 v0_17 v0_21 v0_23 v0_24 v0_25 v0_26 v0_29 v0_30 v0_0 v0_6 v0_7 v0_8 v0_9 v0_10 v0_11 v0_14 v0_15)) (w1 := (wd_X12_laysRuns cI a0 v0_2 v0_3 v0_5 u_12.1 u_12.2.1 u_12.2.2.1 u_12.2.2.2.1 v0_21 v0_23 v0_24 v0_25 v0_26 v0_29 v0_30 v0_0 u_12.2.2.2.2.1 u_12.2.2.2.2.2.1 u_12.2.2.2.2.2.2.1 u_12.2.2.2.2.2.2.2.1 u_12.2.2.2.2.2.2.2.2.1 u_12.2.2.2.2.2.2.2.2.2.1 u_12.2.2.2.2.2.2.2.2.2.2.1 u_12.2.2.2.2.2.2.2.2.2.2.2)) (ws' := (wd_X12_run cI a0 v0_2 v0_3 v0_5 u_12.1 u_12.2.1 u_12.2.2.1 u_12.2.2.2.1 v0_21 v0_23 v0_24 v0_25 v0_26 v0_29 v0_30 v0_0 u_12.2.2.2.2.1 u_12.2.2.2.2.2.1 u_12.2.2.2.2.2.2.1 u_12.2.2.2.2.2.2.2.1 u_12.2.2.2.2.2.2.2.2.1 u_12.2.2.2.2.2.2.2.2.2.1 u_12.2.2.2.2.2.2.2.2.2.2.1 u_12.2.2.2.2.2.2.2.2.2.2.2 v0_18 v0_19 v0_20)) hP hD hS hA [0, 1, 2, 3, 4, 5, 6, 7, 8, 9] [10, 11, 12] [3, 4, 5, 6, 7, 8, 9, 10, 11, 12, 0, 1, 2] rfl rfl rfl (by decide) rfl rfl (va_runV (As := [.int p1]) (rest := []) ⟨hx, hb, hml, hown, hta⟩ (c_X12_laysRuns l dC dI cI H.size a0 v0_2 v0_3 v0_5 v0_12 v0_13 v0_16 v0_17 v0_21 v0_23 v0_24 v0_25 v0_26 v0_29 v0_30 v0_0 v0_6 v0_7 v0_8 v0_9 v0_10 v0_11 v0_14 v0_15 p1 n u_12 hu_12) (cwV 1 hta (ga_V mA939 mA940 mA941 mA814 mA923) rfl rfl rfl (by decide +kernel) ⟨Nat.le_of_ble_eq_true rfl, Nat.le_of_ble_eq_true rfl⟩) ⟨q_fb, va_recv hK hP (ci := 11) (q0 := 0) rfl rfl, q_ps hPc hK hDc⟩ rfl rfl hl.1 rfl (lv_room (Nat.le_of_ble_eq_true rfl)) dX12_run_10 ⟨Nat.zero_le _, Nat.zero_le _⟩) (fun H locs hP hD hS => ?_)
    exact j13 v0_3 u_12.1 u_12.2.1 u_12.2.2.1 u_12.2.2.2.1 v0_21 u_12.2.2.2.2.1 u_12.2.2.2.2.2.1 u_12.2.2.2.2.2.2.1 u_12.2.2.2.2.2.2.2.1 u_12.2.2.2.2.2.2.2.2.1 u_12.2.2.2.2.2.2.2.2.2.1 u_12.2.2.2.2.2.2.2.2.2.2.1 u_12.2.2.2.2.2.2.2.2.2.2.2 v0_18 v0_19 v0_20 p1 p2 p3 hF _ _ _ hP hD hS (lv_sub hl [0, 1, 2, 3] rfl)

-- StrokeOutlinerModel.dashed(Z)I
def F_X12_dashed_j71 (v0_3 : Int32) (v0_12 : Int32) (v0_13 : Int32) (v0_16 : Int32) (v0_17 : Int32) (v0_6 : Nat → Int32) (v0_7 : Nat → Int32) (v0_8 : Nat → Int32) (v0_9 : Nat → Int32) (v0_10 : Nat → Int32) (v0_11 : Nat → Int32) (v0_14 : Nat → Int32) (v0_15 : Nat → Int32) (x1 : Int32) (x2 : Int32) (x3 : Int32) : Option (Int32 × Int32 × Int32 × Int32 × Int32 × Int32 × (Nat → Int32) × (Nat → Int32) × (Nat → Int32) × (Nat → Int32) × (Nat → Int32) × (Nat → Int32) × (Nat → Int32) × (Nat → Int32)) :=
  if x1 = 0 then some ((x3 - x2), v0_3, v0_12, v0_13, v0_16, v0_17, v0_6, v0_7, v0_8, v0_9, v0_10, v0_11, v0_14, v0_15) else some (x2, v0_3, v0_12, v0_13, v0_16, v0_17, v0_6, v0_7, v0_8, v0_9, v0_10, v0_11, v0_14, v0_15)
def F_X12_dashed_j65 (v0_12 : Int32) (v0_13 : Int32) (v0_16 : Int32) (v0_17 : Int32) (v0_6 : Nat → Int32) (v0_7 : Nat → Int32) (v0_8 : Nat → Int32) (v0_9 : Nat → Int32) (v0_10 : Nat → Int32) (v0_11 : Nat → Int32) (v0_14 : Nat → Int32) (v0_15 : Nat → Int32) (x2 : Int32) (x3 : Int32) (x4 : Int32) : Option (Sum (Int32 × Int32 × Int32 × Int32 × Int32 × Int32 × Int32 × (Nat → Int32) × (Nat → Int32) × (Nat → Int32) × (Nat → Int32) × (Nat → Int32) × (Nat → Int32) × (Nat → Int32) × (Nat → Int32)) (Int32 × Int32 × Int32 × Int32 × Int32 × Int32 × (Nat → Int32) × (Nat → Int32) × (Nat → Int32) × (Nat → Int32) × (Nat → Int32) × (Nat → Int32) × (Nat → Int32) × (Nat → Int32))) :=
  lt (x4 + 1) (fun y_2 => some (.inl (x2, x3, y_2, v0_12, v0_13, v0_16, v0_17, v0_6, v0_7, v0_8, v0_9, v0_10, v0_11, v0_14, v0_15)))
def F_X12_dashed_b40 (v0_16 : Int32) (v0_15 : Nat → Int32) (s40 : Int32 × Int32) : Option (Sum (Int32 × Int32) (Int32)) :=
  if v0_16 ≤ s40.2 then some (.inr s40.1) else gd (decide (vpi s40.2 240)) (lt (s40.1 + (v0_15 s40.2.toNatClampNeg)) (fun y_5 => lt (s40.2 + 1) (fun y_6 => some (.inl (y_5, y_6)))))
def F_X12_dashed_j40 (n : Nat) (v0_12 : Int32) (v0_13 : Int32) (v0_16 : Int32) (v0_17 : Int32) (v0_6 : Nat → Int32) (v0_7 : Nat → Int32) (v0_8 : Nat → Int32) (v0_9 : Nat → Int32) (v0_10 : Nat → Int32) (v0_11 : Nat → Int32) (v0_14 : Nat → Int32) (v0_15 : Nat → Int32) (x2 : Int32) (x3 : Int32) (x4 : Int32) (x5 : Int32) : Option (Sum (Int32 × Int32 × Int32 × Int32 × Int32 × Int32 × Int32 × (Nat → Int32) × (Nat → Int32) × (Nat → Int32) × (Nat → Int32) × (Nat → Int32) × (Nat → Int32) × (Nat → Int32) × (Nat → Int32)) (Int32 × Int32 × Int32 × Int32 × Int32 × Int32 × (Nat → Int32) × (Nat → Int32) × (Nat → Int32) × (Nat → Int32) × (Nat → Int32) × (Nat → Int32) × (Nat → Int32) × (Nat → Int32))) :=
  obd (lpq (F_X12_dashed_b40 v0_16 v0_15) n (x2, x5)) (fun x_40 => F_X12_dashed_j65 v0_12 v0_13 v0_16 v0_17 v0_6 v0_7 v0_8 v0_9 v0_10 v0_11 v0_14 v0_15 x_40 x3 x4)
def F_X12_dashed_b12 (n : Nat) (v0_0 : Nat → Int32) (s12 : Int32 × Int32 × Int32 × Int32 × Int32 × Int32 × Int32 × (Nat → Int32) × (Nat → Int32) × (Nat → Int32) × (Nat → Int32) × (Nat → Int32) × (Nat → Int32) × (Nat → Int32) × (Nat → Int32)) : Option (Sum (Int32 × Int32 × Int32 × Int32 × Int32 × Int32 × Int32 × (Nat → Int32) × (Nat → Int32) × (Nat → Int32) × (Nat → Int32) × (Nat → Int32) × (Nat → Int32) × (Nat → Int32) × (Nat → Int32)) (Int32 × Int32 × Int32 × Int32 × Int32 × Int32 × (Nat → Int32) × (Nat → Int32) × (Nat → Int32) × (Nat → Int32) × (Nat → Int32) × (Nat → Int32) × (Nat → Int32) × (Nat → Int32))) :=
  gd (decide (vpi 13 86)) (if (v0_0 (13 : Int32).toNatClampNeg) ≤ s12.2.2.1 then some (.inr (s12.1, s12.2.1, s12.2.2.2.1, s12.2.2.2.2.1, s12.2.2.2.2.2.1, s12.2.2.2.2.2.2.1, s12.2.2.2.2.2.2.2.1, s12.2.2.2.2.2.2.2.2.1, s12.2.2.2.2.2.2.2.2.2.1, s12.2.2.2.2.2.2.2.2.2.2.1, s12.2.2.2.2.2.2.2.2.2.2.2.1, s12.2.2.2.2.2.2.2.2.2.2.2.2.1, s12.2.2.2.2.2.2.2.2.2.2.2.2.2.1, s12.2.2.2.2.2.2.2.2.2.2.2.2.2.2)) else obd (F_X12_laysRuns n s12.2.2.2.1 s12.2.2.2.2.1 v0_0 s12.2.2.2.2.2.2.2.1 s12.2.2.2.2.2.2.2.2.1 s12.2.2.2.2.2.2.2.2.2.1 s12.2.2.2.2.2.2.2.2.2.2.1 s12.2.2.2.2.2.2.2.2.2.2.2.1 s12.2.2.2.2.2.2.2.2.2.2.2.2.1 s12.2.2.2.2.2.2.2.2.2.2.2.2.2.1 s12.2.2.2.2.2.2.2.2.2.2.2.2.2.2 s12.2.2.1) (fun u_9 => lt (s12.2.1 + u_9.2.1) (fun y_10 => F_X12_dashed_j40 n u_9.1 u_9.2.1 u_9.2.2.1 u_9.2.2.2.1 u_9.2.2.2.2.1 u_9.2.2.2.2.2.1 u_9.2.2.2.2.2.2.1 u_9.2.2.2.2.2.2.2.1 u_9.2.2.2.2.2.2.2.2.1 u_9.2.2.2.2.2.2.2.2.2.1 u_9.2.2.2.2.2.2.2.2.2.2.1 u_9.2.2.2.2.2.2.2.2.2.2.2 s12.1 y_10 s12.2.2.1 0)))
def F_X12_dashed_j12 (n : Nat) (v0_3 : Int32) (v0_12 : Int32) (v0_13 : Int32) (v0_16 : Int32) (v0_17 : Int32) (v0_0 : Nat → Int32) (v0_6 : Nat → Int32) (v0_7 : Nat → Int32) (v0_8 : Nat → Int32) (v0_9 : Nat → Int32) (v0_10 : Nat → Int32) (v0_11 : Nat → Int32) (v0_14 : Nat → Int32) (v0_15 : Nat → Int32) (x1 : Int32) (x2 : Int32) (x3 : Int32) (x4 : Int32) : Option (Int32 × Int32 × Int32 × Int32 × Int32 × Int32 × (Nat → Int32) × (Nat → Int32) × (Nat → Int32) × (Nat → Int32) × (Nat → Int32) × (Nat → Int32) × (Nat → Int32) × (Nat → Int32)) :=
  obd (lpq (F_X12_dashed_b12 n v0_0) n (x2, x3, x4, v0_12, v0_13, v0_16, v0_17, v0_6, v0_7, v0_8, v0_9, v0_10, v0_11, v0_14, v0_15)) (fun x_12 => F_X12_dashed_j71 v0_3 x_12.2.2.1 x_12.2.2.2.1 x_12.2.2.2.2.1 x_12.2.2.2.2.2.1 x_12.2.2.2.2.2.2.1 x_12.2.2.2.2.2.2.2.1 x_12.2.2.2.2.2.2.2.2.1 x_12.2.2.2.2.2.2.2.2.2.1 x_12.2.2.2.2.2.2.2.2.2.2.1 x_12.2.2.2.2.2.2.2.2.2.2.2.1 x_12.2.2.2.2.2.2.2.2.2.2.2.2.1 x_12.2.2.2.2.2.2.2.2.2.2.2.2.2 x1 x_12.1 x_12.2.1)
def F_X12_dashed (n : Nat) (v0_12 : Int32) (v0_13 : Int32) (v0_16 : Int32) (v0_17 : Int32) (v0_0 : Nat → Int32) (v0_6 : Nat → Int32) (v0_7 : Nat → Int32) (v0_8 : Nat → Int32) (v0_9 : Nat → Int32) (v0_10 : Nat → Int32) (v0_11 : Nat → Int32) (v0_14 : Nat → Int32) (v0_15 : Nat → Int32) (p1 : Int32) : Option (Int32 × Int32 × Int32 × Int32 × Int32 × Int32 × (Nat → Int32) × (Nat → Int32) × (Nat → Int32) × (Nat → Int32) × (Nat → Int32) × (Nat → Int32) × (Nat → Int32) × (Nat → Int32)) :=
  F_X12_dashed_j12 n 0 v0_12 v0_13 v0_16 v0_17 v0_0 v0_6 v0_7 v0_8 v0_9 v0_10 v0_11 v0_14 v0_15 p1 0 0 0
abbrev wd_X12_dashed (cI : ClassId) (a0 : Nat → Nat) (v0_2 : Int32) (v0_3 : Int32) (v0_5 : Int32) (v0_12 : Int32) (v0_13 : Int32) (v0_16 : Int32) (v0_17 : Int32) (v0_21 : Int32) (v0_23 : Int32) (v0_24 : Int32) (v0_25 : Int32) (v0_26 : Int32) (v0_29 : Int32) (v0_30 : Int64) (v0_0 : Nat → Int32) (v0_6 : Nat → Int32) (v0_7 : Nat → Int32) (v0_8 : Nat → Int32) (v0_9 : Nat → Int32) (v0_10 : Nat → Int32) (v0_11 : Nat → Int32) (v0_14 : Nat → Int32) (v0_15 : Nat → Int32) : va_W := [(a0 0, .inr (11, [.ref (a0 1), .ref (a0 2), .int v0_2, .int v0_3, .ref (a0 5), .int v0_5, .ref (a0 7), .ref (a0 8), .ref (a0 9), .ref (a0 10), .ref (a0 11), .ref (a0 12), .int v0_12, .int v0_13, .ref (a0 15), .ref (a0 16), .int v0_16, .int v0_17, .ref (a0 19), .ref (a0 20), .ref (a0 21), .int v0_21, .ref (a0 23), .int v0_23, .int v0_24, .int v0_25, .int v0_26, .ref (a0 28), .ref (a0 29), .int v0_29, .long v0_30])), (a0 1, .inl (cI, 86, .inl v0_0)), (a0 7, .inl (cI, 8, .inl v0_6)), (a0 8, .inl (cI, 8, .inl v0_7)), (a0 9, .inl (cI, 8, .inl v0_8)), (a0 10, .inl (cI, 8, .inl v0_9)), (a0 11, .inl (cI, 8, .inl v0_10)), (a0 12, .inl (cI, 8, .inl v0_11)), (a0 15, .inl (cI, 240, .inl v0_14)), (a0 16, .inl (cI, 240, .inl v0_15))]
abbrev wz_X12_dashed : List Cond := .code yX12_dashed cX12_dashed 6 (some .int) :: wALL
abbrev rm_X12_dashed : Room := { frames := 5, cells := 0, slots := 0, locals := 116 }
abbrev Q_X12_dashed (dC : Nat → ClassId) (dI : Nat → Nat → Nat) (cI : ClassId) (a0 : Nat → Nat) (v0_2 : Int32) (v0_5 : Int32) (v0_21 : Int32) (v0_23 : Int32) (v0_24 : Int32) (v0_25 : Int32) (v0_26 : Int32) (v0_29 : Int32) (v0_30 : Int64) (v0_0 : Nat → Int32) (u : (Int32 × Int32 × Int32 × Int32 × Int32 × Int32 × (Nat → Int32) × (Nat → Int32) × (Nat → Int32) × (Nat → Int32) × (Nat → Int32) × (Nat → Int32) × (Nat → Int32) × (Nat → Int32))) (A : Nat → Prop) : Array Value → State → Outcome → State → Prop := va_Qi (fun (r : Int32) (_ : Unit) => r = u.1) (fun _ => q_at dC dI cI A (wd_X12_dashed cI a0 v0_2 u.2.1 v0_5 u.2.2.1 u.2.2.2.1 u.2.2.2.2.1 u.2.2.2.2.2.1 v0_21 v0_23 v0_24 v0_25 v0_26 v0_29 v0_30 v0_0 u.2.2.2.2.2.2.1 u.2.2.2.2.2.2.2.1 u.2.2.2.2.2.2.2.2.1 u.2.2.2.2.2.2.2.2.2.1 u.2.2.2.2.2.2.2.2.2.2.1 u.2.2.2.2.2.2.2.2.2.2.2.1 u.2.2.2.2.2.2.2.2.2.2.2.2.1 u.2.2.2.2.2.2.2.2.2.2.2.2.2)) A
set_option maxHeartbeats 4000000 in
set_option maxRecDepth 100000 in
theorem c_X12_dashed (l : Launch) (dC : Nat → ClassId) (dI : Nat → Nat → Nat) (cI : ClassId) (sz : Nat) (a0 : Nat → Nat) (v0_2 : Int32) (v0_3 : Int32) (v0_5 : Int32) (v0_12 : Int32) (v0_13 : Int32) (v0_16 : Int32) (v0_17 : Int32) (v0_21 : Int32) (v0_23 : Int32) (v0_24 : Int32) (v0_25 : Int32) (v0_26 : Int32) (v0_29 : Int32) (v0_30 : Int64) (v0_0 : Nat → Int32) (v0_6 : Nat → Int32) (v0_7 : Nat → Int32) (v0_8 : Nat → Int32) (v0_9 : Nat → Int32) (v0_10 : Nat → Int32) (v0_11 : Nat → Int32) (v0_14 : Nat → Int32) (v0_15 : Nat → Int32) (p1 : Int32) (n : Nat) (u : (Int32 × Int32 × Int32 × Int32 × Int32 × Int32 × (Nat → Int32) × (Nat → Int32) × (Nat → Int32) × (Nat → Int32) × (Nat → Int32) × (Nat → Int32) × (Nat → Int32) × (Nat → Int32))) (hF : F_X12_dashed n v0_12 v0_13 v0_16 v0_17 v0_0 v0_6 v0_7 v0_8 v0_9 v0_10 v0_11 v0_14 v0_15 p1 = some u) : Met l yX12_dashed wz_X12_dashed rm_X12_dashed (va_Pc [.ref (a0 0), .int p1] (q_pre dC dI cI (wd_X12_dashed cI a0 v0_2 v0_3 v0_5 v0_12 v0_13 v0_16 v0_17 v0_21 v0_23 v0_24 v0_25 v0_26 v0_29 v0_30 v0_0 v0_6 v0_7 v0_8 v0_9 v0_10 v0_11 v0_14 v0_15) sz)) (Q_X12_dashed dC dI cI a0 v0_2 v0_5 v0_21 v0_23 v0_24 v0_25 v0_26 v0_29 v0_30 v0_0 u (va_A (wd_X12_dashed cI a0 v0_2 v0_3 v0_5 v0_12 v0_13 v0_16 v0_17 v0_21 v0_23 v0_24 v0_25 v0_26 v0_29 v0_30 v0_0 v0_6 v0_7 v0_8 v0_9 v0_10 v0_11 v0_14 v0_15) sz)) 0 0 (va_A (wd_X12_dashed cI a0 v0_2 v0_3 v0_5 v0_12 v0_13 v0_16 v0_17 v0_21 v0_23 v0_24 v0_25 v0_26 v0_29 v0_30 v0_0 v0_6 v0_7 v0_8 v0_9 v0_10 v0_11 v0_14 v0_15) sz) := by
  refine Met.ofW (cc := cX12_dashed) (maxL := 6) (ret := (some .int)) (by decide) rfl ?_
  intro p e s m args below meth c s₁ B hml hv
  obtain ⟨rfl, hsz, hP, hK, hD0⟩ := hv
  have hx := B.exec
  have hb := B.bytes
  have hr := B.returns
  have hts := atoms_spec (ws := wz_X12_dashed) B.pre
  have hta := wz_tl hts
  have hown : s.vm.findClass RX12 = some m.cls := findClass_of_methodNamed B.named
  have hlocks := B.notSynchronized
  subst hsz
  have hD := hD0.self (sz := s.heap.size)
  generalize hAe : va_A (wd_X12_dashed cI a0 v0_2 v0_3 v0_5 v0_12 v0_13 v0_16 v0_17 v0_21 v0_23 v0_24 v0_25 v0_26 v0_29 v0_30 v0_0 v0_6 v0_7 v0_8 v0_9 v0_10 v0_11 v0_14 v0_15) s.heap.size = A at hD ⊢
  have hA : ∀ q : Nat, s.heap.size ≤ q → A q := fun q h => by rw [← hAe]; exact Or.inr h
  have hS : va_S A s.heap s.heap [] := va_S.rf
  have hP : va_P (dC, dI) vwCl (wd_X12_dashed cI a0 v0_2 v0_3 v0_5 v0_12 v0_13 v0_16 v0_17 v0_21 v0_23 v0_24 v0_25 v0_26 v0_29 v0_30 v0_0 v0_6 v0_7 v0_8 v0_9 v0_10 v0_11 v0_14 v0_15) s.heap := hP
  have hl := lv_entry ([.ref (a0 0), .int p1]) (n := 6) (Nat.le_of_ble_eq_true rfl)
  rw [lg_entry_eq]
  generalize (lg_sl ([.ref (a0 0), .int p1]) ++ List.replicate (6 - (lg_sl ([.ref (a0 0), .int p1])).length) Slot.unset).toArray = ls at hl ⊢
  have hl : lv_has ls 6 [(0, .ref (a0 0)), (1, .int p1)] := hl
  obtain ⟨H, hHe⟩ : ∃ H, H = s.heap := ⟨_, rfl⟩
  have hS : va_S A s.heap H [] := by rw [hHe]; exact hS
  have hP : va_P (dC, dI) vwCl (wd_X12_dashed cI a0 v0_2 v0_3 v0_5 v0_12 v0_13 v0_16 v0_17 v0_21 v0_23 v0_24 v0_25 v0_26 v0_29 v0_30 v0_0 v0_6 v0_7 v0_8 v0_9 v0_10 v0_11 v0_14 v0_15) H := by rw [hHe]; exact hP
  rw [← hHe]
  unfold F_X12_dashed at hF
  have j71 : ∀ (v0_3 : Int32) (v0_12 : Int32) (v0_13 : Int32) (v0_16 : Int32) (v0_17 : Int32) (v0_6 : Nat → Int32) (v0_7 : Nat → Int32) (v0_8 : Nat → Int32) (v0_9 : Nat → Int32) (v0_10 : Nat → Int32) (v0_11 : Nat → Int32) (v0_14 : Nat → Int32) (v0_15 : Nat → Int32) (x1 : Int32) (x2 : Int32) (x3 : Int32), F_X12_dashed_j71 v0_3 v0_12 v0_13 v0_16 v0_17 v0_6 v0_7 v0_8 v0_9 v0_10 v0_11 v0_14 v0_15 x1 x2 x3 = some u → ∀ (H : Heap) (locs : List Loc) (ls : Array Slot), va_P (dC, dI) vwCl (wd_X12_dashed cI a0 v0_2 v0_3 v0_5 v0_12 v0_13 v0_16 v0_17 v0_21 v0_23 v0_24 v0_25 v0_26 v0_29 v0_30 v0_0 v0_6 v0_7 v0_8 v0_9 v0_10 v0_11 v0_14 v0_15) H → va_D A (wd_X12_dashed cI a0 v0_2 v0_3 v0_5 v0_12 v0_13 v0_16 v0_17 v0_21 v0_23 v0_24 v0_25 v0_26 v0_29 v0_30 v0_0 v0_6 v0_7 v0_8 v0_9 v0_10 v0_11 v0_14 v0_15) → va_S A s.heap H locs → lv_has ls 6 [(1, .int x1), (2, .int x2), (3, .int x3)] → W p l e (headSpec wz_X12_dashed rm_X12_dashed).room s m [.ref (a0 0), .int p1].toArray below meth c H locs 0 0 (MQ below (Q_X12_dashed dC dI cI a0 v0_2 v0_5 v0_21 v0_23 v0_24 v0_25 v0_26 v0_29 v0_30 v0_0 u A) [.ref (a0 0), .int p1].toArray s 0 0 A) (F0 m 71 ls []) := by
    intro v0_3 v0_12 v0_13 v0_16 v0_17 v0_6 v0_7 v0_8 v0_9 v0_10 v0_11 v0_14 v0_15 x1 x2 x3 hF H locs ls hP hD hS hl
    unfold F_X12_dashed_j71 at hF
    refine lv_iload_n hx hb dX12_dashed_71 rfl (lv_at hl 0 rfl) ?_
    refine lv_if_eq (tgt := 79) hx hb dX12_dashed_72 (by decide) (fun c_1 => ?_) (fun c_1 => ?_)
    · have hF := it_t hF c_1
      refine lv_iload_n hx hb dX12_dashed_79 rfl (lv_at hl 2 rfl) ?_
      refine lv_iload_n hx hb dX12_dashed_80 rfl (lv_at hl 1 rfl) ?_
      refine lv_isub hx hb dX12_dashed_81 ?_
      obtain rfl := Option.some.inj hF
      exact W.iret (v := (x3 - x2)) hx hb hr (fun t ht hW => ⟨⟨(x3 - x2), (), rfl, rfl, by rw [ht]; exact hP, va_K.moved hW.alike hK, hD⟩, hS.F ht⟩) hS.2.2 dX12_dashed_82
    · have hF := it_f hF c_1
      refine lv_iload_n hx hb dX12_dashed_75 rfl (lv_at hl 1 rfl) ?_
      refine lv_goto (tgt := 82) hx hb dX12_dashed_76 (by decide) ?_
      obtain rfl := Option.some.inj hF
      exact W.iret (v := x2) hx hb hr (fun t ht hW => ⟨⟨x2, (), rfl, rfl, by rw [ht]; exact hP, va_K.moved hW.alike hK, hD⟩, hS.F ht⟩) hS.2.2 dX12_dashed_82
  have j12 : ∀ (v0_3 : Int32) (v0_12 : Int32) (v0_13 : Int32) (v0_16 : Int32) (v0_17 : Int32) (v0_6 : Nat → Int32) (v0_7 : Nat → Int32) (v0_8 : Nat → Int32) (v0_9 : Nat → Int32) (v0_10 : Nat → Int32) (v0_11 : Nat → Int32) (v0_14 : Nat → Int32) (v0_15 : Nat → Int32) (x1 : Int32) (x2 : Int32) (x3 : Int32) (x4 : Int32), F_X12_dashed_j12 n v0_3 v0_12 v0_13 v0_16 v0_17 v0_0 v0_6 v0_7 v0_8 v0_9 v0_10 v0_11 v0_14 v0_15 x1 x2 x3 x4 = some u → ∀ (H : Heap) (locs : List Loc) (ls : Array Slot), va_P (dC, dI) vwCl (wd_X12_dashed cI a0 v0_2 v0_3 v0_5 v0_12 v0_13 v0_16 v0_17 v0_21 v0_23 v0_24 v0_25 v0_26 v0_29 v0_30 v0_0 v0_6 v0_7 v0_8 v0_9 v0_10 v0_11 v0_14 v0_15) H → va_D A (wd_X12_dashed cI a0 v0_2 v0_3 v0_5 v0_12 v0_13 v0_16 v0_17 v0_21 v0_23 v0_24 v0_25 v0_26 v0_29 v0_30 v0_0 v0_6 v0_7 v0_8 v0_9 v0_10 v0_11 v0_14 v0_15) → va_S A s.heap H locs → lv_has ls 6 [(0, .ref (a0 0)), (1, .int x1), (2, .int x2), (3, .int x3), (4, .int x4)] → W p l e (headSpec wz_X12_dashed rm_X12_dashed).room s m [.ref (a0 0), .int p1].toArray below meth c H locs 0 0 (MQ below (Q_X12_dashed dC dI cI a0 v0_2 v0_5 v0_21 v0_23 v0_24 v0_25 v0_26 v0_29 v0_30 v0_0 u A) [.ref (a0 0), .int p1].toArray s 0 0 A) (F0 m 12 ls []) := by
    intro v0_3 v0_12 v0_13 v0_16 v0_17 v0_6 v0_7 v0_8 v0_9 v0_10 v0_11 v0_14 v0_15 x1 x2 x3 x4 hF H locs ls hP hD hS hl
    unfold F_X12_dashed_j12 at hF
    obtain ⟨x_12, hL_12, hE_12⟩ := obd_some hF
    have kl_12 : ∀ (k : Nat) (s12 : Int32 × Int32 × Int32 × Int32 × Int32 × Int32 × Int32 × (Nat → Int32) × (Nat → Int32) × (Nat → Int32) × (Nat → Int32) × (Nat → Int32) × (Nat → Int32) × (Nat → Int32) × (Nat → Int32)), lpq (F_X12_dashed_b12 n v0_0) k s12 = some x_12 → ∀ (H : Heap) (locs : List Loc) (ls : Array Slot), va_P (dC, dI) vwCl (wd_X12_dashed cI a0 v0_2 v0_3 v0_5 s12.2.2.2.1 s12.2.2.2.2.1 s12.2.2.2.2.2.1 s12.2.2.2.2.2.2.1 v0_21 v0_23 v0_24 v0_25 v0_26 v0_29 v0_30 v0_0 s12.2.2.2.2.2.2.2.1 s12.2.2.2.2.2.2.2.2.1 s12.2.2.2.2.2.2.2.2.2.1 s12.2.2.2.2.2.2.2.2.2.2.1 s12.2.2.2.2.2.2.2.2.2.2.2.1 s12.2.2.2.2.2.2.2.2.2.2.2.2.1 s12.2.2.2.2.2.2.2.2.2.2.2.2.2.1 s12.2.2.2.2.2.2.2.2.2.2.2.2.2.2) H → va_D A (wd_X12_dashed cI a0 v0_2 v0_3 v0_5 s12.2.2.2.1 s12.2.2.2.2.1 s12.2.2.2.2.2.1 s12.2.2.2.2.2.2.1 v0_21 v0_23 v0_24 v0_25 v0_26 v0_29 v0_30 v0_0 s12.2.2.2.2.2.2.2.1 s12.2.2.2.2.2.2.2.2.1 s12.2.2.2.2.2.2.2.2.2.1 s12.2.2.2.2.2.2.2.2.2.2.1 s12.2.2.2.2.2.2.2.2.2.2.2.1 s12.2.2.2.2.2.2.2.2.2.2.2.2.1 s12.2.2.2.2.2.2.2.2.2.2.2.2.2.1 s12.2.2.2.2.2.2.2.2.2.2.2.2.2.2) → va_S A s.heap H locs → lv_has ls 6 [(0, .ref (a0 0)), (1, .int x1), (2, .int s12.1), (3, .int s12.2.1), (4, .int s12.2.2.1)] → W p l e (headSpec wz_X12_dashed rm_X12_dashed).room s m [.ref (a0 0), .int p1].toArray below meth c H locs 0 0 (MQ below (Q_X12_dashed dC dI cI a0 v0_2 v0_5 v0_21 v0_23 v0_24 v0_25 v0_26 v0_29 v0_30 v0_0 u A) [.ref (a0 0), .int p1].toArray s 0 0 A) (F0 m 12 ls []) := by
      intro k
      induction k with
      | zero => intro s12 h; exact absurd h lpq_zero
      | succ k ih_12 =>
        intro s12 h H locs ls hP hD hS hl
        obtain ⟨o_12, hF, hO_12⟩ := lpq_succ h
        unfold F_X12_dashed_b12 at hF
        have j65 : ∀ (v0_12 : Int32) (v0_13 : Int32) (v0_16 : Int32) (v0_17 : Int32) (v0_6 : Nat → Int32) (v0_7 : Nat → Int32) (v0_8 : Nat → Int32) (v0_9 : Nat → Int32) (v0_10 : Nat → Int32) (v0_11 : Nat → Int32) (v0_14 : Nat → Int32) (v0_15 : Nat → Int32) (x2 : Int32) (x3 : Int32) (x4 : Int32), F_X12_dashed_j65 v0_12 v0_13 v0_16 v0_17 v0_6 v0_7 v0_8 v0_9 v0_10 v0_11 v0_14 v0_15 x2 x3 x4 = some o_12 → ∀ (H : Heap) (locs : List Loc) (ls : Array Slot), va_P (dC, dI) vwCl (wd_X12_dashed cI a0 v0_2 v0_3 v0_5 v0_12 v0_13 v0_16 v0_17 v0_21 v0_23 v0_24 v0_25 v0_26 v0_29 v0_30 v0_0 v0_6 v0_7 v0_8 v0_9 v0_10 v0_11 v0_14 v0_15) H → va_D A (wd_X12_dashed cI a0 v0_2 v0_3 v0_5 v0_12 v0_13 v0_16 v0_17 v0_21 v0_23 v0_24 v0_25 v0_26 v0_29 v0_30 v0_0 v0_6 v0_7 v0_8 v0_9 v0_10 v0_11 v0_14 v0_15) → va_S A s.heap H locs → lv_has ls 6 [(0, .ref (a0 0)), (1, .int x1), (2, .int x2), (3, .int x3), (4, .int x4)] → W p l e (headSpec wz_X12_dashed rm_X12_dashed).room s m [.ref (a0 0), .int p1].toArray below meth c H locs 0 0 (MQ below (Q_X12_dashed dC dI cI a0 v0_2 v0_5 v0_21 v0_23 v0_24 v0_25 v0_26 v0_29 v0_30 v0_0 u A) [.ref (a0 0), .int p1].toArray s 0 0 A) (F0 m 65 ls []) := by
          intro v0_12 v0_13 v0_16 v0_17 v0_6 v0_7 v0_8 v0_9 v0_10 v0_11 v0_14 v0_15 x2 x3 x4 hF H locs ls hP hD hS hl
          unfold F_X12_dashed_j65 at hF
          obtain ⟨y_2, ey_2, hF⟩ := lt_some hF
          refine lv_iinc (v := y_2) (lv' := [(4, .int y_2), (0, .ref (a0 0)), (1, .int x1), (2, .int x2), (3, .int x3)]) hx hb dX12_dashed_65 hl (k := 4) rfl (by rw [ey_2]; rfl) (by decide) rfl (fun ls hl => ?_)
          refine lv_goto (tgt := 12) hx hb dX12_dashed_68 (by decide) ?_
          obtain rfl := Option.some.inj hF
          exact ih_12 _ hO_12 _ _ _ hP hD hS (lv_sub hl [1, 2, 3, 4, 0] rfl)
        have j40 : ∀ (v0_12 : Int32) (v0_13 : Int32) (v0_16 : Int32) (v0_17 : Int32) (v0_6 : Nat → Int32) (v0_7 : Nat → Int32) (v0_8 : Nat → Int32) (v0_9 : Nat → Int32) (v0_10 : Nat → Int32) (v0_11 : Nat → Int32) (v0_14 : Nat → Int32) (v0_15 : Nat → Int32) (x2 : Int32) (x3 : Int32) (x4 : Int32) (x5 : Int32), F_X12_dashed_j40 n v0_12 v0_13 v0_16 v0_17 v0_6 v0_7 v0_8 v0_9 v0_10 v0_11 v0_14 v0_15 x2 x3 x4 x5 = some o_12 → ∀ (H : Heap) (locs : List Loc) (ls : Array Slot), va_P (dC, dI) vwCl (wd_X12_dashed cI a0 v0_2 v0_3 v0_5 v0_12 v0_13 v0_16 v0_17 v0_21 v0_23 v0_24 v0_25 v0_26 v0_29 v0_30 v0_0 v0_6 v0_7 v0_8 v0_9 v0_10 v0_11 v0_14 v0_15) H → va_D A (wd_X12_dashed cI a0 v0_2 v0_3 v0_5 v0_12 v0_13 v0_16 v0_17 v0_21 v0_23 v0_24 v0_25 v0_26 v0_29 v0_30 v0_0 v0_6 v0_7 v0_8 v0_9 v0_10 v0_11 v0_14 v0_15) → va_S A s.heap H locs → lv_has ls 6 [(0, .ref (a0 0)), (1, .int x1), (2, .int x2), (3, .int x3), (4, .int x4), (5, .int x5)] → W p l e (headSpec wz_X12_dashed rm_X12_dashed).room s m [.ref (a0 0), .int p1].toArray below meth c H locs 0 0 (MQ below (Q_X12_dashed dC dI cI a0 v0_2 v0_5 v0_21 v0_23 v0_24 v0_25 v0_26 v0_29 v0_30 v0_0 u A) [.ref (a0 0), .int p1].toArray s 0 0 A) (F0 m 40 ls []) := by
          intro v0_12 v0_13 v0_16 v0_17 v0_6 v0_7 v0_8 v0_9 v0_10 v0_11 v0_14 v0_15 x2 x3 x4 x5 hF H locs ls hP hD hS hl
          unfold F_X12_dashed_j40 at hF
          obtain ⟨x_40, hL_40, hE_40⟩ := obd_some hF
          have kl_40 : ∀ (k : Nat) (s40 : Int32 × Int32), lpq (F_X12_dashed_b40 v0_16 v0_15) k s40 = some x_40 → ∀ (H : Heap) (locs : List Loc) (ls : Array Slot), va_P (dC, dI) vwCl (wd_X12_dashed cI a0 v0_2 v0_3 v0_5 v0_12 v0_13 v0_16 v0_17 v0_21 v0_23 v0_24 v0_25 v0_26 v0_29 v0_30 v0_0 v0_6 v0_7 v0_8 v0_9 v0_10 v0_11 v0_14 v0_15) H → va_D A (wd_X12_dashed cI a0 v0_2 v0_3 v0_5 v0_12 v0_13 v0_16 v0_17 v0_21 v0_23 v0_24 v0_25 v0_26 v0_29 v0_30 v0_0 v0_6 v0_7 v0_8 v0_9 v0_10 v0_11 v0_14 v0_15) → va_S A s.heap H locs → lv_has ls 6 [(0, .ref (a0 0)), (1, .int x1), (2, .int s40.1), (3, .int x3), (4, .int x4), (5, .int s40.2)] → W p l e (headSpec wz_X12_dashed rm_X12_dashed).room s m [.ref (a0 0), .int p1].toArray below meth c H locs 0 0 (MQ below (Q_X12_dashed dC dI cI a0 v0_2 v0_5 v0_21 v0_23 v0_24 v0_25 v0_26 v0_29 v0_30 v0_0 u A) [.ref (a0 0), .int p1].toArray s 0 0 A) (F0 m 40 ls []) := by
            intro k
            induction k with
            | zero => intro s40 h; exact absurd h lpq_zero
            | succ k ih_40 =>
              intro s40 h H locs ls hP hD hS hl
              obtain ⟨o_40, hF, hO_40⟩ := lpq_succ h
              unfold F_X12_dashed_b40 at hF
              refine lv_iload hx hb dX12_dashed_40 (lv_at hl 5 rfl) ?_
              refine lv_aload_n hx hb dX12_dashed_42 rfl (lv_at hl 0 rfl) ?_
              refine va_get (D := (dC, dI)) (ci := 11) (v := .int v0_16) (C := RX12) (T := TX12) (N := 31) hx hb hta uw_X12 hown hK hP 0 rfl rfl 16 (by decide) (hta _ mA924) (fun _ h9 => h9) rfl dX12_dashed_43 ?_
              refine lv_icmp_ge (tgt := 65) hx hb dX12_dashed_46 (by decide) (fun c_3 => ?_) (fun c_3 => ?_)
              · have hF := it_t hF c_3
                obtain rfl := Option.some.inj hF
                obtain rfl := lpq_x hO_40
                have hF := hE_40
                exact j65 v0_12 v0_13 v0_16 v0_17 v0_6 v0_7 v0_8 v0_9 v0_10 v0_11 v0_14 v0_15 s40.1 x3 x4 hF _ _ _ hP hD hS (lv_sub hl [0, 1, 2, 3, 4] rfl)
              · have hF := it_f hF c_3
                refine lv_iload_n hx hb dX12_dashed_49 rfl (lv_at hl 2 rfl) ?_
                refine lv_aload_n hx hb dX12_dashed_50 rfl (lv_at hl 0 rfl) ?_
                refine va_get (D := (dC, dI)) (ci := 11) (v := .ref (a0 16)) (C := RX12) (T := TX12) (N := 31) hx hb hta uw_X12 hown hK hP 0 rfl rfl 15 (by decide) (hta _ mA800) (fun _ h9 => h9) rfl dX12_dashed_51 ?_
                refine lv_iload hx hb dX12_dashed_54 (lv_at hl 5 rfl) ?_
                obtain ⟨g_4, hF⟩ := gd_some hF
                refine va_iald hx hb hK hP 9 0 rfl rfl (vpi_in g_4) dX12_dashed_56 ?_
                refine lv_iadd hx hb dX12_dashed_57 ?_
                obtain ⟨y_5, ey_5, hF⟩ := lt_some hF
                refine lv_eqi ey_5 ?_
                refine lv_istore_n (lv' := [(2, .int y_5), (0, .ref (a0 0)), (1, .int x1), (3, .int x3), (4, .int x4), (5, .int s40.2)]) hx hb dX12_dashed_58 rfl hl (by decide) rfl (fun ls hl => ?_)
                obtain ⟨y_6, ey_6, hF⟩ := lt_some hF
                refine lv_iinc (v := y_6) (lv' := [(5, .int y_6), (2, .int y_5), (0, .ref (a0 0)), (1, .int x1), (3, .int x3), (4, .int x4)]) hx hb dX12_dashed_59 hl (k := 5) rfl (by rw [ey_6]; rfl) (by decide) rfl (fun ls hl => ?_)
                refine lv_goto (tgt := 40) hx hb dX12_dashed_62 (by decide) ?_
                obtain rfl := Option.some.inj hF
                exact ih_40 _ hO_40 _ _ _ hP hD hS (lv_sub hl [2, 3, 1, 4, 5, 0] rfl)
          exact kl_40 n _ hL_40 _ _ _ hP hD hS hl
        refine lv_iload hx hb dX12_dashed_12 (lv_at hl 4 rfl) ?_
        refine lv_aload_n hx hb dX12_dashed_14 rfl (lv_at hl 0 rfl) ?_
        refine va_get (D := (dC, dI)) (ci := 11) (v := .ref (a0 1)) (C := RX12) (T := TX12) (N := 31) hx hb hta uw_X12 hown hK hP 0 rfl rfl 0 (by decide) (hta _ mA790) (fun _ h9 => h9) rfl dX12_dashed_15 ?_
        refine lv_bipush (v := 13) hx hb dX12_dashed_18 (by decide) ?_
        obtain ⟨g_7, hF⟩ := gd_some hF
        refine va_iald hx hb hK hP 1 0 rfl rfl (vpi_in g_7) dX12_dashed_20 ?_
        refine lv_icmp_ge (tgt := 71) hx hb dX12_dashed_21 (by decide) (fun c_8 => ?_) (fun c_8 => ?_)
        · have hF := it_t hF c_8
          obtain rfl := Option.some.inj hF
          obtain rfl := lpq_x hO_12
          have hF := hE_12
          exact j71 v0_3 s12.2.2.2.1 s12.2.2.2.2.1 s12.2.2.2.2.2.1 s12.2.2.2.2.2.2.1 s12.2.2.2.2.2.2.2.1 s12.2.2.2.2.2.2.2.2.1 s12.2.2.2.2.2.2.2.2.2.1 s12.2.2.2.2.2.2.2.2.2.2.1 s12.2.2.2.2.2.2.2.2.2.2.2.1 s12.2.2.2.2.2.2.2.2.2.2.2.2.1 s12.2.2.2.2.2.2.2.2.2.2.2.2.2.1 s12.2.2.2.2.2.2.2.2.2.2.2.2.2.2 x1 s12.1 s12.2.1 hF _ _ _ hP hD hS (lv_sub hl [1, 2, 3] rfl)
        · have hF := it_f hF c_8
          refine lv_aload_n hx hb dX12_dashed_24 rfl (lv_at hl 0 rfl) ?_
          refine lv_iload hx hb dX12_dashed_25 (lv_at hl 4 rfl) ?_
          obtain ⟨u_9, hu_9, hF⟩ := obd_some hF
          have hPc := hP.sub (ws' := (wd_X12_laysRuns cI a0 v0_2 v0_3 v0_5 s12.2.2.2.1 s12.2.2.2.2.1 s12.2.2.2.2.2.1 s12.2.2.2.2.2.2.1 v0_21 v0_23 v0_24 v0_25 v0_26 v0_29 v0_30 v0_0 s12.2.2.2.2.2.2.2.1 s12.2.2.2.2.2.2.2.2.1 s12.2.2.2.2.2.2.2.2.2.1 s12.2.2.2.2.2.2.2.2.2.2.1 s12.2.2.2.2.2.2.2.2.2.2.2.1 s12.2.2.2.2.2.2.2.2.2.2.2.2.1 s12.2.2.2.2.2.2.2.2.2.2.2.2.2.1 s12.2.2.2.2.2.2.2.2.2.2.2.2.2.2)) [0, 1, 2, 3, 4, 5, 6, 7, 8, 9] rfl
          have hDc := hD.sub (ws' := (wd_X12_laysRuns cI a0 v0_2 v0_3 v0_5 s12.2.2.2.1 s12.2.2.2.2.1 s12.2.2.2.2.2.1 s12.2.2.2.2.2.2.1 v0_21 v0_23 v0_24 v0_25 v0_26 v0_29 v0_30 v0_0 s12.2.2.2.2.2.2.2.1 s12.2.2.2.2.2.2.2.2.1 s12.2.2.2.2.2.2.2.2.2.1 s12.2.2.2.2.2.2.2.2.2.2.1 s12.2.2.2.2.2.2.2.2.2.2.2.1 s12.2.2.2.2.2.2.2.2.2.2.2.2.1 s12.2.2.2.2.2.2.2.2.2.2.2.2.2.1 s12.2.2.2.2.2.2.2.2.2.2.2.2.2.2)) [0, 1, 2, 3, 4, 5, 6, 7, 8, 9] rfl rfl
          refine q_callv (wc := (wd_X12_laysRuns cI a0 v0_2 v0_3 v0_5 s12.2.2.2.1 s12.2.2.2.2.1 s12.2.2.2.2.2.1 s12.2.2.2.2.2.2.1 v0_21 v0_23 v0_24 v0_25 v0_26 v0_29 v0_30 v0_0 s12.2.2.2.2.2.2.2.1 s12.2.2.2.2.2.2.2.2.1 s12.2.2.2.2.2.2.2.2.2.1 s12.2.2.2.2.2.2.2.2.2.2.1 s12.2.2.2.2.2.2.2.2.2.2.2.1 s12.2.2.2.2.2.2.2.2.2.2.2.2.1 s12.2.2.2.2.2.2.2.2.2.2.2.2.2.1 s12.2.2.2.2.2.2.2.2.2.2.2.2.2.2)) (w1 := (wd_X12_laysRuns cI a0 v0_2 v0_3 v0_5 u_9.1 u_9.2.1 u_9.2.2.1 u_9.2.2.2.1 v0_21 v0_23 v0_24 v0_25 v0_26 v0_29 v0_30 v0_0 u_9.2.2.2.2.1 u_9.2.2.2.2.2.1 u_9.2.2.2.2.2.2.1 u_9.2.2.2.2.2.2.2.1 u_9.2.2.2.2.2.2.2.2.1 u_9.2.2.2.2.2.2.2.2.2.1 u_9.2.2.2.2.2.2.2.2.2.2.1 u_9.2.2.2.2.2.2.2.2.2.2.2)) (ws' := (wd_X12_dashed cI a0 v0_2 v0_3 v0_5 u_9.1 u_9.2.1 u_9.2.2.1 u_9.2.2.2.1 v0_21 v0_23 v0_24 v0_25 v0_26 v0_29 v0_30 v0_0 u_9.2.2.2.2.1 u_9.2.2.2.2.2.1 u_9.2.2.2.2.2.2.1 u_9.2.2.2.2.2.2.2.1 u_9.2.2.2.2.2.2.2.2.1 u_9.2.2.2.2.2.2.2.2.2.1 u_9.2.2.2.2.2.2.2.2.2.2.1 u_9.2.2.2.2.2.2.2.2.2.2.2)) hP hD hS hA [0, 1, 2, 3, 4, 5, 6, 7, 8, 9] [] [0, 1, 2, 3, 4, 5, 6, 7, 8, 9] rfl rfl rfl (by decide) rfl rfl (va_runV (As := [.int s12.2.2.1]) (rest := []) ⟨hx, hb, hml, hown, hta⟩ (c_X12_laysRuns l dC dI cI H.size a0 v0_2 v0_3 v0_5 s12.2.2.2.1 s12.2.2.2.2.1 s12.2.2.2.2.2.1 s12.2.2.2.2.2.2.1 v0_21 v0_23 v0_24 v0_25 v0_26 v0_29 v0_30 v0_0 s12.2.2.2.2.2.2.2.1 s12.2.2.2.2.2.2.2.2.1 s12.2.2.2.2.2.2.2.2.2.1 s12.2.2.2.2.2.2.2.2.2.2.1 s12.2.2.2.2.2.2.2.2.2.2.2.1 s12.2.2.2.2.2.2.2.2.2.2.2.2.1 s12.2.2.2.2.2.2.2.2.2.2.2.2.2.1 s12.2.2.2.2.2.2.2.2.2.2.2.2.2.2 s12.2.2.1 n u_9 hu_9) (cwV 1 hta (ga_V mA939 mA940 mA941 mA814 mA923) rfl rfl rfl (by decide +kernel) ⟨Nat.le_of_ble_eq_true rfl, Nat.le_of_ble_eq_true rfl⟩) ⟨q_fb, va_recv hK hP (ci := 11) (q0 := 0) rfl rfl, q_ps hPc hK hDc⟩ rfl rfl hl.1 rfl (lv_room (Nat.le_of_ble_eq_true rfl)) dX12_dashed_27 ⟨Nat.zero_le _, Nat.zero_le _⟩) (fun H locs hP hD hS => ?_)
          refine lv_iload_n hx hb dX12_dashed_30 rfl (lv_at hl 3 rfl) ?_
          refine lv_aload_n hx hb dX12_dashed_31 rfl (lv_at hl 0 rfl) ?_
          refine va_get (D := (dC, dI)) (ci := 11) (v := .int u_9.2.1) (C := RX12) (T := TX12) (N := 31) hx hb hta uw_X12 hown hK hP 0 rfl rfl 13 (by decide) (hta _ mA868) (fun _ h9 => h9) rfl dX12_dashed_32 ?_
          refine lv_iadd hx hb dX12_dashed_35 ?_
          obtain ⟨y_10, ey_10, hF⟩ := lt_some hF
          refine lv_eqi ey_10 ?_
          refine lv_istore_n (lv' := [(3, .int y_10), (0, .ref (a0 0)), (1, .int x1), (2, .int s12.1), (4, .int s12.2.2.1)]) hx hb dX12_dashed_36 rfl hl (by decide) rfl (fun ls hl => ?_)
          refine lv_iconst (v := 0) hx hb dX12_dashed_37 (by decide) ?_
          refine lv_istore (lv' := [(5, .int 0), (3, .int y_10), (0, .ref (a0 0)), (1, .int x1), (2, .int s12.1), (4, .int s12.2.2.1)]) hx hb dX12_dashed_38 hl (by decide) rfl (fun ls hl => ?_)
          exact j40 u_9.1 u_9.2.1 u_9.2.2.1 u_9.2.2.2.1 u_9.2.2.2.2.1 u_9.2.2.2.2.2.1 u_9.2.2.2.2.2.2.1 u_9.2.2.2.2.2.2.2.1 u_9.2.2.2.2.2.2.2.2.1 u_9.2.2.2.2.2.2.2.2.2.1 u_9.2.2.2.2.2.2.2.2.2.2.1 u_9.2.2.2.2.2.2.2.2.2.2.2 s12.1 y_10 s12.2.2.1 0 hF _ _ _ hP hD hS (lv_sub hl [2, 3, 4, 1, 5, 0] rfl)
    exact kl_12 n _ hL_12 _ _ _ hP hD hS hl
  refine lv_aload_n hx hb dX12_dashed_0 rfl (lv_at hl 0 rfl) ?_
  refine lv_iconst (v := 0) hx hb dX12_dashed_1 (by decide) ?_
  refine va_put (D := (dC, dI)) (ci := 11) (v := .int 0) (ty := .int) (C := RX12) (T := TX12) (N := 31) hx hb hta uw_X12 tyX12 tyX12_ok nmX12 hown hK hP hD hS 0 rfl rfl 3 (by decide) (hta _ mA808) (fun _ h9 => h9) rfl (by decide +kernel) rfl rfl (Nat.le_of_ble_eq_true rfl) dX12_dashed_2 (fun H locs hP hD hS => ?_)
  have hP : va_P (dC, dI) vwCl (wd_X12_dashed cI a0 v0_2 0 v0_5 v0_12 v0_13 v0_16 v0_17 v0_21 v0_23 v0_24 v0_25 v0_26 v0_29 v0_30 v0_0 v0_6 v0_7 v0_8 v0_9 v0_10 v0_11 v0_14 v0_15) H := hP
  have hD : va_D A (wd_X12_dashed cI a0 v0_2 0 v0_5 v0_12 v0_13 v0_16 v0_17 v0_21 v0_23 v0_24 v0_25 v0_26 v0_29 v0_30 v0_0 v0_6 v0_7 v0_8 v0_9 v0_10 v0_11 v0_14 v0_15) := hD
  refine lv_iconst (v := 0) hx hb dX12_dashed_5 (by decide) ?_
  refine lv_istore_n (lv' := [(2, .int 0), (0, .ref (a0 0)), (1, .int p1)]) hx hb dX12_dashed_6 rfl hl (by decide) rfl (fun ls hl => ?_)
  refine lv_iconst (v := 0) hx hb dX12_dashed_7 (by decide) ?_
  refine lv_istore_n (lv' := [(3, .int 0), (2, .int 0), (0, .ref (a0 0)), (1, .int p1)]) hx hb dX12_dashed_8 rfl hl (by decide) rfl (fun ls hl => ?_)
  refine lv_iconst (v := 0) hx hb dX12_dashed_9 (by decide) ?_
  refine lv_istore (lv' := [(4, .int 0), (3, .int 0), (2, .int 0), (0, .ref (a0 0)), (1, .int p1)]) hx hb dX12_dashed_10 hl (by decide) rfl (fun ls hl => ?_)
  exact j12 0 v0_12 v0_13 v0_16 v0_17 v0_6 v0_7 v0_8 v0_9 v0_10 v0_11 v0_14 v0_15 p1 0 0 0 hF _ _ _ hP hD hS (lv_sub hl [3, 4, 2, 1, 0] rfl)

-- StrokeOutlinerModel.half()I
def F_X12_half (v0_0 : Nat → Int32) : Option (Int32) :=
  gd (decide (vpi 0 86)) (some (32 * (v0_0 (0 : Int32).toNatClampNeg)))
abbrev wd_X12_half (cI : ClassId) (a0 : Nat → Nat) (v0_2 : Int32) (v0_3 : Int32) (v0_5 : Int32) (v0_12 : Int32) (v0_13 : Int32) (v0_16 : Int32) (v0_17 : Int32) (v0_21 : Int32) (v0_23 : Int32) (v0_24 : Int32) (v0_25 : Int32) (v0_26 : Int32) (v0_29 : Int32) (v0_30 : Int64) (v0_0 : Nat → Int32) : va_W := [(a0 0, .inr (11, [.ref (a0 1), .ref (a0 2), .int v0_2, .int v0_3, .ref (a0 5), .int v0_5, .ref (a0 7), .ref (a0 8), .ref (a0 9), .ref (a0 10), .ref (a0 11), .ref (a0 12), .int v0_12, .int v0_13, .ref (a0 15), .ref (a0 16), .int v0_16, .int v0_17, .ref (a0 19), .ref (a0 20), .ref (a0 21), .int v0_21, .ref (a0 23), .int v0_23, .int v0_24, .int v0_25, .int v0_26, .ref (a0 28), .ref (a0 29), .int v0_29, .long v0_30])), (a0 1, .inl (cI, 86, .inl v0_0))]
abbrev wz_X12_half : List Cond := .code yX12_half cX12_half 1 (some .int) :: wALL
abbrev rm_X12_half : Room := { frames := 0, cells := 0, slots := 0, locals := 0 }
abbrev Q_X12_half (dC : Nat → ClassId) (dI : Nat → Nat → Nat) (cI : ClassId) (a0 : Nat → Nat) (v0_2 : Int32) (v0_3 : Int32) (v0_5 : Int32) (v0_12 : Int32) (v0_13 : Int32) (v0_16 : Int32) (v0_17 : Int32) (v0_21 : Int32) (v0_23 : Int32) (v0_24 : Int32) (v0_25 : Int32) (v0_26 : Int32) (v0_29 : Int32) (v0_30 : Int64) (v0_0 : Nat → Int32) (u : (Int32)) (A : Nat → Prop) : Array Value → State → Outcome → State → Prop := va_Qi (fun (r : Int32) (_ : Unit) => r = u) (fun _ => q_at dC dI cI A (wd_X12_half cI a0 v0_2 v0_3 v0_5 v0_12 v0_13 v0_16 v0_17 v0_21 v0_23 v0_24 v0_25 v0_26 v0_29 v0_30 v0_0)) A
set_option maxHeartbeats 4000000 in
set_option maxRecDepth 100000 in
theorem c_X12_half (l : Launch) (dC : Nat → ClassId) (dI : Nat → Nat → Nat) (cI : ClassId) (sz : Nat) (a0 : Nat → Nat) (v0_2 : Int32) (v0_3 : Int32) (v0_5 : Int32) (v0_12 : Int32) (v0_13 : Int32) (v0_16 : Int32) (v0_17 : Int32) (v0_21 : Int32) (v0_23 : Int32) (v0_24 : Int32) (v0_25 : Int32) (v0_26 : Int32) (v0_29 : Int32) (v0_30 : Int64) (v0_0 : Nat → Int32) (u : (Int32)) (hF : F_X12_half v0_0 = some u) : Met l yX12_half wz_X12_half rm_X12_half (va_Pc [.ref (a0 0)] (q_pre dC dI cI (wd_X12_half cI a0 v0_2 v0_3 v0_5 v0_12 v0_13 v0_16 v0_17 v0_21 v0_23 v0_24 v0_25 v0_26 v0_29 v0_30 v0_0) sz)) (Q_X12_half dC dI cI a0 v0_2 v0_3 v0_5 v0_12 v0_13 v0_16 v0_17 v0_21 v0_23 v0_24 v0_25 v0_26 v0_29 v0_30 v0_0 u (va_A (wd_X12_half cI a0 v0_2 v0_3 v0_5 v0_12 v0_13 v0_16 v0_17 v0_21 v0_23 v0_24 v0_25 v0_26 v0_29 v0_30 v0_0) sz)) 0 0 (va_A (wd_X12_half cI a0 v0_2 v0_3 v0_5 v0_12 v0_13 v0_16 v0_17 v0_21 v0_23 v0_24 v0_25 v0_26 v0_29 v0_30 v0_0) sz) := by
  refine Met.ofW (cc := cX12_half) (maxL := 1) (ret := (some .int)) (by decide) rfl ?_
  intro p e s m args below meth c s₁ B hml hv
  obtain ⟨rfl, hsz, hP, hK, hD0⟩ := hv
  have hx := B.exec
  have hb := B.bytes
  have hr := B.returns
  have hts := atoms_spec (ws := wz_X12_half) B.pre
  have hta := wz_tl hts
  have hown : s.vm.findClass RX12 = some m.cls := findClass_of_methodNamed B.named
  have hlocks := B.notSynchronized
  subst hsz
  have hD := hD0.self (sz := s.heap.size)
  generalize hAe : va_A (wd_X12_half cI a0 v0_2 v0_3 v0_5 v0_12 v0_13 v0_16 v0_17 v0_21 v0_23 v0_24 v0_25 v0_26 v0_29 v0_30 v0_0) s.heap.size = A at hD ⊢
  have hA : ∀ q : Nat, s.heap.size ≤ q → A q := fun q h => by rw [← hAe]; exact Or.inr h
  have hS : va_S A s.heap s.heap [] := va_S.rf
  have hP : va_P (dC, dI) vwCl (wd_X12_half cI a0 v0_2 v0_3 v0_5 v0_12 v0_13 v0_16 v0_17 v0_21 v0_23 v0_24 v0_25 v0_26 v0_29 v0_30 v0_0) s.heap := hP
  have hl := lv_entry ([.ref (a0 0)]) (n := 1) (Nat.le_of_ble_eq_true rfl)
  rw [lg_entry_eq]
  generalize (lg_sl ([.ref (a0 0)]) ++ List.replicate (1 - (lg_sl ([.ref (a0 0)])).length) Slot.unset).toArray = ls at hl ⊢
  have hl : lv_has ls 1 [(0, .ref (a0 0))] := hl
  obtain ⟨H, hHe⟩ : ∃ H, H = s.heap := ⟨_, rfl⟩
  have hS : va_S A s.heap H [] := by rw [hHe]; exact hS
  have hP : va_P (dC, dI) vwCl (wd_X12_half cI a0 v0_2 v0_3 v0_5 v0_12 v0_13 v0_16 v0_17 v0_21 v0_23 v0_24 v0_25 v0_26 v0_29 v0_30 v0_0) H := by rw [hHe]; exact hP
  rw [← hHe]
  unfold F_X12_half at hF
  refine lv_bipush (v := 32) hx hb dX12_half_0 (by decide) ?_
  refine lv_aload_n hx hb dX12_half_2 rfl (lv_at hl 0 rfl) ?_
  refine va_get (D := (dC, dI)) (ci := 11) (v := .ref (a0 1)) (C := RX12) (T := TX12) (N := 31) hx hb hta uw_X12 hown hK hP 0 rfl rfl 0 (by decide) (hta _ mA790) (fun _ h9 => h9) rfl dX12_half_3 ?_
  refine lv_iconst (v := 0) hx hb dX12_half_6 (by decide) ?_
  obtain ⟨g_1, hF⟩ := gd_some hF
  refine va_iald hx hb hK hP 1 0 rfl rfl (vpi_in g_1) dX12_half_7 ?_
  refine lv_imul hx hb dX12_half_8 ?_
  obtain rfl := Option.some.inj hF
  exact W.iret (v := (32 * (v0_0 (0 : Int32).toNatClampNeg))) hx hb hr (fun t ht hW => ⟨⟨(32 * (v0_0 (0 : Int32).toNatClampNeg)), (), rfl, rfl, by rw [ht]; exact hP, va_K.moved hW.alike hK, hD⟩, hS.F ht⟩) hS.2.2 dX12_half_9

-- StrokeOutlinerModel.begin(I)V
def F_X12_begin (v0_23 : Int32) (v0_22 : Nat → Int32) (p1 : Int32) : Option (Int32 × (Nat → Int32)) :=
  lt (9 * v0_23) (fun y_1 => gd (decide (vpi y_1 27000)) (lt (upd v0_22 y_1.toNatClampNeg p1) (fun y_3 => lt (v0_23 + 1) (fun y_4 => some (y_4, y_3)))))
abbrev wd_X12_begin (cI : ClassId) (a0 : Nat → Nat) (v0_2 : Int32) (v0_3 : Int32) (v0_5 : Int32) (v0_12 : Int32) (v0_13 : Int32) (v0_16 : Int32) (v0_17 : Int32) (v0_21 : Int32) (v0_23 : Int32) (v0_24 : Int32) (v0_25 : Int32) (v0_26 : Int32) (v0_29 : Int32) (v0_30 : Int64) (v0_22 : Nat → Int32) : va_W := [(a0 0, .inr (11, [.ref (a0 1), .ref (a0 2), .int v0_2, .int v0_3, .ref (a0 5), .int v0_5, .ref (a0 7), .ref (a0 8), .ref (a0 9), .ref (a0 10), .ref (a0 11), .ref (a0 12), .int v0_12, .int v0_13, .ref (a0 15), .ref (a0 16), .int v0_16, .int v0_17, .ref (a0 19), .ref (a0 20), .ref (a0 21), .int v0_21, .ref (a0 23), .int v0_23, .int v0_24, .int v0_25, .int v0_26, .ref (a0 28), .ref (a0 29), .int v0_29, .long v0_30])), (a0 23, .inl (cI, 27000, .inl v0_22))]
abbrev wz_X12_begin : List Cond := .code yX12_begin cX12_begin 2 none :: wALL
abbrev rm_X12_begin : Room := { frames := 0, cells := 0, slots := 0, locals := 0 }
abbrev Q_X12_begin (dC : Nat → ClassId) (dI : Nat → Nat → Nat) (cI : ClassId) (a0 : Nat → Nat) (v0_2 : Int32) (v0_3 : Int32) (v0_5 : Int32) (v0_12 : Int32) (v0_13 : Int32) (v0_16 : Int32) (v0_17 : Int32) (v0_21 : Int32) (v0_24 : Int32) (v0_25 : Int32) (v0_26 : Int32) (v0_29 : Int32) (v0_30 : Int64) (u : (Int32 × (Nat → Int32))) (A : Nat → Prop) : Array Value → State → Outcome → State → Prop := va_Qv (fun (_ : Unit) => True) (fun _ => q_at dC dI cI A (wd_X12_begin cI a0 v0_2 v0_3 v0_5 v0_12 v0_13 v0_16 v0_17 v0_21 u.1 v0_24 v0_25 v0_26 v0_29 v0_30 u.2)) A
set_option maxHeartbeats 4000000 in
set_option maxRecDepth 100000 in
theorem c_X12_begin (l : Launch) (dC : Nat → ClassId) (dI : Nat → Nat → Nat) (cI : ClassId) (sz : Nat) (a0 : Nat → Nat) (v0_2 : Int32) (v0_3 : Int32) (v0_5 : Int32) (v0_12 : Int32) (v0_13 : Int32) (v0_16 : Int32) (v0_17 : Int32) (v0_21 : Int32) (v0_23 : Int32) (v0_24 : Int32) (v0_25 : Int32) (v0_26 : Int32) (v0_29 : Int32) (v0_30 : Int64) (v0_22 : Nat → Int32) (p1 : Int32) (u : (Int32 × (Nat → Int32))) (hF : F_X12_begin v0_23 v0_22 p1 = some u) : Met l yX12_begin wz_X12_begin rm_X12_begin (va_Pc [.ref (a0 0), .int p1] (q_pre dC dI cI (wd_X12_begin cI a0 v0_2 v0_3 v0_5 v0_12 v0_13 v0_16 v0_17 v0_21 v0_23 v0_24 v0_25 v0_26 v0_29 v0_30 v0_22) sz)) (Q_X12_begin dC dI cI a0 v0_2 v0_3 v0_5 v0_12 v0_13 v0_16 v0_17 v0_21 v0_24 v0_25 v0_26 v0_29 v0_30 u (va_A (wd_X12_begin cI a0 v0_2 v0_3 v0_5 v0_12 v0_13 v0_16 v0_17 v0_21 v0_23 v0_24 v0_25 v0_26 v0_29 v0_30 v0_22) sz)) 0 0 (va_A (wd_X12_begin cI a0 v0_2 v0_3 v0_5 v0_12 v0_13 v0_16 v0_17 v0_21 v0_23 v0_24 v0_25 v0_26 v0_29 v0_30 v0_22) sz) := by
  refine Met.ofW (cc := cX12_begin) (maxL := 2) (ret := none) (by decide) rfl ?_
  intro p e s m args below meth c s₁ B hml hv
  obtain ⟨rfl, hsz, hP, hK, hD0⟩ := hv
  have hx := B.exec
  have hb := B.bytes
  have hr := B.returns
  have hts := atoms_spec (ws := wz_X12_begin) B.pre
  have hta := wz_tl hts
  have hown : s.vm.findClass RX12 = some m.cls := findClass_of_methodNamed B.named
  have hlocks := B.notSynchronized
  subst hsz
  have hD := hD0.self (sz := s.heap.size)
  generalize hAe : va_A (wd_X12_begin cI a0 v0_2 v0_3 v0_5 v0_12 v0_13 v0_16 v0_17 v0_21 v0_23 v0_24 v0_25 v0_26 v0_29 v0_30 v0_22) s.heap.size = A at hD ⊢
  have hA : ∀ q : Nat, s.heap.size ≤ q → A q := fun q h => by rw [← hAe]; exact Or.inr h
  have hS : va_S A s.heap s.heap [] := va_S.rf
  have hP : va_P (dC, dI) vwCl (wd_X12_begin cI a0 v0_2 v0_3 v0_5 v0_12 v0_13 v0_16 v0_17 v0_21 v0_23 v0_24 v0_25 v0_26 v0_29 v0_30 v0_22) s.heap := hP
  have hl := lv_entry ([.ref (a0 0), .int p1]) (n := 2) (Nat.le_of_ble_eq_true rfl)
  rw [lg_entry_eq]
  generalize (lg_sl ([.ref (a0 0), .int p1]) ++ List.replicate (2 - (lg_sl ([.ref (a0 0), .int p1])).length) Slot.unset).toArray = ls at hl ⊢
  have hl : lv_has ls 2 [(0, .ref (a0 0)), (1, .int p1)] := hl
  obtain ⟨H, hHe⟩ : ∃ H, H = s.heap := ⟨_, rfl⟩
  have hS : va_S A s.heap H [] := by rw [hHe]; exact hS
  have hP : va_P (dC, dI) vwCl (wd_X12_begin cI a0 v0_2 v0_3 v0_5 v0_12 v0_13 v0_16 v0_17 v0_21 v0_23 v0_24 v0_25 v0_26 v0_29 v0_30 v0_22) H := by rw [hHe]; exact hP
  rw [← hHe]
  unfold F_X12_begin at hF
  refine lv_aload_n hx hb dX12_begin_0 rfl (lv_at hl 0 rfl) ?_
  refine va_get (D := (dC, dI)) (ci := 11) (v := .ref (a0 23)) (C := RX12) (T := TX12) (N := 31) hx hb hta uw_X12 hown hK hP 0 rfl rfl 22 (by decide) (hta _ mA804) (fun _ h9 => h9) rfl dX12_begin_1 ?_
  refine lv_bipush (v := 9) hx hb dX12_begin_4 (by decide) ?_
  refine lv_aload_n hx hb dX12_begin_6 rfl (lv_at hl 0 rfl) ?_
  refine va_get (D := (dC, dI)) (ci := 11) (v := .int v0_23) (C := RX12) (T := TX12) (N := 31) hx hb hta uw_X12 hown hK hP 0 rfl rfl 23 (by decide) (hta _ mA953) (fun _ h9 => h9) rfl dX12_begin_7 ?_
  refine lv_imul hx hb dX12_begin_10 ?_
  refine lv_iload_n hx hb dX12_begin_11 rfl (lv_at hl 1 rfl) ?_
  obtain ⟨y_1, ey_1, hF⟩ := lt_some hF
  refine lv_eq2i ey_1 ?_
  obtain ⟨g_2, hF⟩ := gd_some hF
  refine va_iast hx hb hK hP hD hS 1 0 rfl rfl (vpi_in g_2) dX12_begin_12 (fun H locs hP hD hS => ?_)
  obtain ⟨y_3, ey_3, hF⟩ := lt_some hF
  have hP : va_P (dC, dI) vwCl (wd_X12_begin cI a0 v0_2 v0_3 v0_5 v0_12 v0_13 v0_16 v0_17 v0_21 v0_23 v0_24 v0_25 v0_26 v0_29 v0_30 y_3) H := by rw [ey_3]; exact hP
  have hD : va_D A (wd_X12_begin cI a0 v0_2 v0_3 v0_5 v0_12 v0_13 v0_16 v0_17 v0_21 v0_23 v0_24 v0_25 v0_26 v0_29 v0_30 y_3) := by rw [ey_3]; exact hD
  refine lv_aload_n hx hb dX12_begin_13 rfl (lv_at hl 0 rfl) ?_
  refine lv_dup hx hb dX12_begin_14 rfl ?_
  refine va_get (D := (dC, dI)) (ci := 11) (v := .int v0_23) (C := RX12) (T := TX12) (N := 31) hx hb hta uw_X12 hown hK hP 0 rfl rfl 23 (by decide) (hta _ mA953) (fun _ h9 => h9) rfl dX12_begin_15 ?_
  refine lv_iconst (v := 1) hx hb dX12_begin_18 (by decide) ?_
  refine lv_iadd hx hb dX12_begin_19 ?_
  obtain ⟨y_4, ey_4, hF⟩ := lt_some hF
  refine lv_eqi ey_4 ?_
  refine va_put (D := (dC, dI)) (ci := 11) (v := .int y_4) (ty := .int) (C := RX12) (T := TX12) (N := 31) hx hb hta uw_X12 tyX12 tyX12_ok nmX12 hown hK hP hD hS 0 rfl rfl 23 (by decide) (hta _ mA953) (fun _ h9 => h9) rfl (by decide +kernel) rfl rfl (Nat.le_of_ble_eq_true rfl) dX12_begin_20 (fun H locs hP hD hS => ?_)
  have hP : va_P (dC, dI) vwCl (wd_X12_begin cI a0 v0_2 v0_3 v0_5 v0_12 v0_13 v0_16 v0_17 v0_21 y_4 v0_24 v0_25 v0_26 v0_29 v0_30 y_3) H := hP
  have hD : va_D A (wd_X12_begin cI a0 v0_2 v0_3 v0_5 v0_12 v0_13 v0_16 v0_17 v0_21 y_4 v0_24 v0_25 v0_26 v0_29 v0_30 y_3) := hD
  obtain rfl := Option.some.inj hF
  exact W.vret hx hb hr (fun t ht hW => ⟨⟨(), rfl, trivial, by rw [ht]; exact hP, va_K.moved hW.alike hK, hD⟩, hS.F ht⟩) hS.2.2 dX12_begin_23

-- StrokeOutlinerModel.corners(III)V
def F_X12_corners (v0_23 : Int32) (v0_22 : Nat → Int32) (p1 : Int32) (p2 : Int32) (p3 : Int32) : Option ((Nat → Int32)) :=
  lt (((9 * v0_23) - 8) + (2 * p1)) (fun y_1 => gd (decide (vpi y_1 27000)) (lt (upd v0_22 y_1.toNatClampNeg p2) (fun y_3 => lt (((9 * v0_23) - 7) + (2 * p1)) (fun y_4 => gd (decide (vpi y_4 27000)) (lt (upd y_3 y_4.toNatClampNeg p3) (fun y_6 => some y_6))))))
abbrev wd_X12_corners (cI : ClassId) (a0 : Nat → Nat) (v0_2 : Int32) (v0_3 : Int32) (v0_5 : Int32) (v0_12 : Int32) (v0_13 : Int32) (v0_16 : Int32) (v0_17 : Int32) (v0_21 : Int32) (v0_23 : Int32) (v0_24 : Int32) (v0_25 : Int32) (v0_26 : Int32) (v0_29 : Int32) (v0_30 : Int64) (v0_22 : Nat → Int32) : va_W := [(a0 0, .inr (11, [.ref (a0 1), .ref (a0 2), .int v0_2, .int v0_3, .ref (a0 5), .int v0_5, .ref (a0 7), .ref (a0 8), .ref (a0 9), .ref (a0 10), .ref (a0 11), .ref (a0 12), .int v0_12, .int v0_13, .ref (a0 15), .ref (a0 16), .int v0_16, .int v0_17, .ref (a0 19), .ref (a0 20), .ref (a0 21), .int v0_21, .ref (a0 23), .int v0_23, .int v0_24, .int v0_25, .int v0_26, .ref (a0 28), .ref (a0 29), .int v0_29, .long v0_30])), (a0 23, .inl (cI, 27000, .inl v0_22))]
abbrev wz_X12_corners : List Cond := .code yX12_corners cX12_corners 4 none :: wALL
abbrev rm_X12_corners : Room := { frames := 0, cells := 0, slots := 0, locals := 0 }
abbrev Q_X12_corners (dC : Nat → ClassId) (dI : Nat → Nat → Nat) (cI : ClassId) (a0 : Nat → Nat) (v0_2 : Int32) (v0_3 : Int32) (v0_5 : Int32) (v0_12 : Int32) (v0_13 : Int32) (v0_16 : Int32) (v0_17 : Int32) (v0_21 : Int32) (v0_23 : Int32) (v0_24 : Int32) (v0_25 : Int32) (v0_26 : Int32) (v0_29 : Int32) (v0_30 : Int64) (u : ((Nat → Int32))) (A : Nat → Prop) : Array Value → State → Outcome → State → Prop := va_Qv (fun (_ : Unit) => True) (fun _ => q_at dC dI cI A (wd_X12_corners cI a0 v0_2 v0_3 v0_5 v0_12 v0_13 v0_16 v0_17 v0_21 v0_23 v0_24 v0_25 v0_26 v0_29 v0_30 u)) A
set_option maxHeartbeats 4000000 in
set_option maxRecDepth 100000 in
theorem c_X12_corners (l : Launch) (dC : Nat → ClassId) (dI : Nat → Nat → Nat) (cI : ClassId) (sz : Nat) (a0 : Nat → Nat) (v0_2 : Int32) (v0_3 : Int32) (v0_5 : Int32) (v0_12 : Int32) (v0_13 : Int32) (v0_16 : Int32) (v0_17 : Int32) (v0_21 : Int32) (v0_23 : Int32) (v0_24 : Int32) (v0_25 : Int32) (v0_26 : Int32) (v0_29 : Int32) (v0_30 : Int64) (v0_22 : Nat → Int32) (p1 : Int32) (p2 : Int32) (p3 : Int32) (u : ((Nat → Int32))) (hF : F_X12_corners v0_23 v0_22 p1 p2 p3 = some u) : Met l yX12_corners wz_X12_corners rm_X12_corners (va_Pc [.ref (a0 0), .int p1, .int p2, .int p3] (q_pre dC dI cI (wd_X12_corners cI a0 v0_2 v0_3 v0_5 v0_12 v0_13 v0_16 v0_17 v0_21 v0_23 v0_24 v0_25 v0_26 v0_29 v0_30 v0_22) sz)) (Q_X12_corners dC dI cI a0 v0_2 v0_3 v0_5 v0_12 v0_13 v0_16 v0_17 v0_21 v0_23 v0_24 v0_25 v0_26 v0_29 v0_30 u (va_A (wd_X12_corners cI a0 v0_2 v0_3 v0_5 v0_12 v0_13 v0_16 v0_17 v0_21 v0_23 v0_24 v0_25 v0_26 v0_29 v0_30 v0_22) sz)) 0 0 (va_A (wd_X12_corners cI a0 v0_2 v0_3 v0_5 v0_12 v0_13 v0_16 v0_17 v0_21 v0_23 v0_24 v0_25 v0_26 v0_29 v0_30 v0_22) sz) := by
  refine Met.ofW (cc := cX12_corners) (maxL := 4) (ret := none) (by decide) rfl ?_
  intro p e s m args below meth c s₁ B hml hv
  obtain ⟨rfl, hsz, hP, hK, hD0⟩ := hv
  have hx := B.exec
  have hb := B.bytes
  have hr := B.returns
  have hts := atoms_spec (ws := wz_X12_corners) B.pre
  have hta := wz_tl hts
  have hown : s.vm.findClass RX12 = some m.cls := findClass_of_methodNamed B.named
  have hlocks := B.notSynchronized
  subst hsz
  have hD := hD0.self (sz := s.heap.size)
  generalize hAe : va_A (wd_X12_corners cI a0 v0_2 v0_3 v0_5 v0_12 v0_13 v0_16 v0_17 v0_21 v0_23 v0_24 v0_25 v0_26 v0_29 v0_30 v0_22) s.heap.size = A at hD ⊢
  have hA : ∀ q : Nat, s.heap.size ≤ q → A q := fun q h => by rw [← hAe]; exact Or.inr h
  have hS : va_S A s.heap s.heap [] := va_S.rf
  have hP : va_P (dC, dI) vwCl (wd_X12_corners cI a0 v0_2 v0_3 v0_5 v0_12 v0_13 v0_16 v0_17 v0_21 v0_23 v0_24 v0_25 v0_26 v0_29 v0_30 v0_22) s.heap := hP
  have hl := lv_entry ([.ref (a0 0), .int p1, .int p2, .int p3]) (n := 4) (Nat.le_of_ble_eq_true rfl)
  rw [lg_entry_eq]
  generalize (lg_sl ([.ref (a0 0), .int p1, .int p2, .int p3]) ++ List.replicate (4 - (lg_sl ([.ref (a0 0), .int p1, .int p2, .int p3])).length) Slot.unset).toArray = ls at hl ⊢
  have hl : lv_has ls 4 [(0, .ref (a0 0)), (1, .int p1), (2, .int p2), (3, .int p3)] := hl
  obtain ⟨H, hHe⟩ : ∃ H, H = s.heap := ⟨_, rfl⟩
  have hS : va_S A s.heap H [] := by rw [hHe]; exact hS
  have hP : va_P (dC, dI) vwCl (wd_X12_corners cI a0 v0_2 v0_3 v0_5 v0_12 v0_13 v0_16 v0_17 v0_21 v0_23 v0_24 v0_25 v0_26 v0_29 v0_30 v0_22) H := by rw [hHe]; exact hP
  rw [← hHe]
  unfold F_X12_corners at hF
  refine lv_aload_n hx hb dX12_corners_0 rfl (lv_at hl 0 rfl) ?_
  refine va_get (D := (dC, dI)) (ci := 11) (v := .ref (a0 23)) (C := RX12) (T := TX12) (N := 31) hx hb hta uw_X12 hown hK hP 0 rfl rfl 22 (by decide) (hta _ mA804) (fun _ h9 => h9) rfl dX12_corners_1 ?_
  refine lv_bipush (v := 9) hx hb dX12_corners_4 (by decide) ?_
  refine lv_aload_n hx hb dX12_corners_6 rfl (lv_at hl 0 rfl) ?_
  refine va_get (D := (dC, dI)) (ci := 11) (v := .int v0_23) (C := RX12) (T := TX12) (N := 31) hx hb hta uw_X12 hown hK hP 0 rfl rfl 23 (by decide) (hta _ mA953) (fun _ h9 => h9) rfl dX12_corners_7 ?_
  refine lv_imul hx hb dX12_corners_10 ?_
  refine lv_bipush (v := 8) hx hb dX12_corners_11 (by decide) ?_
  refine lv_isub hx hb dX12_corners_13 ?_
  refine lv_iconst (v := 2) hx hb dX12_corners_14 (by decide) ?_
  refine lv_iload_n hx hb dX12_corners_15 rfl (lv_at hl 1 rfl) ?_
  refine lv_imul hx hb dX12_corners_16 ?_
  refine lv_iadd hx hb dX12_corners_17 ?_
  refine lv_iload_n hx hb dX12_corners_18 rfl (lv_at hl 2 rfl) ?_
  obtain ⟨y_1, ey_1, hF⟩ := lt_some hF
  refine lv_eq2i ey_1 ?_
  obtain ⟨g_2, hF⟩ := gd_some hF
  refine va_iast hx hb hK hP hD hS 1 0 rfl rfl (vpi_in g_2) dX12_corners_19 (fun H locs hP hD hS => ?_)
  obtain ⟨y_3, ey_3, hF⟩ := lt_some hF
  have hP : va_P (dC, dI) vwCl (wd_X12_corners cI a0 v0_2 v0_3 v0_5 v0_12 v0_13 v0_16 v0_17 v0_21 v0_23 v0_24 v0_25 v0_26 v0_29 v0_30 y_3) H := by rw [ey_3]; exact hP
  have hD : va_D A (wd_X12_corners cI a0 v0_2 v0_3 v0_5 v0_12 v0_13 v0_16 v0_17 v0_21 v0_23 v0_24 v0_25 v0_26 v0_29 v0_30 y_3) := by rw [ey_3]; exact hD
  refine lv_aload_n hx hb dX12_corners_20 rfl (lv_at hl 0 rfl) ?_
  refine va_get (D := (dC, dI)) (ci := 11) (v := .ref (a0 23)) (C := RX12) (T := TX12) (N := 31) hx hb hta uw_X12 hown hK hP 0 rfl rfl 22 (by decide) (hta _ mA804) (fun _ h9 => h9) rfl dX12_corners_21 ?_
  refine lv_bipush (v := 9) hx hb dX12_corners_24 (by decide) ?_
  refine lv_aload_n hx hb dX12_corners_26 rfl (lv_at hl 0 rfl) ?_
  refine va_get (D := (dC, dI)) (ci := 11) (v := .int v0_23) (C := RX12) (T := TX12) (N := 31) hx hb hta uw_X12 hown hK hP 0 rfl rfl 23 (by decide) (hta _ mA953) (fun _ h9 => h9) rfl dX12_corners_27 ?_
  refine lv_imul hx hb dX12_corners_30 ?_
  refine lv_bipush (v := 7) hx hb dX12_corners_31 (by decide) ?_
  refine lv_isub hx hb dX12_corners_33 ?_
  refine lv_iconst (v := 2) hx hb dX12_corners_34 (by decide) ?_
  refine lv_iload_n hx hb dX12_corners_35 rfl (lv_at hl 1 rfl) ?_
  refine lv_imul hx hb dX12_corners_36 ?_
  refine lv_iadd hx hb dX12_corners_37 ?_
  refine lv_iload_n hx hb dX12_corners_38 rfl (lv_at hl 3 rfl) ?_
  obtain ⟨y_4, ey_4, hF⟩ := lt_some hF
  refine lv_eq2i ey_4 ?_
  obtain ⟨g_5, hF⟩ := gd_some hF
  refine va_iast hx hb hK hP hD hS 1 0 rfl rfl (vpi_in g_5) dX12_corners_39 (fun H locs hP hD hS => ?_)
  obtain ⟨y_6, ey_6, hF⟩ := lt_some hF
  have hP : va_P (dC, dI) vwCl (wd_X12_corners cI a0 v0_2 v0_3 v0_5 v0_12 v0_13 v0_16 v0_17 v0_21 v0_23 v0_24 v0_25 v0_26 v0_29 v0_30 y_6) H := by rw [ey_6]; exact hP
  have hD : va_D A (wd_X12_corners cI a0 v0_2 v0_3 v0_5 v0_12 v0_13 v0_16 v0_17 v0_21 v0_23 v0_24 v0_25 v0_26 v0_29 v0_30 y_6) := by rw [ey_6]; exact hD
  obtain rfl := Option.some.inj hF
  exact W.vret hx hb hr (fun t ht hW => ⟨⟨(), rfl, trivial, by rw [ht]; exact hP, va_K.moved hW.alike hK, hD⟩, hS.F ht⟩) hS.2.2 dX12_corners_40

-- StrokeOutlinerModel.normalX(I)I
def F_X12_normalX (v0_0 : Nat → Int32) (v0_7 : Nat → Int32) (v0_10 : Nat → Int32) (p1 : Int32) : Option (Int32) :=
  gd (decide (vpi p1 8)) (obd (F_X12_half v0_0) (fun u_2 => gd (decide (vpi p1 8)) (obd (F_X12_round (((-64) * (v0_7 p1.toNatClampNeg).toInt64) * u_2.toInt64) ((v0_10 p1.toNatClampNeg).toInt64)) (fun u_4 => some u_4))))
abbrev wd_X12_normalX (cI : ClassId) (a0 : Nat → Nat) (v0_2 : Int32) (v0_3 : Int32) (v0_5 : Int32) (v0_12 : Int32) (v0_13 : Int32) (v0_16 : Int32) (v0_17 : Int32) (v0_21 : Int32) (v0_23 : Int32) (v0_24 : Int32) (v0_25 : Int32) (v0_26 : Int32) (v0_29 : Int32) (v0_30 : Int64) (v0_0 : Nat → Int32) (v0_7 : Nat → Int32) (v0_10 : Nat → Int32) : va_W := [(a0 0, .inr (11, [.ref (a0 1), .ref (a0 2), .int v0_2, .int v0_3, .ref (a0 5), .int v0_5, .ref (a0 7), .ref (a0 8), .ref (a0 9), .ref (a0 10), .ref (a0 11), .ref (a0 12), .int v0_12, .int v0_13, .ref (a0 15), .ref (a0 16), .int v0_16, .int v0_17, .ref (a0 19), .ref (a0 20), .ref (a0 21), .int v0_21, .ref (a0 23), .int v0_23, .int v0_24, .int v0_25, .int v0_26, .ref (a0 28), .ref (a0 29), .int v0_29, .long v0_30])), (a0 1, .inl (cI, 86, .inl v0_0)), (a0 8, .inl (cI, 8, .inl v0_7)), (a0 11, .inl (cI, 8, .inl v0_10))]
abbrev wz_X12_normalX : List Cond := .code yX12_normalX cX12_normalX 2 (some .int) :: wALL
abbrev rm_X12_normalX : Room := { frames := 1, cells := 0, slots := 0, locals := 27 }
abbrev Q_X12_normalX (dC : Nat → ClassId) (dI : Nat → Nat → Nat) (cI : ClassId) (a0 : Nat → Nat) (v0_2 : Int32) (v0_3 : Int32) (v0_5 : Int32) (v0_12 : Int32) (v0_13 : Int32) (v0_16 : Int32) (v0_17 : Int32) (v0_21 : Int32) (v0_23 : Int32) (v0_24 : Int32) (v0_25 : Int32) (v0_26 : Int32) (v0_29 : Int32) (v0_30 : Int64) (v0_0 : Nat → Int32) (v0_7 : Nat → Int32) (v0_10 : Nat → Int32) (u : (Int32)) (A : Nat → Prop) : Array Value → State → Outcome → State → Prop := va_Qi (fun (r : Int32) (_ : Unit) => r = u) (fun _ => q_at dC dI cI A (wd_X12_normalX cI a0 v0_2 v0_3 v0_5 v0_12 v0_13 v0_16 v0_17 v0_21 v0_23 v0_24 v0_25 v0_26 v0_29 v0_30 v0_0 v0_7 v0_10)) A
set_option maxHeartbeats 4000000 in
set_option maxRecDepth 100000 in
theorem c_X12_normalX (l : Launch) (dC : Nat → ClassId) (dI : Nat → Nat → Nat) (cI : ClassId) (sz : Nat) (a0 : Nat → Nat) (v0_2 : Int32) (v0_3 : Int32) (v0_5 : Int32) (v0_12 : Int32) (v0_13 : Int32) (v0_16 : Int32) (v0_17 : Int32) (v0_21 : Int32) (v0_23 : Int32) (v0_24 : Int32) (v0_25 : Int32) (v0_26 : Int32) (v0_29 : Int32) (v0_30 : Int64) (v0_0 : Nat → Int32) (v0_7 : Nat → Int32) (v0_10 : Nat → Int32) (p1 : Int32) (u : (Int32)) (hF : F_X12_normalX v0_0 v0_7 v0_10 p1 = some u) : Met l yX12_normalX wz_X12_normalX rm_X12_normalX (va_Pc [.ref (a0 0), .int p1] (q_pre dC dI cI (wd_X12_normalX cI a0 v0_2 v0_3 v0_5 v0_12 v0_13 v0_16 v0_17 v0_21 v0_23 v0_24 v0_25 v0_26 v0_29 v0_30 v0_0 v0_7 v0_10) sz)) (Q_X12_normalX dC dI cI a0 v0_2 v0_3 v0_5 v0_12 v0_13 v0_16 v0_17 v0_21 v0_23 v0_24 v0_25 v0_26 v0_29 v0_30 v0_0 v0_7 v0_10 u (va_A (wd_X12_normalX cI a0 v0_2 v0_3 v0_5 v0_12 v0_13 v0_16 v0_17 v0_21 v0_23 v0_24 v0_25 v0_26 v0_29 v0_30 v0_0 v0_7 v0_10) sz)) 0 0 (va_A (wd_X12_normalX cI a0 v0_2 v0_3 v0_5 v0_12 v0_13 v0_16 v0_17 v0_21 v0_23 v0_24 v0_25 v0_26 v0_29 v0_30 v0_0 v0_7 v0_10) sz) := by
  refine Met.ofW (cc := cX12_normalX) (maxL := 2) (ret := (some .int)) (by decide) rfl ?_
  intro p e s m args below meth c s₁ B hml hv
  obtain ⟨rfl, hsz, hP, hK, hD0⟩ := hv
  have hx := B.exec
  have hb := B.bytes
  have hr := B.returns
  have hts := atoms_spec (ws := wz_X12_normalX) B.pre
  have hta := wz_tl hts
  have hown : s.vm.findClass RX12 = some m.cls := findClass_of_methodNamed B.named
  have hlocks := B.notSynchronized
  subst hsz
  have hD := hD0.self (sz := s.heap.size)
  generalize hAe : va_A (wd_X12_normalX cI a0 v0_2 v0_3 v0_5 v0_12 v0_13 v0_16 v0_17 v0_21 v0_23 v0_24 v0_25 v0_26 v0_29 v0_30 v0_0 v0_7 v0_10) s.heap.size = A at hD ⊢
  have hA : ∀ q : Nat, s.heap.size ≤ q → A q := fun q h => by rw [← hAe]; exact Or.inr h
  have hS : va_S A s.heap s.heap [] := va_S.rf
  have hP : va_P (dC, dI) vwCl (wd_X12_normalX cI a0 v0_2 v0_3 v0_5 v0_12 v0_13 v0_16 v0_17 v0_21 v0_23 v0_24 v0_25 v0_26 v0_29 v0_30 v0_0 v0_7 v0_10) s.heap := hP
  have hl := lv_entry ([.ref (a0 0), .int p1]) (n := 2) (Nat.le_of_ble_eq_true rfl)
  rw [lg_entry_eq]
  generalize (lg_sl ([.ref (a0 0), .int p1]) ++ List.replicate (2 - (lg_sl ([.ref (a0 0), .int p1])).length) Slot.unset).toArray = ls at hl ⊢
  have hl : lv_has ls 2 [(0, .ref (a0 0)), (1, .int p1)] := hl
  obtain ⟨H, hHe⟩ : ∃ H, H = s.heap := ⟨_, rfl⟩
  have hS : va_S A s.heap H [] := by rw [hHe]; exact hS
  have hP : va_P (dC, dI) vwCl (wd_X12_normalX cI a0 v0_2 v0_3 v0_5 v0_12 v0_13 v0_16 v0_17 v0_21 v0_23 v0_24 v0_25 v0_26 v0_29 v0_30 v0_0 v0_7 v0_10) H := by rw [hHe]; exact hP
  rw [← hHe]
  unfold F_X12_normalX at hF
  refine lv_ldc2 (v := (-64)) hx hb hown (hta _ mA956) dX12_normalX_0 ?_
  refine lv_aload_n hx hb dX12_normalX_3 rfl (lv_at hl 0 rfl) ?_
  refine va_get (D := (dC, dI)) (ci := 11) (v := .ref (a0 8)) (C := RX12) (T := TX12) (N := 31) hx hb hta uw_X12 hown hK hP 0 rfl rfl 7 (by decide) (hta _ mA794) (fun _ h9 => h9) rfl dX12_normalX_4 ?_
  refine lv_iload_n hx hb dX12_normalX_7 rfl (lv_at hl 1 rfl) ?_
  obtain ⟨g_1, hF⟩ := gd_some hF
  refine va_iald hx hb hK hP 2 0 rfl rfl (vpi_in g_1) dX12_normalX_8 ?_
  refine lv_i2l hx hb dX12_normalX_9 rfl ?_
  refine lv_lmul hx hb dX12_normalX_10 ?_
  refine lv_aload_n hx hb dX12_normalX_11 rfl (lv_at hl 0 rfl) ?_
  obtain ⟨u_2, hu_2, hF⟩ := obd_some hF
  have hPc := hP.sub (ws' := (wd_X12_half cI a0 v0_2 v0_3 v0_5 v0_12 v0_13 v0_16 v0_17 v0_21 v0_23 v0_24 v0_25 v0_26 v0_29 v0_30 v0_0)) [0, 1] rfl
  have hDc := hD.sub (ws' := (wd_X12_half cI a0 v0_2 v0_3 v0_5 v0_12 v0_13 v0_16 v0_17 v0_21 v0_23 v0_24 v0_25 v0_26 v0_29 v0_30 v0_0)) [0, 1] rfl rfl
  refine q_calli (wc := (wd_X12_half cI a0 v0_2 v0_3 v0_5 v0_12 v0_13 v0_16 v0_17 v0_21 v0_23 v0_24 v0_25 v0_26 v0_29 v0_30 v0_0)) (w1 := (wd_X12_half cI a0 v0_2 v0_3 v0_5 v0_12 v0_13 v0_16 v0_17 v0_21 v0_23 v0_24 v0_25 v0_26 v0_29 v0_30 v0_0)) (ws' := (wd_X12_normalX cI a0 v0_2 v0_3 v0_5 v0_12 v0_13 v0_16 v0_17 v0_21 v0_23 v0_24 v0_25 v0_26 v0_29 v0_30 v0_0 v0_7 v0_10)) hP hD hS hA [0, 1] [2, 3] [2, 3, 0, 1] rfl rfl rfl (by decide) rfl rfl (va_runV (As := []) (rest := [.long ((-64) * (v0_7 p1.toNatClampNeg).toInt64)]) ⟨hx, hb, hml, hown, hta⟩ (c_X12_half l dC dI cI H.size a0 v0_2 v0_3 v0_5 v0_12 v0_13 v0_16 v0_17 v0_21 v0_23 v0_24 v0_25 v0_26 v0_29 v0_30 v0_0 u_2 hu_2) (cwV 0 hta (ga_V mA957 mA958 mA959 mA814 mA951) rfl rfl rfl (by decide +kernel) ⟨Nat.le_of_ble_eq_true rfl, Nat.le_of_ble_eq_true rfl⟩) ⟨q_fb, va_recv hK hP (ci := 11) (q0 := 0) rfl rfl, q_ps hPc hK hDc⟩ rfl rfl hl.1 rfl (lv_room (Nat.le_of_ble_eq_true rfl)) dX12_normalX_12 ⟨Nat.zero_le _, Nat.zero_le _⟩) (fun H locs hP hD hS => ?_)
  refine lv_i2l hx hb dX12_normalX_15 rfl ?_
  refine lv_lmul hx hb dX12_normalX_16 ?_
  refine lv_aload_n hx hb dX12_normalX_17 rfl (lv_at hl 0 rfl) ?_
  refine va_get (D := (dC, dI)) (ci := 11) (v := .ref (a0 11)) (C := RX12) (T := TX12) (N := 31) hx hb hta uw_X12 hown hK hP 0 rfl rfl 10 (by decide) (hta _ mA797) (fun _ h9 => h9) rfl dX12_normalX_18 ?_
  refine lv_iload_n hx hb dX12_normalX_21 rfl (lv_at hl 1 rfl) ?_
  obtain ⟨g_3, hF⟩ := gd_some hF
  refine va_iald hx hb hK hP 3 0 rfl rfl (vpi_in g_3) dX12_normalX_22 ?_
  refine lv_i2l hx hb dX12_normalX_23 rfl ?_
  obtain ⟨u_4, hu_4, hF⟩ := obd_some hF
  have hPc := hP.sub (ws' := ([] : va_W)) [] rfl
  have hDc := hD.sub (ws' := ([] : va_W)) [] rfl rfl
  refine q_calli (wc := ([] : va_W)) (w1 := ([] : va_W)) (ws' := (wd_X12_normalX cI a0 v0_2 v0_3 v0_5 v0_12 v0_13 v0_16 v0_17 v0_21 v0_23 v0_24 v0_25 v0_26 v0_29 v0_30 v0_0 v0_7 v0_10)) hP hD hS hA [] [0, 1, 2, 3] [0, 1, 2, 3] rfl rfl rfl (by decide) rfl rfl (va_runS (As := [.long (((-64) * (v0_7 p1.toNatClampNeg).toInt64) * u_2.toInt64), .long ((v0_10 p1.toNatClampNeg).toInt64)]) (rest := []) ⟨hx, hb, hml, hown, hta⟩ (c_X12_round l dC dI cI H.size (((-64) * (v0_7 p1.toNatClampNeg).toInt64) * u_2.toInt64) ((v0_10 p1.toNatClampNeg).toInt64) u_4 hu_4) (va_cwS 2 hta (ga_S mA902 mA903 mA814 mA815) rfl rfl rfl (by decide +kernel) ⟨Nat.le_of_ble_eq_true rfl, Nat.le_of_ble_eq_true rfl⟩) ⟨q_fb, q_ps hPc hK hDc⟩ rfl rfl hl.1 rfl (lv_room (Nat.le_of_ble_eq_true rfl)) dX12_normalX_24 ⟨Nat.zero_le _, Nat.zero_le _⟩) (fun H locs hP hD hS => ?_)
  obtain rfl := Option.some.inj hF
  exact W.iret (v := u_4) hx hb hr (fun t ht hW => ⟨⟨u_4, (), rfl, rfl, by rw [ht]; exact hP, va_K.moved hW.alike hK, hD⟩, hS.F ht⟩) hS.2.2 dX12_normalX_27

-- StrokeOutlinerModel.normalY(I)I
def F_X12_normalY (v0_0 : Nat → Int32) (v0_6 : Nat → Int32) (v0_10 : Nat → Int32) (p1 : Int32) : Option (Int32) :=
  gd (decide (vpi p1 8)) (obd (F_X12_half v0_0) (fun u_2 => gd (decide (vpi p1 8)) (obd (F_X12_round ((64 * (v0_6 p1.toNatClampNeg).toInt64) * u_2.toInt64) ((v0_10 p1.toNatClampNeg).toInt64)) (fun u_4 => some u_4))))
abbrev wd_X12_normalY (cI : ClassId) (a0 : Nat → Nat) (v0_2 : Int32) (v0_3 : Int32) (v0_5 : Int32) (v0_12 : Int32) (v0_13 : Int32) (v0_16 : Int32) (v0_17 : Int32) (v0_21 : Int32) (v0_23 : Int32) (v0_24 : Int32) (v0_25 : Int32) (v0_26 : Int32) (v0_29 : Int32) (v0_30 : Int64) (v0_0 : Nat → Int32) (v0_6 : Nat → Int32) (v0_10 : Nat → Int32) : va_W := [(a0 0, .inr (11, [.ref (a0 1), .ref (a0 2), .int v0_2, .int v0_3, .ref (a0 5), .int v0_5, .ref (a0 7), .ref (a0 8), .ref (a0 9), .ref (a0 10), .ref (a0 11), .ref (a0 12), .int v0_12, .int v0_13, .ref (a0 15), .ref (a0 16), .int v0_16, .int v0_17, .ref (a0 19), .ref (a0 20), .ref (a0 21), .int v0_21, .ref (a0 23), .int v0_23, .int v0_24, .int v0_25, .int v0_26, .ref (a0 28), .ref (a0 29), .int v0_29, .long v0_30])), (a0 1, .inl (cI, 86, .inl v0_0)), (a0 7, .inl (cI, 8, .inl v0_6)), (a0 11, .inl (cI, 8, .inl v0_10))]
abbrev wz_X12_normalY : List Cond := .code yX12_normalY cX12_normalY 2 (some .int) :: wALL
abbrev rm_X12_normalY : Room := { frames := 1, cells := 0, slots := 0, locals := 27 }
abbrev Q_X12_normalY (dC : Nat → ClassId) (dI : Nat → Nat → Nat) (cI : ClassId) (a0 : Nat → Nat) (v0_2 : Int32) (v0_3 : Int32) (v0_5 : Int32) (v0_12 : Int32) (v0_13 : Int32) (v0_16 : Int32) (v0_17 : Int32) (v0_21 : Int32) (v0_23 : Int32) (v0_24 : Int32) (v0_25 : Int32) (v0_26 : Int32) (v0_29 : Int32) (v0_30 : Int64) (v0_0 : Nat → Int32) (v0_6 : Nat → Int32) (v0_10 : Nat → Int32) (u : (Int32)) (A : Nat → Prop) : Array Value → State → Outcome → State → Prop := va_Qi (fun (r : Int32) (_ : Unit) => r = u) (fun _ => q_at dC dI cI A (wd_X12_normalY cI a0 v0_2 v0_3 v0_5 v0_12 v0_13 v0_16 v0_17 v0_21 v0_23 v0_24 v0_25 v0_26 v0_29 v0_30 v0_0 v0_6 v0_10)) A
set_option maxHeartbeats 4000000 in
set_option maxRecDepth 100000 in
theorem c_X12_normalY (l : Launch) (dC : Nat → ClassId) (dI : Nat → Nat → Nat) (cI : ClassId) (sz : Nat) (a0 : Nat → Nat) (v0_2 : Int32) (v0_3 : Int32) (v0_5 : Int32) (v0_12 : Int32) (v0_13 : Int32) (v0_16 : Int32) (v0_17 : Int32) (v0_21 : Int32) (v0_23 : Int32) (v0_24 : Int32) (v0_25 : Int32) (v0_26 : Int32) (v0_29 : Int32) (v0_30 : Int64) (v0_0 : Nat → Int32) (v0_6 : Nat → Int32) (v0_10 : Nat → Int32) (p1 : Int32) (u : (Int32)) (hF : F_X12_normalY v0_0 v0_6 v0_10 p1 = some u) : Met l yX12_normalY wz_X12_normalY rm_X12_normalY (va_Pc [.ref (a0 0), .int p1] (q_pre dC dI cI (wd_X12_normalY cI a0 v0_2 v0_3 v0_5 v0_12 v0_13 v0_16 v0_17 v0_21 v0_23 v0_24 v0_25 v0_26 v0_29 v0_30 v0_0 v0_6 v0_10) sz)) (Q_X12_normalY dC dI cI a0 v0_2 v0_3 v0_5 v0_12 v0_13 v0_16 v0_17 v0_21 v0_23 v0_24 v0_25 v0_26 v0_29 v0_30 v0_0 v0_6 v0_10 u (va_A (wd_X12_normalY cI a0 v0_2 v0_3 v0_5 v0_12 v0_13 v0_16 v0_17 v0_21 v0_23 v0_24 v0_25 v0_26 v0_29 v0_30 v0_0 v0_6 v0_10) sz)) 0 0 (va_A (wd_X12_normalY cI a0 v0_2 v0_3 v0_5 v0_12 v0_13 v0_16 v0_17 v0_21 v0_23 v0_24 v0_25 v0_26 v0_29 v0_30 v0_0 v0_6 v0_10) sz) := by
  refine Met.ofW (cc := cX12_normalY) (maxL := 2) (ret := (some .int)) (by decide) rfl ?_
  intro p e s m args below meth c s₁ B hml hv
  obtain ⟨rfl, hsz, hP, hK, hD0⟩ := hv
  have hx := B.exec
  have hb := B.bytes
  have hr := B.returns
  have hts := atoms_spec (ws := wz_X12_normalY) B.pre
  have hta := wz_tl hts
  have hown : s.vm.findClass RX12 = some m.cls := findClass_of_methodNamed B.named
  have hlocks := B.notSynchronized
  subst hsz
  have hD := hD0.self (sz := s.heap.size)
  generalize hAe : va_A (wd_X12_normalY cI a0 v0_2 v0_3 v0_5 v0_12 v0_13 v0_16 v0_17 v0_21 v0_23 v0_24 v0_25 v0_26 v0_29 v0_30 v0_0 v0_6 v0_10) s.heap.size = A at hD ⊢
  have hA : ∀ q : Nat, s.heap.size ≤ q → A q := fun q h => by rw [← hAe]; exact Or.inr h
  have hS : va_S A s.heap s.heap [] := va_S.rf
  have hP : va_P (dC, dI) vwCl (wd_X12_normalY cI a0 v0_2 v0_3 v0_5 v0_12 v0_13 v0_16 v0_17 v0_21 v0_23 v0_24 v0_25 v0_26 v0_29 v0_30 v0_0 v0_6 v0_10) s.heap := hP
  have hl := lv_entry ([.ref (a0 0), .int p1]) (n := 2) (Nat.le_of_ble_eq_true rfl)
  rw [lg_entry_eq]
  generalize (lg_sl ([.ref (a0 0), .int p1]) ++ List.replicate (2 - (lg_sl ([.ref (a0 0), .int p1])).length) Slot.unset).toArray = ls at hl ⊢
  have hl : lv_has ls 2 [(0, .ref (a0 0)), (1, .int p1)] := hl
  obtain ⟨H, hHe⟩ : ∃ H, H = s.heap := ⟨_, rfl⟩
  have hS : va_S A s.heap H [] := by rw [hHe]; exact hS
  have hP : va_P (dC, dI) vwCl (wd_X12_normalY cI a0 v0_2 v0_3 v0_5 v0_12 v0_13 v0_16 v0_17 v0_21 v0_23 v0_24 v0_25 v0_26 v0_29 v0_30 v0_0 v0_6 v0_10) H := by rw [hHe]; exact hP
  rw [← hHe]
  unfold F_X12_normalY at hF
  refine lv_ldc2 (v := 64) hx hb hown (hta _ mA901) dX12_normalY_0 ?_
  refine lv_aload_n hx hb dX12_normalY_3 rfl (lv_at hl 0 rfl) ?_
  refine va_get (D := (dC, dI)) (ci := 11) (v := .ref (a0 7)) (C := RX12) (T := TX12) (N := 31) hx hb hta uw_X12 hown hK hP 0 rfl rfl 6 (by decide) (hta _ mA793) (fun _ h9 => h9) rfl dX12_normalY_4 ?_
  refine lv_iload_n hx hb dX12_normalY_7 rfl (lv_at hl 1 rfl) ?_
  obtain ⟨g_1, hF⟩ := gd_some hF
  refine va_iald hx hb hK hP 2 0 rfl rfl (vpi_in g_1) dX12_normalY_8 ?_
  refine lv_i2l hx hb dX12_normalY_9 rfl ?_
  refine lv_lmul hx hb dX12_normalY_10 ?_
  refine lv_aload_n hx hb dX12_normalY_11 rfl (lv_at hl 0 rfl) ?_
  obtain ⟨u_2, hu_2, hF⟩ := obd_some hF
  have hPc := hP.sub (ws' := (wd_X12_half cI a0 v0_2 v0_3 v0_5 v0_12 v0_13 v0_16 v0_17 v0_21 v0_23 v0_24 v0_25 v0_26 v0_29 v0_30 v0_0)) [0, 1] rfl
  have hDc := hD.sub (ws' := (wd_X12_half cI a0 v0_2 v0_3 v0_5 v0_12 v0_13 v0_16 v0_17 v0_21 v0_23 v0_24 v0_25 v0_26 v0_29 v0_30 v0_0)) [0, 1] rfl rfl
  refine q_calli (wc := (wd_X12_half cI a0 v0_2 v0_3 v0_5 v0_12 v0_13 v0_16 v0_17 v0_21 v0_23 v0_24 v0_25 v0_26 v0_29 v0_30 v0_0)) (w1 := (wd_X12_half cI a0 v0_2 v0_3 v0_5 v0_12 v0_13 v0_16 v0_17 v0_21 v0_23 v0_24 v0_25 v0_26 v0_29 v0_30 v0_0)) (ws' := (wd_X12_normalY cI a0 v0_2 v0_3 v0_5 v0_12 v0_13 v0_16 v0_17 v0_21 v0_23 v0_24 v0_25 v0_26 v0_29 v0_30 v0_0 v0_6 v0_10)) hP hD hS hA [0, 1] [2, 3] [2, 3, 0, 1] rfl rfl rfl (by decide) rfl rfl (va_runV (As := []) (rest := [.long (64 * (v0_6 p1.toNatClampNeg).toInt64)]) ⟨hx, hb, hml, hown, hta⟩ (c_X12_half l dC dI cI H.size a0 v0_2 v0_3 v0_5 v0_12 v0_13 v0_16 v0_17 v0_21 v0_23 v0_24 v0_25 v0_26 v0_29 v0_30 v0_0 u_2 hu_2) (cwV 0 hta (ga_V mA957 mA958 mA959 mA814 mA951) rfl rfl rfl (by decide +kernel) ⟨Nat.le_of_ble_eq_true rfl, Nat.le_of_ble_eq_true rfl⟩) ⟨q_fb, va_recv hK hP (ci := 11) (q0 := 0) rfl rfl, q_ps hPc hK hDc⟩ rfl rfl hl.1 rfl (lv_room (Nat.le_of_ble_eq_true rfl)) dX12_normalY_12 ⟨Nat.zero_le _, Nat.zero_le _⟩) (fun H locs hP hD hS => ?_)
  refine lv_i2l hx hb dX12_normalY_15 rfl ?_
  refine lv_lmul hx hb dX12_normalY_16 ?_
  refine lv_aload_n hx hb dX12_normalY_17 rfl (lv_at hl 0 rfl) ?_
  refine va_get (D := (dC, dI)) (ci := 11) (v := .ref (a0 11)) (C := RX12) (T := TX12) (N := 31) hx hb hta uw_X12 hown hK hP 0 rfl rfl 10 (by decide) (hta _ mA797) (fun _ h9 => h9) rfl dX12_normalY_18 ?_
  refine lv_iload_n hx hb dX12_normalY_21 rfl (lv_at hl 1 rfl) ?_
  obtain ⟨g_3, hF⟩ := gd_some hF
  refine va_iald hx hb hK hP 3 0 rfl rfl (vpi_in g_3) dX12_normalY_22 ?_
  refine lv_i2l hx hb dX12_normalY_23 rfl ?_
  obtain ⟨u_4, hu_4, hF⟩ := obd_some hF
  have hPc := hP.sub (ws' := ([] : va_W)) [] rfl
  have hDc := hD.sub (ws' := ([] : va_W)) [] rfl rfl
  refine q_calli (wc := ([] : va_W)) (w1 := ([] : va_W)) (ws' := (wd_X12_normalY cI a0 v0_2 v0_3 v0_5 v0_12 v0_13 v0_16 v0_17 v0_21 v0_23 v0_24 v0_25 v0_26 v0_29 v0_30 v0_0 v0_6 v0_10)) hP hD hS hA [] [0, 1, 2, 3] [0, 1, 2, 3] rfl rfl rfl (by decide) rfl rfl (va_runS (As := [.long ((64 * (v0_6 p1.toNatClampNeg).toInt64) * u_2.toInt64), .long ((v0_10 p1.toNatClampNeg).toInt64)]) (rest := []) ⟨hx, hb, hml, hown, hta⟩ (c_X12_round l dC dI cI H.size ((64 * (v0_6 p1.toNatClampNeg).toInt64) * u_2.toInt64) ((v0_10 p1.toNatClampNeg).toInt64) u_4 hu_4) (va_cwS 2 hta (ga_S mA902 mA903 mA814 mA815) rfl rfl rfl (by decide +kernel) ⟨Nat.le_of_ble_eq_true rfl, Nat.le_of_ble_eq_true rfl⟩) ⟨q_fb, q_ps hPc hK hDc⟩ rfl rfl hl.1 rfl (lv_room (Nat.le_of_ble_eq_true rfl)) dX12_normalY_24 ⟨Nat.zero_le _, Nat.zero_le _⟩) (fun H locs hP hD hS => ?_)
  obtain rfl := Option.some.inj hF
  exact W.iret (v := u_4) hx hb hr (fun t ht hW => ⟨⟨u_4, (), rfl, rfl, by rw [ht]; exact hP, va_K.moved hW.alike hK, hD⟩, hS.F ht⟩) hS.2.2 dX12_normalY_27

-- StrokeOutlinerModel.edgeX(I)I
def F_X12_edgeX (v0_0 : Nat → Int32) (v0_6 : Nat → Int32) (v0_10 : Nat → Int32) (p1 : Int32) : Option (Int32) :=
  gd (decide (vpi p1 8)) (obd (F_X12_half v0_0) (fun u_2 => gd (decide (vpi p1 8)) (obd (F_X12_round ((64 * (v0_6 p1.toNatClampNeg).toInt64) * u_2.toInt64) ((v0_10 p1.toNatClampNeg).toInt64)) (fun u_4 => some u_4))))
abbrev wd_X12_edgeX (cI : ClassId) (a0 : Nat → Nat) (v0_2 : Int32) (v0_3 : Int32) (v0_5 : Int32) (v0_12 : Int32) (v0_13 : Int32) (v0_16 : Int32) (v0_17 : Int32) (v0_21 : Int32) (v0_23 : Int32) (v0_24 : Int32) (v0_25 : Int32) (v0_26 : Int32) (v0_29 : Int32) (v0_30 : Int64) (v0_0 : Nat → Int32) (v0_6 : Nat → Int32) (v0_10 : Nat → Int32) : va_W := [(a0 0, .inr (11, [.ref (a0 1), .ref (a0 2), .int v0_2, .int v0_3, .ref (a0 5), .int v0_5, .ref (a0 7), .ref (a0 8), .ref (a0 9), .ref (a0 10), .ref (a0 11), .ref (a0 12), .int v0_12, .int v0_13, .ref (a0 15), .ref (a0 16), .int v0_16, .int v0_17, .ref (a0 19), .ref (a0 20), .ref (a0 21), .int v0_21, .ref (a0 23), .int v0_23, .int v0_24, .int v0_25, .int v0_26, .ref (a0 28), .ref (a0 29), .int v0_29, .long v0_30])), (a0 1, .inl (cI, 86, .inl v0_0)), (a0 7, .inl (cI, 8, .inl v0_6)), (a0 11, .inl (cI, 8, .inl v0_10))]
abbrev wz_X12_edgeX : List Cond := .code yX12_edgeX cX12_edgeX 2 (some .int) :: wALL
abbrev rm_X12_edgeX : Room := { frames := 1, cells := 0, slots := 0, locals := 27 }
abbrev Q_X12_edgeX (dC : Nat → ClassId) (dI : Nat → Nat → Nat) (cI : ClassId) (a0 : Nat → Nat) (v0_2 : Int32) (v0_3 : Int32) (v0_5 : Int32) (v0_12 : Int32) (v0_13 : Int32) (v0_16 : Int32) (v0_17 : Int32) (v0_21 : Int32) (v0_23 : Int32) (v0_24 : Int32) (v0_25 : Int32) (v0_26 : Int32) (v0_29 : Int32) (v0_30 : Int64) (v0_0 : Nat → Int32) (v0_6 : Nat → Int32) (v0_10 : Nat → Int32) (u : (Int32)) (A : Nat → Prop) : Array Value → State → Outcome → State → Prop := va_Qi (fun (r : Int32) (_ : Unit) => r = u) (fun _ => q_at dC dI cI A (wd_X12_edgeX cI a0 v0_2 v0_3 v0_5 v0_12 v0_13 v0_16 v0_17 v0_21 v0_23 v0_24 v0_25 v0_26 v0_29 v0_30 v0_0 v0_6 v0_10)) A
set_option maxHeartbeats 4000000 in
set_option maxRecDepth 100000 in
theorem c_X12_edgeX (l : Launch) (dC : Nat → ClassId) (dI : Nat → Nat → Nat) (cI : ClassId) (sz : Nat) (a0 : Nat → Nat) (v0_2 : Int32) (v0_3 : Int32) (v0_5 : Int32) (v0_12 : Int32) (v0_13 : Int32) (v0_16 : Int32) (v0_17 : Int32) (v0_21 : Int32) (v0_23 : Int32) (v0_24 : Int32) (v0_25 : Int32) (v0_26 : Int32) (v0_29 : Int32) (v0_30 : Int64) (v0_0 : Nat → Int32) (v0_6 : Nat → Int32) (v0_10 : Nat → Int32) (p1 : Int32) (u : (Int32)) (hF : F_X12_edgeX v0_0 v0_6 v0_10 p1 = some u) : Met l yX12_edgeX wz_X12_edgeX rm_X12_edgeX (va_Pc [.ref (a0 0), .int p1] (q_pre dC dI cI (wd_X12_edgeX cI a0 v0_2 v0_3 v0_5 v0_12 v0_13 v0_16 v0_17 v0_21 v0_23 v0_24 v0_25 v0_26 v0_29 v0_30 v0_0 v0_6 v0_10) sz)) (Q_X12_edgeX dC dI cI a0 v0_2 v0_3 v0_5 v0_12 v0_13 v0_16 v0_17 v0_21 v0_23 v0_24 v0_25 v0_26 v0_29 v0_30 v0_0 v0_6 v0_10 u (va_A (wd_X12_edgeX cI a0 v0_2 v0_3 v0_5 v0_12 v0_13 v0_16 v0_17 v0_21 v0_23 v0_24 v0_25 v0_26 v0_29 v0_30 v0_0 v0_6 v0_10) sz)) 0 0 (va_A (wd_X12_edgeX cI a0 v0_2 v0_3 v0_5 v0_12 v0_13 v0_16 v0_17 v0_21 v0_23 v0_24 v0_25 v0_26 v0_29 v0_30 v0_0 v0_6 v0_10) sz) := by
  refine Met.ofW (cc := cX12_edgeX) (maxL := 2) (ret := (some .int)) (by decide) rfl ?_
  intro p e s m args below meth c s₁ B hml hv
  obtain ⟨rfl, hsz, hP, hK, hD0⟩ := hv
  have hx := B.exec
  have hb := B.bytes
  have hr := B.returns
  have hts := atoms_spec (ws := wz_X12_edgeX) B.pre
  have hta := wz_tl hts
  have hown : s.vm.findClass RX12 = some m.cls := findClass_of_methodNamed B.named
  have hlocks := B.notSynchronized
  subst hsz
  have hD := hD0.self (sz := s.heap.size)
  generalize hAe : va_A (wd_X12_edgeX cI a0 v0_2 v0_3 v0_5 v0_12 v0_13 v0_16 v0_17 v0_21 v0_23 v0_24 v0_25 v0_26 v0_29 v0_30 v0_0 v0_6 v0_10) s.heap.size = A at hD ⊢
  have hA : ∀ q : Nat, s.heap.size ≤ q → A q := fun q h => by rw [← hAe]; exact Or.inr h
  have hS : va_S A s.heap s.heap [] := va_S.rf
  have hP : va_P (dC, dI) vwCl (wd_X12_edgeX cI a0 v0_2 v0_3 v0_5 v0_12 v0_13 v0_16 v0_17 v0_21 v0_23 v0_24 v0_25 v0_26 v0_29 v0_30 v0_0 v0_6 v0_10) s.heap := hP
  have hl := lv_entry ([.ref (a0 0), .int p1]) (n := 2) (Nat.le_of_ble_eq_true rfl)
  rw [lg_entry_eq]
  generalize (lg_sl ([.ref (a0 0), .int p1]) ++ List.replicate (2 - (lg_sl ([.ref (a0 0), .int p1])).length) Slot.unset).toArray = ls at hl ⊢
  have hl : lv_has ls 2 [(0, .ref (a0 0)), (1, .int p1)] := hl
  obtain ⟨H, hHe⟩ : ∃ H, H = s.heap := ⟨_, rfl⟩
  have hS : va_S A s.heap H [] := by rw [hHe]; exact hS
  have hP : va_P (dC, dI) vwCl (wd_X12_edgeX cI a0 v0_2 v0_3 v0_5 v0_12 v0_13 v0_16 v0_17 v0_21 v0_23 v0_24 v0_25 v0_26 v0_29 v0_30 v0_0 v0_6 v0_10) H := by rw [hHe]; exact hP
  rw [← hHe]
  unfold F_X12_edgeX at hF
  refine lv_ldc2 (v := 64) hx hb hown (hta _ mA901) dX12_edgeX_0 ?_
  refine lv_aload_n hx hb dX12_edgeX_3 rfl (lv_at hl 0 rfl) ?_
  refine va_get (D := (dC, dI)) (ci := 11) (v := .ref (a0 7)) (C := RX12) (T := TX12) (N := 31) hx hb hta uw_X12 hown hK hP 0 rfl rfl 6 (by decide) (hta _ mA793) (fun _ h9 => h9) rfl dX12_edgeX_4 ?_
  refine lv_iload_n hx hb dX12_edgeX_7 rfl (lv_at hl 1 rfl) ?_
  obtain ⟨g_1, hF⟩ := gd_some hF
  refine va_iald hx hb hK hP 2 0 rfl rfl (vpi_in g_1) dX12_edgeX_8 ?_
  refine lv_i2l hx hb dX12_edgeX_9 rfl ?_
  refine lv_lmul hx hb dX12_edgeX_10 ?_
  refine lv_aload_n hx hb dX12_edgeX_11 rfl (lv_at hl 0 rfl) ?_
  obtain ⟨u_2, hu_2, hF⟩ := obd_some hF
  have hPc := hP.sub (ws' := (wd_X12_half cI a0 v0_2 v0_3 v0_5 v0_12 v0_13 v0_16 v0_17 v0_21 v0_23 v0_24 v0_25 v0_26 v0_29 v0_30 v0_0)) [0, 1] rfl
  have hDc := hD.sub (ws' := (wd_X12_half cI a0 v0_2 v0_3 v0_5 v0_12 v0_13 v0_16 v0_17 v0_21 v0_23 v0_24 v0_25 v0_26 v0_29 v0_30 v0_0)) [0, 1] rfl rfl
  refine q_calli (wc := (wd_X12_half cI a0 v0_2 v0_3 v0_5 v0_12 v0_13 v0_16 v0_17 v0_21 v0_23 v0_24 v0_25 v0_26 v0_29 v0_30 v0_0)) (w1 := (wd_X12_half cI a0 v0_2 v0_3 v0_5 v0_12 v0_13 v0_16 v0_17 v0_21 v0_23 v0_24 v0_25 v0_26 v0_29 v0_30 v0_0)) (ws' := (wd_X12_edgeX cI a0 v0_2 v0_3 v0_5 v0_12 v0_13 v0_16 v0_17 v0_21 v0_23 v0_24 v0_25 v0_26 v0_29 v0_30 v0_0 v0_6 v0_10)) hP hD hS hA [0, 1] [2, 3] [2, 3, 0, 1] rfl rfl rfl (by decide) rfl rfl (va_runV (As := []) (rest := [.long (64 * (v0_6 p1.toNatClampNeg).toInt64)]) ⟨hx, hb, hml, hown, hta⟩ (c_X12_half l dC dI cI H.size a0 v0_2 v0_3 v0_5 v0_12 v0_13 v0_16 v0_17 v0_21 v0_23 v0_24 v0_25 v0_26 v0_29 v0_30 v0_0 u_2 hu_2) (cwV 0 hta (ga_V mA957 mA958 mA959 mA814 mA951) rfl rfl rfl (by decide +kernel) ⟨Nat.le_of_ble_eq_true rfl, Nat.le_of_ble_eq_true rfl⟩) ⟨q_fb, va_recv hK hP (ci := 11) (q0 := 0) rfl rfl, q_ps hPc hK hDc⟩ rfl rfl hl.1 rfl (lv_room (Nat.le_of_ble_eq_true rfl)) dX12_edgeX_12 ⟨Nat.zero_le _, Nat.zero_le _⟩) (fun H locs hP hD hS => ?_)
  refine lv_i2l hx hb dX12_edgeX_15 rfl ?_
  refine lv_lmul hx hb dX12_edgeX_16 ?_
  refine lv_aload_n hx hb dX12_edgeX_17 rfl (lv_at hl 0 rfl) ?_
  refine va_get (D := (dC, dI)) (ci := 11) (v := .ref (a0 11)) (C := RX12) (T := TX12) (N := 31) hx hb hta uw_X12 hown hK hP 0 rfl rfl 10 (by decide) (hta _ mA797) (fun _ h9 => h9) rfl dX12_edgeX_18 ?_
  refine lv_iload_n hx hb dX12_edgeX_21 rfl (lv_at hl 1 rfl) ?_
  obtain ⟨g_3, hF⟩ := gd_some hF
  refine va_iald hx hb hK hP 3 0 rfl rfl (vpi_in g_3) dX12_edgeX_22 ?_
  refine lv_i2l hx hb dX12_edgeX_23 rfl ?_
  obtain ⟨u_4, hu_4, hF⟩ := obd_some hF
  have hPc := hP.sub (ws' := ([] : va_W)) [] rfl
  have hDc := hD.sub (ws' := ([] : va_W)) [] rfl rfl
  refine q_calli (wc := ([] : va_W)) (w1 := ([] : va_W)) (ws' := (wd_X12_edgeX cI a0 v0_2 v0_3 v0_5 v0_12 v0_13 v0_16 v0_17 v0_21 v0_23 v0_24 v0_25 v0_26 v0_29 v0_30 v0_0 v0_6 v0_10)) hP hD hS hA [] [0, 1, 2, 3] [0, 1, 2, 3] rfl rfl rfl (by decide) rfl rfl (va_runS (As := [.long ((64 * (v0_6 p1.toNatClampNeg).toInt64) * u_2.toInt64), .long ((v0_10 p1.toNatClampNeg).toInt64)]) (rest := []) ⟨hx, hb, hml, hown, hta⟩ (c_X12_round l dC dI cI H.size ((64 * (v0_6 p1.toNatClampNeg).toInt64) * u_2.toInt64) ((v0_10 p1.toNatClampNeg).toInt64) u_4 hu_4) (va_cwS 2 hta (ga_S mA902 mA903 mA814 mA815) rfl rfl rfl (by decide +kernel) ⟨Nat.le_of_ble_eq_true rfl, Nat.le_of_ble_eq_true rfl⟩) ⟨q_fb, q_ps hPc hK hDc⟩ rfl rfl hl.1 rfl (lv_room (Nat.le_of_ble_eq_true rfl)) dX12_edgeX_24 ⟨Nat.zero_le _, Nat.zero_le _⟩) (fun H locs hP hD hS => ?_)
  obtain rfl := Option.some.inj hF
  exact W.iret (v := u_4) hx hb hr (fun t ht hW => ⟨⟨u_4, (), rfl, rfl, by rw [ht]; exact hP, va_K.moved hW.alike hK, hD⟩, hS.F ht⟩) hS.2.2 dX12_edgeX_27

-- StrokeOutlinerModel.edgeY(I)I
def F_X12_edgeY (v0_0 : Nat → Int32) (v0_7 : Nat → Int32) (v0_10 : Nat → Int32) (p1 : Int32) : Option (Int32) :=
  gd (decide (vpi p1 8)) (obd (F_X12_half v0_0) (fun u_2 => gd (decide (vpi p1 8)) (obd (F_X12_round ((64 * (v0_7 p1.toNatClampNeg).toInt64) * u_2.toInt64) ((v0_10 p1.toNatClampNeg).toInt64)) (fun u_4 => some u_4))))
abbrev wd_X12_edgeY (cI : ClassId) (a0 : Nat → Nat) (v0_2 : Int32) (v0_3 : Int32) (v0_5 : Int32) (v0_12 : Int32) (v0_13 : Int32) (v0_16 : Int32) (v0_17 : Int32) (v0_21 : Int32) (v0_23 : Int32) (v0_24 : Int32) (v0_25 : Int32) (v0_26 : Int32) (v0_29 : Int32) (v0_30 : Int64) (v0_0 : Nat → Int32) (v0_7 : Nat → Int32) (v0_10 : Nat → Int32) : va_W := [(a0 0, .inr (11, [.ref (a0 1), .ref (a0 2), .int v0_2, .int v0_3, .ref (a0 5), .int v0_5, .ref (a0 7), .ref (a0 8), .ref (a0 9), .ref (a0 10), .ref (a0 11), .ref (a0 12), .int v0_12, .int v0_13, .ref (a0 15), .ref (a0 16), .int v0_16, .int v0_17, .ref (a0 19), .ref (a0 20), .ref (a0 21), .int v0_21, .ref (a0 23), .int v0_23, .int v0_24, .int v0_25, .int v0_26, .ref (a0 28), .ref (a0 29), .int v0_29, .long v0_30])), (a0 1, .inl (cI, 86, .inl v0_0)), (a0 8, .inl (cI, 8, .inl v0_7)), (a0 11, .inl (cI, 8, .inl v0_10))]
abbrev wz_X12_edgeY : List Cond := .code yX12_edgeY cX12_edgeY 2 (some .int) :: wALL
abbrev rm_X12_edgeY : Room := { frames := 1, cells := 0, slots := 0, locals := 27 }
abbrev Q_X12_edgeY (dC : Nat → ClassId) (dI : Nat → Nat → Nat) (cI : ClassId) (a0 : Nat → Nat) (v0_2 : Int32) (v0_3 : Int32) (v0_5 : Int32) (v0_12 : Int32) (v0_13 : Int32) (v0_16 : Int32) (v0_17 : Int32) (v0_21 : Int32) (v0_23 : Int32) (v0_24 : Int32) (v0_25 : Int32) (v0_26 : Int32) (v0_29 : Int32) (v0_30 : Int64) (v0_0 : Nat → Int32) (v0_7 : Nat → Int32) (v0_10 : Nat → Int32) (u : (Int32)) (A : Nat → Prop) : Array Value → State → Outcome → State → Prop := va_Qi (fun (r : Int32) (_ : Unit) => r = u) (fun _ => q_at dC dI cI A (wd_X12_edgeY cI a0 v0_2 v0_3 v0_5 v0_12 v0_13 v0_16 v0_17 v0_21 v0_23 v0_24 v0_25 v0_26 v0_29 v0_30 v0_0 v0_7 v0_10)) A
set_option maxHeartbeats 4000000 in
set_option maxRecDepth 100000 in
theorem c_X12_edgeY (l : Launch) (dC : Nat → ClassId) (dI : Nat → Nat → Nat) (cI : ClassId) (sz : Nat) (a0 : Nat → Nat) (v0_2 : Int32) (v0_3 : Int32) (v0_5 : Int32) (v0_12 : Int32) (v0_13 : Int32) (v0_16 : Int32) (v0_17 : Int32) (v0_21 : Int32) (v0_23 : Int32) (v0_24 : Int32) (v0_25 : Int32) (v0_26 : Int32) (v0_29 : Int32) (v0_30 : Int64) (v0_0 : Nat → Int32) (v0_7 : Nat → Int32) (v0_10 : Nat → Int32) (p1 : Int32) (u : (Int32)) (hF : F_X12_edgeY v0_0 v0_7 v0_10 p1 = some u) : Met l yX12_edgeY wz_X12_edgeY rm_X12_edgeY (va_Pc [.ref (a0 0), .int p1] (q_pre dC dI cI (wd_X12_edgeY cI a0 v0_2 v0_3 v0_5 v0_12 v0_13 v0_16 v0_17 v0_21 v0_23 v0_24 v0_25 v0_26 v0_29 v0_30 v0_0 v0_7 v0_10) sz)) (Q_X12_edgeY dC dI cI a0 v0_2 v0_3 v0_5 v0_12 v0_13 v0_16 v0_17 v0_21 v0_23 v0_24 v0_25 v0_26 v0_29 v0_30 v0_0 v0_7 v0_10 u (va_A (wd_X12_edgeY cI a0 v0_2 v0_3 v0_5 v0_12 v0_13 v0_16 v0_17 v0_21 v0_23 v0_24 v0_25 v0_26 v0_29 v0_30 v0_0 v0_7 v0_10) sz)) 0 0 (va_A (wd_X12_edgeY cI a0 v0_2 v0_3 v0_5 v0_12 v0_13 v0_16 v0_17 v0_21 v0_23 v0_24 v0_25 v0_26 v0_29 v0_30 v0_0 v0_7 v0_10) sz) := by
  refine Met.ofW (cc := cX12_edgeY) (maxL := 2) (ret := (some .int)) (by decide) rfl ?_
  intro p e s m args below meth c s₁ B hml hv
  obtain ⟨rfl, hsz, hP, hK, hD0⟩ := hv
  have hx := B.exec
  have hb := B.bytes
  have hr := B.returns
  have hts := atoms_spec (ws := wz_X12_edgeY) B.pre
  have hta := wz_tl hts
  have hown : s.vm.findClass RX12 = some m.cls := findClass_of_methodNamed B.named
  have hlocks := B.notSynchronized
  subst hsz
  have hD := hD0.self (sz := s.heap.size)
  generalize hAe : va_A (wd_X12_edgeY cI a0 v0_2 v0_3 v0_5 v0_12 v0_13 v0_16 v0_17 v0_21 v0_23 v0_24 v0_25 v0_26 v0_29 v0_30 v0_0 v0_7 v0_10) s.heap.size = A at hD ⊢
  have hA : ∀ q : Nat, s.heap.size ≤ q → A q := fun q h => by rw [← hAe]; exact Or.inr h
  have hS : va_S A s.heap s.heap [] := va_S.rf
  have hP : va_P (dC, dI) vwCl (wd_X12_edgeY cI a0 v0_2 v0_3 v0_5 v0_12 v0_13 v0_16 v0_17 v0_21 v0_23 v0_24 v0_25 v0_26 v0_29 v0_30 v0_0 v0_7 v0_10) s.heap := hP
  have hl := lv_entry ([.ref (a0 0), .int p1]) (n := 2) (Nat.le_of_ble_eq_true rfl)
  rw [lg_entry_eq]
  generalize (lg_sl ([.ref (a0 0), .int p1]) ++ List.replicate (2 - (lg_sl ([.ref (a0 0), .int p1])).length) Slot.unset).toArray = ls at hl ⊢
  have hl : lv_has ls 2 [(0, .ref (a0 0)), (1, .int p1)] := hl
  obtain ⟨H, hHe⟩ : ∃ H, H = s.heap := ⟨_, rfl⟩
  have hS : va_S A s.heap H [] := by rw [hHe]; exact hS
  have hP : va_P (dC, dI) vwCl (wd_X12_edgeY cI a0 v0_2 v0_3 v0_5 v0_12 v0_13 v0_16 v0_17 v0_21 v0_23 v0_24 v0_25 v0_26 v0_29 v0_30 v0_0 v0_7 v0_10) H := by rw [hHe]; exact hP
  rw [← hHe]
  unfold F_X12_edgeY at hF
  refine lv_ldc2 (v := 64) hx hb hown (hta _ mA901) dX12_edgeY_0 ?_
  refine lv_aload_n hx hb dX12_edgeY_3 rfl (lv_at hl 0 rfl) ?_
  refine va_get (D := (dC, dI)) (ci := 11) (v := .ref (a0 8)) (C := RX12) (T := TX12) (N := 31) hx hb hta uw_X12 hown hK hP 0 rfl rfl 7 (by decide) (hta _ mA794) (fun _ h9 => h9) rfl dX12_edgeY_4 ?_
  refine lv_iload_n hx hb dX12_edgeY_7 rfl (lv_at hl 1 rfl) ?_
  obtain ⟨g_1, hF⟩ := gd_some hF
  refine va_iald hx hb hK hP 2 0 rfl rfl (vpi_in g_1) dX12_edgeY_8 ?_
  refine lv_i2l hx hb dX12_edgeY_9 rfl ?_
  refine lv_lmul hx hb dX12_edgeY_10 ?_
  refine lv_aload_n hx hb dX12_edgeY_11 rfl (lv_at hl 0 rfl) ?_
  obtain ⟨u_2, hu_2, hF⟩ := obd_some hF
  have hPc := hP.sub (ws' := (wd_X12_half cI a0 v0_2 v0_3 v0_5 v0_12 v0_13 v0_16 v0_17 v0_21 v0_23 v0_24 v0_25 v0_26 v0_29 v0_30 v0_0)) [0, 1] rfl
  have hDc := hD.sub (ws' := (wd_X12_half cI a0 v0_2 v0_3 v0_5 v0_12 v0_13 v0_16 v0_17 v0_21 v0_23 v0_24 v0_25 v0_26 v0_29 v0_30 v0_0)) [0, 1] rfl rfl
  refine q_calli (wc := (wd_X12_half cI a0 v0_2 v0_3 v0_5 v0_12 v0_13 v0_16 v0_17 v0_21 v0_23 v0_24 v0_25 v0_26 v0_29 v0_30 v0_0)) (w1 := (wd_X12_half cI a0 v0_2 v0_3 v0_5 v0_12 v0_13 v0_16 v0_17 v0_21 v0_23 v0_24 v0_25 v0_26 v0_29 v0_30 v0_0)) (ws' := (wd_X12_edgeY cI a0 v0_2 v0_3 v0_5 v0_12 v0_13 v0_16 v0_17 v0_21 v0_23 v0_24 v0_25 v0_26 v0_29 v0_30 v0_0 v0_7 v0_10)) hP hD hS hA [0, 1] [2, 3] [2, 3, 0, 1] rfl rfl rfl (by decide) rfl rfl (va_runV (As := []) (rest := [.long (64 * (v0_7 p1.toNatClampNeg).toInt64)]) ⟨hx, hb, hml, hown, hta⟩ (c_X12_half l dC dI cI H.size a0 v0_2 v0_3 v0_5 v0_12 v0_13 v0_16 v0_17 v0_21 v0_23 v0_24 v0_25 v0_26 v0_29 v0_30 v0_0 u_2 hu_2) (cwV 0 hta (ga_V mA957 mA958 mA959 mA814 mA951) rfl rfl rfl (by decide +kernel) ⟨Nat.le_of_ble_eq_true rfl, Nat.le_of_ble_eq_true rfl⟩) ⟨q_fb, va_recv hK hP (ci := 11) (q0 := 0) rfl rfl, q_ps hPc hK hDc⟩ rfl rfl hl.1 rfl (lv_room (Nat.le_of_ble_eq_true rfl)) dX12_edgeY_12 ⟨Nat.zero_le _, Nat.zero_le _⟩) (fun H locs hP hD hS => ?_)
  refine lv_i2l hx hb dX12_edgeY_15 rfl ?_
  refine lv_lmul hx hb dX12_edgeY_16 ?_
  refine lv_aload_n hx hb dX12_edgeY_17 rfl (lv_at hl 0 rfl) ?_
  refine va_get (D := (dC, dI)) (ci := 11) (v := .ref (a0 11)) (C := RX12) (T := TX12) (N := 31) hx hb hta uw_X12 hown hK hP 0 rfl rfl 10 (by decide) (hta _ mA797) (fun _ h9 => h9) rfl dX12_edgeY_18 ?_
  refine lv_iload_n hx hb dX12_edgeY_21 rfl (lv_at hl 1 rfl) ?_
  obtain ⟨g_3, hF⟩ := gd_some hF
  refine va_iald hx hb hK hP 3 0 rfl rfl (vpi_in g_3) dX12_edgeY_22 ?_
  refine lv_i2l hx hb dX12_edgeY_23 rfl ?_
  obtain ⟨u_4, hu_4, hF⟩ := obd_some hF
  have hPc := hP.sub (ws' := ([] : va_W)) [] rfl
  have hDc := hD.sub (ws' := ([] : va_W)) [] rfl rfl
  refine q_calli (wc := ([] : va_W)) (w1 := ([] : va_W)) (ws' := (wd_X12_edgeY cI a0 v0_2 v0_3 v0_5 v0_12 v0_13 v0_16 v0_17 v0_21 v0_23 v0_24 v0_25 v0_26 v0_29 v0_30 v0_0 v0_7 v0_10)) hP hD hS hA [] [0, 1, 2, 3] [0, 1, 2, 3] rfl rfl rfl (by decide) rfl rfl (va_runS (As := [.long ((64 * (v0_7 p1.toNatClampNeg).toInt64) * u_2.toInt64), .long ((v0_10 p1.toNatClampNeg).toInt64)]) (rest := []) ⟨hx, hb, hml, hown, hta⟩ (c_X12_round l dC dI cI H.size ((64 * (v0_7 p1.toNatClampNeg).toInt64) * u_2.toInt64) ((v0_10 p1.toNatClampNeg).toInt64) u_4 hu_4) (va_cwS 2 hta (ga_S mA902 mA903 mA814 mA815) rfl rfl rfl (by decide +kernel) ⟨Nat.le_of_ble_eq_true rfl, Nat.le_of_ble_eq_true rfl⟩) ⟨q_fb, q_ps hPc hK hDc⟩ rfl rfl hl.1 rfl (lv_room (Nat.le_of_ble_eq_true rfl)) dX12_edgeY_24 ⟨Nat.zero_le _, Nat.zero_le _⟩) (fun H locs hP hD hS => ?_)
  obtain rfl := Option.some.inj hF
  exact W.iret (v := u_4) hx hb hr (fun t ht hW => ⟨⟨u_4, (), rfl, rfl, by rw [ht]; exact hP, va_K.moved hW.alike hK, hD⟩, hS.F ht⟩) hS.2.2 dX12_edgeY_27

-- StrokeOutlinerModel.laysDisc(II)V
def F_X12_laysDisc (v0_23 : Int32) (v0_22 : Nat → Int32) (p1 : Int32) (p2 : Int32) : Option (Int32 × (Nat → Int32)) :=
  obd (F_X12_begin v0_23 v0_22 3) (fun u_1 => obd (F_X12_corners u_1.1 u_1.2 0 p1 p2) (fun u_2 => some (u_1.1, u_2)))
abbrev wd_X12_laysDisc (cI : ClassId) (a0 : Nat → Nat) (v0_2 : Int32) (v0_3 : Int32) (v0_5 : Int32) (v0_12 : Int32) (v0_13 : Int32) (v0_16 : Int32) (v0_17 : Int32) (v0_21 : Int32) (v0_23 : Int32) (v0_24 : Int32) (v0_25 : Int32) (v0_26 : Int32) (v0_29 : Int32) (v0_30 : Int64) (v0_22 : Nat → Int32) : va_W := [(a0 0, .inr (11, [.ref (a0 1), .ref (a0 2), .int v0_2, .int v0_3, .ref (a0 5), .int v0_5, .ref (a0 7), .ref (a0 8), .ref (a0 9), .ref (a0 10), .ref (a0 11), .ref (a0 12), .int v0_12, .int v0_13, .ref (a0 15), .ref (a0 16), .int v0_16, .int v0_17, .ref (a0 19), .ref (a0 20), .ref (a0 21), .int v0_21, .ref (a0 23), .int v0_23, .int v0_24, .int v0_25, .int v0_26, .ref (a0 28), .ref (a0 29), .int v0_29, .long v0_30])), (a0 23, .inl (cI, 27000, .inl v0_22))]
abbrev wz_X12_laysDisc : List Cond := .code yX12_laysDisc cX12_laysDisc 3 none :: wALL
abbrev rm_X12_laysDisc : Room := { frames := 1, cells := 0, slots := 0, locals := 23 }
abbrev Q_X12_laysDisc (dC : Nat → ClassId) (dI : Nat → Nat → Nat) (cI : ClassId) (a0 : Nat → Nat) (v0_2 : Int32) (v0_3 : Int32) (v0_5 : Int32) (v0_12 : Int32) (v0_13 : Int32) (v0_16 : Int32) (v0_17 : Int32) (v0_21 : Int32) (v0_24 : Int32) (v0_25 : Int32) (v0_26 : Int32) (v0_29 : Int32) (v0_30 : Int64) (u : (Int32 × (Nat → Int32))) (A : Nat → Prop) : Array Value → State → Outcome → State → Prop := va_Qv (fun (_ : Unit) => True) (fun _ => q_at dC dI cI A (wd_X12_laysDisc cI a0 v0_2 v0_3 v0_5 v0_12 v0_13 v0_16 v0_17 v0_21 u.1 v0_24 v0_25 v0_26 v0_29 v0_30 u.2)) A
set_option maxHeartbeats 4000000 in
set_option maxRecDepth 100000 in
theorem c_X12_laysDisc (l : Launch) (dC : Nat → ClassId) (dI : Nat → Nat → Nat) (cI : ClassId) (sz : Nat) (a0 : Nat → Nat) (v0_2 : Int32) (v0_3 : Int32) (v0_5 : Int32) (v0_12 : Int32) (v0_13 : Int32) (v0_16 : Int32) (v0_17 : Int32) (v0_21 : Int32) (v0_23 : Int32) (v0_24 : Int32) (v0_25 : Int32) (v0_26 : Int32) (v0_29 : Int32) (v0_30 : Int64) (v0_22 : Nat → Int32) (p1 : Int32) (p2 : Int32) (u : (Int32 × (Nat → Int32))) (hF : F_X12_laysDisc v0_23 v0_22 p1 p2 = some u) : Met l yX12_laysDisc wz_X12_laysDisc rm_X12_laysDisc (va_Pc [.ref (a0 0), .int p1, .int p2] (q_pre dC dI cI (wd_X12_laysDisc cI a0 v0_2 v0_3 v0_5 v0_12 v0_13 v0_16 v0_17 v0_21 v0_23 v0_24 v0_25 v0_26 v0_29 v0_30 v0_22) sz)) (Q_X12_laysDisc dC dI cI a0 v0_2 v0_3 v0_5 v0_12 v0_13 v0_16 v0_17 v0_21 v0_24 v0_25 v0_26 v0_29 v0_30 u (va_A (wd_X12_laysDisc cI a0 v0_2 v0_3 v0_5 v0_12 v0_13 v0_16 v0_17 v0_21 v0_23 v0_24 v0_25 v0_26 v0_29 v0_30 v0_22) sz)) 0 0 (va_A (wd_X12_laysDisc cI a0 v0_2 v0_3 v0_5 v0_12 v0_13 v0_16 v0_17 v0_21 v0_23 v0_24 v0_25 v0_26 v0_29 v0_30 v0_22) sz) := by
  refine Met.ofW (cc := cX12_laysDisc) (maxL := 3) (ret := none) (by decide) rfl ?_
  intro p e s m args below meth c s₁ B hml hv
  obtain ⟨rfl, hsz, hP, hK, hD0⟩ := hv
  have hx := B.exec
  have hb := B.bytes
  have hr := B.returns
  have hts := atoms_spec (ws := wz_X12_laysDisc) B.pre
  have hta := wz_tl hts
  have hown : s.vm.findClass RX12 = some m.cls := findClass_of_methodNamed B.named
  have hlocks := B.notSynchronized
  subst hsz
  have hD := hD0.self (sz := s.heap.size)
  generalize hAe : va_A (wd_X12_laysDisc cI a0 v0_2 v0_3 v0_5 v0_12 v0_13 v0_16 v0_17 v0_21 v0_23 v0_24 v0_25 v0_26 v0_29 v0_30 v0_22) s.heap.size = A at hD ⊢
  have hA : ∀ q : Nat, s.heap.size ≤ q → A q := fun q h => by rw [← hAe]; exact Or.inr h
  have hS : va_S A s.heap s.heap [] := va_S.rf
  have hP : va_P (dC, dI) vwCl (wd_X12_laysDisc cI a0 v0_2 v0_3 v0_5 v0_12 v0_13 v0_16 v0_17 v0_21 v0_23 v0_24 v0_25 v0_26 v0_29 v0_30 v0_22) s.heap := hP
  have hl := lv_entry ([.ref (a0 0), .int p1, .int p2]) (n := 3) (Nat.le_of_ble_eq_true rfl)
  rw [lg_entry_eq]
  generalize (lg_sl ([.ref (a0 0), .int p1, .int p2]) ++ List.replicate (3 - (lg_sl ([.ref (a0 0), .int p1, .int p2])).length) Slot.unset).toArray = ls at hl ⊢
  have hl : lv_has ls 3 [(0, .ref (a0 0)), (1, .int p1), (2, .int p2)] := hl
  obtain ⟨H, hHe⟩ : ∃ H, H = s.heap := ⟨_, rfl⟩
  have hS : va_S A s.heap H [] := by rw [hHe]; exact hS
  have hP : va_P (dC, dI) vwCl (wd_X12_laysDisc cI a0 v0_2 v0_3 v0_5 v0_12 v0_13 v0_16 v0_17 v0_21 v0_23 v0_24 v0_25 v0_26 v0_29 v0_30 v0_22) H := by rw [hHe]; exact hP
  rw [← hHe]
  unfold F_X12_laysDisc at hF
  refine lv_aload_n hx hb dX12_laysDisc_0 rfl (lv_at hl 0 rfl) ?_
  refine lv_iconst (v := 3) hx hb dX12_laysDisc_1 (by decide) ?_
  obtain ⟨u_1, hu_1, hF⟩ := obd_some hF
  have hPc := hP.sub (ws' := (wd_X12_begin cI a0 v0_2 v0_3 v0_5 v0_12 v0_13 v0_16 v0_17 v0_21 v0_23 v0_24 v0_25 v0_26 v0_29 v0_30 v0_22)) [0, 1] rfl
  have hDc := hD.sub (ws' := (wd_X12_begin cI a0 v0_2 v0_3 v0_5 v0_12 v0_13 v0_16 v0_17 v0_21 v0_23 v0_24 v0_25 v0_26 v0_29 v0_30 v0_22)) [0, 1] rfl rfl
  refine q_callv (wc := (wd_X12_begin cI a0 v0_2 v0_3 v0_5 v0_12 v0_13 v0_16 v0_17 v0_21 v0_23 v0_24 v0_25 v0_26 v0_29 v0_30 v0_22)) (w1 := (wd_X12_begin cI a0 v0_2 v0_3 v0_5 v0_12 v0_13 v0_16 v0_17 v0_21 u_1.1 v0_24 v0_25 v0_26 v0_29 v0_30 u_1.2)) (ws' := (wd_X12_laysDisc cI a0 v0_2 v0_3 v0_5 v0_12 v0_13 v0_16 v0_17 v0_21 u_1.1 v0_24 v0_25 v0_26 v0_29 v0_30 u_1.2)) hP hD hS hA [0, 1] [] [0, 1] rfl rfl rfl (by decide) rfl rfl (va_runV (As := [.int 3]) (rest := []) ⟨hx, hb, hml, hown, hta⟩ (c_X12_begin l dC dI cI H.size a0 v0_2 v0_3 v0_5 v0_12 v0_13 v0_16 v0_17 v0_21 v0_23 v0_24 v0_25 v0_26 v0_29 v0_30 v0_22 3 u_1 hu_1) (cwV 1 hta (ga_V mA964 mA965 mA966 mA814 mA952) rfl rfl rfl (by decide +kernel) ⟨Nat.le_of_ble_eq_true rfl, Nat.le_of_ble_eq_true rfl⟩) ⟨q_fb, va_recv hK hP (ci := 11) (q0 := 0) rfl rfl, q_ps hPc hK hDc⟩ rfl rfl hl.1 rfl (lv_room (Nat.le_of_ble_eq_true rfl)) dX12_laysDisc_2 ⟨Nat.zero_le _, Nat.zero_le _⟩) (fun H locs hP hD hS => ?_)
  refine lv_aload_n hx hb dX12_laysDisc_5 rfl (lv_at hl 0 rfl) ?_
  refine lv_iconst (v := 0) hx hb dX12_laysDisc_6 (by decide) ?_
  refine lv_iload_n hx hb dX12_laysDisc_7 rfl (lv_at hl 1 rfl) ?_
  refine lv_iload_n hx hb dX12_laysDisc_8 rfl (lv_at hl 2 rfl) ?_
  obtain ⟨u_2, hu_2, hF⟩ := obd_some hF
  have hPc := hP.sub (ws' := (wd_X12_corners cI a0 v0_2 v0_3 v0_5 v0_12 v0_13 v0_16 v0_17 v0_21 u_1.1 v0_24 v0_25 v0_26 v0_29 v0_30 u_1.2)) [0, 1] rfl
  have hDc := hD.sub (ws' := (wd_X12_corners cI a0 v0_2 v0_3 v0_5 v0_12 v0_13 v0_16 v0_17 v0_21 u_1.1 v0_24 v0_25 v0_26 v0_29 v0_30 u_1.2)) [0, 1] rfl rfl
  refine q_callv (wc := (wd_X12_corners cI a0 v0_2 v0_3 v0_5 v0_12 v0_13 v0_16 v0_17 v0_21 u_1.1 v0_24 v0_25 v0_26 v0_29 v0_30 u_1.2)) (w1 := (wd_X12_corners cI a0 v0_2 v0_3 v0_5 v0_12 v0_13 v0_16 v0_17 v0_21 u_1.1 v0_24 v0_25 v0_26 v0_29 v0_30 u_2)) (ws' := (wd_X12_laysDisc cI a0 v0_2 v0_3 v0_5 v0_12 v0_13 v0_16 v0_17 v0_21 u_1.1 v0_24 v0_25 v0_26 v0_29 v0_30 u_2)) hP hD hS hA [0, 1] [] [0, 1] rfl rfl rfl (by decide) rfl rfl (va_runV (As := [.int 0, .int p1, .int p2]) (rest := []) ⟨hx, hb, hml, hown, hta⟩ (c_X12_corners l dC dI cI H.size a0 v0_2 v0_3 v0_5 v0_12 v0_13 v0_16 v0_17 v0_21 u_1.1 v0_24 v0_25 v0_26 v0_29 v0_30 u_1.2 0 p1 p2 u_2 hu_2) (cwV 3 hta (ga_V mA967 mA968 mA969 mA814 mA954) rfl rfl rfl (by decide +kernel) ⟨Nat.le_of_ble_eq_true rfl, Nat.le_of_ble_eq_true rfl⟩) ⟨q_fb, va_recv hK hP (ci := 11) (q0 := 0) rfl rfl, q_ps hPc hK hDc⟩ rfl rfl hl.1 rfl (lv_room (Nat.le_of_ble_eq_true rfl)) dX12_laysDisc_9 ⟨Nat.zero_le _, Nat.zero_le _⟩) (fun H locs hP hD hS => ?_)
  obtain rfl := Option.some.inj hF
  exact W.vret hx hb hr (fun t ht hW => ⟨⟨(), rfl, trivial, by rw [ht]; exact hP, va_K.moved hW.alike hK, hD⟩, hS.F ht⟩) hS.2.2 dX12_laysDisc_12

-- StrokeOutlinerModel.laysStrip(I)V
def F_X12_laysStrip (v0_23 : Int32) (v0_0 : Nat → Int32) (v0_6 : Nat → Int32) (v0_7 : Nat → Int32) (v0_8 : Nat → Int32) (v0_9 : Nat → Int32) (v0_10 : Nat → Int32) (v0_18 : Nat → Int32) (v0_19 : Nat → Int32) (v0_20 : Nat → Int32) (v0_22 : Nat → Int32) (p1 : Int32) : Option (Int32 × (Nat → Int32)) :=
  gd (decide (vpi p1 20)) (lt (v0_18 p1.toNatClampNeg) (fun y_2 => obd (F_X12_normalX v0_0 v0_7 v0_10 y_2) (fun u_3 => obd (F_X12_normalY v0_0 v0_6 v0_10 y_2) (fun u_4 => gd (decide (vpi p1 20)) (obd (F_X12_alongX v0_6 v0_8 v0_10 y_2 (v0_19 p1.toNatClampNeg)) (fun u_6 => gd (decide (vpi p1 20)) (obd (F_X12_alongY v0_7 v0_9 v0_10 y_2 (v0_19 p1.toNatClampNeg)) (fun u_8 => gd (decide (vpi p1 20)) (obd (F_X12_alongX v0_6 v0_8 v0_10 y_2 (v0_20 p1.toNatClampNeg)) (fun u_10 => gd (decide (vpi p1 20)) (obd (F_X12_alongY v0_7 v0_9 v0_10 y_2 (v0_20 p1.toNatClampNeg)) (fun u_12 => obd (F_X12_begin v0_23 v0_22 0) (fun u_13 => obd (F_X12_corners u_13.1 u_13.2 0 (u_6 + u_3) (u_8 + u_4)) (fun u_14 => obd (F_X12_corners u_13.1 u_14 1 (u_10 + u_3) (u_12 + u_4)) (fun u_15 => obd (F_X12_corners u_13.1 u_15 2 (u_10 - u_3) (u_12 - u_4)) (fun u_16 => obd (F_X12_corners u_13.1 u_16 3 (u_6 - u_3) (u_8 - u_4)) (fun u_17 => some (u_13.1, u_17))))))))))))))))))
abbrev wd_X12_laysStrip (cI : ClassId) (a0 : Nat → Nat) (v0_2 : Int32) (v0_3 : Int32) (v0_5 : Int32) (v0_12 : Int32) (v0_13 : Int32) (v0_16 : Int32) (v0_17 : Int32) (v0_21 : Int32) (v0_23 : Int32) (v0_24 : Int32) (v0_25 : Int32) (v0_26 : Int32) (v0_29 : Int32) (v0_30 : Int64) (v0_0 : Nat → Int32) (v0_6 : Nat → Int32) (v0_7 : Nat → Int32) (v0_8 : Nat → Int32) (v0_9 : Nat → Int32) (v0_10 : Nat → Int32) (v0_18 : Nat → Int32) (v0_19 : Nat → Int32) (v0_20 : Nat → Int32) (v0_22 : Nat → Int32) : va_W := [(a0 0, .inr (11, [.ref (a0 1), .ref (a0 2), .int v0_2, .int v0_3, .ref (a0 5), .int v0_5, .ref (a0 7), .ref (a0 8), .ref (a0 9), .ref (a0 10), .ref (a0 11), .ref (a0 12), .int v0_12, .int v0_13, .ref (a0 15), .ref (a0 16), .int v0_16, .int v0_17, .ref (a0 19), .ref (a0 20), .ref (a0 21), .int v0_21, .ref (a0 23), .int v0_23, .int v0_24, .int v0_25, .int v0_26, .ref (a0 28), .ref (a0 29), .int v0_29, .long v0_30])), (a0 1, .inl (cI, 86, .inl v0_0)), (a0 7, .inl (cI, 8, .inl v0_6)), (a0 8, .inl (cI, 8, .inl v0_7)), (a0 9, .inl (cI, 8, .inl v0_8)), (a0 10, .inl (cI, 8, .inl v0_9)), (a0 11, .inl (cI, 8, .inl v0_10)), (a0 19, .inl (cI, 20, .inl v0_18)), (a0 20, .inl (cI, 20, .inl v0_19)), (a0 21, .inl (cI, 20, .inl v0_20)), (a0 23, .inl (cI, 27000, .inl v0_22))]
abbrev wz_X12_laysStrip : List Cond := .code yX12_laysStrip cX12_laysStrip 9 none :: wALL
abbrev rm_X12_laysStrip : Room := { frames := 2, cells := 0, slots := 0, locals := 49 }
abbrev Q_X12_laysStrip (dC : Nat → ClassId) (dI : Nat → Nat → Nat) (cI : ClassId) (a0 : Nat → Nat) (v0_2 : Int32) (v0_3 : Int32) (v0_5 : Int32) (v0_12 : Int32) (v0_13 : Int32) (v0_16 : Int32) (v0_17 : Int32) (v0_21 : Int32) (v0_24 : Int32) (v0_25 : Int32) (v0_26 : Int32) (v0_29 : Int32) (v0_30 : Int64) (v0_0 : Nat → Int32) (v0_6 : Nat → Int32) (v0_7 : Nat → Int32) (v0_8 : Nat → Int32) (v0_9 : Nat → Int32) (v0_10 : Nat → Int32) (v0_18 : Nat → Int32) (v0_19 : Nat → Int32) (v0_20 : Nat → Int32) (u : (Int32 × (Nat → Int32))) (A : Nat → Prop) : Array Value → State → Outcome → State → Prop := va_Qv (fun (_ : Unit) => True) (fun _ => q_at dC dI cI A (wd_X12_laysStrip cI a0 v0_2 v0_3 v0_5 v0_12 v0_13 v0_16 v0_17 v0_21 u.1 v0_24 v0_25 v0_26 v0_29 v0_30 v0_0 v0_6 v0_7 v0_8 v0_9 v0_10 v0_18 v0_19 v0_20 u.2)) A
set_option maxHeartbeats 4000000 in
set_option maxRecDepth 100000 in
theorem c_X12_laysStrip (l : Launch) (dC : Nat → ClassId) (dI : Nat → Nat → Nat) (cI : ClassId) (sz : Nat) (a0 : Nat → Nat) (v0_2 : Int32) (v0_3 : Int32) (v0_5 : Int32) (v0_12 : Int32) (v0_13 : Int32) (v0_16 : Int32) (v0_17 : Int32) (v0_21 : Int32) (v0_23 : Int32) (v0_24 : Int32) (v0_25 : Int32) (v0_26 : Int32) (v0_29 : Int32) (v0_30 : Int64) (v0_0 : Nat → Int32) (v0_6 : Nat → Int32) (v0_7 : Nat → Int32) (v0_8 : Nat → Int32) (v0_9 : Nat → Int32) (v0_10 : Nat → Int32) (v0_18 : Nat → Int32) (v0_19 : Nat → Int32) (v0_20 : Nat → Int32) (v0_22 : Nat → Int32) (p1 : Int32) (u : (Int32 × (Nat → Int32))) (hF : F_X12_laysStrip v0_23 v0_0 v0_6 v0_7 v0_8 v0_9 v0_10 v0_18 v0_19 v0_20 v0_22 p1 = some u) : Met l yX12_laysStrip wz_X12_laysStrip rm_X12_laysStrip (va_Pc [.ref (a0 0), .int p1] (q_pre dC dI cI (wd_X12_laysStrip cI a0 v0_2 v0_3 v0_5 v0_12 v0_13 v0_16 v0_17 v0_21 v0_23 v0_24 v0_25 v0_26 v0_29 v0_30 v0_0 v0_6 v0_7 v0_8 v0_9 v0_10 v0_18 v0_19 v0_20 v0_22) sz)) (Q_X12_laysStrip dC dI cI a0 v0_2 v0_3 v0_5 v0_12 v0_13 v0_16 v0_17 v0_21 v0_24 v0_25 v0_26 v0_29 v0_30 v0_0 v0_6 v0_7 v0_8 v0_9 v0_10 v0_18 v0_19 v0_20 u (va_A (wd_X12_laysStrip cI a0 v0_2 v0_3 v0_5 v0_12 v0_13 v0_16 v0_17 v0_21 v0_23 v0_24 v0_25 v0_26 v0_29 v0_30 v0_0 v0_6 v0_7 v0_8 v0_9 v0_10 v0_18 v0_19 v0_20 v0_22) sz)) 0 0 (va_A (wd_X12_laysStrip cI a0 v0_2 v0_3 v0_5 v0_12 v0_13 v0_16 v0_17 v0_21 v0_23 v0_24 v0_25 v0_26 v0_29 v0_30 v0_0 v0_6 v0_7 v0_8 v0_9 v0_10 v0_18 v0_19 v0_20 v0_22) sz) := by
  refine Met.ofW (cc := cX12_laysStrip) (maxL := 9) (ret := none) (by decide) rfl ?_
  intro p e s m args below meth c s₁ B hml hv
  obtain ⟨rfl, hsz, hP, hK, hD0⟩ := hv
  have hx := B.exec
  have hb := B.bytes
  have hr := B.returns
  have hts := atoms_spec (ws := wz_X12_laysStrip) B.pre
  have hta := wz_tl hts
  have hown : s.vm.findClass RX12 = some m.cls := findClass_of_methodNamed B.named
  have hlocks := B.notSynchronized
  subst hsz
  have hD := hD0.self (sz := s.heap.size)
  generalize hAe : va_A (wd_X12_laysStrip cI a0 v0_2 v0_3 v0_5 v0_12 v0_13 v0_16 v0_17 v0_21 v0_23 v0_24 v0_25 v0_26 v0_29 v0_30 v0_0 v0_6 v0_7 v0_8 v0_9 v0_10 v0_18 v0_19 v0_20 v0_22) s.heap.size = A at hD ⊢
  have hA : ∀ q : Nat, s.heap.size ≤ q → A q := fun q h => by rw [← hAe]; exact Or.inr h
  have hS : va_S A s.heap s.heap [] := va_S.rf
  have hP : va_P (dC, dI) vwCl (wd_X12_laysStrip cI a0 v0_2 v0_3 v0_5 v0_12 v0_13 v0_16 v0_17 v0_21 v0_23 v0_24 v0_25 v0_26 v0_29 v0_30 v0_0 v0_6 v0_7 v0_8 v0_9 v0_10 v0_18 v0_19 v0_20 v0_22) s.heap := hP
  have hl := lv_entry ([.ref (a0 0), .int p1]) (n := 9) (Nat.le_of_ble_eq_true rfl)
  rw [lg_entry_eq]
  generalize (lg_sl ([.ref (a0 0), .int p1]) ++ List.replicate (9 - (lg_sl ([.ref (a0 0), .int p1])).length) Slot.unset).toArray = ls at hl ⊢
  have hl : lv_has ls 9 [(0, .ref (a0 0)), (1, .int p1)] := hl
  obtain ⟨H, hHe⟩ : ∃ H, H = s.heap := ⟨_, rfl⟩
  have hS : va_S A s.heap H [] := by rw [hHe]; exact hS
  have hP : va_P (dC, dI) vwCl (wd_X12_laysStrip cI a0 v0_2 v0_3 v0_5 v0_12 v0_13 v0_16 v0_17 v0_21 v0_23 v0_24 v0_25 v0_26 v0_29 v0_30 v0_0 v0_6 v0_7 v0_8 v0_9 v0_10 v0_18 v0_19 v0_20 v0_22) H := by rw [hHe]; exact hP
  rw [← hHe]
  unfold F_X12_laysStrip at hF
  refine lv_aload_n hx hb dX12_laysStrip_0 rfl (lv_at hl 0 rfl) ?_
  refine va_get (D := (dC, dI)) (ci := 11) (v := .ref (a0 19)) (C := RX12) (T := TX12) (N := 31) hx hb hta uw_X12 hown hK hP 0 rfl rfl 18 (by decide) (hta _ mA801) (fun _ h9 => h9) rfl dX12_laysStrip_1 ?_
  refine lv_iload_n hx hb dX12_laysStrip_4 rfl (lv_at hl 1 rfl) ?_
  obtain ⟨g_1, hF⟩ := gd_some hF
  refine va_iald hx hb hK hP 7 0 rfl rfl (vpi_in g_1) dX12_laysStrip_5 ?_
  obtain ⟨y_2, ey_2, hF⟩ := lt_some hF
  refine lv_eqi ey_2 ?_
  refine lv_istore_n (lv' := [(2, .int y_2), (0, .ref (a0 0)), (1, .int p1)]) hx hb dX12_laysStrip_6 rfl hl (by decide) rfl (fun ls hl => ?_)
  refine lv_aload_n hx hb dX12_laysStrip_7 rfl (lv_at hl 1 rfl) ?_
  refine lv_iload_n hx hb dX12_laysStrip_8 rfl (lv_at hl 0 rfl) ?_
  obtain ⟨u_3, hu_3, hF⟩ := obd_some hF
  have hPc := hP.sub (ws' := (wd_X12_normalX cI a0 v0_2 v0_3 v0_5 v0_12 v0_13 v0_16 v0_17 v0_21 v0_23 v0_24 v0_25 v0_26 v0_29 v0_30 v0_0 v0_7 v0_10)) [0, 1, 3, 6] rfl
  have hDc := hD.sub (ws' := (wd_X12_normalX cI a0 v0_2 v0_3 v0_5 v0_12 v0_13 v0_16 v0_17 v0_21 v0_23 v0_24 v0_25 v0_26 v0_29 v0_30 v0_0 v0_7 v0_10)) [0, 1, 3, 6] rfl rfl
  refine q_calli (wc := (wd_X12_normalX cI a0 v0_2 v0_3 v0_5 v0_12 v0_13 v0_16 v0_17 v0_21 v0_23 v0_24 v0_25 v0_26 v0_29 v0_30 v0_0 v0_7 v0_10)) (w1 := (wd_X12_normalX cI a0 v0_2 v0_3 v0_5 v0_12 v0_13 v0_16 v0_17 v0_21 v0_23 v0_24 v0_25 v0_26 v0_29 v0_30 v0_0 v0_7 v0_10)) (ws' := (wd_X12_laysStrip cI a0 v0_2 v0_3 v0_5 v0_12 v0_13 v0_16 v0_17 v0_21 v0_23 v0_24 v0_25 v0_26 v0_29 v0_30 v0_0 v0_6 v0_7 v0_8 v0_9 v0_10 v0_18 v0_19 v0_20 v0_22)) hP hD hS hA [0, 1, 3, 6] [2, 4, 5, 7, 8, 9, 10] [7, 8, 0, 9, 1, 2, 10, 3, 4, 5, 6] rfl rfl rfl (by decide) rfl rfl (va_runV (As := [.int y_2]) (rest := []) ⟨hx, hb, hml, hown, hta⟩ (c_X12_normalX l dC dI cI H.size a0 v0_2 v0_3 v0_5 v0_12 v0_13 v0_16 v0_17 v0_21 v0_23 v0_24 v0_25 v0_26 v0_29 v0_30 v0_0 v0_7 v0_10 y_2 u_3 hu_3) (cwV 1 hta (ga_V mA971 mA972 mA973 mA814 mA955) rfl rfl rfl (by decide +kernel) ⟨Nat.le_of_ble_eq_true rfl, Nat.le_of_ble_eq_true rfl⟩) ⟨q_fb, va_recv hK hP (ci := 11) (q0 := 0) rfl rfl, q_ps hPc hK hDc⟩ rfl rfl hl.1 rfl (lv_room (Nat.le_of_ble_eq_true rfl)) dX12_laysStrip_9 ⟨Nat.zero_le _, Nat.zero_le _⟩) (fun H locs hP hD hS => ?_)
  refine lv_istore_n (lv' := [(3, .int u_3), (2, .int y_2), (0, .ref (a0 0)), (1, .int p1)]) hx hb dX12_laysStrip_12 rfl hl (by decide) rfl (fun ls hl => ?_)
  refine lv_aload_n hx hb dX12_laysStrip_13 rfl (lv_at hl 2 rfl) ?_
  refine lv_iload_n hx hb dX12_laysStrip_14 rfl (lv_at hl 1 rfl) ?_
  obtain ⟨u_4, hu_4, hF⟩ := obd_some hF
  have hPc := hP.sub (ws' := (wd_X12_normalY cI a0 v0_2 v0_3 v0_5 v0_12 v0_13 v0_16 v0_17 v0_21 v0_23 v0_24 v0_25 v0_26 v0_29 v0_30 v0_0 v0_6 v0_10)) [0, 1, 2, 6] rfl
  have hDc := hD.sub (ws' := (wd_X12_normalY cI a0 v0_2 v0_3 v0_5 v0_12 v0_13 v0_16 v0_17 v0_21 v0_23 v0_24 v0_25 v0_26 v0_29 v0_30 v0_0 v0_6 v0_10)) [0, 1, 2, 6] rfl rfl
  refine q_calli (wc := (wd_X12_normalY cI a0 v0_2 v0_3 v0_5 v0_12 v0_13 v0_16 v0_17 v0_21 v0_23 v0_24 v0_25 v0_26 v0_29 v0_30 v0_0 v0_6 v0_10)) (w1 := (wd_X12_normalY cI a0 v0_2 v0_3 v0_5 v0_12 v0_13 v0_16 v0_17 v0_21 v0_23 v0_24 v0_25 v0_26 v0_29 v0_30 v0_0 v0_6 v0_10)) (ws' := (wd_X12_laysStrip cI a0 v0_2 v0_3 v0_5 v0_12 v0_13 v0_16 v0_17 v0_21 v0_23 v0_24 v0_25 v0_26 v0_29 v0_30 v0_0 v0_6 v0_7 v0_8 v0_9 v0_10 v0_18 v0_19 v0_20 v0_22)) hP hD hS hA [0, 1, 2, 6] [3, 4, 5, 7, 8, 9, 10] [7, 8, 9, 0, 1, 2, 10, 3, 4, 5, 6] rfl rfl rfl (by decide) rfl rfl (va_runV (As := [.int y_2]) (rest := []) ⟨hx, hb, hml, hown, hta⟩ (c_X12_normalY l dC dI cI H.size a0 v0_2 v0_3 v0_5 v0_12 v0_13 v0_16 v0_17 v0_21 v0_23 v0_24 v0_25 v0_26 v0_29 v0_30 v0_0 v0_6 v0_10 y_2 u_4 hu_4) (cwV 1 hta (ga_V mA974 mA975 mA976 mA814 mA960) rfl rfl rfl (by decide +kernel) ⟨Nat.le_of_ble_eq_true rfl, Nat.le_of_ble_eq_true rfl⟩) ⟨q_fb, va_recv hK hP (ci := 11) (q0 := 0) rfl rfl, q_ps hPc hK hDc⟩ rfl rfl hl.1 rfl (lv_room (Nat.le_of_ble_eq_true rfl)) dX12_laysStrip_15 ⟨Nat.zero_le _, Nat.zero_le _⟩) (fun H locs hP hD hS => ?_)
  refine lv_istore (lv' := [(4, .int u_4), (3, .int u_3), (2, .int y_2), (0, .ref (a0 0)), (1, .int p1)]) hx hb dX12_laysStrip_18 hl (by decide) rfl (fun ls hl => ?_)
  refine lv_aload_n hx hb dX12_laysStrip_20 rfl (lv_at hl 3 rfl) ?_
  refine lv_iload_n hx hb dX12_laysStrip_21 rfl (lv_at hl 2 rfl) ?_
  refine lv_aload_n hx hb dX12_laysStrip_22 rfl (lv_at hl 3 rfl) ?_
  refine va_get (D := (dC, dI)) (ci := 11) (v := .ref (a0 20)) (C := RX12) (T := TX12) (N := 31) hx hb hta uw_X12 hown hK hP 0 rfl rfl 19 (by decide) (hta _ mA802) (fun _ h9 => h9) rfl dX12_laysStrip_23 ?_
  refine lv_iload_n hx hb dX12_laysStrip_26 rfl (lv_at hl 4 rfl) ?_
  obtain ⟨g_5, hF⟩ := gd_some hF
  refine va_iald hx hb hK hP 8 0 rfl rfl (vpi_in g_5) dX12_laysStrip_27 ?_
  obtain ⟨u_6, hu_6, hF⟩ := obd_some hF
  have hPc := hP.sub (ws' := (wd_X12_alongX cI a0 v0_2 v0_3 v0_5 v0_12 v0_13 v0_16 v0_17 v0_21 v0_23 v0_24 v0_25 v0_26 v0_29 v0_30 v0_6 v0_8 v0_10)) [0, 2, 4, 6] rfl
  have hDc := hD.sub (ws' := (wd_X12_alongX cI a0 v0_2 v0_3 v0_5 v0_12 v0_13 v0_16 v0_17 v0_21 v0_23 v0_24 v0_25 v0_26 v0_29 v0_30 v0_6 v0_8 v0_10)) [0, 2, 4, 6] rfl rfl
  refine q_calli (wc := (wd_X12_alongX cI a0 v0_2 v0_3 v0_5 v0_12 v0_13 v0_16 v0_17 v0_21 v0_23 v0_24 v0_25 v0_26 v0_29 v0_30 v0_6 v0_8 v0_10)) (w1 := (wd_X12_alongX cI a0 v0_2 v0_3 v0_5 v0_12 v0_13 v0_16 v0_17 v0_21 v0_23 v0_24 v0_25 v0_26 v0_29 v0_30 v0_6 v0_8 v0_10)) (ws' := (wd_X12_laysStrip cI a0 v0_2 v0_3 v0_5 v0_12 v0_13 v0_16 v0_17 v0_21 v0_23 v0_24 v0_25 v0_26 v0_29 v0_30 v0_0 v0_6 v0_7 v0_8 v0_9 v0_10 v0_18 v0_19 v0_20 v0_22)) hP hD hS hA [0, 2, 4, 6] [1, 3, 5, 7, 8, 9, 10] [7, 0, 8, 1, 9, 2, 10, 3, 4, 5, 6] rfl rfl rfl (by decide) rfl rfl (va_runV (As := [.int y_2, .int (v0_19 p1.toNatClampNeg)]) (rest := []) ⟨hx, hb, hml, hown, hta⟩ (c_X12_alongX l dC dI cI H.size a0 v0_2 v0_3 v0_5 v0_12 v0_13 v0_16 v0_17 v0_21 v0_23 v0_24 v0_25 v0_26 v0_29 v0_30 v0_6 v0_8 v0_10 y_2 (v0_19 p1.toNatClampNeg) u_6 hu_6) (cwV 2 hta (ga_V mA915 mA916 mA917 mA814 mA900) rfl rfl rfl (by decide +kernel) ⟨Nat.le_of_ble_eq_true rfl, Nat.le_of_ble_eq_true rfl⟩) ⟨q_fb, va_recv hK hP (ci := 11) (q0 := 0) rfl rfl, q_ps hPc hK hDc⟩ rfl rfl hl.1 rfl (lv_room (Nat.le_of_ble_eq_true rfl)) dX12_laysStrip_28 ⟨Nat.zero_le _, Nat.zero_le _⟩) (fun H locs hP hD hS => ?_)
  refine lv_istore (lv' := [(5, .int u_6), (4, .int u_4), (3, .int u_3), (2, .int y_2), (0, .ref (a0 0)), (1, .int p1)]) hx hb dX12_laysStrip_31 hl (by decide) rfl (fun ls hl => ?_)
  refine lv_aload_n hx hb dX12_laysStrip_33 rfl (lv_at hl 4 rfl) ?_
  refine lv_iload_n hx hb dX12_laysStrip_34 rfl (lv_at hl 3 rfl) ?_
  refine lv_aload_n hx hb dX12_laysStrip_35 rfl (lv_at hl 4 rfl) ?_
  refine va_get (D := (dC, dI)) (ci := 11) (v := .ref (a0 20)) (C := RX12) (T := TX12) (N := 31) hx hb hta uw_X12 hown hK hP 0 rfl rfl 19 (by decide) (hta _ mA802) (fun _ h9 => h9) rfl dX12_laysStrip_36 ?_
  refine lv_iload_n hx hb dX12_laysStrip_39 rfl (lv_at hl 5 rfl) ?_
  obtain ⟨g_7, hF⟩ := gd_some hF
  refine va_iald hx hb hK hP 8 0 rfl rfl (vpi_in g_7) dX12_laysStrip_40 ?_
  obtain ⟨u_8, hu_8, hF⟩ := obd_some hF
  have hPc := hP.sub (ws' := (wd_X12_alongY cI a0 v0_2 v0_3 v0_5 v0_12 v0_13 v0_16 v0_17 v0_21 v0_23 v0_24 v0_25 v0_26 v0_29 v0_30 v0_7 v0_9 v0_10)) [0, 3, 5, 6] rfl
  have hDc := hD.sub (ws' := (wd_X12_alongY cI a0 v0_2 v0_3 v0_5 v0_12 v0_13 v0_16 v0_17 v0_21 v0_23 v0_24 v0_25 v0_26 v0_29 v0_30 v0_7 v0_9 v0_10)) [0, 3, 5, 6] rfl rfl
  refine q_calli (wc := (wd_X12_alongY cI a0 v0_2 v0_3 v0_5 v0_12 v0_13 v0_16 v0_17 v0_21 v0_23 v0_24 v0_25 v0_26 v0_29 v0_30 v0_7 v0_9 v0_10)) (w1 := (wd_X12_alongY cI a0 v0_2 v0_3 v0_5 v0_12 v0_13 v0_16 v0_17 v0_21 v0_23 v0_24 v0_25 v0_26 v0_29 v0_30 v0_7 v0_9 v0_10)) (ws' := (wd_X12_laysStrip cI a0 v0_2 v0_3 v0_5 v0_12 v0_13 v0_16 v0_17 v0_21 v0_23 v0_24 v0_25 v0_26 v0_29 v0_30 v0_0 v0_6 v0_7 v0_8 v0_9 v0_10 v0_18 v0_19 v0_20 v0_22)) hP hD hS hA [0, 3, 5, 6] [1, 2, 4, 7, 8, 9, 10] [7, 0, 1, 8, 2, 9, 10, 3, 4, 5, 6] rfl rfl rfl (by decide) rfl rfl (va_runV (As := [.int y_2, .int (v0_19 p1.toNatClampNeg)]) (rest := []) ⟨hx, hb, hml, hown, hta⟩ (c_X12_alongY l dC dI cI H.size a0 v0_2 v0_3 v0_5 v0_12 v0_13 v0_16 v0_17 v0_21 v0_23 v0_24 v0_25 v0_26 v0_29 v0_30 v0_7 v0_9 v0_10 y_2 (v0_19 p1.toNatClampNeg) u_8 hu_8) (cwV 2 hta (ga_V mA912 mA913 mA914 mA814 mA904) rfl rfl rfl (by decide +kernel) ⟨Nat.le_of_ble_eq_true rfl, Nat.le_of_ble_eq_true rfl⟩) ⟨q_fb, va_recv hK hP (ci := 11) (q0 := 0) rfl rfl, q_ps hPc hK hDc⟩ rfl rfl hl.1 rfl (lv_room (Nat.le_of_ble_eq_true rfl)) dX12_laysStrip_41 ⟨Nat.zero_le _, Nat.zero_le _⟩) (fun H locs hP hD hS => ?_)
  refine lv_istore (lv' := [(6, .int u_8), (5, .int u_6), (4, .int u_4), (3, .int u_3), (2, .int y_2), (0, .ref (a0 0)), (1, .int p1)]) hx hb dX12_laysStrip_44 hl (by decide) rfl (fun ls hl => ?_)
  refine lv_aload_n hx hb dX12_laysStrip_46 rfl (lv_at hl 5 rfl) ?_
  refine lv_iload_n hx hb dX12_laysStrip_47 rfl (lv_at hl 4 rfl) ?_
  refine lv_aload_n hx hb dX12_laysStrip_48 rfl (lv_at hl 5 rfl) ?_
  refine va_get (D := (dC, dI)) (ci := 11) (v := .ref (a0 21)) (C := RX12) (T := TX12) (N := 31) hx hb hta uw_X12 hown hK hP 0 rfl rfl 20 (by decide) (hta _ mA803) (fun _ h9 => h9) rfl dX12_laysStrip_49 ?_
  refine lv_iload_n hx hb dX12_laysStrip_52 rfl (lv_at hl 6 rfl) ?_
  obtain ⟨g_9, hF⟩ := gd_some hF
  refine va_iald hx hb hK hP 9 0 rfl rfl (vpi_in g_9) dX12_laysStrip_53 ?_
  obtain ⟨u_10, hu_10, hF⟩ := obd_some hF
  have hPc := hP.sub (ws' := (wd_X12_alongX cI a0 v0_2 v0_3 v0_5 v0_12 v0_13 v0_16 v0_17 v0_21 v0_23 v0_24 v0_25 v0_26 v0_29 v0_30 v0_6 v0_8 v0_10)) [0, 2, 4, 6] rfl
  have hDc := hD.sub (ws' := (wd_X12_alongX cI a0 v0_2 v0_3 v0_5 v0_12 v0_13 v0_16 v0_17 v0_21 v0_23 v0_24 v0_25 v0_26 v0_29 v0_30 v0_6 v0_8 v0_10)) [0, 2, 4, 6] rfl rfl
  refine q_calli (wc := (wd_X12_alongX cI a0 v0_2 v0_3 v0_5 v0_12 v0_13 v0_16 v0_17 v0_21 v0_23 v0_24 v0_25 v0_26 v0_29 v0_30 v0_6 v0_8 v0_10)) (w1 := (wd_X12_alongX cI a0 v0_2 v0_3 v0_5 v0_12 v0_13 v0_16 v0_17 v0_21 v0_23 v0_24 v0_25 v0_26 v0_29 v0_30 v0_6 v0_8 v0_10)) (ws' := (wd_X12_laysStrip cI a0 v0_2 v0_3 v0_5 v0_12 v0_13 v0_16 v0_17 v0_21 v0_23 v0_24 v0_25 v0_26 v0_29 v0_30 v0_0 v0_6 v0_7 v0_8 v0_9 v0_10 v0_18 v0_19 v0_20 v0_22)) hP hD hS hA [0, 2, 4, 6] [1, 3, 5, 7, 8, 9, 10] [7, 0, 8, 1, 9, 2, 10, 3, 4, 5, 6] rfl rfl rfl (by decide) rfl rfl (va_runV (As := [.int y_2, .int (v0_20 p1.toNatClampNeg)]) (rest := []) ⟨hx, hb, hml, hown, hta⟩ (c_X12_alongX l dC dI cI H.size a0 v0_2 v0_3 v0_5 v0_12 v0_13 v0_16 v0_17 v0_21 v0_23 v0_24 v0_25 v0_26 v0_29 v0_30 v0_6 v0_8 v0_10 y_2 (v0_20 p1.toNatClampNeg) u_10 hu_10) (cwV 2 hta (ga_V mA915 mA916 mA917 mA814 mA900) rfl rfl rfl (by decide +kernel) ⟨Nat.le_of_ble_eq_true rfl, Nat.le_of_ble_eq_true rfl⟩) ⟨q_fb, va_recv hK hP (ci := 11) (q0 := 0) rfl rfl, q_ps hPc hK hDc⟩ rfl rfl hl.1 rfl (lv_room (Nat.le_of_ble_eq_true rfl)) dX12_laysStrip_54 ⟨Nat.zero_le _, Nat.zero_le _⟩) (fun H locs hP hD hS => ?_)
  refine lv_istore (lv' := [(7, .int u_10), (6, .int u_8), (5, .int u_6), (4, .int u_4), (3, .int u_3), (2, .int y_2), (0, .ref (a0 0)), (1, .int p1)]) hx hb dX12_laysStrip_57 hl (by decide) rfl (fun ls hl => ?_)
  refine lv_aload_n hx hb dX12_laysStrip_59 rfl (lv_at hl 6 rfl) ?_
  refine lv_iload_n hx hb dX12_laysStrip_60 rfl (lv_at hl 5 rfl) ?_
  refine lv_aload_n hx hb dX12_laysStrip_61 rfl (lv_at hl 6 rfl) ?_
  refine va_get (D := (dC, dI)) (ci := 11) (v := .ref (a0 21)) (C := RX12) (T := TX12) (N := 31) hx hb hta uw_X12 hown hK hP 0 rfl rfl 20 (by decide) (hta _ mA803) (fun _ h9 => h9) rfl dX12_laysStrip_62 ?_
  refine lv_iload_n hx hb dX12_laysStrip_65 rfl (lv_at hl 7 rfl) ?_
  obtain ⟨g_11, hF⟩ := gd_some hF
  refine va_iald hx hb hK hP 9 0 rfl rfl (vpi_in g_11) dX12_laysStrip_66 ?_
  obtain ⟨u_12, hu_12, hF⟩ := obd_some hF
  have hPc := hP.sub (ws' := (wd_X12_alongY cI a0 v0_2 v0_3 v0_5 v0_12 v0_13 v0_16 v0_17 v0_21 v0_23 v0_24 v0_25 v0_26 v0_29 v0_30 v0_7 v0_9 v0_10)) [0, 3, 5, 6] rfl
  have hDc := hD.sub (ws' := (wd_X12_alongY cI a0 v0_2 v0_3 v0_5 v0_12 v0_13 v0_16 v0_17 v0_21 v0_23 v0_24 v0_25 v0_26 v0_29 v0_30 v0_7 v0_9 v0_10)) [0, 3, 5, 6] rfl rfl
  refine q_calli (wc := (wd_X12_alongY cI a0 v0_2 v0_3 v0_5 v0_12 v0_13 v0_16 v0_17 v0_21 v0_23 v0_24 v0_25 v0_26 v0_29 v0_30 v0_7 v0_9 v0_10)) (w1 := (wd_X12_alongY cI a0 v0_2 v0_3 v0_5 v0_12 v0_13 v0_16 v0_17 v0_21 v0_23 v0_24 v0_25 v0_26 v0_29 v0_30 v0_7 v0_9 v0_10)) (ws' := (wd_X12_laysStrip cI a0 v0_2 v0_3 v0_5 v0_12 v0_13 v0_16 v0_17 v0_21 v0_23 v0_24 v0_25 v0_26 v0_29 v0_30 v0_0 v0_6 v0_7 v0_8 v0_9 v0_10 v0_18 v0_19 v0_20 v0_22)) hP hD hS hA [0, 3, 5, 6] [1, 2, 4, 7, 8, 9, 10] [7, 0, 1, 8, 2, 9, 10, 3, 4, 5, 6] rfl rfl rfl (by decide) rfl rfl (va_runV (As := [.int y_2, .int (v0_20 p1.toNatClampNeg)]) (rest := []) ⟨hx, hb, hml, hown, hta⟩ (c_X12_alongY l dC dI cI H.size a0 v0_2 v0_3 v0_5 v0_12 v0_13 v0_16 v0_17 v0_21 v0_23 v0_24 v0_25 v0_26 v0_29 v0_30 v0_7 v0_9 v0_10 y_2 (v0_20 p1.toNatClampNeg) u_12 hu_12) (cwV 2 hta (ga_V mA912 mA913 mA914 mA814 mA904) rfl rfl rfl (by decide +kernel) ⟨Nat.le_of_ble_eq_true rfl, Nat.le_of_ble_eq_true rfl⟩) ⟨q_fb, va_recv hK hP (ci := 11) (q0 := 0) rfl rfl, q_ps hPc hK hDc⟩ rfl rfl hl.1 rfl (lv_room (Nat.le_of_ble_eq_true rfl)) dX12_laysStrip_67 ⟨Nat.zero_le _, Nat.zero_le _⟩) (fun H locs hP hD hS => ?_)
  refine lv_istore (lv' := [(8, .int u_12), (7, .int u_10), (6, .int u_8), (5, .int u_6), (4, .int u_4), (3, .int u_3), (2, .int y_2), (0, .ref (a0 0)), (1, .int p1)]) hx hb dX12_laysStrip_70 hl (by decide) rfl (fun ls hl => ?_)
  refine lv_aload_n hx hb dX12_laysStrip_72 rfl (lv_at hl 7 rfl) ?_
  refine lv_iconst (v := 0) hx hb dX12_laysStrip_73 (by decide) ?_
  obtain ⟨u_13, hu_13, hF⟩ := obd_some hF
  have hPc := hP.sub (ws' := (wd_X12_begin cI a0 v0_2 v0_3 v0_5 v0_12 v0_13 v0_16 v0_17 v0_21 v0_23 v0_24 v0_25 v0_26 v0_29 v0_30 v0_22)) [0, 10] rfl
  have hDc := hD.sub (ws' := (wd_X12_begin cI a0 v0_2 v0_3 v0_5 v0_12 v0_13 v0_16 v0_17 v0_21 v0_23 v0_24 v0_25 v0_26 v0_29 v0_30 v0_22)) [0, 10] rfl rfl
  refine q_callv (wc := (wd_X12_begin cI a0 v0_2 v0_3 v0_5 v0_12 v0_13 v0_16 v0_17 v0_21 v0_23 v0_24 v0_25 v0_26 v0_29 v0_30 v0_22)) (w1 := (wd_X12_begin cI a0 v0_2 v0_3 v0_5 v0_12 v0_13 v0_16 v0_17 v0_21 u_13.1 v0_24 v0_25 v0_26 v0_29 v0_30 u_13.2)) (ws' := (wd_X12_laysStrip cI a0 v0_2 v0_3 v0_5 v0_12 v0_13 v0_16 v0_17 v0_21 u_13.1 v0_24 v0_25 v0_26 v0_29 v0_30 v0_0 v0_6 v0_7 v0_8 v0_9 v0_10 v0_18 v0_19 v0_20 u_13.2)) hP hD hS hA [0, 10] [1, 2, 3, 4, 5, 6, 7, 8, 9] [9, 0, 1, 2, 3, 4, 5, 6, 7, 8, 10] rfl rfl rfl (by decide) rfl rfl (va_runV (As := [.int 0]) (rest := []) ⟨hx, hb, hml, hown, hta⟩ (c_X12_begin l dC dI cI H.size a0 v0_2 v0_3 v0_5 v0_12 v0_13 v0_16 v0_17 v0_21 v0_23 v0_24 v0_25 v0_26 v0_29 v0_30 v0_22 0 u_13 hu_13) (cwV 1 hta (ga_V mA964 mA965 mA966 mA814 mA952) rfl rfl rfl (by decide +kernel) ⟨Nat.le_of_ble_eq_true rfl, Nat.le_of_ble_eq_true rfl⟩) ⟨q_fb, va_recv hK hP (ci := 11) (q0 := 0) rfl rfl, q_ps hPc hK hDc⟩ rfl rfl hl.1 rfl (lv_room (Nat.le_of_ble_eq_true rfl)) dX12_laysStrip_74 ⟨Nat.zero_le _, Nat.zero_le _⟩) (fun H locs hP hD hS => ?_)
  refine lv_aload_n hx hb dX12_laysStrip_77 rfl (lv_at hl 7 rfl) ?_
  refine lv_iconst (v := 0) hx hb dX12_laysStrip_78 (by decide) ?_
  refine lv_iload hx hb dX12_laysStrip_79 (lv_at hl 3 rfl) ?_
  refine lv_iload_n hx hb dX12_laysStrip_81 rfl (lv_at hl 5 rfl) ?_
  refine lv_iadd hx hb dX12_laysStrip_82 ?_
  refine lv_iload hx hb dX12_laysStrip_83 (lv_at hl 2 rfl) ?_
  refine lv_iload hx hb dX12_laysStrip_85 (lv_at hl 4 rfl) ?_
  refine lv_iadd hx hb dX12_laysStrip_87 ?_
  obtain ⟨u_14, hu_14, hF⟩ := obd_some hF
  have hPc := hP.sub (ws' := (wd_X12_corners cI a0 v0_2 v0_3 v0_5 v0_12 v0_13 v0_16 v0_17 v0_21 u_13.1 v0_24 v0_25 v0_26 v0_29 v0_30 u_13.2)) [0, 10] rfl
  have hDc := hD.sub (ws' := (wd_X12_corners cI a0 v0_2 v0_3 v0_5 v0_12 v0_13 v0_16 v0_17 v0_21 u_13.1 v0_24 v0_25 v0_26 v0_29 v0_30 u_13.2)) [0, 10] rfl rfl
  refine q_callv (wc := (wd_X12_corners cI a0 v0_2 v0_3 v0_5 v0_12 v0_13 v0_16 v0_17 v0_21 u_13.1 v0_24 v0_25 v0_26 v0_29 v0_30 u_13.2)) (w1 := (wd_X12_corners cI a0 v0_2 v0_3 v0_5 v0_12 v0_13 v0_16 v0_17 v0_21 u_13.1 v0_24 v0_25 v0_26 v0_29 v0_30 u_14)) (ws' := (wd_X12_laysStrip cI a0 v0_2 v0_3 v0_5 v0_12 v0_13 v0_16 v0_17 v0_21 u_13.1 v0_24 v0_25 v0_26 v0_29 v0_30 v0_0 v0_6 v0_7 v0_8 v0_9 v0_10 v0_18 v0_19 v0_20 u_14)) hP hD hS hA [0, 10] [1, 2, 3, 4, 5, 6, 7, 8, 9] [9, 0, 1, 2, 3, 4, 5, 6, 7, 8, 10] rfl rfl rfl (by decide) rfl rfl (va_runV (As := [.int 0, .int (u_6 + u_3), .int (u_8 + u_4)]) (rest := []) ⟨hx, hb, hml, hown, hta⟩ (c_X12_corners l dC dI cI H.size a0 v0_2 v0_3 v0_5 v0_12 v0_13 v0_16 v0_17 v0_21 u_13.1 v0_24 v0_25 v0_26 v0_29 v0_30 u_13.2 0 (u_6 + u_3) (u_8 + u_4) u_14 hu_14) (cwV 3 hta (ga_V mA967 mA968 mA969 mA814 mA954) rfl rfl rfl (by decide +kernel) ⟨Nat.le_of_ble_eq_true rfl, Nat.le_of_ble_eq_true rfl⟩) ⟨q_fb, va_recv hK hP (ci := 11) (q0 := 0) rfl rfl, q_ps hPc hK hDc⟩ rfl rfl hl.1 rfl (lv_room (Nat.le_of_ble_eq_true rfl)) dX12_laysStrip_88 ⟨Nat.zero_le _, Nat.zero_le _⟩) (fun H locs hP hD hS => ?_)
  refine lv_aload_n hx hb dX12_laysStrip_91 rfl (lv_at hl 7 rfl) ?_
  refine lv_iconst (v := 1) hx hb dX12_laysStrip_92 (by decide) ?_
  refine lv_iload hx hb dX12_laysStrip_93 (lv_at hl 1 rfl) ?_
  refine lv_iload_n hx hb dX12_laysStrip_95 rfl (lv_at hl 5 rfl) ?_
  refine lv_iadd hx hb dX12_laysStrip_96 ?_
  refine lv_iload hx hb dX12_laysStrip_97 (lv_at hl 0 rfl) ?_
  refine lv_iload hx hb dX12_laysStrip_99 (lv_at hl 4 rfl) ?_
  refine lv_iadd hx hb dX12_laysStrip_101 ?_
  obtain ⟨u_15, hu_15, hF⟩ := obd_some hF
  have hPc := hP.sub (ws' := (wd_X12_corners cI a0 v0_2 v0_3 v0_5 v0_12 v0_13 v0_16 v0_17 v0_21 u_13.1 v0_24 v0_25 v0_26 v0_29 v0_30 u_14)) [0, 10] rfl
  have hDc := hD.sub (ws' := (wd_X12_corners cI a0 v0_2 v0_3 v0_5 v0_12 v0_13 v0_16 v0_17 v0_21 u_13.1 v0_24 v0_25 v0_26 v0_29 v0_30 u_14)) [0, 10] rfl rfl
  refine q_callv (wc := (wd_X12_corners cI a0 v0_2 v0_3 v0_5 v0_12 v0_13 v0_16 v0_17 v0_21 u_13.1 v0_24 v0_25 v0_26 v0_29 v0_30 u_14)) (w1 := (wd_X12_corners cI a0 v0_2 v0_3 v0_5 v0_12 v0_13 v0_16 v0_17 v0_21 u_13.1 v0_24 v0_25 v0_26 v0_29 v0_30 u_15)) (ws' := (wd_X12_laysStrip cI a0 v0_2 v0_3 v0_5 v0_12 v0_13 v0_16 v0_17 v0_21 u_13.1 v0_24 v0_25 v0_26 v0_29 v0_30 v0_0 v0_6 v0_7 v0_8 v0_9 v0_10 v0_18 v0_19 v0_20 u_15)) hP hD hS hA [0, 10] [1, 2, 3, 4, 5, 6, 7, 8, 9] [9, 0, 1, 2, 3, 4, 5, 6, 7, 8, 10] rfl rfl rfl (by decide) rfl rfl (va_runV (As := [.int 1, .int (u_10 + u_3), .int (u_12 + u_4)]) (rest := []) ⟨hx, hb, hml, hown, hta⟩ (c_X12_corners l dC dI cI H.size a0 v0_2 v0_3 v0_5 v0_12 v0_13 v0_16 v0_17 v0_21 u_13.1 v0_24 v0_25 v0_26 v0_29 v0_30 u_14 1 (u_10 + u_3) (u_12 + u_4) u_15 hu_15) (cwV 3 hta (ga_V mA967 mA968 mA969 mA814 mA954) rfl rfl rfl (by decide +kernel) ⟨Nat.le_of_ble_eq_true rfl, Nat.le_of_ble_eq_true rfl⟩) ⟨q_fb, va_recv hK hP (ci := 11) (q0 := 0) rfl rfl, q_ps hPc hK hDc⟩ rfl rfl hl.1 rfl (lv_room (Nat.le_of_ble_eq_true rfl)) dX12_laysStrip_102 ⟨Nat.zero_le _, Nat.zero_le _⟩) (fun H locs hP hD hS => ?_)
  refine lv_aload_n hx hb dX12_laysStrip_105 rfl (lv_at hl 7 rfl) ?_
  refine lv_iconst (v := 2) hx hb dX12_laysStrip_106 (by decide) ?_
  refine lv_iload hx hb dX12_laysStrip_107 (lv_at hl 1 rfl) ?_
  refine lv_iload_n hx hb dX12_laysStrip_109 rfl (lv_at hl 5 rfl) ?_
  refine lv_isub hx hb dX12_laysStrip_110 ?_
  refine lv_iload hx hb dX12_laysStrip_111 (lv_at hl 0 rfl) ?_
  refine lv_iload hx hb dX12_laysStrip_113 (lv_at hl 4 rfl) ?_
  refine lv_isub hx hb dX12_laysStrip_115 ?_
  obtain ⟨u_16, hu_16, hF⟩ := obd_some hF
  have hPc := hP.sub (ws' := (wd_X12_corners cI a0 v0_2 v0_3 v0_5 v0_12 v0_13 v0_16 v0_17 v0_21 u_13.1 v0_24 v0_25 v0_26 v0_29 v0_30 u_15)) [0, 10] rfl
  have hDc := hD.sub (ws' := (wd_X12_corners cI a0 v0_2 v0_3 v0_5 v0_12 v0_13 v0_16 v0_17 v0_21 u_13.1 v0_24 v0_25 v0_26 v0_29 v0_30 u_15)) [0, 10] rfl rfl
  refine q_callv (wc := (wd_X12_corners cI a0 v0_2 v0_3 v0_5 v0_12 v0_13 v0_16 v0_17 v0_21 u_13.1 v0_24 v0_25 v0_26 v0_29 v0_30 u_15)) (w1 := (wd_X12_corners cI a0 v0_2 v0_3 v0_5 v0_12 v0_13 v0_16 v0_17 v0_21 u_13.1 v0_24 v0_25 v0_26 v0_29 v0_30 u_16)) (ws' := (wd_X12_laysStrip cI a0 v0_2 v0_3 v0_5 v0_12 v0_13 v0_16 v0_17 v0_21 u_13.1 v0_24 v0_25 v0_26 v0_29 v0_30 v0_0 v0_6 v0_7 v0_8 v0_9 v0_10 v0_18 v0_19 v0_20 u_16)) hP hD hS hA [0, 10] [1, 2, 3, 4, 5, 6, 7, 8, 9] [9, 0, 1, 2, 3, 4, 5, 6, 7, 8, 10] rfl rfl rfl (by decide) rfl rfl (va_runV (As := [.int 2, .int (u_10 - u_3), .int (u_12 - u_4)]) (rest := []) ⟨hx, hb, hml, hown, hta⟩ (c_X12_corners l dC dI cI H.size a0 v0_2 v0_3 v0_5 v0_12 v0_13 v0_16 v0_17 v0_21 u_13.1 v0_24 v0_25 v0_26 v0_29 v0_30 u_15 2 (u_10 - u_3) (u_12 - u_4) u_16 hu_16) (cwV 3 hta (ga_V mA967 mA968 mA969 mA814 mA954) rfl rfl rfl (by decide +kernel) ⟨Nat.le_of_ble_eq_true rfl, Nat.le_of_ble_eq_true rfl⟩) ⟨q_fb, va_recv hK hP (ci := 11) (q0 := 0) rfl rfl, q_ps hPc hK hDc⟩ rfl rfl hl.1 rfl (lv_room (Nat.le_of_ble_eq_true rfl)) dX12_laysStrip_116 ⟨Nat.zero_le _, Nat.zero_le _⟩) (fun H locs hP hD hS => ?_)
  refine lv_aload_n hx hb dX12_laysStrip_119 rfl (lv_at hl 7 rfl) ?_
  refine lv_iconst (v := 3) hx hb dX12_laysStrip_120 (by decide) ?_
  refine lv_iload hx hb dX12_laysStrip_121 (lv_at hl 3 rfl) ?_
  refine lv_iload_n hx hb dX12_laysStrip_123 rfl (lv_at hl 5 rfl) ?_
  refine lv_isub hx hb dX12_laysStrip_124 ?_
  refine lv_iload hx hb dX12_laysStrip_125 (lv_at hl 2 rfl) ?_
  refine lv_iload hx hb dX12_laysStrip_127 (lv_at hl 4 rfl) ?_
  refine lv_isub hx hb dX12_laysStrip_129 ?_
  obtain ⟨u_17, hu_17, hF⟩ := obd_some hF
  have hPc := hP.sub (ws' := (wd_X12_corners cI a0 v0_2 v0_3 v0_5 v0_12 v0_13 v0_16 v0_17 v0_21 u_13.1 v0_24 v0_25 v0_26 v0_29 v0_30 u_16)) [0, 10] rfl
  have hDc := hD.sub (ws' := (wd_X12_corners cI a0 v0_2 v0_3 v0_5 v0_12 v0_13 v0_16 v0_17 v0_21 u_13.1 v0_24 v0_25 v0_26 v0_29 v0_30 u_16)) [0, 10] rfl rfl
  refine q_callv (wc := (wd_X12_corners cI a0 v0_2 v0_3 v0_5 v0_12 v0_13 v0_16 v0_17 v0_21 u_13.1 v0_24 v0_25 v0_26 v0_29 v0_30 u_16)) (w1 := (wd_X12_corners cI a0 v0_2 v0_3 v0_5 v0_12 v0_13 v0_16 v0_17 v0_21 u_13.1 v0_24 v0_25 v0_26 v0_29 v0_30 u_17)) (ws' := (wd_X12_laysStrip cI a0 v0_2 v0_3 v0_5 v0_12 v0_13 v0_16 v0_17 v0_21 u_13.1 v0_24 v0_25 v0_26 v0_29 v0_30 v0_0 v0_6 v0_7 v0_8 v0_9 v0_10 v0_18 v0_19 v0_20 u_17)) hP hD hS hA [0, 10] [1, 2, 3, 4, 5, 6, 7, 8, 9] [9, 0, 1, 2, 3, 4, 5, 6, 7, 8, 10] rfl rfl rfl (by decide) rfl rfl (va_runV (As := [.int 3, .int (u_6 - u_3), .int (u_8 - u_4)]) (rest := []) ⟨hx, hb, hml, hown, hta⟩ (c_X12_corners l dC dI cI H.size a0 v0_2 v0_3 v0_5 v0_12 v0_13 v0_16 v0_17 v0_21 u_13.1 v0_24 v0_25 v0_26 v0_29 v0_30 u_16 3 (u_6 - u_3) (u_8 - u_4) u_17 hu_17) (cwV 3 hta (ga_V mA967 mA968 mA969 mA814 mA954) rfl rfl rfl (by decide +kernel) ⟨Nat.le_of_ble_eq_true rfl, Nat.le_of_ble_eq_true rfl⟩) ⟨q_fb, va_recv hK hP (ci := 11) (q0 := 0) rfl rfl, q_ps hPc hK hDc⟩ rfl rfl hl.1 rfl (lv_room (Nat.le_of_ble_eq_true rfl)) dX12_laysStrip_130 ⟨Nat.zero_le _, Nat.zero_le _⟩) (fun H locs hP hD hS => ?_)
  obtain rfl := Option.some.inj hF
  exact W.vret hx hb hr (fun t ht hW => ⟨⟨(), rfl, trivial, by rw [ht]; exact hP, va_K.moved hW.alike hK, hD⟩, hS.F ht⟩) hS.2.2 dX12_laysStrip_133

-- StrokeOutlinerModel.isUp(JJJ)Z
def F_X12_isUp_j28 (x0 : Int64) (x2 : Int64) (x4 : Int64) : (Int32) :=
  if (lg_cmp x0 0) < 0 then if (lg_cmp ((x2 * x2) * x4) (x0 * x0)) < 0 then 0 else 1 else if (lg_cmp (x0 * x0) ((x2 * x2) * x4)) < 0 then 0 else 1
def F_X12_isUp_j14 (x0 : Int64) (x2 : Int64) (x4 : Int64) : (Int32) :=
  if 0 ≤ (lg_cmp x0 0) then F_X12_isUp_j28 x0 x2 x4 else if 0 ≤ (lg_cmp x2 0) then F_X12_isUp_j28 x0 x2 x4 else 0
def F_X12_isUp (p0 : Int64) (p2 : Int64) (p4 : Int64) : (Int32) :=
  if (lg_cmp p0 0) < 0 then F_X12_isUp_j14 p0 p2 p4 else if (lg_cmp p2 0) < 0 then F_X12_isUp_j14 p0 p2 p4 else 1
abbrev wz_X12_isUp : List Cond := .code yX12_isUp cX12_isUp 6 (some .boolean) :: wALL
abbrev rm_X12_isUp : Room := { frames := 0, cells := 0, slots := 0, locals := 0 }
abbrev Q_X12_isUp (dC : Nat → ClassId) (dI : Nat → Nat → Nat) (cI : ClassId) (u : (Int32)) (A : Nat → Prop) : Array Value → State → Outcome → State → Prop := va_Qi (fun (r : Int32) (_ : Unit) => r = u ∧ (u = 0 ∨ u = 1)) (fun _ => q_at dC dI cI A ([] : va_W)) A
set_option maxHeartbeats 4000000 in
set_option maxRecDepth 100000 in
theorem c_X12_isUp (l : Launch) (dC : Nat → ClassId) (dI : Nat → Nat → Nat) (cI : ClassId) (sz : Nat) (p0 : Int64) (p2 : Int64) (p4 : Int64) (u : (Int32)) (hF : F_X12_isUp p0 p2 p4 = u) : Met l yX12_isUp wz_X12_isUp rm_X12_isUp (va_Pc [.long p0, .long p2, .long p4] (q_pre dC dI cI ([] : va_W) sz)) (Q_X12_isUp dC dI cI u (va_A ([] : va_W) sz)) 0 0 (va_A ([] : va_W) sz) := by
  refine Met.ofW (cc := cX12_isUp) (maxL := 6) (ret := (some .boolean)) (by decide) rfl ?_
  intro p e s m args below meth c s₁ B hml hv
  obtain ⟨rfl, hsz, hP, hK, hD0⟩ := hv
  have hx := B.exec
  have hb := B.bytes
  have hr := B.returns
  have hts := atoms_spec (ws := wz_X12_isUp) B.pre
  have hta := wz_tl hts
  have hown : s.vm.findClass RX12 = some m.cls := findClass_of_methodNamed B.named
  have hlocks := B.notSynchronized
  subst hsz
  have hD := hD0.self (sz := s.heap.size)
  generalize hAe : va_A ([] : va_W) s.heap.size = A at hD ⊢
  have hA : ∀ q : Nat, s.heap.size ≤ q → A q := fun q h => by rw [← hAe]; exact Or.inr h
  have hS : va_S A s.heap s.heap [] := va_S.rf
  have hP : va_P (dC, dI) vwCl ([] : va_W) s.heap := hP
  have hl := lv_entry ([.long p0, .long p2, .long p4]) (n := 6) (Nat.le_of_ble_eq_true rfl)
  rw [lg_entry_eq]
  generalize (lg_sl ([.long p0, .long p2, .long p4]) ++ List.replicate (6 - (lg_sl ([.long p0, .long p2, .long p4])).length) Slot.unset).toArray = ls at hl ⊢
  have hl : lv_has ls 6 [(0, .long p0), (2, .long p2), (4, .long p4)] := hl
  obtain ⟨H, hHe⟩ : ∃ H, H = s.heap := ⟨_, rfl⟩
  have hS : va_S A s.heap H [] := by rw [hHe]; exact hS
  have hP : va_P (dC, dI) vwCl ([] : va_W) H := by rw [hHe]; exact hP
  rw [← hHe]
  unfold F_X12_isUp at hF
  have j28 : ∀ (x0 : Int64) (x2 : Int64) (x4 : Int64), F_X12_isUp_j28 x0 x2 x4 = u → ∀ (H : Heap) (locs : List Loc) (ls : Array Slot), va_P (dC, dI) vwCl ([] : va_W) H → va_D A ([] : va_W) → va_S A s.heap H locs → lv_has ls 6 [(0, .long x0), (2, .long x2), (4, .long x4)] → W p l e (headSpec wz_X12_isUp rm_X12_isUp).room s m [.long p0, .long p2, .long p4].toArray below meth c H locs 0 0 (MQ below (Q_X12_isUp dC dI cI u A) [.long p0, .long p2, .long p4].toArray s 0 0 A) (F0 m 28 ls []) := by
    intro x0 x2 x4 hF H locs ls hP hD hS hl
    unfold F_X12_isUp_j28 at hF
    refine lv_lload_n hx hb dX12_isUp_28 rfl (lv_at hl 0 rfl) ?_
    refine lv_lconst (v := 0) hx hb dX12_isUp_29 (by decide) ?_
    refine W.lcmp hx hb dX12_isUp_30 ?_
    refine lv_if_lt (tgt := 55) hx hb dX12_isUp_31 (by decide) (fun c_1 => ?_) (fun c_1 => ?_)
    · have hF := it_t hF c_1
      refine lv_lload_n hx hb dX12_isUp_55 rfl (lv_at hl 1 rfl) ?_
      refine lv_lload_n hx hb dX12_isUp_56 rfl (lv_at hl 1 rfl) ?_
      refine lv_lmul hx hb dX12_isUp_57 ?_
      refine lv_lload hx hb dX12_isUp_58 (lv_at hl 2 rfl) ?_
      refine lv_lmul hx hb dX12_isUp_60 ?_
      refine lv_lload_n hx hb dX12_isUp_61 rfl (lv_at hl 0 rfl) ?_
      refine lv_lload_n hx hb dX12_isUp_62 rfl (lv_at hl 0 rfl) ?_
      refine lv_lmul hx hb dX12_isUp_63 ?_
      refine W.lcmp hx hb dX12_isUp_64 ?_
      refine lv_if_lt (tgt := 72) hx hb dX12_isUp_65 (by decide) (fun c_2 => ?_) (fun c_2 => ?_)
      · have hF := it_t hF c_2
        refine lv_iconst (v := 0) hx hb dX12_isUp_72 (by decide) ?_
        subst hF
        exact W.zret (v := 0) (ty := .boolean) hx hb hr (z_nar (Or.inl rfl)) (fun t ht hW => ⟨⟨0, (), rfl, ⟨rfl, (Or.inl rfl)⟩, by rw [ht]; exact hP, va_K.moved hW.alike hK, hD⟩, hS.F ht⟩) hS.2.2 dX12_isUp_73
      · have hF := it_f hF c_2
        refine lv_iconst (v := 1) hx hb dX12_isUp_68 (by decide) ?_
        refine lv_goto (tgt := 73) hx hb dX12_isUp_69 (by decide) ?_
        subst hF
        exact W.zret (v := 1) (ty := .boolean) hx hb hr (z_nar (Or.inr rfl)) (fun t ht hW => ⟨⟨1, (), rfl, ⟨rfl, (Or.inr rfl)⟩, by rw [ht]; exact hP, va_K.moved hW.alike hK, hD⟩, hS.F ht⟩) hS.2.2 dX12_isUp_73
    · have hF := it_f hF c_1
      refine lv_lload_n hx hb dX12_isUp_34 rfl (lv_at hl 0 rfl) ?_
      refine lv_lload_n hx hb dX12_isUp_35 rfl (lv_at hl 0 rfl) ?_
      refine lv_lmul hx hb dX12_isUp_36 ?_
      refine lv_lload_n hx hb dX12_isUp_37 rfl (lv_at hl 1 rfl) ?_
      refine lv_lload_n hx hb dX12_isUp_38 rfl (lv_at hl 1 rfl) ?_
      refine lv_lmul hx hb dX12_isUp_39 ?_
      refine lv_lload hx hb dX12_isUp_40 (lv_at hl 2 rfl) ?_
      refine lv_lmul hx hb dX12_isUp_42 ?_
      refine W.lcmp hx hb dX12_isUp_43 ?_
      refine lv_if_lt (tgt := 51) hx hb dX12_isUp_44 (by decide) (fun c_3 => ?_) (fun c_3 => ?_)
      · have hF := it_t hF c_3
        refine lv_iconst (v := 0) hx hb dX12_isUp_51 (by decide) ?_
        refine lv_goto (tgt := 73) hx hb dX12_isUp_52 (by decide) ?_
        subst hF
        exact W.zret (v := 0) (ty := .boolean) hx hb hr (z_nar (Or.inl rfl)) (fun t ht hW => ⟨⟨0, (), rfl, ⟨rfl, (Or.inl rfl)⟩, by rw [ht]; exact hP, va_K.moved hW.alike hK, hD⟩, hS.F ht⟩) hS.2.2 dX12_isUp_73
      · have hF := it_f hF c_3
        refine lv_iconst (v := 1) hx hb dX12_isUp_47 (by decide) ?_
        refine lv_goto (tgt := 73) hx hb dX12_isUp_48 (by decide) ?_
        subst hF
        exact W.zret (v := 1) (ty := .boolean) hx hb hr (z_nar (Or.inr rfl)) (fun t ht hW => ⟨⟨1, (), rfl, ⟨rfl, (Or.inr rfl)⟩, by rw [ht]; exact hP, va_K.moved hW.alike hK, hD⟩, hS.F ht⟩) hS.2.2 dX12_isUp_73
  have j14 : ∀ (x0 : Int64) (x2 : Int64) (x4 : Int64), F_X12_isUp_j14 x0 x2 x4 = u → ∀ (H : Heap) (locs : List Loc) (ls : Array Slot), va_P (dC, dI) vwCl ([] : va_W) H → va_D A ([] : va_W) → va_S A s.heap H locs → lv_has ls 6 [(0, .long x0), (2, .long x2), (4, .long x4)] → W p l e (headSpec wz_X12_isUp rm_X12_isUp).room s m [.long p0, .long p2, .long p4].toArray below meth c H locs 0 0 (MQ below (Q_X12_isUp dC dI cI u A) [.long p0, .long p2, .long p4].toArray s 0 0 A) (F0 m 14 ls []) := by
    intro x0 x2 x4 hF H locs ls hP hD hS hl
    unfold F_X12_isUp_j14 at hF
    refine lv_lload_n hx hb dX12_isUp_14 rfl (lv_at hl 0 rfl) ?_
    refine lv_lconst (v := 0) hx hb dX12_isUp_15 (by decide) ?_
    refine W.lcmp hx hb dX12_isUp_16 ?_
    refine lv_if_ge (tgt := 28) hx hb dX12_isUp_17 (by decide) (fun c_4 => ?_) (fun c_4 => ?_)
    · have hF := it_t hF c_4
      exact j28 x0 x2 x4 hF _ _ _ hP hD hS (lv_sub hl [0, 1, 2] rfl)
    · have hF := it_f hF c_4
      refine lv_lload_n hx hb dX12_isUp_20 rfl (lv_at hl 1 rfl) ?_
      refine lv_lconst (v := 0) hx hb dX12_isUp_21 (by decide) ?_
      refine W.lcmp hx hb dX12_isUp_22 ?_
      refine lv_if_ge (tgt := 28) hx hb dX12_isUp_23 (by decide) (fun c_5 => ?_) (fun c_5 => ?_)
      · have hF := it_t hF c_5
        exact j28 x0 x2 x4 hF _ _ _ hP hD hS (lv_sub hl [0, 1, 2] rfl)
      · have hF := it_f hF c_5
        refine lv_iconst (v := 0) hx hb dX12_isUp_26 (by decide) ?_
        subst hF
        exact W.zret (v := 0) (ty := .boolean) hx hb hr (z_nar (Or.inl rfl)) (fun t ht hW => ⟨⟨0, (), rfl, ⟨rfl, (Or.inl rfl)⟩, by rw [ht]; exact hP, va_K.moved hW.alike hK, hD⟩, hS.F ht⟩) hS.2.2 dX12_isUp_27
  refine lv_lload_n hx hb dX12_isUp_0 rfl (lv_at hl 0 rfl) ?_
  refine lv_lconst (v := 0) hx hb dX12_isUp_1 (by decide) ?_
  refine W.lcmp hx hb dX12_isUp_2 ?_
  refine lv_if_lt (tgt := 14) hx hb dX12_isUp_3 (by decide) (fun c_6 => ?_) (fun c_6 => ?_)
  · have hF := it_t hF c_6
    exact j14 p0 p2 p4 hF _ _ _ hP hD hS (lv_sub hl [0, 1, 2] rfl)
  · have hF := it_f hF c_6
    refine lv_lload_n hx hb dX12_isUp_6 rfl (lv_at hl 1 rfl) ?_
    refine lv_lconst (v := 0) hx hb dX12_isUp_7 (by decide) ?_
    refine W.lcmp hx hb dX12_isUp_8 ?_
    refine lv_if_lt (tgt := 14) hx hb dX12_isUp_9 (by decide) (fun c_7 => ?_) (fun c_7 => ?_)
    · have hF := it_t hF c_7
      exact j14 p0 p2 p4 hF _ _ _ hP hD hS (lv_sub hl [0, 1, 2] rfl)
    · have hF := it_f hF c_7
      refine lv_iconst (v := 1) hx hb dX12_isUp_12 (by decide) ?_
      subst hF
      exact W.zret (v := 1) (ty := .boolean) hx hb hr (z_nar (Or.inr rfl)) (fun t ht hW => ⟨⟨1, (), rfl, ⟨rfl, (Or.inr rfl)⟩, by rw [ht]; exact hP, va_K.moved hW.alike hK, hD⟩, hS.F ht⟩) hS.2.2 dX12_isUp_13

-- StrokeOutlinerModel.isMiter(II)Z
def F_X12_isMiter_j148  : Option (Int32) :=
  some 0
def F_X12_isMiter (v0_0 : Nat → Int32) (v0_6 : Nat → Int32) (v0_7 : Nat → Int32) (p1 : Int32) (p2 : Int32) : Option (Int32) :=
  gd (decide (vpi p1 8)) (gd (decide (vpi p2 8)) (gd (decide (vpi p1 8)) (gd (decide (vpi p2 8)) (lt (((v0_6 p1.toNatClampNeg).toInt64 * (v0_6 p2.toNatClampNeg).toInt64) + ((v0_7 p1.toNatClampNeg).toInt64 * (v0_7 p2.toNatClampNeg).toInt64)) (fun y_5 => gd (decide (vpi p1 8)) (gd (decide (vpi p1 8)) (gd (decide (vpi p1 8)) (gd (decide (vpi p1 8)) (lt (((v0_6 p1.toNatClampNeg).toInt64 * (v0_6 p1.toNatClampNeg).toInt64) + ((v0_7 p1.toNatClampNeg).toInt64 * (v0_7 p1.toNatClampNeg).toInt64)) (fun y_10 => gd (decide (vpi p2 8)) (gd (decide (vpi p2 8)) (gd (decide (vpi p2 8)) (gd (decide (vpi p2 8)) (lt (((v0_6 p2.toNatClampNeg).toInt64 * (v0_6 p2.toNatClampNeg).toInt64) + ((v0_7 p2.toNatClampNeg).toInt64 * (v0_7 p2.toNatClampNeg).toInt64)) (fun y_15 => gd (decide (vpi 2 86)) (gd (decide (vpi 2 86)) (lt (((v0_0 (2 : Int32).toNatClampNeg) * (v0_0 (2 : Int32).toNatClampNeg)).toInt64) (fun y_18 => gd (decide (vpi 1 86)) (if (v0_0 (1 : Int32).toNatClampNeg) = 0 then lt (F_X12_isUp (y_18 * y_5) (y_18 - 2) (y_10 * y_15)) (fun u_21 => if u_21 = 0 then F_X12_isMiter_j148 else some 1) else F_X12_isMiter_j148)))))))))))))))))))
abbrev wd_X12_isMiter (cI : ClassId) (a0 : Nat → Nat) (v0_2 : Int32) (v0_3 : Int32) (v0_5 : Int32) (v0_12 : Int32) (v0_13 : Int32) (v0_16 : Int32) (v0_17 : Int32) (v0_21 : Int32) (v0_23 : Int32) (v0_24 : Int32) (v0_25 : Int32) (v0_26 : Int32) (v0_29 : Int32) (v0_30 : Int64) (v0_0 : Nat → Int32) (v0_6 : Nat → Int32) (v0_7 : Nat → Int32) : va_W := [(a0 0, .inr (11, [.ref (a0 1), .ref (a0 2), .int v0_2, .int v0_3, .ref (a0 5), .int v0_5, .ref (a0 7), .ref (a0 8), .ref (a0 9), .ref (a0 10), .ref (a0 11), .ref (a0 12), .int v0_12, .int v0_13, .ref (a0 15), .ref (a0 16), .int v0_16, .int v0_17, .ref (a0 19), .ref (a0 20), .ref (a0 21), .int v0_21, .ref (a0 23), .int v0_23, .int v0_24, .int v0_25, .int v0_26, .ref (a0 28), .ref (a0 29), .int v0_29, .long v0_30])), (a0 1, .inl (cI, 86, .inl v0_0)), (a0 7, .inl (cI, 8, .inl v0_6)), (a0 8, .inl (cI, 8, .inl v0_7))]
abbrev wz_X12_isMiter : List Cond := .code yX12_isMiter cX12_isMiter 11 (some .boolean) :: wALL
abbrev rm_X12_isMiter : Room := { frames := 1, cells := 0, slots := 0, locals := 25 }
abbrev Q_X12_isMiter (dC : Nat → ClassId) (dI : Nat → Nat → Nat) (cI : ClassId) (a0 : Nat → Nat) (v0_2 : Int32) (v0_3 : Int32) (v0_5 : Int32) (v0_12 : Int32) (v0_13 : Int32) (v0_16 : Int32) (v0_17 : Int32) (v0_21 : Int32) (v0_23 : Int32) (v0_24 : Int32) (v0_25 : Int32) (v0_26 : Int32) (v0_29 : Int32) (v0_30 : Int64) (v0_0 : Nat → Int32) (v0_6 : Nat → Int32) (v0_7 : Nat → Int32) (u : (Int32)) (A : Nat → Prop) : Array Value → State → Outcome → State → Prop := va_Qi (fun (r : Int32) (_ : Unit) => r = u ∧ (u = 0 ∨ u = 1)) (fun _ => q_at dC dI cI A (wd_X12_isMiter cI a0 v0_2 v0_3 v0_5 v0_12 v0_13 v0_16 v0_17 v0_21 v0_23 v0_24 v0_25 v0_26 v0_29 v0_30 v0_0 v0_6 v0_7)) A
set_option maxHeartbeats 4000000 in
set_option maxRecDepth 100000 in
theorem c_X12_isMiter (l : Launch) (dC : Nat → ClassId) (dI : Nat → Nat → Nat) (cI : ClassId) (sz : Nat) (a0 : Nat → Nat) (v0_2 : Int32) (v0_3 : Int32) (v0_5 : Int32) (v0_12 : Int32) (v0_13 : Int32) (v0_16 : Int32) (v0_17 : Int32) (v0_21 : Int32) (v0_23 : Int32) (v0_24 : Int32) (v0_25 : Int32) (v0_26 : Int32) (v0_29 : Int32) (v0_30 : Int64) (v0_0 : Nat → Int32) (v0_6 : Nat → Int32) (v0_7 : Nat → Int32) (p1 : Int32) (p2 : Int32) (u : (Int32)) (hF : F_X12_isMiter v0_0 v0_6 v0_7 p1 p2 = some u) : Met l yX12_isMiter wz_X12_isMiter rm_X12_isMiter (va_Pc [.ref (a0 0), .int p1, .int p2] (q_pre dC dI cI (wd_X12_isMiter cI a0 v0_2 v0_3 v0_5 v0_12 v0_13 v0_16 v0_17 v0_21 v0_23 v0_24 v0_25 v0_26 v0_29 v0_30 v0_0 v0_6 v0_7) sz)) (Q_X12_isMiter dC dI cI a0 v0_2 v0_3 v0_5 v0_12 v0_13 v0_16 v0_17 v0_21 v0_23 v0_24 v0_25 v0_26 v0_29 v0_30 v0_0 v0_6 v0_7 u (va_A (wd_X12_isMiter cI a0 v0_2 v0_3 v0_5 v0_12 v0_13 v0_16 v0_17 v0_21 v0_23 v0_24 v0_25 v0_26 v0_29 v0_30 v0_0 v0_6 v0_7) sz)) 0 0 (va_A (wd_X12_isMiter cI a0 v0_2 v0_3 v0_5 v0_12 v0_13 v0_16 v0_17 v0_21 v0_23 v0_24 v0_25 v0_26 v0_29 v0_30 v0_0 v0_6 v0_7) sz) := by
  refine Met.ofW (cc := cX12_isMiter) (maxL := 11) (ret := (some .boolean)) (by decide) rfl ?_
  intro p e s m args below meth c s₁ B hml hv
  obtain ⟨rfl, hsz, hP, hK, hD0⟩ := hv
  have hx := B.exec
  have hb := B.bytes
  have hr := B.returns
  have hts := atoms_spec (ws := wz_X12_isMiter) B.pre
  have hta := wz_tl hts
  have hown : s.vm.findClass RX12 = some m.cls := findClass_of_methodNamed B.named
  have hlocks := B.notSynchronized
  subst hsz
  have hD := hD0.self (sz := s.heap.size)
  generalize hAe : va_A (wd_X12_isMiter cI a0 v0_2 v0_3 v0_5 v0_12 v0_13 v0_16 v0_17 v0_21 v0_23 v0_24 v0_25 v0_26 v0_29 v0_30 v0_0 v0_6 v0_7) s.heap.size = A at hD ⊢
  have hA : ∀ q : Nat, s.heap.size ≤ q → A q := fun q h => by rw [← hAe]; exact Or.inr h
  have hS : va_S A s.heap s.heap [] := va_S.rf
  have hP : va_P (dC, dI) vwCl (wd_X12_isMiter cI a0 v0_2 v0_3 v0_5 v0_12 v0_13 v0_16 v0_17 v0_21 v0_23 v0_24 v0_25 v0_26 v0_29 v0_30 v0_0 v0_6 v0_7) s.heap := hP
  have hl := lv_entry ([.ref (a0 0), .int p1, .int p2]) (n := 11) (Nat.le_of_ble_eq_true rfl)
  rw [lg_entry_eq]
  generalize (lg_sl ([.ref (a0 0), .int p1, .int p2]) ++ List.replicate (11 - (lg_sl ([.ref (a0 0), .int p1, .int p2])).length) Slot.unset).toArray = ls at hl ⊢
  have hl : lv_has ls 11 [(0, .ref (a0 0)), (1, .int p1), (2, .int p2)] := hl
  obtain ⟨H, hHe⟩ : ∃ H, H = s.heap := ⟨_, rfl⟩
  have hS : va_S A s.heap H [] := by rw [hHe]; exact hS
  have hP : va_P (dC, dI) vwCl (wd_X12_isMiter cI a0 v0_2 v0_3 v0_5 v0_12 v0_13 v0_16 v0_17 v0_21 v0_23 v0_24 v0_25 v0_26 v0_29 v0_30 v0_0 v0_6 v0_7) H := by rw [hHe]; exact hP
  rw [← hHe]
  unfold F_X12_isMiter at hF
  have j148 : ∀ (_ : Unit), F_X12_isMiter_j148 = some u → ∀ (H : Heap) (locs : List Loc) (ls : Array Slot), va_P (dC, dI) vwCl (wd_X12_isMiter cI a0 v0_2 v0_3 v0_5 v0_12 v0_13 v0_16 v0_17 v0_21 v0_23 v0_24 v0_25 v0_26 v0_29 v0_30 v0_0 v0_6 v0_7) H → va_D A (wd_X12_isMiter cI a0 v0_2 v0_3 v0_5 v0_12 v0_13 v0_16 v0_17 v0_21 v0_23 v0_24 v0_25 v0_26 v0_29 v0_30 v0_0 v0_6 v0_7) → va_S A s.heap H locs → lv_has ls 11 [] → W p l e (headSpec wz_X12_isMiter rm_X12_isMiter).room s m [.ref (a0 0), .int p1, .int p2].toArray below meth c H locs 0 0 (MQ below (Q_X12_isMiter dC dI cI a0 v0_2 v0_3 v0_5 v0_12 v0_13 v0_16 v0_17 v0_21 v0_23 v0_24 v0_25 v0_26 v0_29 v0_30 v0_0 v0_6 v0_7 u A) [.ref (a0 0), .int p1, .int p2].toArray s 0 0 A) (F0 m 148 ls []) := by
    intro _ hF H locs ls hP hD hS hl
    unfold F_X12_isMiter_j148 at hF
    refine lv_iconst (v := 0) hx hb dX12_isMiter_148 (by decide) ?_
    obtain rfl := Option.some.inj hF
    exact W.zret (v := 0) (ty := .boolean) hx hb hr (z_nar (Or.inl rfl)) (fun t ht hW => ⟨⟨0, (), rfl, ⟨rfl, (Or.inl rfl)⟩, by rw [ht]; exact hP, va_K.moved hW.alike hK, hD⟩, hS.F ht⟩) hS.2.2 dX12_isMiter_149
  refine lv_aload_n hx hb dX12_isMiter_0 rfl (lv_at hl 0 rfl) ?_
  refine va_get (D := (dC, dI)) (ci := 11) (v := .ref (a0 7)) (C := RX12) (T := TX12) (N := 31) hx hb hta uw_X12 hown hK hP 0 rfl rfl 6 (by decide) (hta _ mA793) (fun _ h9 => h9) rfl dX12_isMiter_1 ?_
  refine lv_iload_n hx hb dX12_isMiter_4 rfl (lv_at hl 1 rfl) ?_
  obtain ⟨g_1, hF⟩ := gd_some hF
  refine va_iald hx hb hK hP 2 0 rfl rfl (vpi_in g_1) dX12_isMiter_5 ?_
  refine lv_i2l hx hb dX12_isMiter_6 rfl ?_
  refine lv_aload_n hx hb dX12_isMiter_7 rfl (lv_at hl 0 rfl) ?_
  refine va_get (D := (dC, dI)) (ci := 11) (v := .ref (a0 7)) (C := RX12) (T := TX12) (N := 31) hx hb hta uw_X12 hown hK hP 0 rfl rfl 6 (by decide) (hta _ mA793) (fun _ h9 => h9) rfl dX12_isMiter_8 ?_
  refine lv_iload_n hx hb dX12_isMiter_11 rfl (lv_at hl 2 rfl) ?_
  obtain ⟨g_2, hF⟩ := gd_some hF
  refine va_iald hx hb hK hP 2 0 rfl rfl (vpi_in g_2) dX12_isMiter_12 ?_
  refine lv_i2l hx hb dX12_isMiter_13 rfl ?_
  refine lv_lmul hx hb dX12_isMiter_14 ?_
  refine lv_aload_n hx hb dX12_isMiter_15 rfl (lv_at hl 0 rfl) ?_
  refine va_get (D := (dC, dI)) (ci := 11) (v := .ref (a0 8)) (C := RX12) (T := TX12) (N := 31) hx hb hta uw_X12 hown hK hP 0 rfl rfl 7 (by decide) (hta _ mA794) (fun _ h9 => h9) rfl dX12_isMiter_16 ?_
  refine lv_iload_n hx hb dX12_isMiter_19 rfl (lv_at hl 1 rfl) ?_
  obtain ⟨g_3, hF⟩ := gd_some hF
  refine va_iald hx hb hK hP 3 0 rfl rfl (vpi_in g_3) dX12_isMiter_20 ?_
  refine lv_i2l hx hb dX12_isMiter_21 rfl ?_
  refine lv_aload_n hx hb dX12_isMiter_22 rfl (lv_at hl 0 rfl) ?_
  refine va_get (D := (dC, dI)) (ci := 11) (v := .ref (a0 8)) (C := RX12) (T := TX12) (N := 31) hx hb hta uw_X12 hown hK hP 0 rfl rfl 7 (by decide) (hta _ mA794) (fun _ h9 => h9) rfl dX12_isMiter_23 ?_
  refine lv_iload_n hx hb dX12_isMiter_26 rfl (lv_at hl 2 rfl) ?_
  obtain ⟨g_4, hF⟩ := gd_some hF
  refine va_iald hx hb hK hP 3 0 rfl rfl (vpi_in g_4) dX12_isMiter_27 ?_
  refine lv_i2l hx hb dX12_isMiter_28 rfl ?_
  refine lv_lmul hx hb dX12_isMiter_29 ?_
  refine lv_ladd hx hb dX12_isMiter_30 ?_
  obtain ⟨y_5, ey_5, hF⟩ := lt_some hF
  refine lv_eql ey_5 ?_
  refine lv_lstore_n (lv' := [(3, .long y_5), (0, .ref (a0 0)), (1, .int p1), (2, .int p2)]) hx hb dX12_isMiter_31 rfl hl (by decide) rfl (fun ls hl => ?_)
  refine lv_aload_n hx hb dX12_isMiter_32 rfl (lv_at hl 1 rfl) ?_
  refine va_get (D := (dC, dI)) (ci := 11) (v := .ref (a0 7)) (C := RX12) (T := TX12) (N := 31) hx hb hta uw_X12 hown hK hP 0 rfl rfl 6 (by decide) (hta _ mA793) (fun _ h9 => h9) rfl dX12_isMiter_33 ?_
  refine lv_iload_n hx hb dX12_isMiter_36 rfl (lv_at hl 2 rfl) ?_
  obtain ⟨g_6, hF⟩ := gd_some hF
  refine va_iald hx hb hK hP 2 0 rfl rfl (vpi_in g_6) dX12_isMiter_37 ?_
  refine lv_i2l hx hb dX12_isMiter_38 rfl ?_
  refine lv_aload_n hx hb dX12_isMiter_39 rfl (lv_at hl 1 rfl) ?_
  refine va_get (D := (dC, dI)) (ci := 11) (v := .ref (a0 7)) (C := RX12) (T := TX12) (N := 31) hx hb hta uw_X12 hown hK hP 0 rfl rfl 6 (by decide) (hta _ mA793) (fun _ h9 => h9) rfl dX12_isMiter_40 ?_
  refine lv_iload_n hx hb dX12_isMiter_43 rfl (lv_at hl 2 rfl) ?_
  obtain ⟨g_7, hF⟩ := gd_some hF
  refine va_iald hx hb hK hP 2 0 rfl rfl (vpi_in g_7) dX12_isMiter_44 ?_
  refine lv_i2l hx hb dX12_isMiter_45 rfl ?_
  refine lv_lmul hx hb dX12_isMiter_46 ?_
  refine lv_aload_n hx hb dX12_isMiter_47 rfl (lv_at hl 1 rfl) ?_
  refine va_get (D := (dC, dI)) (ci := 11) (v := .ref (a0 8)) (C := RX12) (T := TX12) (N := 31) hx hb hta uw_X12 hown hK hP 0 rfl rfl 7 (by decide) (hta _ mA794) (fun _ h9 => h9) rfl dX12_isMiter_48 ?_
  refine lv_iload_n hx hb dX12_isMiter_51 rfl (lv_at hl 2 rfl) ?_
  obtain ⟨g_8, hF⟩ := gd_some hF
  refine va_iald hx hb hK hP 3 0 rfl rfl (vpi_in g_8) dX12_isMiter_52 ?_
  refine lv_i2l hx hb dX12_isMiter_53 rfl ?_
  refine lv_aload_n hx hb dX12_isMiter_54 rfl (lv_at hl 1 rfl) ?_
  refine va_get (D := (dC, dI)) (ci := 11) (v := .ref (a0 8)) (C := RX12) (T := TX12) (N := 31) hx hb hta uw_X12 hown hK hP 0 rfl rfl 7 (by decide) (hta _ mA794) (fun _ h9 => h9) rfl dX12_isMiter_55 ?_
  refine lv_iload_n hx hb dX12_isMiter_58 rfl (lv_at hl 2 rfl) ?_
  obtain ⟨g_9, hF⟩ := gd_some hF
  refine va_iald hx hb hK hP 3 0 rfl rfl (vpi_in g_9) dX12_isMiter_59 ?_
  refine lv_i2l hx hb dX12_isMiter_60 rfl ?_
  refine lv_lmul hx hb dX12_isMiter_61 ?_
  refine lv_ladd hx hb dX12_isMiter_62 ?_
  obtain ⟨y_10, ey_10, hF⟩ := lt_some hF
  refine lv_eql ey_10 ?_
  refine lv_lstore (lv' := [(5, .long y_10), (3, .long y_5), (0, .ref (a0 0)), (1, .int p1), (2, .int p2)]) hx hb dX12_isMiter_63 hl (by decide) rfl (fun ls hl => ?_)
  refine lv_aload_n hx hb dX12_isMiter_65 rfl (lv_at hl 2 rfl) ?_
  refine va_get (D := (dC, dI)) (ci := 11) (v := .ref (a0 7)) (C := RX12) (T := TX12) (N := 31) hx hb hta uw_X12 hown hK hP 0 rfl rfl 6 (by decide) (hta _ mA793) (fun _ h9 => h9) rfl dX12_isMiter_66 ?_
  refine lv_iload_n hx hb dX12_isMiter_69 rfl (lv_at hl 4 rfl) ?_
  obtain ⟨g_11, hF⟩ := gd_some hF
  refine va_iald hx hb hK hP 2 0 rfl rfl (vpi_in g_11) dX12_isMiter_70 ?_
  refine lv_i2l hx hb dX12_isMiter_71 rfl ?_
  refine lv_aload_n hx hb dX12_isMiter_72 rfl (lv_at hl 2 rfl) ?_
  refine va_get (D := (dC, dI)) (ci := 11) (v := .ref (a0 7)) (C := RX12) (T := TX12) (N := 31) hx hb hta uw_X12 hown hK hP 0 rfl rfl 6 (by decide) (hta _ mA793) (fun _ h9 => h9) rfl dX12_isMiter_73 ?_
  refine lv_iload_n hx hb dX12_isMiter_76 rfl (lv_at hl 4 rfl) ?_
  obtain ⟨g_12, hF⟩ := gd_some hF
  refine va_iald hx hb hK hP 2 0 rfl rfl (vpi_in g_12) dX12_isMiter_77 ?_
  refine lv_i2l hx hb dX12_isMiter_78 rfl ?_
  refine lv_lmul hx hb dX12_isMiter_79 ?_
  refine lv_aload_n hx hb dX12_isMiter_80 rfl (lv_at hl 2 rfl) ?_
  refine va_get (D := (dC, dI)) (ci := 11) (v := .ref (a0 8)) (C := RX12) (T := TX12) (N := 31) hx hb hta uw_X12 hown hK hP 0 rfl rfl 7 (by decide) (hta _ mA794) (fun _ h9 => h9) rfl dX12_isMiter_81 ?_
  refine lv_iload_n hx hb dX12_isMiter_84 rfl (lv_at hl 4 rfl) ?_
  obtain ⟨g_13, hF⟩ := gd_some hF
  refine va_iald hx hb hK hP 3 0 rfl rfl (vpi_in g_13) dX12_isMiter_85 ?_
  refine lv_i2l hx hb dX12_isMiter_86 rfl ?_
  refine lv_aload_n hx hb dX12_isMiter_87 rfl (lv_at hl 2 rfl) ?_
  refine va_get (D := (dC, dI)) (ci := 11) (v := .ref (a0 8)) (C := RX12) (T := TX12) (N := 31) hx hb hta uw_X12 hown hK hP 0 rfl rfl 7 (by decide) (hta _ mA794) (fun _ h9 => h9) rfl dX12_isMiter_88 ?_
  refine lv_iload_n hx hb dX12_isMiter_91 rfl (lv_at hl 4 rfl) ?_
  obtain ⟨g_14, hF⟩ := gd_some hF
  refine va_iald hx hb hK hP 3 0 rfl rfl (vpi_in g_14) dX12_isMiter_92 ?_
  refine lv_i2l hx hb dX12_isMiter_93 rfl ?_
  refine lv_lmul hx hb dX12_isMiter_94 ?_
  refine lv_ladd hx hb dX12_isMiter_95 ?_
  obtain ⟨y_15, ey_15, hF⟩ := lt_some hF
  refine lv_eql ey_15 ?_
  refine lv_lstore (lv' := [(7, .long y_15), (5, .long y_10), (3, .long y_5), (0, .ref (a0 0)), (1, .int p1), (2, .int p2)]) hx hb dX12_isMiter_96 hl (by decide) rfl (fun ls hl => ?_)
  refine lv_aload_n hx hb dX12_isMiter_98 rfl (lv_at hl 3 rfl) ?_
  refine va_get (D := (dC, dI)) (ci := 11) (v := .ref (a0 1)) (C := RX12) (T := TX12) (N := 31) hx hb hta uw_X12 hown hK hP 0 rfl rfl 0 (by decide) (hta _ mA790) (fun _ h9 => h9) rfl dX12_isMiter_99 ?_
  refine lv_iconst (v := 2) hx hb dX12_isMiter_102 (by decide) ?_
  obtain ⟨g_16, hF⟩ := gd_some hF
  refine va_iald hx hb hK hP 1 0 rfl rfl (vpi_in g_16) dX12_isMiter_103 ?_
  refine lv_aload_n hx hb dX12_isMiter_104 rfl (lv_at hl 3 rfl) ?_
  refine va_get (D := (dC, dI)) (ci := 11) (v := .ref (a0 1)) (C := RX12) (T := TX12) (N := 31) hx hb hta uw_X12 hown hK hP 0 rfl rfl 0 (by decide) (hta _ mA790) (fun _ h9 => h9) rfl dX12_isMiter_105 ?_
  refine lv_iconst (v := 2) hx hb dX12_isMiter_108 (by decide) ?_
  obtain ⟨g_17, hF⟩ := gd_some hF
  refine va_iald hx hb hK hP 1 0 rfl rfl (vpi_in g_17) dX12_isMiter_109 ?_
  refine lv_imul hx hb dX12_isMiter_110 ?_
  refine lv_i2l hx hb dX12_isMiter_111 rfl ?_
  obtain ⟨y_18, ey_18, hF⟩ := lt_some hF
  refine lv_eql ey_18 ?_
  refine lv_lstore (lv' := [(9, .long y_18), (7, .long y_15), (5, .long y_10), (3, .long y_5), (0, .ref (a0 0)), (1, .int p1), (2, .int p2)]) hx hb dX12_isMiter_112 hl (by decide) rfl (fun ls hl => ?_)
  refine lv_aload_n hx hb dX12_isMiter_114 rfl (lv_at hl 4 rfl) ?_
  refine va_get (D := (dC, dI)) (ci := 11) (v := .ref (a0 1)) (C := RX12) (T := TX12) (N := 31) hx hb hta uw_X12 hown hK hP 0 rfl rfl 0 (by decide) (hta _ mA790) (fun _ h9 => h9) rfl dX12_isMiter_115 ?_
  refine lv_iconst (v := 1) hx hb dX12_isMiter_118 (by decide) ?_
  obtain ⟨g_19, hF⟩ := gd_some hF
  refine va_iald hx hb hK hP 1 0 rfl rfl (vpi_in g_19) dX12_isMiter_119 ?_
  refine lv_if_ne (tgt := 148) hx hb dX12_isMiter_120 (by decide) (fun c_20 => ?_) (fun c_20 => ?_)
  · have hF := it_f hF c_20
    exact j148 () hF _ _ _ hP hD hS (lv_sub hl [] rfl)
  · have hF := it_t hF c_20
    refine lv_lload hx hb dX12_isMiter_123 (lv_at hl 0 rfl) ?_
    refine lv_lload_n hx hb dX12_isMiter_125 rfl (lv_at hl 3 rfl) ?_
    refine lv_lmul hx hb dX12_isMiter_126 ?_
    refine lv_lload hx hb dX12_isMiter_127 (lv_at hl 0 rfl) ?_
    refine lv_ldc2 (v := 2) hx hb hown (hta _ mA816) dX12_isMiter_129 ?_
    refine lv_lsub hx hb dX12_isMiter_132 ?_
    refine lv_lload hx hb dX12_isMiter_133 (lv_at hl 2 rfl) ?_
    refine lv_lload hx hb dX12_isMiter_135 (lv_at hl 1 rfl) ?_
    refine lv_lmul hx hb dX12_isMiter_137 ?_
    obtain ⟨u_21, hu_21, hF⟩ := lt_some hF
    have hPc := hP.sub (ws' := ([] : va_W)) [] rfl
    have hDc := hD.sub (ws' := ([] : va_W)) [] rfl rfl
    refine q_callz (wc := ([] : va_W)) (w1 := ([] : va_W)) (ws' := (wd_X12_isMiter cI a0 v0_2 v0_3 v0_5 v0_12 v0_13 v0_16 v0_17 v0_21 v0_23 v0_24 v0_25 v0_26 v0_29 v0_30 v0_0 v0_6 v0_7)) hP hD hS hA [] [0, 1, 2, 3] [0, 1, 2, 3] rfl rfl rfl (by decide) rfl rfl (va_runS (As := [.long (y_18 * y_5), .long (y_18 - 2), .long (y_10 * y_15)]) (rest := []) ⟨hx, hb, hml, hown, hta⟩ (c_X12_isUp l dC dI cI H.size (y_18 * y_5) (y_18 - 2) (y_10 * y_15) u_21 hu_21.symm) (va_cwS 3 hta (ga_S mA979 mA980 mA814 mA977) rfl rfl rfl (by decide +kernel) ⟨Nat.le_of_ble_eq_true rfl, Nat.le_of_ble_eq_true rfl⟩) ⟨q_fb, q_ps hPc hK hDc⟩ rfl rfl hl.1 rfl (lv_room (Nat.le_of_ble_eq_true rfl)) dX12_isMiter_138 ⟨Nat.zero_le _, Nat.zero_le _⟩) (fun hzu_21 H locs hP hD hS => ?_)
    refine lv_if_eq (tgt := 148) hx hb dX12_isMiter_141 (by decide) (fun c_22 => ?_) (fun c_22 => ?_)
    · have hF := it_t hF c_22
      exact j148 () hF _ _ _ hP hD hS (lv_sub hl [] rfl)
    · have hF := it_f hF c_22
      refine lv_iconst (v := 1) hx hb dX12_isMiter_144 (by decide) ?_
      refine lv_goto (tgt := 149) hx hb dX12_isMiter_145 (by decide) ?_
      obtain rfl := Option.some.inj hF
      exact W.zret (v := 1) (ty := .boolean) hx hb hr (z_nar (Or.inr rfl)) (fun t ht hW => ⟨⟨1, (), rfl, ⟨rfl, (Or.inr rfl)⟩, by rw [ht]; exact hP, va_K.moved hW.alike hK, hD⟩, hS.F ht⟩) hS.2.2 dX12_isMiter_149

-- StrokeOutlinerModel.laysJoin(II)V
def F_X12_laysJoin_j303 (v0_23 : Int32) (v0_0 : Nat → Int32) (v0_6 : Nat → Int32) (v0_7 : Nat → Int32) (v0_10 : Nat → Int32) (v0_22 : Nat → Int32) (x2 : Int32) (x5 : Int32) (x6 : Int32) (x7 : Int32) (t1 : Int32) : Option (Int32 × (Nat → Int32)) :=
  obd (F_X12_normalX v0_0 v0_7 v0_10 x2) (fun u_1 => obd (F_X12_normalY v0_0 v0_6 v0_10 x2) (fun u_2 => obd (F_X12_corners v0_23 v0_22 t1 (x5 + (x7 * u_1)) (x6 + (x7 * u_2))) (fun u_3 => some (v0_23, u_3))))
def F_X12_laysJoin_j292 (v0_23 : Int32) (v0_0 : Nat → Int32) (v0_6 : Nat → Int32) (v0_7 : Nat → Int32) (v0_10 : Nat → Int32) (v0_22 : Nat → Int32) (x2 : Int32) (x5 : Int32) (x6 : Int32) (x7 : Int32) (x8 : Int32) : Option (Int32 × (Nat → Int32)) :=
  if x8 = 0 then F_X12_laysJoin_j303 v0_23 v0_0 v0_6 v0_7 v0_10 v0_22 x2 x5 x6 x7 2 else F_X12_laysJoin_j303 v0_23 v0_0 v0_6 v0_7 v0_10 v0_22 x2 x5 x6 x7 3
def F_X12_laysJoin_j148 (v0_23 : Int32) (v0_0 : Nat → Int32) (v0_6 : Nat → Int32) (v0_7 : Nat → Int32) (v0_10 : Nat → Int32) (v0_22 : Nat → Int32) (x1 : Int32) (x2 : Int32) (x5 : Int32) (x6 : Int32) (x7 : Int32) (x8 : Int32) (t1 : Int32) : Option (Int32 × (Nat → Int32)) :=
  obd (F_X12_begin v0_23 v0_22 t1) (fun u_5 => obd (F_X12_corners u_5.1 u_5.2 0 x5 x6) (fun u_6 => obd (F_X12_normalX v0_0 v0_7 v0_10 x1) (fun u_7 => obd (F_X12_normalY v0_0 v0_6 v0_10 x1) (fun u_8 => obd (F_X12_corners u_5.1 u_6 1 (x5 + (x7 * u_7)) (x6 + (x7 * u_8))) (fun u_9 => if x8 = 0 then F_X12_laysJoin_j292 u_5.1 v0_0 v0_6 v0_7 v0_10 u_9 x2 x5 x6 x7 x8 else obd (F_X12_normalX v0_0 v0_7 v0_10 x1) (fun u_11 => obd (F_X12_normalX v0_0 v0_7 v0_10 x2) (fun u_12 => lt ((u_11 + u_12).toInt64) (fun y_13 => obd (F_X12_normalY v0_0 v0_6 v0_10 x1) (fun u_14 => obd (F_X12_normalY v0_0 v0_6 v0_10 x2) (fun u_15 => lt ((u_14 + u_15).toInt64) (fun y_16 => obd (F_X12_half v0_0) (fun u_17 => obd (F_X12_half v0_0) (fun u_18 => lt ((2 * u_17.toInt64) * u_18.toInt64) (fun y_19 => obd (F_X12_round (y_19 * y_13) ((y_13 * y_13) + (y_16 * y_16))) (fun u_20 => obd (F_X12_round (y_19 * y_16) ((y_13 * y_13) + (y_16 * y_16))) (fun u_21 => obd (F_X12_corners u_5.1 u_9 2 (x5 + (x7 * u_20)) (x6 + (x7 * u_21))) (fun u_22 => F_X12_laysJoin_j292 u_5.1 v0_0 v0_6 v0_7 v0_10 u_22 x2 x5 x6 x7 x8)))))))))))))))))
def F_X12_laysJoin_j127 (v0_23 : Int32) (v0_0 : Nat → Int32) (v0_6 : Nat → Int32) (v0_7 : Nat → Int32) (v0_10 : Nat → Int32) (v0_22 : Nat → Int32) (x1 : Int32) (x2 : Int32) (x5 : Int32) (x6 : Int32) (t0 : Int32) : Option (Int32 × (Nat → Int32)) :=
  obd (F_X12_isMiter v0_0 v0_6 v0_7 x1 x2) (fun u_23 => if u_23 = 0 then F_X12_laysJoin_j148 v0_23 v0_0 v0_6 v0_7 v0_10 v0_22 x1 x2 x5 x6 t0 u_23 2 else F_X12_laysJoin_j148 v0_23 v0_0 v0_6 v0_7 v0_10 v0_22 x1 x2 x5 x6 t0 u_23 1)
def F_X12_laysJoin_j99 (v0_23 : Int32) (v0_0 : Nat → Int32) (v0_6 : Nat → Int32) (v0_7 : Nat → Int32) (v0_10 : Nat → Int32) (v0_22 : Nat → Int32) (x1 : Int32) (x2 : Int32) (x3 : Int32) (x5 : Int32) (x6 : Int32) : Option (Int32 × (Nat → Int32)) :=
  gd (decide (vpi 1 86)) (if (v0_0 (1 : Int32).toNatClampNeg) = 1 then obd (F_X12_laysDisc v0_23 v0_22 x5 x6) (fun u_28 => some (u_28.1, u_28.2)) else if x3 ≤ 0 then F_X12_laysJoin_j127 v0_23 v0_0 v0_6 v0_7 v0_10 v0_22 x1 x2 x5 x6 1 else F_X12_laysJoin_j127 v0_23 v0_0 v0_6 v0_7 v0_10 v0_22 x1 x2 x5 x6 (-1))
def F_X12_laysJoin (v0_23 : Int32) (v0_0 : Nat → Int32) (v0_6 : Nat → Int32) (v0_7 : Nat → Int32) (v0_8 : Nat → Int32) (v0_9 : Nat → Int32) (v0_10 : Nat → Int32) (v0_22 : Nat → Int32) (p1 : Int32) (p2 : Int32) : Option (Int32 × (Nat → Int32)) :=
  gd (decide (vpi p1 8)) (gd (decide (vpi p2 8)) (gd (decide (vpi p1 8)) (gd (decide (vpi p2 8)) (lt (((v0_6 p1.toNatClampNeg) * (v0_7 p2.toNatClampNeg)) - ((v0_7 p1.toNatClampNeg) * (v0_6 p2.toNatClampNeg))) (fun y_33 => gd (decide (vpi p1 8)) (gd (decide (vpi p2 8)) (gd (decide (vpi p1 8)) (gd (decide (vpi p2 8)) (lt (((v0_6 p1.toNatClampNeg) * (v0_6 p2.toNatClampNeg)) + ((v0_7 p1.toNatClampNeg) * (v0_7 p2.toNatClampNeg))) (fun y_38 => gd (decide (vpi p2 8)) (lt (64 * (v0_8 p2.toNatClampNeg)) (fun y_40 => gd (decide (vpi p2 8)) (lt (64 * (v0_9 p2.toNatClampNeg)) (fun y_42 => if y_33 = 0 then if 0 < y_38 then some (v0_23, v0_22) else gd (decide (vpi 1 86)) (if (v0_0 (1 : Int32).toNatClampNeg) = 1 then F_X12_laysJoin_j99 v0_23 v0_0 v0_6 v0_7 v0_10 v0_22 p1 p2 y_33 y_40 y_42 else some (v0_23, v0_22)) else F_X12_laysJoin_j99 v0_23 v0_0 v0_6 v0_7 v0_10 v0_22 p1 p2 y_33 y_40 y_42))))))))))))))
abbrev wd_X12_laysJoin (cI : ClassId) (a0 : Nat → Nat) (v0_2 : Int32) (v0_3 : Int32) (v0_5 : Int32) (v0_12 : Int32) (v0_13 : Int32) (v0_16 : Int32) (v0_17 : Int32) (v0_21 : Int32) (v0_23 : Int32) (v0_24 : Int32) (v0_25 : Int32) (v0_26 : Int32) (v0_29 : Int32) (v0_30 : Int64) (v0_0 : Nat → Int32) (v0_6 : Nat → Int32) (v0_7 : Nat → Int32) (v0_8 : Nat → Int32) (v0_9 : Nat → Int32) (v0_10 : Nat → Int32) (v0_22 : Nat → Int32) : va_W := [(a0 0, .inr (11, [.ref (a0 1), .ref (a0 2), .int v0_2, .int v0_3, .ref (a0 5), .int v0_5, .ref (a0 7), .ref (a0 8), .ref (a0 9), .ref (a0 10), .ref (a0 11), .ref (a0 12), .int v0_12, .int v0_13, .ref (a0 15), .ref (a0 16), .int v0_16, .int v0_17, .ref (a0 19), .ref (a0 20), .ref (a0 21), .int v0_21, .ref (a0 23), .int v0_23, .int v0_24, .int v0_25, .int v0_26, .ref (a0 28), .ref (a0 29), .int v0_29, .long v0_30])), (a0 1, .inl (cI, 86, .inl v0_0)), (a0 7, .inl (cI, 8, .inl v0_6)), (a0 8, .inl (cI, 8, .inl v0_7)), (a0 9, .inl (cI, 8, .inl v0_8)), (a0 10, .inl (cI, 8, .inl v0_9)), (a0 11, .inl (cI, 8, .inl v0_10)), (a0 23, .inl (cI, 27000, .inl v0_22))]
abbrev wz_X12_laysJoin : List Cond := .code yX12_laysJoin cX12_laysJoin 15 none :: wALL
abbrev rm_X12_laysJoin : Room := { frames := 2, cells := 0, slots := 0, locals := 55 }
abbrev Q_X12_laysJoin (dC : Nat → ClassId) (dI : Nat → Nat → Nat) (cI : ClassId) (a0 : Nat → Nat) (v0_2 : Int32) (v0_3 : Int32) (v0_5 : Int32) (v0_12 : Int32) (v0_13 : Int32) (v0_16 : Int32) (v0_17 : Int32) (v0_21 : Int32) (v0_24 : Int32) (v0_25 : Int32) (v0_26 : Int32) (v0_29 : Int32) (v0_30 : Int64) (v0_0 : Nat → Int32) (v0_6 : Nat → Int32) (v0_7 : Nat → Int32) (v0_8 : Nat → Int32) (v0_9 : Nat → Int32) (v0_10 : Nat → Int32) (u : (Int32 × (Nat → Int32))) (A : Nat → Prop) : Array Value → State → Outcome → State → Prop := va_Qv (fun (_ : Unit) => True) (fun _ => q_at dC dI cI A (wd_X12_laysJoin cI a0 v0_2 v0_3 v0_5 v0_12 v0_13 v0_16 v0_17 v0_21 u.1 v0_24 v0_25 v0_26 v0_29 v0_30 v0_0 v0_6 v0_7 v0_8 v0_9 v0_10 u.2)) A
set_option maxHeartbeats 4000000 in
set_option maxRecDepth 100000 in
theorem c_X12_laysJoin (l : Launch) (dC : Nat → ClassId) (dI : Nat → Nat → Nat) (cI : ClassId) (sz : Nat) (a0 : Nat → Nat) (v0_2 : Int32) (v0_3 : Int32) (v0_5 : Int32) (v0_12 : Int32) (v0_13 : Int32) (v0_16 : Int32) (v0_17 : Int32) (v0_21 : Int32) (v0_23 : Int32) (v0_24 : Int32) (v0_25 : Int32) (v0_26 : Int32) (v0_29 : Int32) (v0_30 : Int64) (v0_0 : Nat → Int32) (v0_6 : Nat → Int32) (v0_7 : Nat → Int32) (v0_8 : Nat → Int32) (v0_9 : Nat → Int32) (v0_10 : Nat → Int32) (v0_22 : Nat → Int32) (p1 : Int32) (p2 : Int32) (u : (Int32 × (Nat → Int32))) (hF : F_X12_laysJoin v0_23 v0_0 v0_6 v0_7 v0_8 v0_9 v0_10 v0_22 p1 p2 = some u) : Met l yX12_laysJoin wz_X12_laysJoin rm_X12_laysJoin (va_Pc [.ref (a0 0), .int p1, .int p2] (q_pre dC dI cI (wd_X12_laysJoin cI a0 v0_2 v0_3 v0_5 v0_12 v0_13 v0_16 v0_17 v0_21 v0_23 v0_24 v0_25 v0_26 v0_29 v0_30 v0_0 v0_6 v0_7 v0_8 v0_9 v0_10 v0_22) sz)) (Q_X12_laysJoin dC dI cI a0 v0_2 v0_3 v0_5 v0_12 v0_13 v0_16 v0_17 v0_21 v0_24 v0_25 v0_26 v0_29 v0_30 v0_0 v0_6 v0_7 v0_8 v0_9 v0_10 u (va_A (wd_X12_laysJoin cI a0 v0_2 v0_3 v0_5 v0_12 v0_13 v0_16 v0_17 v0_21 v0_23 v0_24 v0_25 v0_26 v0_29 v0_30 v0_0 v0_6 v0_7 v0_8 v0_9 v0_10 v0_22) sz)) 0 0 (va_A (wd_X12_laysJoin cI a0 v0_2 v0_3 v0_5 v0_12 v0_13 v0_16 v0_17 v0_21 v0_23 v0_24 v0_25 v0_26 v0_29 v0_30 v0_0 v0_6 v0_7 v0_8 v0_9 v0_10 v0_22) sz) := by
  refine Met.ofW (cc := cX12_laysJoin) (maxL := 15) (ret := none) (by decide) rfl ?_
  intro p e s m args below meth c s₁ B hml hv
  obtain ⟨rfl, hsz, hP, hK, hD0⟩ := hv
  have hx := B.exec
  have hb := B.bytes
  have hr := B.returns
  have hts := atoms_spec (ws := wz_X12_laysJoin) B.pre
  have hta := wz_tl hts
  have hown : s.vm.findClass RX12 = some m.cls := findClass_of_methodNamed B.named
  have hlocks := B.notSynchronized
  subst hsz
  have hD := hD0.self (sz := s.heap.size)
  generalize hAe : va_A (wd_X12_laysJoin cI a0 v0_2 v0_3 v0_5 v0_12 v0_13 v0_16 v0_17 v0_21 v0_23 v0_24 v0_25 v0_26 v0_29 v0_30 v0_0 v0_6 v0_7 v0_8 v0_9 v0_10 v0_22) s.heap.size = A at hD ⊢
  have hA : ∀ q : Nat, s.heap.size ≤ q → A q := fun q h => by rw [← hAe]; exact Or.inr h
  have hS : va_S A s.heap s.heap [] := va_S.rf
  have hP : va_P (dC, dI) vwCl (wd_X12_laysJoin cI a0 v0_2 v0_3 v0_5 v0_12 v0_13 v0_16 v0_17 v0_21 v0_23 v0_24 v0_25 v0_26 v0_29 v0_30 v0_0 v0_6 v0_7 v0_8 v0_9 v0_10 v0_22) s.heap := hP
  have hl := lv_entry ([.ref (a0 0), .int p1, .int p2]) (n := 15) (Nat.le_of_ble_eq_true rfl)
  rw [lg_entry_eq]
  generalize (lg_sl ([.ref (a0 0), .int p1, .int p2]) ++ List.replicate (15 - (lg_sl ([.ref (a0 0), .int p1, .int p2])).length) Slot.unset).toArray = ls at hl ⊢
  have hl : lv_has ls 15 [(0, .ref (a0 0)), (1, .int p1), (2, .int p2)] := hl
  obtain ⟨H, hHe⟩ : ∃ H, H = s.heap := ⟨_, rfl⟩
  have hS : va_S A s.heap H [] := by rw [hHe]; exact hS
  have hP : va_P (dC, dI) vwCl (wd_X12_laysJoin cI a0 v0_2 v0_3 v0_5 v0_12 v0_13 v0_16 v0_17 v0_21 v0_23 v0_24 v0_25 v0_26 v0_29 v0_30 v0_0 v0_6 v0_7 v0_8 v0_9 v0_10 v0_22) H := by rw [hHe]; exact hP
  rw [← hHe]
  unfold F_X12_laysJoin at hF
  have j303 : ∀ (v0_23 : Int32) (v0_22 : Nat → Int32) (x2 : Int32) (x5 : Int32) (x6 : Int32) (x7 : Int32) (t1 : Int32), F_X12_laysJoin_j303 v0_23 v0_0 v0_6 v0_7 v0_10 v0_22 x2 x5 x6 x7 t1 = some u → ∀ (H : Heap) (locs : List Loc) (ls : Array Slot), va_P (dC, dI) vwCl (wd_X12_laysJoin cI a0 v0_2 v0_3 v0_5 v0_12 v0_13 v0_16 v0_17 v0_21 v0_23 v0_24 v0_25 v0_26 v0_29 v0_30 v0_0 v0_6 v0_7 v0_8 v0_9 v0_10 v0_22) H → va_D A (wd_X12_laysJoin cI a0 v0_2 v0_3 v0_5 v0_12 v0_13 v0_16 v0_17 v0_21 v0_23 v0_24 v0_25 v0_26 v0_29 v0_30 v0_0 v0_6 v0_7 v0_8 v0_9 v0_10 v0_22) → va_S A s.heap H locs → lv_has ls 15 [(0, .ref (a0 0)), (2, .int x2), (5, .int x5), (6, .int x6), (7, .int x7)] → W p l e (headSpec wz_X12_laysJoin rm_X12_laysJoin).room s m [.ref (a0 0), .int p1, .int p2].toArray below meth c H locs 0 0 (MQ below (Q_X12_laysJoin dC dI cI a0 v0_2 v0_3 v0_5 v0_12 v0_13 v0_16 v0_17 v0_21 v0_24 v0_25 v0_26 v0_29 v0_30 v0_0 v0_6 v0_7 v0_8 v0_9 v0_10 u A) [.ref (a0 0), .int p1, .int p2].toArray s 0 0 A) (F0 m 303 ls [.int t1, .ref (a0 0)]) := by
    intro v0_23 v0_22 x2 x5 x6 x7 t1 hF H locs ls hP hD hS hl
    unfold F_X12_laysJoin_j303 at hF
    refine lv_iload hx hb dX12_laysJoin_303 (lv_at hl 2 rfl) ?_
    refine lv_iload hx hb dX12_laysJoin_305 (lv_at hl 4 rfl) ?_
    refine lv_aload_n hx hb dX12_laysJoin_307 rfl (lv_at hl 0 rfl) ?_
    refine lv_iload_n hx hb dX12_laysJoin_308 rfl (lv_at hl 1 rfl) ?_
    obtain ⟨u_1, hu_1, hF⟩ := obd_some hF
    have hPc := hP.sub (ws' := (wd_X12_normalX cI a0 v0_2 v0_3 v0_5 v0_12 v0_13 v0_16 v0_17 v0_21 v0_23 v0_24 v0_25 v0_26 v0_29 v0_30 v0_0 v0_7 v0_10)) [0, 1, 3, 6] rfl
    have hDc := hD.sub (ws' := (wd_X12_normalX cI a0 v0_2 v0_3 v0_5 v0_12 v0_13 v0_16 v0_17 v0_21 v0_23 v0_24 v0_25 v0_26 v0_29 v0_30 v0_0 v0_7 v0_10)) [0, 1, 3, 6] rfl rfl
    refine q_calli (wc := (wd_X12_normalX cI a0 v0_2 v0_3 v0_5 v0_12 v0_13 v0_16 v0_17 v0_21 v0_23 v0_24 v0_25 v0_26 v0_29 v0_30 v0_0 v0_7 v0_10)) (w1 := (wd_X12_normalX cI a0 v0_2 v0_3 v0_5 v0_12 v0_13 v0_16 v0_17 v0_21 v0_23 v0_24 v0_25 v0_26 v0_29 v0_30 v0_0 v0_7 v0_10)) (ws' := (wd_X12_laysJoin cI a0 v0_2 v0_3 v0_5 v0_12 v0_13 v0_16 v0_17 v0_21 v0_23 v0_24 v0_25 v0_26 v0_29 v0_30 v0_0 v0_6 v0_7 v0_8 v0_9 v0_10 v0_22)) hP hD hS hA [0, 1, 3, 6] [2, 4, 5, 7] [4, 5, 0, 6, 1, 2, 7, 3] rfl rfl rfl (by decide) rfl rfl (va_runV (As := [.int x2]) (rest := [.int x7, .int x5, .int t1, .ref (a0 0)]) ⟨hx, hb, hml, hown, hta⟩ (c_X12_normalX l dC dI cI H.size a0 v0_2 v0_3 v0_5 v0_12 v0_13 v0_16 v0_17 v0_21 v0_23 v0_24 v0_25 v0_26 v0_29 v0_30 v0_0 v0_7 v0_10 x2 u_1 hu_1) (cwV 1 hta (ga_V mA971 mA972 mA973 mA814 mA955) rfl rfl rfl (by decide +kernel) ⟨Nat.le_of_ble_eq_true rfl, Nat.le_of_ble_eq_true rfl⟩) ⟨q_fb, va_recv hK hP (ci := 11) (q0 := 0) rfl rfl, q_ps hPc hK hDc⟩ rfl rfl hl.1 rfl (lv_room (Nat.le_of_ble_eq_true rfl)) dX12_laysJoin_309 ⟨Nat.zero_le _, Nat.zero_le _⟩) (fun H locs hP hD hS => ?_)
    refine lv_imul hx hb dX12_laysJoin_312 ?_
    refine lv_iadd hx hb dX12_laysJoin_313 ?_
    refine lv_iload hx hb dX12_laysJoin_314 (lv_at hl 3 rfl) ?_
    refine lv_iload hx hb dX12_laysJoin_316 (lv_at hl 4 rfl) ?_
    refine lv_aload_n hx hb dX12_laysJoin_318 rfl (lv_at hl 0 rfl) ?_
    refine lv_iload_n hx hb dX12_laysJoin_319 rfl (lv_at hl 1 rfl) ?_
    obtain ⟨u_2, hu_2, hF⟩ := obd_some hF
    have hPc := hP.sub (ws' := (wd_X12_normalY cI a0 v0_2 v0_3 v0_5 v0_12 v0_13 v0_16 v0_17 v0_21 v0_23 v0_24 v0_25 v0_26 v0_29 v0_30 v0_0 v0_6 v0_10)) [0, 1, 2, 6] rfl
    have hDc := hD.sub (ws' := (wd_X12_normalY cI a0 v0_2 v0_3 v0_5 v0_12 v0_13 v0_16 v0_17 v0_21 v0_23 v0_24 v0_25 v0_26 v0_29 v0_30 v0_0 v0_6 v0_10)) [0, 1, 2, 6] rfl rfl
    refine q_calli (wc := (wd_X12_normalY cI a0 v0_2 v0_3 v0_5 v0_12 v0_13 v0_16 v0_17 v0_21 v0_23 v0_24 v0_25 v0_26 v0_29 v0_30 v0_0 v0_6 v0_10)) (w1 := (wd_X12_normalY cI a0 v0_2 v0_3 v0_5 v0_12 v0_13 v0_16 v0_17 v0_21 v0_23 v0_24 v0_25 v0_26 v0_29 v0_30 v0_0 v0_6 v0_10)) (ws' := (wd_X12_laysJoin cI a0 v0_2 v0_3 v0_5 v0_12 v0_13 v0_16 v0_17 v0_21 v0_23 v0_24 v0_25 v0_26 v0_29 v0_30 v0_0 v0_6 v0_7 v0_8 v0_9 v0_10 v0_22)) hP hD hS hA [0, 1, 2, 6] [3, 4, 5, 7] [4, 5, 6, 0, 1, 2, 7, 3] rfl rfl rfl (by decide) rfl rfl (va_runV (As := [.int x2]) (rest := [.int x7, .int x6, .int (x5 + (x7 * u_1)), .int t1, .ref (a0 0)]) ⟨hx, hb, hml, hown, hta⟩ (c_X12_normalY l dC dI cI H.size a0 v0_2 v0_3 v0_5 v0_12 v0_13 v0_16 v0_17 v0_21 v0_23 v0_24 v0_25 v0_26 v0_29 v0_30 v0_0 v0_6 v0_10 x2 u_2 hu_2) (cwV 1 hta (ga_V mA974 mA975 mA976 mA814 mA960) rfl rfl rfl (by decide +kernel) ⟨Nat.le_of_ble_eq_true rfl, Nat.le_of_ble_eq_true rfl⟩) ⟨q_fb, va_recv hK hP (ci := 11) (q0 := 0) rfl rfl, q_ps hPc hK hDc⟩ rfl rfl hl.1 rfl (lv_room (Nat.le_of_ble_eq_true rfl)) dX12_laysJoin_320 ⟨Nat.zero_le _, Nat.zero_le _⟩) (fun H locs hP hD hS => ?_)
    refine lv_imul hx hb dX12_laysJoin_323 ?_
    refine lv_iadd hx hb dX12_laysJoin_324 ?_
    obtain ⟨u_3, hu_3, hF⟩ := obd_some hF
    have hPc := hP.sub (ws' := (wd_X12_corners cI a0 v0_2 v0_3 v0_5 v0_12 v0_13 v0_16 v0_17 v0_21 v0_23 v0_24 v0_25 v0_26 v0_29 v0_30 v0_22)) [0, 7] rfl
    have hDc := hD.sub (ws' := (wd_X12_corners cI a0 v0_2 v0_3 v0_5 v0_12 v0_13 v0_16 v0_17 v0_21 v0_23 v0_24 v0_25 v0_26 v0_29 v0_30 v0_22)) [0, 7] rfl rfl
    refine q_callv (wc := (wd_X12_corners cI a0 v0_2 v0_3 v0_5 v0_12 v0_13 v0_16 v0_17 v0_21 v0_23 v0_24 v0_25 v0_26 v0_29 v0_30 v0_22)) (w1 := (wd_X12_corners cI a0 v0_2 v0_3 v0_5 v0_12 v0_13 v0_16 v0_17 v0_21 v0_23 v0_24 v0_25 v0_26 v0_29 v0_30 u_3)) (ws' := (wd_X12_laysJoin cI a0 v0_2 v0_3 v0_5 v0_12 v0_13 v0_16 v0_17 v0_21 v0_23 v0_24 v0_25 v0_26 v0_29 v0_30 v0_0 v0_6 v0_7 v0_8 v0_9 v0_10 u_3)) hP hD hS hA [0, 7] [1, 2, 3, 4, 5, 6] [6, 0, 1, 2, 3, 4, 5, 7] rfl rfl rfl (by decide) rfl rfl (va_runV (As := [.int t1, .int (x5 + (x7 * u_1)), .int (x6 + (x7 * u_2))]) (rest := []) ⟨hx, hb, hml, hown, hta⟩ (c_X12_corners l dC dI cI H.size a0 v0_2 v0_3 v0_5 v0_12 v0_13 v0_16 v0_17 v0_21 v0_23 v0_24 v0_25 v0_26 v0_29 v0_30 v0_22 t1 (x5 + (x7 * u_1)) (x6 + (x7 * u_2)) u_3 hu_3) (cwV 3 hta (ga_V mA967 mA968 mA969 mA814 mA954) rfl rfl rfl (by decide +kernel) ⟨Nat.le_of_ble_eq_true rfl, Nat.le_of_ble_eq_true rfl⟩) ⟨q_fb, va_recv hK hP (ci := 11) (q0 := 0) rfl rfl, q_ps hPc hK hDc⟩ rfl rfl hl.1 rfl (lv_room (Nat.le_of_ble_eq_true rfl)) dX12_laysJoin_325 ⟨Nat.zero_le _, Nat.zero_le _⟩) (fun H locs hP hD hS => ?_)
    obtain rfl := Option.some.inj hF
    exact W.vret hx hb hr (fun t ht hW => ⟨⟨(), rfl, trivial, by rw [ht]; exact hP, va_K.moved hW.alike hK, hD⟩, hS.F ht⟩) hS.2.2 dX12_laysJoin_328
  have j292 : ∀ (v0_23 : Int32) (v0_22 : Nat → Int32) (x2 : Int32) (x5 : Int32) (x6 : Int32) (x7 : Int32) (x8 : Int32), F_X12_laysJoin_j292 v0_23 v0_0 v0_6 v0_7 v0_10 v0_22 x2 x5 x6 x7 x8 = some u → ∀ (H : Heap) (locs : List Loc) (ls : Array Slot), va_P (dC, dI) vwCl (wd_X12_laysJoin cI a0 v0_2 v0_3 v0_5 v0_12 v0_13 v0_16 v0_17 v0_21 v0_23 v0_24 v0_25 v0_26 v0_29 v0_30 v0_0 v0_6 v0_7 v0_8 v0_9 v0_10 v0_22) H → va_D A (wd_X12_laysJoin cI a0 v0_2 v0_3 v0_5 v0_12 v0_13 v0_16 v0_17 v0_21 v0_23 v0_24 v0_25 v0_26 v0_29 v0_30 v0_0 v0_6 v0_7 v0_8 v0_9 v0_10 v0_22) → va_S A s.heap H locs → lv_has ls 15 [(0, .ref (a0 0)), (2, .int x2), (5, .int x5), (6, .int x6), (7, .int x7), (8, .int x8)] → W p l e (headSpec wz_X12_laysJoin rm_X12_laysJoin).room s m [.ref (a0 0), .int p1, .int p2].toArray below meth c H locs 0 0 (MQ below (Q_X12_laysJoin dC dI cI a0 v0_2 v0_3 v0_5 v0_12 v0_13 v0_16 v0_17 v0_21 v0_24 v0_25 v0_26 v0_29 v0_30 v0_0 v0_6 v0_7 v0_8 v0_9 v0_10 u A) [.ref (a0 0), .int p1, .int p2].toArray s 0 0 A) (F0 m 292 ls []) := by
    intro v0_23 v0_22 x2 x5 x6 x7 x8 hF H locs ls hP hD hS hl
    unfold F_X12_laysJoin_j292 at hF
    refine lv_aload_n hx hb dX12_laysJoin_292 rfl (lv_at hl 0 rfl) ?_
    refine lv_iload hx hb dX12_laysJoin_293 (lv_at hl 5 rfl) ?_
    refine lv_if_eq (tgt := 302) hx hb dX12_laysJoin_295 (by decide) (fun c_4 => ?_) (fun c_4 => ?_)
    · have hF := it_t hF c_4
      refine lv_iconst (v := 2) hx hb dX12_laysJoin_302 (by decide) ?_
      exact j303 v0_23 v0_22 x2 x5 x6 x7 2 hF _ _ _ hP hD hS (lv_sub hl [0, 1, 2, 3, 4] rfl)
    · have hF := it_f hF c_4
      refine lv_iconst (v := 3) hx hb dX12_laysJoin_298 (by decide) ?_
      refine lv_goto (tgt := 303) hx hb dX12_laysJoin_299 (by decide) ?_
      exact j303 v0_23 v0_22 x2 x5 x6 x7 3 hF _ _ _ hP hD hS (lv_sub hl [0, 1, 2, 3, 4] rfl)
  have j148 : ∀ (v0_23 : Int32) (v0_22 : Nat → Int32) (x1 : Int32) (x2 : Int32) (x5 : Int32) (x6 : Int32) (x7 : Int32) (x8 : Int32) (t1 : Int32), F_X12_laysJoin_j148 v0_23 v0_0 v0_6 v0_7 v0_10 v0_22 x1 x2 x5 x6 x7 x8 t1 = some u → ∀ (H : Heap) (locs : List Loc) (ls : Array Slot), va_P (dC, dI) vwCl (wd_X12_laysJoin cI a0 v0_2 v0_3 v0_5 v0_12 v0_13 v0_16 v0_17 v0_21 v0_23 v0_24 v0_25 v0_26 v0_29 v0_30 v0_0 v0_6 v0_7 v0_8 v0_9 v0_10 v0_22) H → va_D A (wd_X12_laysJoin cI a0 v0_2 v0_3 v0_5 v0_12 v0_13 v0_16 v0_17 v0_21 v0_23 v0_24 v0_25 v0_26 v0_29 v0_30 v0_0 v0_6 v0_7 v0_8 v0_9 v0_10 v0_22) → va_S A s.heap H locs → lv_has ls 15 [(0, .ref (a0 0)), (1, .int x1), (2, .int x2), (5, .int x5), (6, .int x6), (7, .int x7), (8, .int x8)] → W p l e (headSpec wz_X12_laysJoin rm_X12_laysJoin).room s m [.ref (a0 0), .int p1, .int p2].toArray below meth c H locs 0 0 (MQ below (Q_X12_laysJoin dC dI cI a0 v0_2 v0_3 v0_5 v0_12 v0_13 v0_16 v0_17 v0_21 v0_24 v0_25 v0_26 v0_29 v0_30 v0_0 v0_6 v0_7 v0_8 v0_9 v0_10 u A) [.ref (a0 0), .int p1, .int p2].toArray s 0 0 A) (F0 m 148 ls [.int t1, .ref (a0 0)]) := by
    intro v0_23 v0_22 x1 x2 x5 x6 x7 x8 t1 hF H locs ls hP hD hS hl
    unfold F_X12_laysJoin_j148 at hF
    obtain ⟨u_5, hu_5, hF⟩ := obd_some hF
    have hPc := hP.sub (ws' := (wd_X12_begin cI a0 v0_2 v0_3 v0_5 v0_12 v0_13 v0_16 v0_17 v0_21 v0_23 v0_24 v0_25 v0_26 v0_29 v0_30 v0_22)) [0, 7] rfl
    have hDc := hD.sub (ws' := (wd_X12_begin cI a0 v0_2 v0_3 v0_5 v0_12 v0_13 v0_16 v0_17 v0_21 v0_23 v0_24 v0_25 v0_26 v0_29 v0_30 v0_22)) [0, 7] rfl rfl
    refine q_callv (wc := (wd_X12_begin cI a0 v0_2 v0_3 v0_5 v0_12 v0_13 v0_16 v0_17 v0_21 v0_23 v0_24 v0_25 v0_26 v0_29 v0_30 v0_22)) (w1 := (wd_X12_begin cI a0 v0_2 v0_3 v0_5 v0_12 v0_13 v0_16 v0_17 v0_21 u_5.1 v0_24 v0_25 v0_26 v0_29 v0_30 u_5.2)) (ws' := (wd_X12_laysJoin cI a0 v0_2 v0_3 v0_5 v0_12 v0_13 v0_16 v0_17 v0_21 u_5.1 v0_24 v0_25 v0_26 v0_29 v0_30 v0_0 v0_6 v0_7 v0_8 v0_9 v0_10 u_5.2)) hP hD hS hA [0, 7] [1, 2, 3, 4, 5, 6] [6, 0, 1, 2, 3, 4, 5, 7] rfl rfl rfl (by decide) rfl rfl (va_runV (As := [.int t1]) (rest := []) ⟨hx, hb, hml, hown, hta⟩ (c_X12_begin l dC dI cI H.size a0 v0_2 v0_3 v0_5 v0_12 v0_13 v0_16 v0_17 v0_21 v0_23 v0_24 v0_25 v0_26 v0_29 v0_30 v0_22 t1 u_5 hu_5) (cwV 1 hta (ga_V mA964 mA965 mA966 mA814 mA952) rfl rfl rfl (by decide +kernel) ⟨Nat.le_of_ble_eq_true rfl, Nat.le_of_ble_eq_true rfl⟩) ⟨q_fb, va_recv hK hP (ci := 11) (q0 := 0) rfl rfl, q_ps hPc hK hDc⟩ rfl rfl hl.1 rfl (lv_room (Nat.le_of_ble_eq_true rfl)) dX12_laysJoin_148 ⟨Nat.zero_le _, Nat.zero_le _⟩) (fun H locs hP hD hS => ?_)
    refine lv_aload_n hx hb dX12_laysJoin_151 rfl (lv_at hl 0 rfl) ?_
    refine lv_iconst (v := 0) hx hb dX12_laysJoin_152 (by decide) ?_
    refine lv_iload hx hb dX12_laysJoin_153 (lv_at hl 3 rfl) ?_
    refine lv_iload hx hb dX12_laysJoin_155 (lv_at hl 4 rfl) ?_
    obtain ⟨u_6, hu_6, hF⟩ := obd_some hF
    have hPc := hP.sub (ws' := (wd_X12_corners cI a0 v0_2 v0_3 v0_5 v0_12 v0_13 v0_16 v0_17 v0_21 u_5.1 v0_24 v0_25 v0_26 v0_29 v0_30 u_5.2)) [0, 7] rfl
    have hDc := hD.sub (ws' := (wd_X12_corners cI a0 v0_2 v0_3 v0_5 v0_12 v0_13 v0_16 v0_17 v0_21 u_5.1 v0_24 v0_25 v0_26 v0_29 v0_30 u_5.2)) [0, 7] rfl rfl
    refine q_callv (wc := (wd_X12_corners cI a0 v0_2 v0_3 v0_5 v0_12 v0_13 v0_16 v0_17 v0_21 u_5.1 v0_24 v0_25 v0_26 v0_29 v0_30 u_5.2)) (w1 := (wd_X12_corners cI a0 v0_2 v0_3 v0_5 v0_12 v0_13 v0_16 v0_17 v0_21 u_5.1 v0_24 v0_25 v0_26 v0_29 v0_30 u_6)) (ws' := (wd_X12_laysJoin cI a0 v0_2 v0_3 v0_5 v0_12 v0_13 v0_16 v0_17 v0_21 u_5.1 v0_24 v0_25 v0_26 v0_29 v0_30 v0_0 v0_6 v0_7 v0_8 v0_9 v0_10 u_6)) hP hD hS hA [0, 7] [1, 2, 3, 4, 5, 6] [6, 0, 1, 2, 3, 4, 5, 7] rfl rfl rfl (by decide) rfl rfl (va_runV (As := [.int 0, .int x5, .int x6]) (rest := []) ⟨hx, hb, hml, hown, hta⟩ (c_X12_corners l dC dI cI H.size a0 v0_2 v0_3 v0_5 v0_12 v0_13 v0_16 v0_17 v0_21 u_5.1 v0_24 v0_25 v0_26 v0_29 v0_30 u_5.2 0 x5 x6 u_6 hu_6) (cwV 3 hta (ga_V mA967 mA968 mA969 mA814 mA954) rfl rfl rfl (by decide +kernel) ⟨Nat.le_of_ble_eq_true rfl, Nat.le_of_ble_eq_true rfl⟩) ⟨q_fb, va_recv hK hP (ci := 11) (q0 := 0) rfl rfl, q_ps hPc hK hDc⟩ rfl rfl hl.1 rfl (lv_room (Nat.le_of_ble_eq_true rfl)) dX12_laysJoin_157 ⟨Nat.zero_le _, Nat.zero_le _⟩) (fun H locs hP hD hS => ?_)
    refine lv_aload_n hx hb dX12_laysJoin_160 rfl (lv_at hl 0 rfl) ?_
    refine lv_iconst (v := 1) hx hb dX12_laysJoin_161 (by decide) ?_
    refine lv_iload hx hb dX12_laysJoin_162 (lv_at hl 3 rfl) ?_
    refine lv_iload hx hb dX12_laysJoin_164 (lv_at hl 5 rfl) ?_
    refine lv_aload_n hx hb dX12_laysJoin_166 rfl (lv_at hl 0 rfl) ?_
    refine lv_iload_n hx hb dX12_laysJoin_167 rfl (lv_at hl 1 rfl) ?_
    obtain ⟨u_7, hu_7, hF⟩ := obd_some hF
    have hPc := hP.sub (ws' := (wd_X12_normalX cI a0 v0_2 v0_3 v0_5 v0_12 v0_13 v0_16 v0_17 v0_21 u_5.1 v0_24 v0_25 v0_26 v0_29 v0_30 v0_0 v0_7 v0_10)) [0, 1, 3, 6] rfl
    have hDc := hD.sub (ws' := (wd_X12_normalX cI a0 v0_2 v0_3 v0_5 v0_12 v0_13 v0_16 v0_17 v0_21 u_5.1 v0_24 v0_25 v0_26 v0_29 v0_30 v0_0 v0_7 v0_10)) [0, 1, 3, 6] rfl rfl
    refine q_calli (wc := (wd_X12_normalX cI a0 v0_2 v0_3 v0_5 v0_12 v0_13 v0_16 v0_17 v0_21 u_5.1 v0_24 v0_25 v0_26 v0_29 v0_30 v0_0 v0_7 v0_10)) (w1 := (wd_X12_normalX cI a0 v0_2 v0_3 v0_5 v0_12 v0_13 v0_16 v0_17 v0_21 u_5.1 v0_24 v0_25 v0_26 v0_29 v0_30 v0_0 v0_7 v0_10)) (ws' := (wd_X12_laysJoin cI a0 v0_2 v0_3 v0_5 v0_12 v0_13 v0_16 v0_17 v0_21 u_5.1 v0_24 v0_25 v0_26 v0_29 v0_30 v0_0 v0_6 v0_7 v0_8 v0_9 v0_10 u_6)) hP hD hS hA [0, 1, 3, 6] [2, 4, 5, 7] [4, 5, 0, 6, 1, 2, 7, 3] rfl rfl rfl (by decide) rfl rfl (va_runV (As := [.int x1]) (rest := [.int x7, .int x5, .int 1, .ref (a0 0)]) ⟨hx, hb, hml, hown, hta⟩ (c_X12_normalX l dC dI cI H.size a0 v0_2 v0_3 v0_5 v0_12 v0_13 v0_16 v0_17 v0_21 u_5.1 v0_24 v0_25 v0_26 v0_29 v0_30 v0_0 v0_7 v0_10 x1 u_7 hu_7) (cwV 1 hta (ga_V mA971 mA972 mA973 mA814 mA955) rfl rfl rfl (by decide +kernel) ⟨Nat.le_of_ble_eq_true rfl, Nat.le_of_ble_eq_true rfl⟩) ⟨q_fb, va_recv hK hP (ci := 11) (q0 := 0) rfl rfl, q_ps hPc hK hDc⟩ rfl rfl hl.1 rfl (lv_room (Nat.le_of_ble_eq_true rfl)) dX12_laysJoin_168 ⟨Nat.zero_le _, Nat.zero_le _⟩) (fun H locs hP hD hS => ?_)
    refine lv_imul hx hb dX12_laysJoin_171 ?_
    refine lv_iadd hx hb dX12_laysJoin_172 ?_
    refine lv_iload hx hb dX12_laysJoin_173 (lv_at hl 4 rfl) ?_
    refine lv_iload hx hb dX12_laysJoin_175 (lv_at hl 5 rfl) ?_
    refine lv_aload_n hx hb dX12_laysJoin_177 rfl (lv_at hl 0 rfl) ?_
    refine lv_iload_n hx hb dX12_laysJoin_178 rfl (lv_at hl 1 rfl) ?_
    obtain ⟨u_8, hu_8, hF⟩ := obd_some hF
    have hPc := hP.sub (ws' := (wd_X12_normalY cI a0 v0_2 v0_3 v0_5 v0_12 v0_13 v0_16 v0_17 v0_21 u_5.1 v0_24 v0_25 v0_26 v0_29 v0_30 v0_0 v0_6 v0_10)) [0, 1, 2, 6] rfl
    have hDc := hD.sub (ws' := (wd_X12_normalY cI a0 v0_2 v0_3 v0_5 v0_12 v0_13 v0_16 v0_17 v0_21 u_5.1 v0_24 v0_25 v0_26 v0_29 v0_30 v0_0 v0_6 v0_10)) [0, 1, 2, 6] rfl rfl
    refine q_calli (wc := (wd_X12_normalY cI a0 v0_2 v0_3 v0_5 v0_12 v0_13 v0_16 v0_17 v0_21 u_5.1 v0_24 v0_25 v0_26 v0_29 v0_30 v0_0 v0_6 v0_10)) (w1 := (wd_X12_normalY cI a0 v0_2 v0_3 v0_5 v0_12 v0_13 v0_16 v0_17 v0_21 u_5.1 v0_24 v0_25 v0_26 v0_29 v0_30 v0_0 v0_6 v0_10)) (ws' := (wd_X12_laysJoin cI a0 v0_2 v0_3 v0_5 v0_12 v0_13 v0_16 v0_17 v0_21 u_5.1 v0_24 v0_25 v0_26 v0_29 v0_30 v0_0 v0_6 v0_7 v0_8 v0_9 v0_10 u_6)) hP hD hS hA [0, 1, 2, 6] [3, 4, 5, 7] [4, 5, 6, 0, 1, 2, 7, 3] rfl rfl rfl (by decide) rfl rfl (va_runV (As := [.int x1]) (rest := [.int x7, .int x6, .int (x5 + (x7 * u_7)), .int 1, .ref (a0 0)]) ⟨hx, hb, hml, hown, hta⟩ (c_X12_normalY l dC dI cI H.size a0 v0_2 v0_3 v0_5 v0_12 v0_13 v0_16 v0_17 v0_21 u_5.1 v0_24 v0_25 v0_26 v0_29 v0_30 v0_0 v0_6 v0_10 x1 u_8 hu_8) (cwV 1 hta (ga_V mA974 mA975 mA976 mA814 mA960) rfl rfl rfl (by decide +kernel) ⟨Nat.le_of_ble_eq_true rfl, Nat.le_of_ble_eq_true rfl⟩) ⟨q_fb, va_recv hK hP (ci := 11) (q0 := 0) rfl rfl, q_ps hPc hK hDc⟩ rfl rfl hl.1 rfl (lv_room (Nat.le_of_ble_eq_true rfl)) dX12_laysJoin_179 ⟨Nat.zero_le _, Nat.zero_le _⟩) (fun H locs hP hD hS => ?_)
    refine lv_imul hx hb dX12_laysJoin_182 ?_
    refine lv_iadd hx hb dX12_laysJoin_183 ?_
    obtain ⟨u_9, hu_9, hF⟩ := obd_some hF
    have hPc := hP.sub (ws' := (wd_X12_corners cI a0 v0_2 v0_3 v0_5 v0_12 v0_13 v0_16 v0_17 v0_21 u_5.1 v0_24 v0_25 v0_26 v0_29 v0_30 u_6)) [0, 7] rfl
    have hDc := hD.sub (ws' := (wd_X12_corners cI a0 v0_2 v0_3 v0_5 v0_12 v0_13 v0_16 v0_17 v0_21 u_5.1 v0_24 v0_25 v0_26 v0_29 v0_30 u_6)) [0, 7] rfl rfl
    refine q_callv (wc := (wd_X12_corners cI a0 v0_2 v0_3 v0_5 v0_12 v0_13 v0_16 v0_17 v0_21 u_5.1 v0_24 v0_25 v0_26 v0_29 v0_30 u_6)) (w1 := (wd_X12_corners cI a0 v0_2 v0_3 v0_5 v0_12 v0_13 v0_16 v0_17 v0_21 u_5.1 v0_24 v0_25 v0_26 v0_29 v0_30 u_9)) (ws' := (wd_X12_laysJoin cI a0 v0_2 v0_3 v0_5 v0_12 v0_13 v0_16 v0_17 v0_21 u_5.1 v0_24 v0_25 v0_26 v0_29 v0_30 v0_0 v0_6 v0_7 v0_8 v0_9 v0_10 u_9)) hP hD hS hA [0, 7] [1, 2, 3, 4, 5, 6] [6, 0, 1, 2, 3, 4, 5, 7] rfl rfl rfl (by decide) rfl rfl (va_runV (As := [.int 1, .int (x5 + (x7 * u_7)), .int (x6 + (x7 * u_8))]) (rest := []) ⟨hx, hb, hml, hown, hta⟩ (c_X12_corners l dC dI cI H.size a0 v0_2 v0_3 v0_5 v0_12 v0_13 v0_16 v0_17 v0_21 u_5.1 v0_24 v0_25 v0_26 v0_29 v0_30 u_6 1 (x5 + (x7 * u_7)) (x6 + (x7 * u_8)) u_9 hu_9) (cwV 3 hta (ga_V mA967 mA968 mA969 mA814 mA954) rfl rfl rfl (by decide +kernel) ⟨Nat.le_of_ble_eq_true rfl, Nat.le_of_ble_eq_true rfl⟩) ⟨q_fb, va_recv hK hP (ci := 11) (q0 := 0) rfl rfl, q_ps hPc hK hDc⟩ rfl rfl hl.1 rfl (lv_room (Nat.le_of_ble_eq_true rfl)) dX12_laysJoin_184 ⟨Nat.zero_le _, Nat.zero_le _⟩) (fun H locs hP hD hS => ?_)
    refine lv_iload hx hb dX12_laysJoin_187 (lv_at hl 6 rfl) ?_
    refine lv_if_eq (tgt := 292) hx hb dX12_laysJoin_189 (by decide) (fun c_10 => ?_) (fun c_10 => ?_)
    · have hF := it_t hF c_10
      exact j292 u_5.1 u_9 x2 x5 x6 x7 x8 hF _ _ _ hP hD hS (lv_sub hl [0, 2, 3, 4, 5, 6] rfl)
    · have hF := it_f hF c_10
      refine lv_aload_n hx hb dX12_laysJoin_192 rfl (lv_at hl 0 rfl) ?_
      refine lv_iload_n hx hb dX12_laysJoin_193 rfl (lv_at hl 1 rfl) ?_
      obtain ⟨u_11, hu_11, hF⟩ := obd_some hF
      have hPc := hP.sub (ws' := (wd_X12_normalX cI a0 v0_2 v0_3 v0_5 v0_12 v0_13 v0_16 v0_17 v0_21 u_5.1 v0_24 v0_25 v0_26 v0_29 v0_30 v0_0 v0_7 v0_10)) [0, 1, 3, 6] rfl
      have hDc := hD.sub (ws' := (wd_X12_normalX cI a0 v0_2 v0_3 v0_5 v0_12 v0_13 v0_16 v0_17 v0_21 u_5.1 v0_24 v0_25 v0_26 v0_29 v0_30 v0_0 v0_7 v0_10)) [0, 1, 3, 6] rfl rfl
      refine q_calli (wc := (wd_X12_normalX cI a0 v0_2 v0_3 v0_5 v0_12 v0_13 v0_16 v0_17 v0_21 u_5.1 v0_24 v0_25 v0_26 v0_29 v0_30 v0_0 v0_7 v0_10)) (w1 := (wd_X12_normalX cI a0 v0_2 v0_3 v0_5 v0_12 v0_13 v0_16 v0_17 v0_21 u_5.1 v0_24 v0_25 v0_26 v0_29 v0_30 v0_0 v0_7 v0_10)) (ws' := (wd_X12_laysJoin cI a0 v0_2 v0_3 v0_5 v0_12 v0_13 v0_16 v0_17 v0_21 u_5.1 v0_24 v0_25 v0_26 v0_29 v0_30 v0_0 v0_6 v0_7 v0_8 v0_9 v0_10 u_9)) hP hD hS hA [0, 1, 3, 6] [2, 4, 5, 7] [4, 5, 0, 6, 1, 2, 7, 3] rfl rfl rfl (by decide) rfl rfl (va_runV (As := [.int x1]) (rest := []) ⟨hx, hb, hml, hown, hta⟩ (c_X12_normalX l dC dI cI H.size a0 v0_2 v0_3 v0_5 v0_12 v0_13 v0_16 v0_17 v0_21 u_5.1 v0_24 v0_25 v0_26 v0_29 v0_30 v0_0 v0_7 v0_10 x1 u_11 hu_11) (cwV 1 hta (ga_V mA971 mA972 mA973 mA814 mA955) rfl rfl rfl (by decide +kernel) ⟨Nat.le_of_ble_eq_true rfl, Nat.le_of_ble_eq_true rfl⟩) ⟨q_fb, va_recv hK hP (ci := 11) (q0 := 0) rfl rfl, q_ps hPc hK hDc⟩ rfl rfl hl.1 rfl (lv_room (Nat.le_of_ble_eq_true rfl)) dX12_laysJoin_194 ⟨Nat.zero_le _, Nat.zero_le _⟩) (fun H locs hP hD hS => ?_)
      refine lv_aload_n hx hb dX12_laysJoin_197 rfl (lv_at hl 0 rfl) ?_
      refine lv_iload_n hx hb dX12_laysJoin_198 rfl (lv_at hl 2 rfl) ?_
      obtain ⟨u_12, hu_12, hF⟩ := obd_some hF
      have hPc := hP.sub (ws' := (wd_X12_normalX cI a0 v0_2 v0_3 v0_5 v0_12 v0_13 v0_16 v0_17 v0_21 u_5.1 v0_24 v0_25 v0_26 v0_29 v0_30 v0_0 v0_7 v0_10)) [0, 1, 3, 6] rfl
      have hDc := hD.sub (ws' := (wd_X12_normalX cI a0 v0_2 v0_3 v0_5 v0_12 v0_13 v0_16 v0_17 v0_21 u_5.1 v0_24 v0_25 v0_26 v0_29 v0_30 v0_0 v0_7 v0_10)) [0, 1, 3, 6] rfl rfl
      refine q_calli (wc := (wd_X12_normalX cI a0 v0_2 v0_3 v0_5 v0_12 v0_13 v0_16 v0_17 v0_21 u_5.1 v0_24 v0_25 v0_26 v0_29 v0_30 v0_0 v0_7 v0_10)) (w1 := (wd_X12_normalX cI a0 v0_2 v0_3 v0_5 v0_12 v0_13 v0_16 v0_17 v0_21 u_5.1 v0_24 v0_25 v0_26 v0_29 v0_30 v0_0 v0_7 v0_10)) (ws' := (wd_X12_laysJoin cI a0 v0_2 v0_3 v0_5 v0_12 v0_13 v0_16 v0_17 v0_21 u_5.1 v0_24 v0_25 v0_26 v0_29 v0_30 v0_0 v0_6 v0_7 v0_8 v0_9 v0_10 u_9)) hP hD hS hA [0, 1, 3, 6] [2, 4, 5, 7] [4, 5, 0, 6, 1, 2, 7, 3] rfl rfl rfl (by decide) rfl rfl (va_runV (As := [.int x2]) (rest := [.int u_11]) ⟨hx, hb, hml, hown, hta⟩ (c_X12_normalX l dC dI cI H.size a0 v0_2 v0_3 v0_5 v0_12 v0_13 v0_16 v0_17 v0_21 u_5.1 v0_24 v0_25 v0_26 v0_29 v0_30 v0_0 v0_7 v0_10 x2 u_12 hu_12) (cwV 1 hta (ga_V mA971 mA972 mA973 mA814 mA955) rfl rfl rfl (by decide +kernel) ⟨Nat.le_of_ble_eq_true rfl, Nat.le_of_ble_eq_true rfl⟩) ⟨q_fb, va_recv hK hP (ci := 11) (q0 := 0) rfl rfl, q_ps hPc hK hDc⟩ rfl rfl hl.1 rfl (lv_room (Nat.le_of_ble_eq_true rfl)) dX12_laysJoin_199 ⟨Nat.zero_le _, Nat.zero_le _⟩) (fun H locs hP hD hS => ?_)
      refine lv_iadd hx hb dX12_laysJoin_202 ?_
      refine lv_i2l hx hb dX12_laysJoin_203 rfl ?_
      obtain ⟨y_13, ey_13, hF⟩ := lt_some hF
      refine lv_eql ey_13 ?_
      refine lv_lstore (lv' := [(9, .long y_13), (0, .ref (a0 0)), (1, .int x1), (2, .int x2), (5, .int x5), (6, .int x6), (7, .int x7), (8, .int x8)]) hx hb dX12_laysJoin_204 hl (by decide) rfl (fun ls hl => ?_)
      refine lv_aload_n hx hb dX12_laysJoin_206 rfl (lv_at hl 1 rfl) ?_
      refine lv_iload_n hx hb dX12_laysJoin_207 rfl (lv_at hl 2 rfl) ?_
      obtain ⟨u_14, hu_14, hF⟩ := obd_some hF
      have hPc := hP.sub (ws' := (wd_X12_normalY cI a0 v0_2 v0_3 v0_5 v0_12 v0_13 v0_16 v0_17 v0_21 u_5.1 v0_24 v0_25 v0_26 v0_29 v0_30 v0_0 v0_6 v0_10)) [0, 1, 2, 6] rfl
      have hDc := hD.sub (ws' := (wd_X12_normalY cI a0 v0_2 v0_3 v0_5 v0_12 v0_13 v0_16 v0_17 v0_21 u_5.1 v0_24 v0_25 v0_26 v0_29 v0_30 v0_0 v0_6 v0_10)) [0, 1, 2, 6] rfl rfl
      refine q_calli (wc := (wd_X12_normalY cI a0 v0_2 v0_3 v0_5 v0_12 v0_13 v0_16 v0_17 v0_21 u_5.1 v0_24 v0_25 v0_26 v0_29 v0_30 v0_0 v0_6 v0_10)) (w1 := (wd_X12_normalY cI a0 v0_2 v0_3 v0_5 v0_12 v0_13 v0_16 v0_17 v0_21 u_5.1 v0_24 v0_25 v0_26 v0_29 v0_30 v0_0 v0_6 v0_10)) (ws' := (wd_X12_laysJoin cI a0 v0_2 v0_3 v0_5 v0_12 v0_13 v0_16 v0_17 v0_21 u_5.1 v0_24 v0_25 v0_26 v0_29 v0_30 v0_0 v0_6 v0_7 v0_8 v0_9 v0_10 u_9)) hP hD hS hA [0, 1, 2, 6] [3, 4, 5, 7] [4, 5, 6, 0, 1, 2, 7, 3] rfl rfl rfl (by decide) rfl rfl (va_runV (As := [.int x1]) (rest := []) ⟨hx, hb, hml, hown, hta⟩ (c_X12_normalY l dC dI cI H.size a0 v0_2 v0_3 v0_5 v0_12 v0_13 v0_16 v0_17 v0_21 u_5.1 v0_24 v0_25 v0_26 v0_29 v0_30 v0_0 v0_6 v0_10 x1 u_14 hu_14) (cwV 1 hta (ga_V mA974 mA975 mA976 mA814 mA960) rfl rfl rfl (by decide +kernel) ⟨Nat.le_of_ble_eq_true rfl, Nat.le_of_ble_eq_true rfl⟩) ⟨q_fb, va_recv hK hP (ci := 11) (q0 := 0) rfl rfl, q_ps hPc hK hDc⟩ rfl rfl hl.1 rfl (lv_room (Nat.le_of_ble_eq_true rfl)) dX12_laysJoin_208 ⟨Nat.zero_le _, Nat.zero_le _⟩) (fun H locs hP hD hS => ?_)
      refine lv_aload_n hx hb dX12_laysJoin_211 rfl (lv_at hl 1 rfl) ?_
      refine lv_iload_n hx hb dX12_laysJoin_212 rfl (lv_at hl 3 rfl) ?_
      obtain ⟨u_15, hu_15, hF⟩ := obd_some hF
      have hPc := hP.sub (ws' := (wd_X12_normalY cI a0 v0_2 v0_3 v0_5 v0_12 v0_13 v0_16 v0_17 v0_21 u_5.1 v0_24 v0_25 v0_26 v0_29 v0_30 v0_0 v0_6 v0_10)) [0, 1, 2, 6] rfl
      have hDc := hD.sub (ws' := (wd_X12_normalY cI a0 v0_2 v0_3 v0_5 v0_12 v0_13 v0_16 v0_17 v0_21 u_5.1 v0_24 v0_25 v0_26 v0_29 v0_30 v0_0 v0_6 v0_10)) [0, 1, 2, 6] rfl rfl
      refine q_calli (wc := (wd_X12_normalY cI a0 v0_2 v0_3 v0_5 v0_12 v0_13 v0_16 v0_17 v0_21 u_5.1 v0_24 v0_25 v0_26 v0_29 v0_30 v0_0 v0_6 v0_10)) (w1 := (wd_X12_normalY cI a0 v0_2 v0_3 v0_5 v0_12 v0_13 v0_16 v0_17 v0_21 u_5.1 v0_24 v0_25 v0_26 v0_29 v0_30 v0_0 v0_6 v0_10)) (ws' := (wd_X12_laysJoin cI a0 v0_2 v0_3 v0_5 v0_12 v0_13 v0_16 v0_17 v0_21 u_5.1 v0_24 v0_25 v0_26 v0_29 v0_30 v0_0 v0_6 v0_7 v0_8 v0_9 v0_10 u_9)) hP hD hS hA [0, 1, 2, 6] [3, 4, 5, 7] [4, 5, 6, 0, 1, 2, 7, 3] rfl rfl rfl (by decide) rfl rfl (va_runV (As := [.int x2]) (rest := [.int u_14]) ⟨hx, hb, hml, hown, hta⟩ (c_X12_normalY l dC dI cI H.size a0 v0_2 v0_3 v0_5 v0_12 v0_13 v0_16 v0_17 v0_21 u_5.1 v0_24 v0_25 v0_26 v0_29 v0_30 v0_0 v0_6 v0_10 x2 u_15 hu_15) (cwV 1 hta (ga_V mA974 mA975 mA976 mA814 mA960) rfl rfl rfl (by decide +kernel) ⟨Nat.le_of_ble_eq_true rfl, Nat.le_of_ble_eq_true rfl⟩) ⟨q_fb, va_recv hK hP (ci := 11) (q0 := 0) rfl rfl, q_ps hPc hK hDc⟩ rfl rfl hl.1 rfl (lv_room (Nat.le_of_ble_eq_true rfl)) dX12_laysJoin_213 ⟨Nat.zero_le _, Nat.zero_le _⟩) (fun H locs hP hD hS => ?_)
      refine lv_iadd hx hb dX12_laysJoin_216 ?_
      refine lv_i2l hx hb dX12_laysJoin_217 rfl ?_
      obtain ⟨y_16, ey_16, hF⟩ := lt_some hF
      refine lv_eql ey_16 ?_
      refine lv_lstore (lv' := [(11, .long y_16), (9, .long y_13), (0, .ref (a0 0)), (1, .int x1), (2, .int x2), (5, .int x5), (6, .int x6), (7, .int x7), (8, .int x8)]) hx hb dX12_laysJoin_218 hl (by decide) rfl (fun ls hl => ?_)
      refine lv_ldc2 (v := 2) hx hb hown (hta _ mA816) dX12_laysJoin_220 ?_
      refine lv_aload_n hx hb dX12_laysJoin_223 rfl (lv_at hl 2 rfl) ?_
      obtain ⟨u_17, hu_17, hF⟩ := obd_some hF
      have hPc := hP.sub (ws' := (wd_X12_half cI a0 v0_2 v0_3 v0_5 v0_12 v0_13 v0_16 v0_17 v0_21 u_5.1 v0_24 v0_25 v0_26 v0_29 v0_30 v0_0)) [0, 1] rfl
      have hDc := hD.sub (ws' := (wd_X12_half cI a0 v0_2 v0_3 v0_5 v0_12 v0_13 v0_16 v0_17 v0_21 u_5.1 v0_24 v0_25 v0_26 v0_29 v0_30 v0_0)) [0, 1] rfl rfl
      refine q_calli (wc := (wd_X12_half cI a0 v0_2 v0_3 v0_5 v0_12 v0_13 v0_16 v0_17 v0_21 u_5.1 v0_24 v0_25 v0_26 v0_29 v0_30 v0_0)) (w1 := (wd_X12_half cI a0 v0_2 v0_3 v0_5 v0_12 v0_13 v0_16 v0_17 v0_21 u_5.1 v0_24 v0_25 v0_26 v0_29 v0_30 v0_0)) (ws' := (wd_X12_laysJoin cI a0 v0_2 v0_3 v0_5 v0_12 v0_13 v0_16 v0_17 v0_21 u_5.1 v0_24 v0_25 v0_26 v0_29 v0_30 v0_0 v0_6 v0_7 v0_8 v0_9 v0_10 u_9)) hP hD hS hA [0, 1] [2, 3, 4, 5, 6, 7] [6, 7, 0, 1, 2, 3, 4, 5] rfl rfl rfl (by decide) rfl rfl (va_runV (As := []) (rest := [.long 2]) ⟨hx, hb, hml, hown, hta⟩ (c_X12_half l dC dI cI H.size a0 v0_2 v0_3 v0_5 v0_12 v0_13 v0_16 v0_17 v0_21 u_5.1 v0_24 v0_25 v0_26 v0_29 v0_30 v0_0 u_17 hu_17) (cwV 0 hta (ga_V mA957 mA958 mA959 mA814 mA951) rfl rfl rfl (by decide +kernel) ⟨Nat.le_of_ble_eq_true rfl, Nat.le_of_ble_eq_true rfl⟩) ⟨q_fb, va_recv hK hP (ci := 11) (q0 := 0) rfl rfl, q_ps hPc hK hDc⟩ rfl rfl hl.1 rfl (lv_room (Nat.le_of_ble_eq_true rfl)) dX12_laysJoin_224 ⟨Nat.zero_le _, Nat.zero_le _⟩) (fun H locs hP hD hS => ?_)
      refine lv_i2l hx hb dX12_laysJoin_227 rfl ?_
      refine lv_lmul hx hb dX12_laysJoin_228 ?_
      refine lv_aload_n hx hb dX12_laysJoin_229 rfl (lv_at hl 2 rfl) ?_
      obtain ⟨u_18, hu_18, hF⟩ := obd_some hF
      have hPc := hP.sub (ws' := (wd_X12_half cI a0 v0_2 v0_3 v0_5 v0_12 v0_13 v0_16 v0_17 v0_21 u_5.1 v0_24 v0_25 v0_26 v0_29 v0_30 v0_0)) [0, 1] rfl
      have hDc := hD.sub (ws' := (wd_X12_half cI a0 v0_2 v0_3 v0_5 v0_12 v0_13 v0_16 v0_17 v0_21 u_5.1 v0_24 v0_25 v0_26 v0_29 v0_30 v0_0)) [0, 1] rfl rfl
      refine q_calli (wc := (wd_X12_half cI a0 v0_2 v0_3 v0_5 v0_12 v0_13 v0_16 v0_17 v0_21 u_5.1 v0_24 v0_25 v0_26 v0_29 v0_30 v0_0)) (w1 := (wd_X12_half cI a0 v0_2 v0_3 v0_5 v0_12 v0_13 v0_16 v0_17 v0_21 u_5.1 v0_24 v0_25 v0_26 v0_29 v0_30 v0_0)) (ws' := (wd_X12_laysJoin cI a0 v0_2 v0_3 v0_5 v0_12 v0_13 v0_16 v0_17 v0_21 u_5.1 v0_24 v0_25 v0_26 v0_29 v0_30 v0_0 v0_6 v0_7 v0_8 v0_9 v0_10 u_9)) hP hD hS hA [0, 1] [2, 3, 4, 5, 6, 7] [6, 7, 0, 1, 2, 3, 4, 5] rfl rfl rfl (by decide) rfl rfl (va_runV (As := []) (rest := [.long (2 * u_17.toInt64)]) ⟨hx, hb, hml, hown, hta⟩ (c_X12_half l dC dI cI H.size a0 v0_2 v0_3 v0_5 v0_12 v0_13 v0_16 v0_17 v0_21 u_5.1 v0_24 v0_25 v0_26 v0_29 v0_30 v0_0 u_18 hu_18) (cwV 0 hta (ga_V mA957 mA958 mA959 mA814 mA951) rfl rfl rfl (by decide +kernel) ⟨Nat.le_of_ble_eq_true rfl, Nat.le_of_ble_eq_true rfl⟩) ⟨q_fb, va_recv hK hP (ci := 11) (q0 := 0) rfl rfl, q_ps hPc hK hDc⟩ rfl rfl hl.1 rfl (lv_room (Nat.le_of_ble_eq_true rfl)) dX12_laysJoin_230 ⟨Nat.zero_le _, Nat.zero_le _⟩) (fun H locs hP hD hS => ?_)
      refine lv_i2l hx hb dX12_laysJoin_233 rfl ?_
      refine lv_lmul hx hb dX12_laysJoin_234 ?_
      obtain ⟨y_19, ey_19, hF⟩ := lt_some hF
      refine lv_eql ey_19 ?_
      refine lv_lstore (lv' := [(13, .long y_19), (11, .long y_16), (9, .long y_13), (0, .ref (a0 0)), (1, .int x1), (2, .int x2), (5, .int x5), (6, .int x6), (7, .int x7), (8, .int x8)]) hx hb dX12_laysJoin_235 hl (by decide) rfl (fun ls hl => ?_)
      refine lv_aload_n hx hb dX12_laysJoin_237 rfl (lv_at hl 3 rfl) ?_
      refine lv_iconst (v := 2) hx hb dX12_laysJoin_238 (by decide) ?_
      refine lv_iload hx hb dX12_laysJoin_239 (lv_at hl 6 rfl) ?_
      refine lv_iload hx hb dX12_laysJoin_241 (lv_at hl 8 rfl) ?_
      refine lv_lload hx hb dX12_laysJoin_243 (lv_at hl 0 rfl) ?_
      refine lv_lload hx hb dX12_laysJoin_245 (lv_at hl 2 rfl) ?_
      refine lv_lmul hx hb dX12_laysJoin_247 ?_
      refine lv_lload hx hb dX12_laysJoin_248 (lv_at hl 2 rfl) ?_
      refine lv_lload hx hb dX12_laysJoin_250 (lv_at hl 2 rfl) ?_
      refine lv_lmul hx hb dX12_laysJoin_252 ?_
      refine lv_lload hx hb dX12_laysJoin_253 (lv_at hl 1 rfl) ?_
      refine lv_lload hx hb dX12_laysJoin_255 (lv_at hl 1 rfl) ?_
      refine lv_lmul hx hb dX12_laysJoin_257 ?_
      refine lv_ladd hx hb dX12_laysJoin_258 ?_
      obtain ⟨u_20, hu_20, hF⟩ := obd_some hF
      have hPc := hP.sub (ws' := ([] : va_W)) [] rfl
      have hDc := hD.sub (ws' := ([] : va_W)) [] rfl rfl
      refine q_calli (wc := ([] : va_W)) (w1 := ([] : va_W)) (ws' := (wd_X12_laysJoin cI a0 v0_2 v0_3 v0_5 v0_12 v0_13 v0_16 v0_17 v0_21 u_5.1 v0_24 v0_25 v0_26 v0_29 v0_30 v0_0 v0_6 v0_7 v0_8 v0_9 v0_10 u_9)) hP hD hS hA [] [0, 1, 2, 3, 4, 5, 6, 7] [0, 1, 2, 3, 4, 5, 6, 7] rfl rfl rfl (by decide) rfl rfl (va_runS (As := [.long (y_19 * y_13), .long ((y_13 * y_13) + (y_16 * y_16))]) (rest := [.int x7, .int x5, .int 2, .ref (a0 0)]) ⟨hx, hb, hml, hown, hta⟩ (c_X12_round l dC dI cI H.size (y_19 * y_13) ((y_13 * y_13) + (y_16 * y_16)) u_20 hu_20) (va_cwS 2 hta (ga_S mA902 mA903 mA814 mA815) rfl rfl rfl (by decide +kernel) ⟨Nat.le_of_ble_eq_true rfl, Nat.le_of_ble_eq_true rfl⟩) ⟨q_fb, q_ps hPc hK hDc⟩ rfl rfl hl.1 rfl (lv_room (Nat.le_of_ble_eq_true rfl)) dX12_laysJoin_259 ⟨Nat.zero_le _, Nat.zero_le _⟩) (fun H locs hP hD hS => ?_)
      refine lv_imul hx hb dX12_laysJoin_262 ?_
      refine lv_iadd hx hb dX12_laysJoin_263 ?_
      refine lv_iload hx hb dX12_laysJoin_264 (lv_at hl 7 rfl) ?_
      refine lv_iload hx hb dX12_laysJoin_266 (lv_at hl 8 rfl) ?_
      refine lv_lload hx hb dX12_laysJoin_268 (lv_at hl 0 rfl) ?_
      refine lv_lload hx hb dX12_laysJoin_270 (lv_at hl 1 rfl) ?_
      refine lv_lmul hx hb dX12_laysJoin_272 ?_
      refine lv_lload hx hb dX12_laysJoin_273 (lv_at hl 2 rfl) ?_
      refine lv_lload hx hb dX12_laysJoin_275 (lv_at hl 2 rfl) ?_
      refine lv_lmul hx hb dX12_laysJoin_277 ?_
      refine lv_lload hx hb dX12_laysJoin_278 (lv_at hl 1 rfl) ?_
      refine lv_lload hx hb dX12_laysJoin_280 (lv_at hl 1 rfl) ?_
      refine lv_lmul hx hb dX12_laysJoin_282 ?_
      refine lv_ladd hx hb dX12_laysJoin_283 ?_
      obtain ⟨u_21, hu_21, hF⟩ := obd_some hF
      have hPc := hP.sub (ws' := ([] : va_W)) [] rfl
      have hDc := hD.sub (ws' := ([] : va_W)) [] rfl rfl
      refine q_calli (wc := ([] : va_W)) (w1 := ([] : va_W)) (ws' := (wd_X12_laysJoin cI a0 v0_2 v0_3 v0_5 v0_12 v0_13 v0_16 v0_17 v0_21 u_5.1 v0_24 v0_25 v0_26 v0_29 v0_30 v0_0 v0_6 v0_7 v0_8 v0_9 v0_10 u_9)) hP hD hS hA [] [0, 1, 2, 3, 4, 5, 6, 7] [0, 1, 2, 3, 4, 5, 6, 7] rfl rfl rfl (by decide) rfl rfl (va_runS (As := [.long (y_19 * y_16), .long ((y_13 * y_13) + (y_16 * y_16))]) (rest := [.int x7, .int x6, .int (x5 + (x7 * u_20)), .int 2, .ref (a0 0)]) ⟨hx, hb, hml, hown, hta⟩ (c_X12_round l dC dI cI H.size (y_19 * y_16) ((y_13 * y_13) + (y_16 * y_16)) u_21 hu_21) (va_cwS 2 hta (ga_S mA902 mA903 mA814 mA815) rfl rfl rfl (by decide +kernel) ⟨Nat.le_of_ble_eq_true rfl, Nat.le_of_ble_eq_true rfl⟩) ⟨q_fb, q_ps hPc hK hDc⟩ rfl rfl hl.1 rfl (lv_room (Nat.le_of_ble_eq_true rfl)) dX12_laysJoin_284 ⟨Nat.zero_le _, Nat.zero_le _⟩) (fun H locs hP hD hS => ?_)
      refine lv_imul hx hb dX12_laysJoin_287 ?_
      refine lv_iadd hx hb dX12_laysJoin_288 ?_
      obtain ⟨u_22, hu_22, hF⟩ := obd_some hF
      have hPc := hP.sub (ws' := (wd_X12_corners cI a0 v0_2 v0_3 v0_5 v0_12 v0_13 v0_16 v0_17 v0_21 u_5.1 v0_24 v0_25 v0_26 v0_29 v0_30 u_9)) [0, 7] rfl
      have hDc := hD.sub (ws' := (wd_X12_corners cI a0 v0_2 v0_3 v0_5 v0_12 v0_13 v0_16 v0_17 v0_21 u_5.1 v0_24 v0_25 v0_26 v0_29 v0_30 u_9)) [0, 7] rfl rfl
      refine q_callv (wc := (wd_X12_corners cI a0 v0_2 v0_3 v0_5 v0_12 v0_13 v0_16 v0_17 v0_21 u_5.1 v0_24 v0_25 v0_26 v0_29 v0_30 u_9)) (w1 := (wd_X12_corners cI a0 v0_2 v0_3 v0_5 v0_12 v0_13 v0_16 v0_17 v0_21 u_5.1 v0_24 v0_25 v0_26 v0_29 v0_30 u_22)) (ws' := (wd_X12_laysJoin cI a0 v0_2 v0_3 v0_5 v0_12 v0_13 v0_16 v0_17 v0_21 u_5.1 v0_24 v0_25 v0_26 v0_29 v0_30 v0_0 v0_6 v0_7 v0_8 v0_9 v0_10 u_22)) hP hD hS hA [0, 7] [1, 2, 3, 4, 5, 6] [6, 0, 1, 2, 3, 4, 5, 7] rfl rfl rfl (by decide) rfl rfl (va_runV (As := [.int 2, .int (x5 + (x7 * u_20)), .int (x6 + (x7 * u_21))]) (rest := []) ⟨hx, hb, hml, hown, hta⟩ (c_X12_corners l dC dI cI H.size a0 v0_2 v0_3 v0_5 v0_12 v0_13 v0_16 v0_17 v0_21 u_5.1 v0_24 v0_25 v0_26 v0_29 v0_30 u_9 2 (x5 + (x7 * u_20)) (x6 + (x7 * u_21)) u_22 hu_22) (cwV 3 hta (ga_V mA967 mA968 mA969 mA814 mA954) rfl rfl rfl (by decide +kernel) ⟨Nat.le_of_ble_eq_true rfl, Nat.le_of_ble_eq_true rfl⟩) ⟨q_fb, va_recv hK hP (ci := 11) (q0 := 0) rfl rfl, q_ps hPc hK hDc⟩ rfl rfl hl.1 rfl (lv_room (Nat.le_of_ble_eq_true rfl)) dX12_laysJoin_289 ⟨Nat.zero_le _, Nat.zero_le _⟩) (fun H locs hP hD hS => ?_)
      exact j292 u_5.1 u_22 x2 x5 x6 x7 x8 hF _ _ _ hP hD hS (lv_sub hl [3, 5, 6, 7, 8, 9] rfl)
  have j127 : ∀ (v0_23 : Int32) (v0_22 : Nat → Int32) (x1 : Int32) (x2 : Int32) (x5 : Int32) (x6 : Int32) (t0 : Int32), F_X12_laysJoin_j127 v0_23 v0_0 v0_6 v0_7 v0_10 v0_22 x1 x2 x5 x6 t0 = some u → ∀ (H : Heap) (locs : List Loc) (ls : Array Slot), va_P (dC, dI) vwCl (wd_X12_laysJoin cI a0 v0_2 v0_3 v0_5 v0_12 v0_13 v0_16 v0_17 v0_21 v0_23 v0_24 v0_25 v0_26 v0_29 v0_30 v0_0 v0_6 v0_7 v0_8 v0_9 v0_10 v0_22) H → va_D A (wd_X12_laysJoin cI a0 v0_2 v0_3 v0_5 v0_12 v0_13 v0_16 v0_17 v0_21 v0_23 v0_24 v0_25 v0_26 v0_29 v0_30 v0_0 v0_6 v0_7 v0_8 v0_9 v0_10 v0_22) → va_S A s.heap H locs → lv_has ls 15 [(0, .ref (a0 0)), (1, .int x1), (2, .int x2), (5, .int x5), (6, .int x6)] → W p l e (headSpec wz_X12_laysJoin rm_X12_laysJoin).room s m [.ref (a0 0), .int p1, .int p2].toArray below meth c H locs 0 0 (MQ below (Q_X12_laysJoin dC dI cI a0 v0_2 v0_3 v0_5 v0_12 v0_13 v0_16 v0_17 v0_21 v0_24 v0_25 v0_26 v0_29 v0_30 v0_0 v0_6 v0_7 v0_8 v0_9 v0_10 u A) [.ref (a0 0), .int p1, .int p2].toArray s 0 0 A) (F0 m 127 ls [.int t0]) := by
    intro v0_23 v0_22 x1 x2 x5 x6 t0 hF H locs ls hP hD hS hl
    unfold F_X12_laysJoin_j127 at hF
    refine lv_istore (lv' := [(7, .int t0), (0, .ref (a0 0)), (1, .int x1), (2, .int x2), (5, .int x5), (6, .int x6)]) hx hb dX12_laysJoin_127 hl (by decide) rfl (fun ls hl => ?_)
    refine lv_aload_n hx hb dX12_laysJoin_129 rfl (lv_at hl 1 rfl) ?_
    refine lv_iload_n hx hb dX12_laysJoin_130 rfl (lv_at hl 2 rfl) ?_
    refine lv_iload_n hx hb dX12_laysJoin_131 rfl (lv_at hl 3 rfl) ?_
    obtain ⟨u_23, hu_23, hF⟩ := obd_some hF
    have hPc := hP.sub (ws' := (wd_X12_isMiter cI a0 v0_2 v0_3 v0_5 v0_12 v0_13 v0_16 v0_17 v0_21 v0_23 v0_24 v0_25 v0_26 v0_29 v0_30 v0_0 v0_6 v0_7)) [0, 1, 2, 3] rfl
    have hDc := hD.sub (ws' := (wd_X12_isMiter cI a0 v0_2 v0_3 v0_5 v0_12 v0_13 v0_16 v0_17 v0_21 v0_23 v0_24 v0_25 v0_26 v0_29 v0_30 v0_0 v0_6 v0_7)) [0, 1, 2, 3] rfl rfl
    refine q_callz (wc := (wd_X12_isMiter cI a0 v0_2 v0_3 v0_5 v0_12 v0_13 v0_16 v0_17 v0_21 v0_23 v0_24 v0_25 v0_26 v0_29 v0_30 v0_0 v0_6 v0_7)) (w1 := (wd_X12_isMiter cI a0 v0_2 v0_3 v0_5 v0_12 v0_13 v0_16 v0_17 v0_21 v0_23 v0_24 v0_25 v0_26 v0_29 v0_30 v0_0 v0_6 v0_7)) (ws' := (wd_X12_laysJoin cI a0 v0_2 v0_3 v0_5 v0_12 v0_13 v0_16 v0_17 v0_21 v0_23 v0_24 v0_25 v0_26 v0_29 v0_30 v0_0 v0_6 v0_7 v0_8 v0_9 v0_10 v0_22)) hP hD hS hA [0, 1, 2, 3] [4, 5, 6, 7] [4, 5, 6, 7, 0, 1, 2, 3] rfl rfl rfl (by decide) rfl rfl (va_runV (As := [.int x1, .int x2]) (rest := []) ⟨hx, hb, hml, hown, hta⟩ (c_X12_isMiter l dC dI cI H.size a0 v0_2 v0_3 v0_5 v0_12 v0_13 v0_16 v0_17 v0_21 v0_23 v0_24 v0_25 v0_26 v0_29 v0_30 v0_0 v0_6 v0_7 x1 x2 u_23 hu_23) (cwV 2 hta (ga_V mA985 mA986 mA987 mA814 mA978) rfl rfl rfl (by decide +kernel) ⟨Nat.le_of_ble_eq_true rfl, Nat.le_of_ble_eq_true rfl⟩) ⟨q_fb, va_recv hK hP (ci := 11) (q0 := 0) rfl rfl, q_ps hPc hK hDc⟩ rfl rfl hl.1 rfl (lv_room (Nat.le_of_ble_eq_true rfl)) dX12_laysJoin_132 ⟨Nat.zero_le _, Nat.zero_le _⟩) (fun hzu_23 H locs hP hD hS => ?_)
    refine lv_istore (lv' := [(8, .int u_23), (7, .int t0), (0, .ref (a0 0)), (1, .int x1), (2, .int x2), (5, .int x5), (6, .int x6)]) hx hb dX12_laysJoin_135 hl (by decide) rfl (fun ls hl => ?_)
    refine lv_aload_n hx hb dX12_laysJoin_137 rfl (lv_at hl 2 rfl) ?_
    refine lv_iload hx hb dX12_laysJoin_138 (lv_at hl 0 rfl) ?_
    refine lv_if_eq (tgt := 147) hx hb dX12_laysJoin_140 (by decide) (fun c_24 => ?_) (fun c_24 => ?_)
    · have hF := it_t hF c_24
      refine lv_iconst (v := 2) hx hb dX12_laysJoin_147 (by decide) ?_
      exact j148 v0_23 v0_22 x1 x2 x5 x6 t0 u_23 2 hF _ _ _ hP hD hS (lv_sub hl [2, 3, 4, 5, 6, 1, 0] rfl)
    · have hF := it_f hF c_24
      refine lv_iconst (v := 1) hx hb dX12_laysJoin_143 (by decide) ?_
      refine lv_goto (tgt := 148) hx hb dX12_laysJoin_144 (by decide) ?_
      exact j148 v0_23 v0_22 x1 x2 x5 x6 t0 u_23 1 hF _ _ _ hP hD hS (lv_sub hl [2, 3, 4, 5, 6, 1, 0] rfl)
  have j99 : ∀ (v0_23 : Int32) (v0_22 : Nat → Int32) (x1 : Int32) (x2 : Int32) (x3 : Int32) (x5 : Int32) (x6 : Int32), F_X12_laysJoin_j99 v0_23 v0_0 v0_6 v0_7 v0_10 v0_22 x1 x2 x3 x5 x6 = some u → ∀ (H : Heap) (locs : List Loc) (ls : Array Slot), va_P (dC, dI) vwCl (wd_X12_laysJoin cI a0 v0_2 v0_3 v0_5 v0_12 v0_13 v0_16 v0_17 v0_21 v0_23 v0_24 v0_25 v0_26 v0_29 v0_30 v0_0 v0_6 v0_7 v0_8 v0_9 v0_10 v0_22) H → va_D A (wd_X12_laysJoin cI a0 v0_2 v0_3 v0_5 v0_12 v0_13 v0_16 v0_17 v0_21 v0_23 v0_24 v0_25 v0_26 v0_29 v0_30 v0_0 v0_6 v0_7 v0_8 v0_9 v0_10 v0_22) → va_S A s.heap H locs → lv_has ls 15 [(0, .ref (a0 0)), (1, .int x1), (2, .int x2), (3, .int x3), (5, .int x5), (6, .int x6)] → W p l e (headSpec wz_X12_laysJoin rm_X12_laysJoin).room s m [.ref (a0 0), .int p1, .int p2].toArray below meth c H locs 0 0 (MQ below (Q_X12_laysJoin dC dI cI a0 v0_2 v0_3 v0_5 v0_12 v0_13 v0_16 v0_17 v0_21 v0_24 v0_25 v0_26 v0_29 v0_30 v0_0 v0_6 v0_7 v0_8 v0_9 v0_10 u A) [.ref (a0 0), .int p1, .int p2].toArray s 0 0 A) (F0 m 99 ls []) := by
    intro v0_23 v0_22 x1 x2 x3 x5 x6 hF H locs ls hP hD hS hl
    unfold F_X12_laysJoin_j99 at hF
    refine lv_aload_n hx hb dX12_laysJoin_99 rfl (lv_at hl 0 rfl) ?_
    refine va_get (D := (dC, dI)) (ci := 11) (v := .ref (a0 1)) (C := RX12) (T := TX12) (N := 31) hx hb hta uw_X12 hown hK hP 0 rfl rfl 0 (by decide) (hta _ mA790) (fun _ h9 => h9) rfl dX12_laysJoin_100 ?_
    refine lv_iconst (v := 1) hx hb dX12_laysJoin_103 (by decide) ?_
    obtain ⟨g_25, hF⟩ := gd_some hF
    refine va_iald hx hb hK hP 1 0 rfl rfl (vpi_in g_25) dX12_laysJoin_104 ?_
    refine lv_iconst (v := 1) hx hb dX12_laysJoin_105 (by decide) ?_
    refine lv_icmp_ne (tgt := 118) hx hb dX12_laysJoin_106 (by decide) (fun c_26 => ?_) (fun c_26 => ?_)
    · have hF := it_f hF c_26
      refine lv_iload_n hx hb dX12_laysJoin_118 rfl (lv_at hl 3 rfl) ?_
      refine lv_if_le (tgt := 126) hx hb dX12_laysJoin_119 (by decide) (fun c_27 => ?_) (fun c_27 => ?_)
      · have hF := it_t hF c_27
        refine lv_iconst (v := 1) hx hb dX12_laysJoin_126 (by decide) ?_
        exact j127 v0_23 v0_22 x1 x2 x5 x6 1 hF _ _ _ hP hD hS (lv_sub hl [0, 1, 2, 4, 5] rfl)
      · have hF := it_f hF c_27
        refine lv_iconst (v := (-1)) hx hb dX12_laysJoin_122 (by decide) ?_
        refine lv_goto (tgt := 127) hx hb dX12_laysJoin_123 (by decide) ?_
        exact j127 v0_23 v0_22 x1 x2 x5 x6 (-1) hF _ _ _ hP hD hS (lv_sub hl [0, 1, 2, 4, 5] rfl)
    · have hF := it_t hF c_26
      refine lv_aload_n hx hb dX12_laysJoin_109 rfl (lv_at hl 0 rfl) ?_
      refine lv_iload hx hb dX12_laysJoin_110 (lv_at hl 4 rfl) ?_
      refine lv_iload hx hb dX12_laysJoin_112 (lv_at hl 5 rfl) ?_
      obtain ⟨u_28, hu_28, hF⟩ := obd_some hF
      have hPc := hP.sub (ws' := (wd_X12_laysDisc cI a0 v0_2 v0_3 v0_5 v0_12 v0_13 v0_16 v0_17 v0_21 v0_23 v0_24 v0_25 v0_26 v0_29 v0_30 v0_22)) [0, 7] rfl
      have hDc := hD.sub (ws' := (wd_X12_laysDisc cI a0 v0_2 v0_3 v0_5 v0_12 v0_13 v0_16 v0_17 v0_21 v0_23 v0_24 v0_25 v0_26 v0_29 v0_30 v0_22)) [0, 7] rfl rfl
      refine q_callv (wc := (wd_X12_laysDisc cI a0 v0_2 v0_3 v0_5 v0_12 v0_13 v0_16 v0_17 v0_21 v0_23 v0_24 v0_25 v0_26 v0_29 v0_30 v0_22)) (w1 := (wd_X12_laysDisc cI a0 v0_2 v0_3 v0_5 v0_12 v0_13 v0_16 v0_17 v0_21 u_28.1 v0_24 v0_25 v0_26 v0_29 v0_30 u_28.2)) (ws' := (wd_X12_laysJoin cI a0 v0_2 v0_3 v0_5 v0_12 v0_13 v0_16 v0_17 v0_21 u_28.1 v0_24 v0_25 v0_26 v0_29 v0_30 v0_0 v0_6 v0_7 v0_8 v0_9 v0_10 u_28.2)) hP hD hS hA [0, 7] [1, 2, 3, 4, 5, 6] [6, 0, 1, 2, 3, 4, 5, 7] rfl rfl rfl (by decide) rfl rfl (va_runV (As := [.int x5, .int x6]) (rest := []) ⟨hx, hb, hml, hown, hta⟩ (c_X12_laysDisc l dC dI cI H.size a0 v0_2 v0_3 v0_5 v0_12 v0_13 v0_16 v0_17 v0_21 v0_23 v0_24 v0_25 v0_26 v0_29 v0_30 v0_22 x5 x6 u_28 hu_28) (cwV 2 hta (ga_V mA982 mA983 mA984 mA814 mA963) rfl rfl rfl (by decide +kernel) ⟨Nat.le_of_ble_eq_true rfl, Nat.le_of_ble_eq_true rfl⟩) ⟨q_fb, va_recv hK hP (ci := 11) (q0 := 0) rfl rfl, q_ps hPc hK hDc⟩ rfl rfl hl.1 rfl (lv_room (Nat.le_of_ble_eq_true rfl)) dX12_laysJoin_114 ⟨Nat.zero_le _, Nat.zero_le _⟩) (fun H locs hP hD hS => ?_)
      obtain rfl := Option.some.inj hF
      exact W.vret hx hb hr (fun t ht hW => ⟨⟨(), rfl, trivial, by rw [ht]; exact hP, va_K.moved hW.alike hK, hD⟩, hS.F ht⟩) hS.2.2 dX12_laysJoin_117
  refine lv_aload_n hx hb dX12_laysJoin_0 rfl (lv_at hl 0 rfl) ?_
  refine va_get (D := (dC, dI)) (ci := 11) (v := .ref (a0 7)) (C := RX12) (T := TX12) (N := 31) hx hb hta uw_X12 hown hK hP 0 rfl rfl 6 (by decide) (hta _ mA793) (fun _ h9 => h9) rfl dX12_laysJoin_1 ?_
  refine lv_iload_n hx hb dX12_laysJoin_4 rfl (lv_at hl 1 rfl) ?_
  obtain ⟨g_29, hF⟩ := gd_some hF
  refine va_iald hx hb hK hP 2 0 rfl rfl (vpi_in g_29) dX12_laysJoin_5 ?_
  refine lv_aload_n hx hb dX12_laysJoin_6 rfl (lv_at hl 0 rfl) ?_
  refine va_get (D := (dC, dI)) (ci := 11) (v := .ref (a0 8)) (C := RX12) (T := TX12) (N := 31) hx hb hta uw_X12 hown hK hP 0 rfl rfl 7 (by decide) (hta _ mA794) (fun _ h9 => h9) rfl dX12_laysJoin_7 ?_
  refine lv_iload_n hx hb dX12_laysJoin_10 rfl (lv_at hl 2 rfl) ?_
  obtain ⟨g_30, hF⟩ := gd_some hF
  refine va_iald hx hb hK hP 3 0 rfl rfl (vpi_in g_30) dX12_laysJoin_11 ?_
  refine lv_imul hx hb dX12_laysJoin_12 ?_
  refine lv_aload_n hx hb dX12_laysJoin_13 rfl (lv_at hl 0 rfl) ?_
  refine va_get (D := (dC, dI)) (ci := 11) (v := .ref (a0 8)) (C := RX12) (T := TX12) (N := 31) hx hb hta uw_X12 hown hK hP 0 rfl rfl 7 (by decide) (hta _ mA794) (fun _ h9 => h9) rfl dX12_laysJoin_14 ?_
  refine lv_iload_n hx hb dX12_laysJoin_17 rfl (lv_at hl 1 rfl) ?_
  obtain ⟨g_31, hF⟩ := gd_some hF
  refine va_iald hx hb hK hP 3 0 rfl rfl (vpi_in g_31) dX12_laysJoin_18 ?_
  refine lv_aload_n hx hb dX12_laysJoin_19 rfl (lv_at hl 0 rfl) ?_
  refine va_get (D := (dC, dI)) (ci := 11) (v := .ref (a0 7)) (C := RX12) (T := TX12) (N := 31) hx hb hta uw_X12 hown hK hP 0 rfl rfl 6 (by decide) (hta _ mA793) (fun _ h9 => h9) rfl dX12_laysJoin_20 ?_
  refine lv_iload_n hx hb dX12_laysJoin_23 rfl (lv_at hl 2 rfl) ?_
  obtain ⟨g_32, hF⟩ := gd_some hF
  refine va_iald hx hb hK hP 2 0 rfl rfl (vpi_in g_32) dX12_laysJoin_24 ?_
  refine lv_imul hx hb dX12_laysJoin_25 ?_
  refine lv_isub hx hb dX12_laysJoin_26 ?_
  obtain ⟨y_33, ey_33, hF⟩ := lt_some hF
  refine lv_eqi ey_33 ?_
  refine lv_istore_n (lv' := [(3, .int y_33), (0, .ref (a0 0)), (1, .int p1), (2, .int p2)]) hx hb dX12_laysJoin_27 rfl hl (by decide) rfl (fun ls hl => ?_)
  refine lv_aload_n hx hb dX12_laysJoin_28 rfl (lv_at hl 1 rfl) ?_
  refine va_get (D := (dC, dI)) (ci := 11) (v := .ref (a0 7)) (C := RX12) (T := TX12) (N := 31) hx hb hta uw_X12 hown hK hP 0 rfl rfl 6 (by decide) (hta _ mA793) (fun _ h9 => h9) rfl dX12_laysJoin_29 ?_
  refine lv_iload_n hx hb dX12_laysJoin_32 rfl (lv_at hl 2 rfl) ?_
  obtain ⟨g_34, hF⟩ := gd_some hF
  refine va_iald hx hb hK hP 2 0 rfl rfl (vpi_in g_34) dX12_laysJoin_33 ?_
  refine lv_aload_n hx hb dX12_laysJoin_34 rfl (lv_at hl 1 rfl) ?_
  refine va_get (D := (dC, dI)) (ci := 11) (v := .ref (a0 7)) (C := RX12) (T := TX12) (N := 31) hx hb hta uw_X12 hown hK hP 0 rfl rfl 6 (by decide) (hta _ mA793) (fun _ h9 => h9) rfl dX12_laysJoin_35 ?_
  refine lv_iload_n hx hb dX12_laysJoin_38 rfl (lv_at hl 3 rfl) ?_
  obtain ⟨g_35, hF⟩ := gd_some hF
  refine va_iald hx hb hK hP 2 0 rfl rfl (vpi_in g_35) dX12_laysJoin_39 ?_
  refine lv_imul hx hb dX12_laysJoin_40 ?_
  refine lv_aload_n hx hb dX12_laysJoin_41 rfl (lv_at hl 1 rfl) ?_
  refine va_get (D := (dC, dI)) (ci := 11) (v := .ref (a0 8)) (C := RX12) (T := TX12) (N := 31) hx hb hta uw_X12 hown hK hP 0 rfl rfl 7 (by decide) (hta _ mA794) (fun _ h9 => h9) rfl dX12_laysJoin_42 ?_
  refine lv_iload_n hx hb dX12_laysJoin_45 rfl (lv_at hl 2 rfl) ?_
  obtain ⟨g_36, hF⟩ := gd_some hF
  refine va_iald hx hb hK hP 3 0 rfl rfl (vpi_in g_36) dX12_laysJoin_46 ?_
  refine lv_aload_n hx hb dX12_laysJoin_47 rfl (lv_at hl 1 rfl) ?_
  refine va_get (D := (dC, dI)) (ci := 11) (v := .ref (a0 8)) (C := RX12) (T := TX12) (N := 31) hx hb hta uw_X12 hown hK hP 0 rfl rfl 7 (by decide) (hta _ mA794) (fun _ h9 => h9) rfl dX12_laysJoin_48 ?_
  refine lv_iload_n hx hb dX12_laysJoin_51 rfl (lv_at hl 3 rfl) ?_
  obtain ⟨g_37, hF⟩ := gd_some hF
  refine va_iald hx hb hK hP 3 0 rfl rfl (vpi_in g_37) dX12_laysJoin_52 ?_
  refine lv_imul hx hb dX12_laysJoin_53 ?_
  refine lv_iadd hx hb dX12_laysJoin_54 ?_
  obtain ⟨y_38, ey_38, hF⟩ := lt_some hF
  refine lv_eqi ey_38 ?_
  refine lv_istore (lv' := [(4, .int y_38), (3, .int y_33), (0, .ref (a0 0)), (1, .int p1), (2, .int p2)]) hx hb dX12_laysJoin_55 hl (by decide) rfl (fun ls hl => ?_)
  refine lv_bipush (v := 64) hx hb dX12_laysJoin_57 (by decide) ?_
  refine lv_aload_n hx hb dX12_laysJoin_59 rfl (lv_at hl 2 rfl) ?_
  refine va_get (D := (dC, dI)) (ci := 11) (v := .ref (a0 9)) (C := RX12) (T := TX12) (N := 31) hx hb hta uw_X12 hown hK hP 0 rfl rfl 8 (by decide) (hta _ mA795) (fun _ h9 => h9) rfl dX12_laysJoin_60 ?_
  refine lv_iload_n hx hb dX12_laysJoin_63 rfl (lv_at hl 4 rfl) ?_
  obtain ⟨g_39, hF⟩ := gd_some hF
  refine va_iald hx hb hK hP 4 0 rfl rfl (vpi_in g_39) dX12_laysJoin_64 ?_
  refine lv_imul hx hb dX12_laysJoin_65 ?_
  obtain ⟨y_40, ey_40, hF⟩ := lt_some hF
  refine lv_eqi ey_40 ?_
  refine lv_istore (lv' := [(5, .int y_40), (4, .int y_38), (3, .int y_33), (0, .ref (a0 0)), (1, .int p1), (2, .int p2)]) hx hb dX12_laysJoin_66 hl (by decide) rfl (fun ls hl => ?_)
  refine lv_bipush (v := 64) hx hb dX12_laysJoin_68 (by decide) ?_
  refine lv_aload_n hx hb dX12_laysJoin_70 rfl (lv_at hl 3 rfl) ?_
  refine va_get (D := (dC, dI)) (ci := 11) (v := .ref (a0 10)) (C := RX12) (T := TX12) (N := 31) hx hb hta uw_X12 hown hK hP 0 rfl rfl 9 (by decide) (hta _ mA796) (fun _ h9 => h9) rfl dX12_laysJoin_71 ?_
  refine lv_iload_n hx hb dX12_laysJoin_74 rfl (lv_at hl 5 rfl) ?_
  obtain ⟨g_41, hF⟩ := gd_some hF
  refine va_iald hx hb hK hP 5 0 rfl rfl (vpi_in g_41) dX12_laysJoin_75 ?_
  refine lv_imul hx hb dX12_laysJoin_76 ?_
  obtain ⟨y_42, ey_42, hF⟩ := lt_some hF
  refine lv_eqi ey_42 ?_
  refine lv_istore (lv' := [(6, .int y_42), (5, .int y_40), (4, .int y_38), (3, .int y_33), (0, .ref (a0 0)), (1, .int p1), (2, .int p2)]) hx hb dX12_laysJoin_77 hl (by decide) rfl (fun ls hl => ?_)
  refine lv_iload_n hx hb dX12_laysJoin_79 rfl (lv_at hl 3 rfl) ?_
  refine lv_if_ne (tgt := 99) hx hb dX12_laysJoin_80 (by decide) (fun c_43 => ?_) (fun c_43 => ?_)
  · have hF := it_f hF c_43
    exact j99 v0_23 v0_22 p1 p2 y_33 y_40 y_42 hF _ _ _ hP hD hS (lv_sub hl [4, 5, 6, 3, 1, 0] rfl)
  · have hF := it_t hF c_43
    refine lv_iload hx hb dX12_laysJoin_83 (lv_at hl 2 rfl) ?_
    refine lv_if_gt (tgt := 98) hx hb dX12_laysJoin_85 (by decide) (fun c_44 => ?_) (fun c_44 => ?_)
    · have hF := it_t hF c_44
      obtain rfl := Option.some.inj hF
      exact W.vret hx hb hr (fun t ht hW => ⟨⟨(), rfl, trivial, by rw [ht]; exact hP, va_K.moved hW.alike hK, hD⟩, hS.F ht⟩) hS.2.2 dX12_laysJoin_98
    · have hF := it_f hF c_44
      refine lv_aload_n hx hb dX12_laysJoin_88 rfl (lv_at hl 4 rfl) ?_
      refine va_get (D := (dC, dI)) (ci := 11) (v := .ref (a0 1)) (C := RX12) (T := TX12) (N := 31) hx hb hta uw_X12 hown hK hP 0 rfl rfl 0 (by decide) (hta _ mA790) (fun _ h9 => h9) rfl dX12_laysJoin_89 ?_
      refine lv_iconst (v := 1) hx hb dX12_laysJoin_92 (by decide) ?_
      obtain ⟨g_45, hF⟩ := gd_some hF
      refine va_iald hx hb hK hP 1 0 rfl rfl (vpi_in g_45) dX12_laysJoin_93 ?_
      refine lv_iconst (v := 1) hx hb dX12_laysJoin_94 (by decide) ?_
      refine lv_icmp_eq (tgt := 99) hx hb dX12_laysJoin_95 (by decide) (fun c_46 => ?_) (fun c_46 => ?_)
      · have hF := it_t hF c_46
        exact j99 v0_23 v0_22 p1 p2 y_33 y_40 y_42 hF _ _ _ hP hD hS (lv_sub hl [4, 5, 6, 3, 1, 0] rfl)
      · have hF := it_f hF c_46
        obtain rfl := Option.some.inj hF
        exact W.vret hx hb hr (fun t ht hW => ⟨⟨(), rfl, trivial, by rw [ht]; exact hP, va_K.moved hW.alike hK, hD⟩, hS.F ht⟩) hS.2.2 dX12_laysJoin_98

-- StrokeOutlinerModel.laysCap(III)V
def F_X12_laysCap (v0_23 : Int32) (v0_0 : Nat → Int32) (v0_6 : Nat → Int32) (v0_7 : Nat → Int32) (v0_8 : Nat → Int32) (v0_9 : Nat → Int32) (v0_10 : Nat → Int32) (v0_22 : Nat → Int32) (p1 : Int32) (p2 : Int32) (p3 : Int32) : Option (Int32 × (Nat → Int32)) :=
  obd (F_X12_alongX v0_6 v0_8 v0_10 p1 p2) (fun u_1 => obd (F_X12_alongY v0_7 v0_9 v0_10 p1 p2) (fun u_2 => gd (decide (vpi 3 86)) (if (v0_0 (3 : Int32).toNatClampNeg) = 1 then obd (F_X12_laysDisc v0_23 v0_22 u_1 u_2) (fun u_18 => some (u_18.1, u_18.2)) else gd (decide (vpi 3 86)) (if (v0_0 (3 : Int32).toNatClampNeg) = 2 then obd (F_X12_normalX v0_0 v0_7 v0_10 p1) (fun u_7 => obd (F_X12_normalY v0_0 v0_6 v0_10 p1) (fun u_8 => obd (F_X12_edgeX v0_0 v0_6 v0_10 p1) (fun u_9 => lt (p3 * u_9) (fun y_10 => obd (F_X12_edgeY v0_0 v0_7 v0_10 p1) (fun u_11 => lt (p3 * u_11) (fun y_12 => obd (F_X12_begin v0_23 v0_22 4) (fun u_13 => obd (F_X12_corners u_13.1 u_13.2 0 (u_1 + u_7) (u_2 + u_8)) (fun u_14 => obd (F_X12_corners u_13.1 u_14 1 ((u_1 + u_7) + y_10) ((u_2 + u_8) + y_12)) (fun u_15 => obd (F_X12_corners u_13.1 u_15 2 ((u_1 - u_7) + y_10) ((u_2 - u_8) + y_12)) (fun u_16 => obd (F_X12_corners u_13.1 u_16 3 (u_1 - u_7) (u_2 - u_8)) (fun u_17 => some (u_13.1, u_17)))))))))))) else some (v0_23, v0_22)))))
abbrev wd_X12_laysCap (cI : ClassId) (a0 : Nat → Nat) (v0_2 : Int32) (v0_3 : Int32) (v0_5 : Int32) (v0_12 : Int32) (v0_13 : Int32) (v0_16 : Int32) (v0_17 : Int32) (v0_21 : Int32) (v0_23 : Int32) (v0_24 : Int32) (v0_25 : Int32) (v0_26 : Int32) (v0_29 : Int32) (v0_30 : Int64) (v0_0 : Nat → Int32) (v0_6 : Nat → Int32) (v0_7 : Nat → Int32) (v0_8 : Nat → Int32) (v0_9 : Nat → Int32) (v0_10 : Nat → Int32) (v0_22 : Nat → Int32) : va_W := [(a0 0, .inr (11, [.ref (a0 1), .ref (a0 2), .int v0_2, .int v0_3, .ref (a0 5), .int v0_5, .ref (a0 7), .ref (a0 8), .ref (a0 9), .ref (a0 10), .ref (a0 11), .ref (a0 12), .int v0_12, .int v0_13, .ref (a0 15), .ref (a0 16), .int v0_16, .int v0_17, .ref (a0 19), .ref (a0 20), .ref (a0 21), .int v0_21, .ref (a0 23), .int v0_23, .int v0_24, .int v0_25, .int v0_26, .ref (a0 28), .ref (a0 29), .int v0_29, .long v0_30])), (a0 1, .inl (cI, 86, .inl v0_0)), (a0 7, .inl (cI, 8, .inl v0_6)), (a0 8, .inl (cI, 8, .inl v0_7)), (a0 9, .inl (cI, 8, .inl v0_8)), (a0 10, .inl (cI, 8, .inl v0_9)), (a0 11, .inl (cI, 8, .inl v0_10)), (a0 23, .inl (cI, 27000, .inl v0_22))]
abbrev wz_X12_laysCap : List Cond := .code yX12_laysCap cX12_laysCap 10 none :: wALL
abbrev rm_X12_laysCap : Room := { frames := 2, cells := 0, slots := 0, locals := 49 }
abbrev Q_X12_laysCap (dC : Nat → ClassId) (dI : Nat → Nat → Nat) (cI : ClassId) (a0 : Nat → Nat) (v0_2 : Int32) (v0_3 : Int32) (v0_5 : Int32) (v0_12 : Int32) (v0_13 : Int32) (v0_16 : Int32) (v0_17 : Int32) (v0_21 : Int32) (v0_24 : Int32) (v0_25 : Int32) (v0_26 : Int32) (v0_29 : Int32) (v0_30 : Int64) (v0_0 : Nat → Int32) (v0_6 : Nat → Int32) (v0_7 : Nat → Int32) (v0_8 : Nat → Int32) (v0_9 : Nat → Int32) (v0_10 : Nat → Int32) (u : (Int32 × (Nat → Int32))) (A : Nat → Prop) : Array Value → State → Outcome → State → Prop := va_Qv (fun (_ : Unit) => True) (fun _ => q_at dC dI cI A (wd_X12_laysCap cI a0 v0_2 v0_3 v0_5 v0_12 v0_13 v0_16 v0_17 v0_21 u.1 v0_24 v0_25 v0_26 v0_29 v0_30 v0_0 v0_6 v0_7 v0_8 v0_9 v0_10 u.2)) A
set_option maxHeartbeats 4000000 in
set_option maxRecDepth 100000 in
theorem c_X12_laysCap (l : Launch) (dC : Nat → ClassId) (dI : Nat → Nat → Nat) (cI : ClassId) (sz : Nat) (a0 : Nat → Nat) (v0_2 : Int32) (v0_3 : Int32) (v0_5 : Int32) (v0_12 : Int32) (v0_13 : Int32) (v0_16 : Int32) (v0_17 : Int32) (v0_21 : Int32) (v0_23 : Int32) (v0_24 : Int32) (v0_25 : Int32) (v0_26 : Int32) (v0_29 : Int32) (v0_30 : Int64) (v0_0 : Nat → Int32) (v0_6 : Nat → Int32) (v0_7 : Nat → Int32) (v0_8 : Nat → Int32) (v0_9 : Nat → Int32) (v0_10 : Nat → Int32) (v0_22 : Nat → Int32) (p1 : Int32) (p2 : Int32) (p3 : Int32) (u : (Int32 × (Nat → Int32))) (hF : F_X12_laysCap v0_23 v0_0 v0_6 v0_7 v0_8 v0_9 v0_10 v0_22 p1 p2 p3 = some u) : Met l yX12_laysCap wz_X12_laysCap rm_X12_laysCap (va_Pc [.ref (a0 0), .int p1, .int p2, .int p3] (q_pre dC dI cI (wd_X12_laysCap cI a0 v0_2 v0_3 v0_5 v0_12 v0_13 v0_16 v0_17 v0_21 v0_23 v0_24 v0_25 v0_26 v0_29 v0_30 v0_0 v0_6 v0_7 v0_8 v0_9 v0_10 v0_22) sz)) (Q_X12_laysCap dC dI cI a0 v0_2 v0_3 v0_5 v0_12 v0_13 v0_16 v0_17 v0_21 v0_24 v0_25 v0_26 v0_29 v0_30 v0_0 v0_6 v0_7 v0_8 v0_9 v0_10 u (va_A (wd_X12_laysCap cI a0 v0_2 v0_3 v0_5 v0_12 v0_13 v0_16 v0_17 v0_21 v0_23 v0_24 v0_25 v0_26 v0_29 v0_30 v0_0 v0_6 v0_7 v0_8 v0_9 v0_10 v0_22) sz)) 0 0 (va_A (wd_X12_laysCap cI a0 v0_2 v0_3 v0_5 v0_12 v0_13 v0_16 v0_17 v0_21 v0_23 v0_24 v0_25 v0_26 v0_29 v0_30 v0_0 v0_6 v0_7 v0_8 v0_9 v0_10 v0_22) sz) := by
  refine Met.ofW (cc := cX12_laysCap) (maxL := 10) (ret := none) (by decide) rfl ?_
  intro p e s m args below meth c s₁ B hml hv
  obtain ⟨rfl, hsz, hP, hK, hD0⟩ := hv
  have hx := B.exec
  have hb := B.bytes
  have hr := B.returns
  have hts := atoms_spec (ws := wz_X12_laysCap) B.pre
  have hta := wz_tl hts
  have hown : s.vm.findClass RX12 = some m.cls := findClass_of_methodNamed B.named
  have hlocks := B.notSynchronized
  subst hsz
  have hD := hD0.self (sz := s.heap.size)
  generalize hAe : va_A (wd_X12_laysCap cI a0 v0_2 v0_3 v0_5 v0_12 v0_13 v0_16 v0_17 v0_21 v0_23 v0_24 v0_25 v0_26 v0_29 v0_30 v0_0 v0_6 v0_7 v0_8 v0_9 v0_10 v0_22) s.heap.size = A at hD ⊢
  have hA : ∀ q : Nat, s.heap.size ≤ q → A q := fun q h => by rw [← hAe]; exact Or.inr h
  have hS : va_S A s.heap s.heap [] := va_S.rf
  have hP : va_P (dC, dI) vwCl (wd_X12_laysCap cI a0 v0_2 v0_3 v0_5 v0_12 v0_13 v0_16 v0_17 v0_21 v0_23 v0_24 v0_25 v0_26 v0_29 v0_30 v0_0 v0_6 v0_7 v0_8 v0_9 v0_10 v0_22) s.heap := hP
  have hl := lv_entry ([.ref (a0 0), .int p1, .int p2, .int p3]) (n := 10) (Nat.le_of_ble_eq_true rfl)
  rw [lg_entry_eq]
  generalize (lg_sl ([.ref (a0 0), .int p1, .int p2, .int p3]) ++ List.replicate (10 - (lg_sl ([.ref (a0 0), .int p1, .int p2, .int p3])).length) Slot.unset).toArray = ls at hl ⊢
  have hl : lv_has ls 10 [(0, .ref (a0 0)), (1, .int p1), (2, .int p2), (3, .int p3)] := hl
  obtain ⟨H, hHe⟩ : ∃ H, H = s.heap := ⟨_, rfl⟩
  have hS : va_S A s.heap H [] := by rw [hHe]; exact hS
  have hP : va_P (dC, dI) vwCl (wd_X12_laysCap cI a0 v0_2 v0_3 v0_5 v0_12 v0_13 v0_16 v0_17 v0_21 v0_23 v0_24 v0_25 v0_26 v0_29 v0_30 v0_0 v0_6 v0_7 v0_8 v0_9 v0_10 v0_22) H := by rw [hHe]; exact hP
  rw [← hHe]
  unfold F_X12_laysCap at hF
  refine lv_aload_n hx hb dX12_laysCap_0 rfl (lv_at hl 0 rfl) ?_
  refine lv_iload_n hx hb dX12_laysCap_1 rfl (lv_at hl 1 rfl) ?_
  refine lv_iload_n hx hb dX12_laysCap_2 rfl (lv_at hl 2 rfl) ?_
  obtain ⟨u_1, hu_1, hF⟩ := obd_some hF
  have hPc := hP.sub (ws' := (wd_X12_alongX cI a0 v0_2 v0_3 v0_5 v0_12 v0_13 v0_16 v0_17 v0_21 v0_23 v0_24 v0_25 v0_26 v0_29 v0_30 v0_6 v0_8 v0_10)) [0, 2, 4, 6] rfl
  have hDc := hD.sub (ws' := (wd_X12_alongX cI a0 v0_2 v0_3 v0_5 v0_12 v0_13 v0_16 v0_17 v0_21 v0_23 v0_24 v0_25 v0_26 v0_29 v0_30 v0_6 v0_8 v0_10)) [0, 2, 4, 6] rfl rfl
  refine q_calli (wc := (wd_X12_alongX cI a0 v0_2 v0_3 v0_5 v0_12 v0_13 v0_16 v0_17 v0_21 v0_23 v0_24 v0_25 v0_26 v0_29 v0_30 v0_6 v0_8 v0_10)) (w1 := (wd_X12_alongX cI a0 v0_2 v0_3 v0_5 v0_12 v0_13 v0_16 v0_17 v0_21 v0_23 v0_24 v0_25 v0_26 v0_29 v0_30 v0_6 v0_8 v0_10)) (ws' := (wd_X12_laysCap cI a0 v0_2 v0_3 v0_5 v0_12 v0_13 v0_16 v0_17 v0_21 v0_23 v0_24 v0_25 v0_26 v0_29 v0_30 v0_0 v0_6 v0_7 v0_8 v0_9 v0_10 v0_22)) hP hD hS hA [0, 2, 4, 6] [1, 3, 5, 7] [4, 0, 5, 1, 6, 2, 7, 3] rfl rfl rfl (by decide) rfl rfl (va_runV (As := [.int p1, .int p2]) (rest := []) ⟨hx, hb, hml, hown, hta⟩ (c_X12_alongX l dC dI cI H.size a0 v0_2 v0_3 v0_5 v0_12 v0_13 v0_16 v0_17 v0_21 v0_23 v0_24 v0_25 v0_26 v0_29 v0_30 v0_6 v0_8 v0_10 p1 p2 u_1 hu_1) (cwV 2 hta (ga_V mA915 mA916 mA917 mA814 mA900) rfl rfl rfl (by decide +kernel) ⟨Nat.le_of_ble_eq_true rfl, Nat.le_of_ble_eq_true rfl⟩) ⟨q_fb, va_recv hK hP (ci := 11) (q0 := 0) rfl rfl, q_ps hPc hK hDc⟩ rfl rfl hl.1 rfl (lv_room (Nat.le_of_ble_eq_true rfl)) dX12_laysCap_3 ⟨Nat.zero_le _, Nat.zero_le _⟩) (fun H locs hP hD hS => ?_)
  refine lv_istore (lv' := [(4, .int u_1), (0, .ref (a0 0)), (1, .int p1), (2, .int p2), (3, .int p3)]) hx hb dX12_laysCap_6 hl (by decide) rfl (fun ls hl => ?_)
  refine lv_aload_n hx hb dX12_laysCap_8 rfl (lv_at hl 1 rfl) ?_
  refine lv_iload_n hx hb dX12_laysCap_9 rfl (lv_at hl 2 rfl) ?_
  refine lv_iload_n hx hb dX12_laysCap_10 rfl (lv_at hl 3 rfl) ?_
  obtain ⟨u_2, hu_2, hF⟩ := obd_some hF
  have hPc := hP.sub (ws' := (wd_X12_alongY cI a0 v0_2 v0_3 v0_5 v0_12 v0_13 v0_16 v0_17 v0_21 v0_23 v0_24 v0_25 v0_26 v0_29 v0_30 v0_7 v0_9 v0_10)) [0, 3, 5, 6] rfl
  have hDc := hD.sub (ws' := (wd_X12_alongY cI a0 v0_2 v0_3 v0_5 v0_12 v0_13 v0_16 v0_17 v0_21 v0_23 v0_24 v0_25 v0_26 v0_29 v0_30 v0_7 v0_9 v0_10)) [0, 3, 5, 6] rfl rfl
  refine q_calli (wc := (wd_X12_alongY cI a0 v0_2 v0_3 v0_5 v0_12 v0_13 v0_16 v0_17 v0_21 v0_23 v0_24 v0_25 v0_26 v0_29 v0_30 v0_7 v0_9 v0_10)) (w1 := (wd_X12_alongY cI a0 v0_2 v0_3 v0_5 v0_12 v0_13 v0_16 v0_17 v0_21 v0_23 v0_24 v0_25 v0_26 v0_29 v0_30 v0_7 v0_9 v0_10)) (ws' := (wd_X12_laysCap cI a0 v0_2 v0_3 v0_5 v0_12 v0_13 v0_16 v0_17 v0_21 v0_23 v0_24 v0_25 v0_26 v0_29 v0_30 v0_0 v0_6 v0_7 v0_8 v0_9 v0_10 v0_22)) hP hD hS hA [0, 3, 5, 6] [1, 2, 4, 7] [4, 0, 1, 5, 2, 6, 7, 3] rfl rfl rfl (by decide) rfl rfl (va_runV (As := [.int p1, .int p2]) (rest := []) ⟨hx, hb, hml, hown, hta⟩ (c_X12_alongY l dC dI cI H.size a0 v0_2 v0_3 v0_5 v0_12 v0_13 v0_16 v0_17 v0_21 v0_23 v0_24 v0_25 v0_26 v0_29 v0_30 v0_7 v0_9 v0_10 p1 p2 u_2 hu_2) (cwV 2 hta (ga_V mA912 mA913 mA914 mA814 mA904) rfl rfl rfl (by decide +kernel) ⟨Nat.le_of_ble_eq_true rfl, Nat.le_of_ble_eq_true rfl⟩) ⟨q_fb, va_recv hK hP (ci := 11) (q0 := 0) rfl rfl, q_ps hPc hK hDc⟩ rfl rfl hl.1 rfl (lv_room (Nat.le_of_ble_eq_true rfl)) dX12_laysCap_11 ⟨Nat.zero_le _, Nat.zero_le _⟩) (fun H locs hP hD hS => ?_)
  refine lv_istore (lv' := [(5, .int u_2), (4, .int u_1), (0, .ref (a0 0)), (1, .int p1), (2, .int p2), (3, .int p3)]) hx hb dX12_laysCap_14 hl (by decide) rfl (fun ls hl => ?_)
  refine lv_aload_n hx hb dX12_laysCap_16 rfl (lv_at hl 2 rfl) ?_
  refine va_get (D := (dC, dI)) (ci := 11) (v := .ref (a0 1)) (C := RX12) (T := TX12) (N := 31) hx hb hta uw_X12 hown hK hP 0 rfl rfl 0 (by decide) (hta _ mA790) (fun _ h9 => h9) rfl dX12_laysCap_17 ?_
  refine lv_iconst (v := 3) hx hb dX12_laysCap_20 (by decide) ?_
  obtain ⟨g_3, hF⟩ := gd_some hF
  refine va_iald hx hb hK hP 1 0 rfl rfl (vpi_in g_3) dX12_laysCap_21 ?_
  refine lv_iconst (v := 1) hx hb dX12_laysCap_22 (by decide) ?_
  refine lv_icmp_ne (tgt := 37) hx hb dX12_laysCap_23 (by decide) (fun c_4 => ?_) (fun c_4 => ?_)
  · have hF := it_f hF c_4
    refine lv_aload_n hx hb dX12_laysCap_37 rfl (lv_at hl 2 rfl) ?_
    refine va_get (D := (dC, dI)) (ci := 11) (v := .ref (a0 1)) (C := RX12) (T := TX12) (N := 31) hx hb hta uw_X12 hown hK hP 0 rfl rfl 0 (by decide) (hta _ mA790) (fun _ h9 => h9) rfl dX12_laysCap_38 ?_
    refine lv_iconst (v := 3) hx hb dX12_laysCap_41 (by decide) ?_
    obtain ⟨g_5, hF⟩ := gd_some hF
    refine va_iald hx hb hK hP 1 0 rfl rfl (vpi_in g_5) dX12_laysCap_42 ?_
    refine lv_iconst (v := 2) hx hb dX12_laysCap_43 (by decide) ?_
    refine lv_icmp_ne (tgt := 156) hx hb dX12_laysCap_44 (by decide) (fun c_6 => ?_) (fun c_6 => ?_)
    · have hF := it_f hF c_6
      obtain rfl := Option.some.inj hF
      exact W.vret hx hb hr (fun t ht hW => ⟨⟨(), rfl, trivial, by rw [ht]; exact hP, va_K.moved hW.alike hK, hD⟩, hS.F ht⟩) hS.2.2 dX12_laysCap_156
    · have hF := it_t hF c_6
      refine lv_aload_n hx hb dX12_laysCap_47 rfl (lv_at hl 2 rfl) ?_
      refine lv_iload_n hx hb dX12_laysCap_48 rfl (lv_at hl 3 rfl) ?_
      obtain ⟨u_7, hu_7, hF⟩ := obd_some hF
      have hPc := hP.sub (ws' := (wd_X12_normalX cI a0 v0_2 v0_3 v0_5 v0_12 v0_13 v0_16 v0_17 v0_21 v0_23 v0_24 v0_25 v0_26 v0_29 v0_30 v0_0 v0_7 v0_10)) [0, 1, 3, 6] rfl
      have hDc := hD.sub (ws' := (wd_X12_normalX cI a0 v0_2 v0_3 v0_5 v0_12 v0_13 v0_16 v0_17 v0_21 v0_23 v0_24 v0_25 v0_26 v0_29 v0_30 v0_0 v0_7 v0_10)) [0, 1, 3, 6] rfl rfl
      refine q_calli (wc := (wd_X12_normalX cI a0 v0_2 v0_3 v0_5 v0_12 v0_13 v0_16 v0_17 v0_21 v0_23 v0_24 v0_25 v0_26 v0_29 v0_30 v0_0 v0_7 v0_10)) (w1 := (wd_X12_normalX cI a0 v0_2 v0_3 v0_5 v0_12 v0_13 v0_16 v0_17 v0_21 v0_23 v0_24 v0_25 v0_26 v0_29 v0_30 v0_0 v0_7 v0_10)) (ws' := (wd_X12_laysCap cI a0 v0_2 v0_3 v0_5 v0_12 v0_13 v0_16 v0_17 v0_21 v0_23 v0_24 v0_25 v0_26 v0_29 v0_30 v0_0 v0_6 v0_7 v0_8 v0_9 v0_10 v0_22)) hP hD hS hA [0, 1, 3, 6] [2, 4, 5, 7] [4, 5, 0, 6, 1, 2, 7, 3] rfl rfl rfl (by decide) rfl rfl (va_runV (As := [.int p1]) (rest := []) ⟨hx, hb, hml, hown, hta⟩ (c_X12_normalX l dC dI cI H.size a0 v0_2 v0_3 v0_5 v0_12 v0_13 v0_16 v0_17 v0_21 v0_23 v0_24 v0_25 v0_26 v0_29 v0_30 v0_0 v0_7 v0_10 p1 u_7 hu_7) (cwV 1 hta (ga_V mA971 mA972 mA973 mA814 mA955) rfl rfl rfl (by decide +kernel) ⟨Nat.le_of_ble_eq_true rfl, Nat.le_of_ble_eq_true rfl⟩) ⟨q_fb, va_recv hK hP (ci := 11) (q0 := 0) rfl rfl, q_ps hPc hK hDc⟩ rfl rfl hl.1 rfl (lv_room (Nat.le_of_ble_eq_true rfl)) dX12_laysCap_49 ⟨Nat.zero_le _, Nat.zero_le _⟩) (fun H locs hP hD hS => ?_)
      refine lv_istore (lv' := [(6, .int u_7), (5, .int u_2), (4, .int u_1), (0, .ref (a0 0)), (1, .int p1), (2, .int p2), (3, .int p3)]) hx hb dX12_laysCap_52 hl (by decide) rfl (fun ls hl => ?_)
      refine lv_aload_n hx hb dX12_laysCap_54 rfl (lv_at hl 3 rfl) ?_
      refine lv_iload_n hx hb dX12_laysCap_55 rfl (lv_at hl 4 rfl) ?_
      obtain ⟨u_8, hu_8, hF⟩ := obd_some hF
      have hPc := hP.sub (ws' := (wd_X12_normalY cI a0 v0_2 v0_3 v0_5 v0_12 v0_13 v0_16 v0_17 v0_21 v0_23 v0_24 v0_25 v0_26 v0_29 v0_30 v0_0 v0_6 v0_10)) [0, 1, 2, 6] rfl
      have hDc := hD.sub (ws' := (wd_X12_normalY cI a0 v0_2 v0_3 v0_5 v0_12 v0_13 v0_16 v0_17 v0_21 v0_23 v0_24 v0_25 v0_26 v0_29 v0_30 v0_0 v0_6 v0_10)) [0, 1, 2, 6] rfl rfl
      refine q_calli (wc := (wd_X12_normalY cI a0 v0_2 v0_3 v0_5 v0_12 v0_13 v0_16 v0_17 v0_21 v0_23 v0_24 v0_25 v0_26 v0_29 v0_30 v0_0 v0_6 v0_10)) (w1 := (wd_X12_normalY cI a0 v0_2 v0_3 v0_5 v0_12 v0_13 v0_16 v0_17 v0_21 v0_23 v0_24 v0_25 v0_26 v0_29 v0_30 v0_0 v0_6 v0_10)) (ws' := (wd_X12_laysCap cI a0 v0_2 v0_3 v0_5 v0_12 v0_13 v0_16 v0_17 v0_21 v0_23 v0_24 v0_25 v0_26 v0_29 v0_30 v0_0 v0_6 v0_7 v0_8 v0_9 v0_10 v0_22)) hP hD hS hA [0, 1, 2, 6] [3, 4, 5, 7] [4, 5, 6, 0, 1, 2, 7, 3] rfl rfl rfl (by decide) rfl rfl (va_runV (As := [.int p1]) (rest := []) ⟨hx, hb, hml, hown, hta⟩ (c_X12_normalY l dC dI cI H.size a0 v0_2 v0_3 v0_5 v0_12 v0_13 v0_16 v0_17 v0_21 v0_23 v0_24 v0_25 v0_26 v0_29 v0_30 v0_0 v0_6 v0_10 p1 u_8 hu_8) (cwV 1 hta (ga_V mA974 mA975 mA976 mA814 mA960) rfl rfl rfl (by decide +kernel) ⟨Nat.le_of_ble_eq_true rfl, Nat.le_of_ble_eq_true rfl⟩) ⟨q_fb, va_recv hK hP (ci := 11) (q0 := 0) rfl rfl, q_ps hPc hK hDc⟩ rfl rfl hl.1 rfl (lv_room (Nat.le_of_ble_eq_true rfl)) dX12_laysCap_56 ⟨Nat.zero_le _, Nat.zero_le _⟩) (fun H locs hP hD hS => ?_)
      refine lv_istore (lv' := [(7, .int u_8), (6, .int u_7), (5, .int u_2), (4, .int u_1), (0, .ref (a0 0)), (1, .int p1), (2, .int p2), (3, .int p3)]) hx hb dX12_laysCap_59 hl (by decide) rfl (fun ls hl => ?_)
      refine lv_iload_n hx hb dX12_laysCap_61 rfl (lv_at hl 7 rfl) ?_
      refine lv_aload_n hx hb dX12_laysCap_62 rfl (lv_at hl 4 rfl) ?_
      refine lv_iload_n hx hb dX12_laysCap_63 rfl (lv_at hl 5 rfl) ?_
      obtain ⟨u_9, hu_9, hF⟩ := obd_some hF
      have hPc := hP.sub (ws' := (wd_X12_edgeX cI a0 v0_2 v0_3 v0_5 v0_12 v0_13 v0_16 v0_17 v0_21 v0_23 v0_24 v0_25 v0_26 v0_29 v0_30 v0_0 v0_6 v0_10)) [0, 1, 2, 6] rfl
      have hDc := hD.sub (ws' := (wd_X12_edgeX cI a0 v0_2 v0_3 v0_5 v0_12 v0_13 v0_16 v0_17 v0_21 v0_23 v0_24 v0_25 v0_26 v0_29 v0_30 v0_0 v0_6 v0_10)) [0, 1, 2, 6] rfl rfl
      refine q_calli (wc := (wd_X12_edgeX cI a0 v0_2 v0_3 v0_5 v0_12 v0_13 v0_16 v0_17 v0_21 v0_23 v0_24 v0_25 v0_26 v0_29 v0_30 v0_0 v0_6 v0_10)) (w1 := (wd_X12_edgeX cI a0 v0_2 v0_3 v0_5 v0_12 v0_13 v0_16 v0_17 v0_21 v0_23 v0_24 v0_25 v0_26 v0_29 v0_30 v0_0 v0_6 v0_10)) (ws' := (wd_X12_laysCap cI a0 v0_2 v0_3 v0_5 v0_12 v0_13 v0_16 v0_17 v0_21 v0_23 v0_24 v0_25 v0_26 v0_29 v0_30 v0_0 v0_6 v0_7 v0_8 v0_9 v0_10 v0_22)) hP hD hS hA [0, 1, 2, 6] [3, 4, 5, 7] [4, 5, 6, 0, 1, 2, 7, 3] rfl rfl rfl (by decide) rfl rfl (va_runV (As := [.int p1]) (rest := [.int p3]) ⟨hx, hb, hml, hown, hta⟩ (c_X12_edgeX l dC dI cI H.size a0 v0_2 v0_3 v0_5 v0_12 v0_13 v0_16 v0_17 v0_21 v0_23 v0_24 v0_25 v0_26 v0_29 v0_30 v0_0 v0_6 v0_10 p1 u_9 hu_9) (cwV 1 hta (ga_V mA989 mA990 mA991 mA814 mA961) rfl rfl rfl (by decide +kernel) ⟨Nat.le_of_ble_eq_true rfl, Nat.le_of_ble_eq_true rfl⟩) ⟨q_fb, va_recv hK hP (ci := 11) (q0 := 0) rfl rfl, q_ps hPc hK hDc⟩ rfl rfl hl.1 rfl (lv_room (Nat.le_of_ble_eq_true rfl)) dX12_laysCap_64 ⟨Nat.zero_le _, Nat.zero_le _⟩) (fun H locs hP hD hS => ?_)
      refine lv_imul hx hb dX12_laysCap_67 ?_
      obtain ⟨y_10, ey_10, hF⟩ := lt_some hF
      refine lv_eqi ey_10 ?_
      refine lv_istore (lv' := [(8, .int y_10), (7, .int u_8), (6, .int u_7), (5, .int u_2), (4, .int u_1), (0, .ref (a0 0)), (1, .int p1), (2, .int p2), (3, .int p3)]) hx hb dX12_laysCap_68 hl (by decide) rfl (fun ls hl => ?_)
      refine lv_iload_n hx hb dX12_laysCap_70 rfl (lv_at hl 8 rfl) ?_
      refine lv_aload_n hx hb dX12_laysCap_71 rfl (lv_at hl 5 rfl) ?_
      refine lv_iload_n hx hb dX12_laysCap_72 rfl (lv_at hl 6 rfl) ?_
      obtain ⟨u_11, hu_11, hF⟩ := obd_some hF
      have hPc := hP.sub (ws' := (wd_X12_edgeY cI a0 v0_2 v0_3 v0_5 v0_12 v0_13 v0_16 v0_17 v0_21 v0_23 v0_24 v0_25 v0_26 v0_29 v0_30 v0_0 v0_7 v0_10)) [0, 1, 3, 6] rfl
      have hDc := hD.sub (ws' := (wd_X12_edgeY cI a0 v0_2 v0_3 v0_5 v0_12 v0_13 v0_16 v0_17 v0_21 v0_23 v0_24 v0_25 v0_26 v0_29 v0_30 v0_0 v0_7 v0_10)) [0, 1, 3, 6] rfl rfl
      refine q_calli (wc := (wd_X12_edgeY cI a0 v0_2 v0_3 v0_5 v0_12 v0_13 v0_16 v0_17 v0_21 v0_23 v0_24 v0_25 v0_26 v0_29 v0_30 v0_0 v0_7 v0_10)) (w1 := (wd_X12_edgeY cI a0 v0_2 v0_3 v0_5 v0_12 v0_13 v0_16 v0_17 v0_21 v0_23 v0_24 v0_25 v0_26 v0_29 v0_30 v0_0 v0_7 v0_10)) (ws' := (wd_X12_laysCap cI a0 v0_2 v0_3 v0_5 v0_12 v0_13 v0_16 v0_17 v0_21 v0_23 v0_24 v0_25 v0_26 v0_29 v0_30 v0_0 v0_6 v0_7 v0_8 v0_9 v0_10 v0_22)) hP hD hS hA [0, 1, 3, 6] [2, 4, 5, 7] [4, 5, 0, 6, 1, 2, 7, 3] rfl rfl rfl (by decide) rfl rfl (va_runV (As := [.int p1]) (rest := [.int p3]) ⟨hx, hb, hml, hown, hta⟩ (c_X12_edgeY l dC dI cI H.size a0 v0_2 v0_3 v0_5 v0_12 v0_13 v0_16 v0_17 v0_21 v0_23 v0_24 v0_25 v0_26 v0_29 v0_30 v0_0 v0_7 v0_10 p1 u_11 hu_11) (cwV 1 hta (ga_V mA992 mA993 mA994 mA814 mA962) rfl rfl rfl (by decide +kernel) ⟨Nat.le_of_ble_eq_true rfl, Nat.le_of_ble_eq_true rfl⟩) ⟨q_fb, va_recv hK hP (ci := 11) (q0 := 0) rfl rfl, q_ps hPc hK hDc⟩ rfl rfl hl.1 rfl (lv_room (Nat.le_of_ble_eq_true rfl)) dX12_laysCap_73 ⟨Nat.zero_le _, Nat.zero_le _⟩) (fun H locs hP hD hS => ?_)
      refine lv_imul hx hb dX12_laysCap_76 ?_
      obtain ⟨y_12, ey_12, hF⟩ := lt_some hF
      refine lv_eqi ey_12 ?_
      refine lv_istore (lv' := [(9, .int y_12), (8, .int y_10), (7, .int u_8), (6, .int u_7), (5, .int u_2), (4, .int u_1), (0, .ref (a0 0)), (1, .int p1), (2, .int p2), (3, .int p3)]) hx hb dX12_laysCap_77 hl (by decide) rfl (fun ls hl => ?_)
      refine lv_aload_n hx hb dX12_laysCap_79 rfl (lv_at hl 6 rfl) ?_
      refine lv_iconst (v := 4) hx hb dX12_laysCap_80 (by decide) ?_
      obtain ⟨u_13, hu_13, hF⟩ := obd_some hF
      have hPc := hP.sub (ws' := (wd_X12_begin cI a0 v0_2 v0_3 v0_5 v0_12 v0_13 v0_16 v0_17 v0_21 v0_23 v0_24 v0_25 v0_26 v0_29 v0_30 v0_22)) [0, 7] rfl
      have hDc := hD.sub (ws' := (wd_X12_begin cI a0 v0_2 v0_3 v0_5 v0_12 v0_13 v0_16 v0_17 v0_21 v0_23 v0_24 v0_25 v0_26 v0_29 v0_30 v0_22)) [0, 7] rfl rfl
      refine q_callv (wc := (wd_X12_begin cI a0 v0_2 v0_3 v0_5 v0_12 v0_13 v0_16 v0_17 v0_21 v0_23 v0_24 v0_25 v0_26 v0_29 v0_30 v0_22)) (w1 := (wd_X12_begin cI a0 v0_2 v0_3 v0_5 v0_12 v0_13 v0_16 v0_17 v0_21 u_13.1 v0_24 v0_25 v0_26 v0_29 v0_30 u_13.2)) (ws' := (wd_X12_laysCap cI a0 v0_2 v0_3 v0_5 v0_12 v0_13 v0_16 v0_17 v0_21 u_13.1 v0_24 v0_25 v0_26 v0_29 v0_30 v0_0 v0_6 v0_7 v0_8 v0_9 v0_10 u_13.2)) hP hD hS hA [0, 7] [1, 2, 3, 4, 5, 6] [6, 0, 1, 2, 3, 4, 5, 7] rfl rfl rfl (by decide) rfl rfl (va_runV (As := [.int 4]) (rest := []) ⟨hx, hb, hml, hown, hta⟩ (c_X12_begin l dC dI cI H.size a0 v0_2 v0_3 v0_5 v0_12 v0_13 v0_16 v0_17 v0_21 v0_23 v0_24 v0_25 v0_26 v0_29 v0_30 v0_22 4 u_13 hu_13) (cwV 1 hta (ga_V mA964 mA965 mA966 mA814 mA952) rfl rfl rfl (by decide +kernel) ⟨Nat.le_of_ble_eq_true rfl, Nat.le_of_ble_eq_true rfl⟩) ⟨q_fb, va_recv hK hP (ci := 11) (q0 := 0) rfl rfl, q_ps hPc hK hDc⟩ rfl rfl hl.1 rfl (lv_room (Nat.le_of_ble_eq_true rfl)) dX12_laysCap_81 ⟨Nat.zero_le _, Nat.zero_le _⟩) (fun H locs hP hD hS => ?_)
      refine lv_aload_n hx hb dX12_laysCap_84 rfl (lv_at hl 6 rfl) ?_
      refine lv_iconst (v := 0) hx hb dX12_laysCap_85 (by decide) ?_
      refine lv_iload hx hb dX12_laysCap_86 (lv_at hl 5 rfl) ?_
      refine lv_iload hx hb dX12_laysCap_88 (lv_at hl 3 rfl) ?_
      refine lv_iadd hx hb dX12_laysCap_90 ?_
      refine lv_iload hx hb dX12_laysCap_91 (lv_at hl 4 rfl) ?_
      refine lv_iload hx hb dX12_laysCap_93 (lv_at hl 2 rfl) ?_
      refine lv_iadd hx hb dX12_laysCap_95 ?_
      obtain ⟨u_14, hu_14, hF⟩ := obd_some hF
      have hPc := hP.sub (ws' := (wd_X12_corners cI a0 v0_2 v0_3 v0_5 v0_12 v0_13 v0_16 v0_17 v0_21 u_13.1 v0_24 v0_25 v0_26 v0_29 v0_30 u_13.2)) [0, 7] rfl
      have hDc := hD.sub (ws' := (wd_X12_corners cI a0 v0_2 v0_3 v0_5 v0_12 v0_13 v0_16 v0_17 v0_21 u_13.1 v0_24 v0_25 v0_26 v0_29 v0_30 u_13.2)) [0, 7] rfl rfl
      refine q_callv (wc := (wd_X12_corners cI a0 v0_2 v0_3 v0_5 v0_12 v0_13 v0_16 v0_17 v0_21 u_13.1 v0_24 v0_25 v0_26 v0_29 v0_30 u_13.2)) (w1 := (wd_X12_corners cI a0 v0_2 v0_3 v0_5 v0_12 v0_13 v0_16 v0_17 v0_21 u_13.1 v0_24 v0_25 v0_26 v0_29 v0_30 u_14)) (ws' := (wd_X12_laysCap cI a0 v0_2 v0_3 v0_5 v0_12 v0_13 v0_16 v0_17 v0_21 u_13.1 v0_24 v0_25 v0_26 v0_29 v0_30 v0_0 v0_6 v0_7 v0_8 v0_9 v0_10 u_14)) hP hD hS hA [0, 7] [1, 2, 3, 4, 5, 6] [6, 0, 1, 2, 3, 4, 5, 7] rfl rfl rfl (by decide) rfl rfl (va_runV (As := [.int 0, .int (u_1 + u_7), .int (u_2 + u_8)]) (rest := []) ⟨hx, hb, hml, hown, hta⟩ (c_X12_corners l dC dI cI H.size a0 v0_2 v0_3 v0_5 v0_12 v0_13 v0_16 v0_17 v0_21 u_13.1 v0_24 v0_25 v0_26 v0_29 v0_30 u_13.2 0 (u_1 + u_7) (u_2 + u_8) u_14 hu_14) (cwV 3 hta (ga_V mA967 mA968 mA969 mA814 mA954) rfl rfl rfl (by decide +kernel) ⟨Nat.le_of_ble_eq_true rfl, Nat.le_of_ble_eq_true rfl⟩) ⟨q_fb, va_recv hK hP (ci := 11) (q0 := 0) rfl rfl, q_ps hPc hK hDc⟩ rfl rfl hl.1 rfl (lv_room (Nat.le_of_ble_eq_true rfl)) dX12_laysCap_96 ⟨Nat.zero_le _, Nat.zero_le _⟩) (fun H locs hP hD hS => ?_)
      refine lv_aload_n hx hb dX12_laysCap_99 rfl (lv_at hl 6 rfl) ?_
      refine lv_iconst (v := 1) hx hb dX12_laysCap_100 (by decide) ?_
      refine lv_iload hx hb dX12_laysCap_101 (lv_at hl 5 rfl) ?_
      refine lv_iload hx hb dX12_laysCap_103 (lv_at hl 3 rfl) ?_
      refine lv_iadd hx hb dX12_laysCap_105 ?_
      refine lv_iload hx hb dX12_laysCap_106 (lv_at hl 1 rfl) ?_
      refine lv_iadd hx hb dX12_laysCap_108 ?_
      refine lv_iload hx hb dX12_laysCap_109 (lv_at hl 4 rfl) ?_
      refine lv_iload hx hb dX12_laysCap_111 (lv_at hl 2 rfl) ?_
      refine lv_iadd hx hb dX12_laysCap_113 ?_
      refine lv_iload hx hb dX12_laysCap_114 (lv_at hl 0 rfl) ?_
      refine lv_iadd hx hb dX12_laysCap_116 ?_
      obtain ⟨u_15, hu_15, hF⟩ := obd_some hF
      have hPc := hP.sub (ws' := (wd_X12_corners cI a0 v0_2 v0_3 v0_5 v0_12 v0_13 v0_16 v0_17 v0_21 u_13.1 v0_24 v0_25 v0_26 v0_29 v0_30 u_14)) [0, 7] rfl
      have hDc := hD.sub (ws' := (wd_X12_corners cI a0 v0_2 v0_3 v0_5 v0_12 v0_13 v0_16 v0_17 v0_21 u_13.1 v0_24 v0_25 v0_26 v0_29 v0_30 u_14)) [0, 7] rfl rfl
      refine q_callv (wc := (wd_X12_corners cI a0 v0_2 v0_3 v0_5 v0_12 v0_13 v0_16 v0_17 v0_21 u_13.1 v0_24 v0_25 v0_26 v0_29 v0_30 u_14)) (w1 := (wd_X12_corners cI a0 v0_2 v0_3 v0_5 v0_12 v0_13 v0_16 v0_17 v0_21 u_13.1 v0_24 v0_25 v0_26 v0_29 v0_30 u_15)) (ws' := (wd_X12_laysCap cI a0 v0_2 v0_3 v0_5 v0_12 v0_13 v0_16 v0_17 v0_21 u_13.1 v0_24 v0_25 v0_26 v0_29 v0_30 v0_0 v0_6 v0_7 v0_8 v0_9 v0_10 u_15)) hP hD hS hA [0, 7] [1, 2, 3, 4, 5, 6] [6, 0, 1, 2, 3, 4, 5, 7] rfl rfl rfl (by decide) rfl rfl (va_runV (As := [.int 1, .int ((u_1 + u_7) + y_10), .int ((u_2 + u_8) + y_12)]) (rest := []) ⟨hx, hb, hml, hown, hta⟩ (c_X12_corners l dC dI cI H.size a0 v0_2 v0_3 v0_5 v0_12 v0_13 v0_16 v0_17 v0_21 u_13.1 v0_24 v0_25 v0_26 v0_29 v0_30 u_14 1 ((u_1 + u_7) + y_10) ((u_2 + u_8) + y_12) u_15 hu_15) (cwV 3 hta (ga_V mA967 mA968 mA969 mA814 mA954) rfl rfl rfl (by decide +kernel) ⟨Nat.le_of_ble_eq_true rfl, Nat.le_of_ble_eq_true rfl⟩) ⟨q_fb, va_recv hK hP (ci := 11) (q0 := 0) rfl rfl, q_ps hPc hK hDc⟩ rfl rfl hl.1 rfl (lv_room (Nat.le_of_ble_eq_true rfl)) dX12_laysCap_117 ⟨Nat.zero_le _, Nat.zero_le _⟩) (fun H locs hP hD hS => ?_)
      refine lv_aload_n hx hb dX12_laysCap_120 rfl (lv_at hl 6 rfl) ?_
      refine lv_iconst (v := 2) hx hb dX12_laysCap_121 (by decide) ?_
      refine lv_iload hx hb dX12_laysCap_122 (lv_at hl 5 rfl) ?_
      refine lv_iload hx hb dX12_laysCap_124 (lv_at hl 3 rfl) ?_
      refine lv_isub hx hb dX12_laysCap_126 ?_
      refine lv_iload hx hb dX12_laysCap_127 (lv_at hl 1 rfl) ?_
      refine lv_iadd hx hb dX12_laysCap_129 ?_
      refine lv_iload hx hb dX12_laysCap_130 (lv_at hl 4 rfl) ?_
      refine lv_iload hx hb dX12_laysCap_132 (lv_at hl 2 rfl) ?_
      refine lv_isub hx hb dX12_laysCap_134 ?_
      refine lv_iload hx hb dX12_laysCap_135 (lv_at hl 0 rfl) ?_
      refine lv_iadd hx hb dX12_laysCap_137 ?_
      obtain ⟨u_16, hu_16, hF⟩ := obd_some hF
      have hPc := hP.sub (ws' := (wd_X12_corners cI a0 v0_2 v0_3 v0_5 v0_12 v0_13 v0_16 v0_17 v0_21 u_13.1 v0_24 v0_25 v0_26 v0_29 v0_30 u_15)) [0, 7] rfl
      have hDc := hD.sub (ws' := (wd_X12_corners cI a0 v0_2 v0_3 v0_5 v0_12 v0_13 v0_16 v0_17 v0_21 u_13.1 v0_24 v0_25 v0_26 v0_29 v0_30 u_15)) [0, 7] rfl rfl
      refine q_callv (wc := (wd_X12_corners cI a0 v0_2 v0_3 v0_5 v0_12 v0_13 v0_16 v0_17 v0_21 u_13.1 v0_24 v0_25 v0_26 v0_29 v0_30 u_15)) (w1 := (wd_X12_corners cI a0 v0_2 v0_3 v0_5 v0_12 v0_13 v0_16 v0_17 v0_21 u_13.1 v0_24 v0_25 v0_26 v0_29 v0_30 u_16)) (ws' := (wd_X12_laysCap cI a0 v0_2 v0_3 v0_5 v0_12 v0_13 v0_16 v0_17 v0_21 u_13.1 v0_24 v0_25 v0_26 v0_29 v0_30 v0_0 v0_6 v0_7 v0_8 v0_9 v0_10 u_16)) hP hD hS hA [0, 7] [1, 2, 3, 4, 5, 6] [6, 0, 1, 2, 3, 4, 5, 7] rfl rfl rfl (by decide) rfl rfl (va_runV (As := [.int 2, .int ((u_1 - u_7) + y_10), .int ((u_2 - u_8) + y_12)]) (rest := []) ⟨hx, hb, hml, hown, hta⟩ (c_X12_corners l dC dI cI H.size a0 v0_2 v0_3 v0_5 v0_12 v0_13 v0_16 v0_17 v0_21 u_13.1 v0_24 v0_25 v0_26 v0_29 v0_30 u_15 2 ((u_1 - u_7) + y_10) ((u_2 - u_8) + y_12) u_16 hu_16) (cwV 3 hta (ga_V mA967 mA968 mA969 mA814 mA954) rfl rfl rfl (by decide +kernel) ⟨Nat.le_of_ble_eq_true rfl, Nat.le_of_ble_eq_true rfl⟩) ⟨q_fb, va_recv hK hP (ci := 11) (q0 := 0) rfl rfl, q_ps hPc hK hDc⟩ rfl rfl hl.1 rfl (lv_room (Nat.le_of_ble_eq_true rfl)) dX12_laysCap_138 ⟨Nat.zero_le _, Nat.zero_le _⟩) (fun H locs hP hD hS => ?_)
      refine lv_aload_n hx hb dX12_laysCap_141 rfl (lv_at hl 6 rfl) ?_
      refine lv_iconst (v := 3) hx hb dX12_laysCap_142 (by decide) ?_
      refine lv_iload hx hb dX12_laysCap_143 (lv_at hl 5 rfl) ?_
      refine lv_iload hx hb dX12_laysCap_145 (lv_at hl 3 rfl) ?_
      refine lv_isub hx hb dX12_laysCap_147 ?_
      refine lv_iload hx hb dX12_laysCap_148 (lv_at hl 4 rfl) ?_
      refine lv_iload hx hb dX12_laysCap_150 (lv_at hl 2 rfl) ?_
      refine lv_isub hx hb dX12_laysCap_152 ?_
      obtain ⟨u_17, hu_17, hF⟩ := obd_some hF
      have hPc := hP.sub (ws' := (wd_X12_corners cI a0 v0_2 v0_3 v0_5 v0_12 v0_13 v0_16 v0_17 v0_21 u_13.1 v0_24 v0_25 v0_26 v0_29 v0_30 u_16)) [0, 7] rfl
      have hDc := hD.sub (ws' := (wd_X12_corners cI a0 v0_2 v0_3 v0_5 v0_12 v0_13 v0_16 v0_17 v0_21 u_13.1 v0_24 v0_25 v0_26 v0_29 v0_30 u_16)) [0, 7] rfl rfl
      refine q_callv (wc := (wd_X12_corners cI a0 v0_2 v0_3 v0_5 v0_12 v0_13 v0_16 v0_17 v0_21 u_13.1 v0_24 v0_25 v0_26 v0_29 v0_30 u_16)) (w1 := (wd_X12_corners cI a0 v0_2 v0_3 v0_5 v0_12 v0_13 v0_16 v0_17 v0_21 u_13.1 v0_24 v0_25 v0_26 v0_29 v0_30 u_17)) (ws' := (wd_X12_laysCap cI a0 v0_2 v0_3 v0_5 v0_12 v0_13 v0_16 v0_17 v0_21 u_13.1 v0_24 v0_25 v0_26 v0_29 v0_30 v0_0 v0_6 v0_7 v0_8 v0_9 v0_10 u_17)) hP hD hS hA [0, 7] [1, 2, 3, 4, 5, 6] [6, 0, 1, 2, 3, 4, 5, 7] rfl rfl rfl (by decide) rfl rfl (va_runV (As := [.int 3, .int (u_1 - u_7), .int (u_2 - u_8)]) (rest := []) ⟨hx, hb, hml, hown, hta⟩ (c_X12_corners l dC dI cI H.size a0 v0_2 v0_3 v0_5 v0_12 v0_13 v0_16 v0_17 v0_21 u_13.1 v0_24 v0_25 v0_26 v0_29 v0_30 u_16 3 (u_1 - u_7) (u_2 - u_8) u_17 hu_17) (cwV 3 hta (ga_V mA967 mA968 mA969 mA814 mA954) rfl rfl rfl (by decide +kernel) ⟨Nat.le_of_ble_eq_true rfl, Nat.le_of_ble_eq_true rfl⟩) ⟨q_fb, va_recv hK hP (ci := 11) (q0 := 0) rfl rfl, q_ps hPc hK hDc⟩ rfl rfl hl.1 rfl (lv_room (Nat.le_of_ble_eq_true rfl)) dX12_laysCap_153 ⟨Nat.zero_le _, Nat.zero_le _⟩) (fun H locs hP hD hS => ?_)
      obtain rfl := Option.some.inj hF
      exact W.vret hx hb hr (fun t ht hW => ⟨⟨(), rfl, trivial, by rw [ht]; exact hP, va_K.moved hW.alike hK, hD⟩, hS.F ht⟩) hS.2.2 dX12_laysCap_156
  · have hF := it_t hF c_4
    refine lv_aload_n hx hb dX12_laysCap_26 rfl (lv_at hl 2 rfl) ?_
    refine lv_iload hx hb dX12_laysCap_27 (lv_at hl 1 rfl) ?_
    refine lv_iload hx hb dX12_laysCap_29 (lv_at hl 0 rfl) ?_
    obtain ⟨u_18, hu_18, hF⟩ := obd_some hF
    have hPc := hP.sub (ws' := (wd_X12_laysDisc cI a0 v0_2 v0_3 v0_5 v0_12 v0_13 v0_16 v0_17 v0_21 v0_23 v0_24 v0_25 v0_26 v0_29 v0_30 v0_22)) [0, 7] rfl
    have hDc := hD.sub (ws' := (wd_X12_laysDisc cI a0 v0_2 v0_3 v0_5 v0_12 v0_13 v0_16 v0_17 v0_21 v0_23 v0_24 v0_25 v0_26 v0_29 v0_30 v0_22)) [0, 7] rfl rfl
    refine q_callv (wc := (wd_X12_laysDisc cI a0 v0_2 v0_3 v0_5 v0_12 v0_13 v0_16 v0_17 v0_21 v0_23 v0_24 v0_25 v0_26 v0_29 v0_30 v0_22)) (w1 := (wd_X12_laysDisc cI a0 v0_2 v0_3 v0_5 v0_12 v0_13 v0_16 v0_17 v0_21 u_18.1 v0_24 v0_25 v0_26 v0_29 v0_30 u_18.2)) (ws' := (wd_X12_laysCap cI a0 v0_2 v0_3 v0_5 v0_12 v0_13 v0_16 v0_17 v0_21 u_18.1 v0_24 v0_25 v0_26 v0_29 v0_30 v0_0 v0_6 v0_7 v0_8 v0_9 v0_10 u_18.2)) hP hD hS hA [0, 7] [1, 2, 3, 4, 5, 6] [6, 0, 1, 2, 3, 4, 5, 7] rfl rfl rfl (by decide) rfl rfl (va_runV (As := [.int u_1, .int u_2]) (rest := []) ⟨hx, hb, hml, hown, hta⟩ (c_X12_laysDisc l dC dI cI H.size a0 v0_2 v0_3 v0_5 v0_12 v0_13 v0_16 v0_17 v0_21 v0_23 v0_24 v0_25 v0_26 v0_29 v0_30 v0_22 u_1 u_2 u_18 hu_18) (cwV 2 hta (ga_V mA982 mA983 mA984 mA814 mA963) rfl rfl rfl (by decide +kernel) ⟨Nat.le_of_ble_eq_true rfl, Nat.le_of_ble_eq_true rfl⟩) ⟨q_fb, va_recv hK hP (ci := 11) (q0 := 0) rfl rfl, q_ps hPc hK hDc⟩ rfl rfl hl.1 rfl (lv_room (Nat.le_of_ble_eq_true rfl)) dX12_laysCap_31 ⟨Nat.zero_le _, Nat.zero_le _⟩) (fun H locs hP hD hS => ?_)
    refine lv_goto (tgt := 156) hx hb dX12_laysCap_34 (by decide) ?_
    obtain rfl := Option.some.inj hF
    exact W.vret hx hb hr (fun t ht hW => ⟨⟨(), rfl, trivial, by rw [ht]; exact hP, va_K.moved hW.alike hK, hD⟩, hS.F ht⟩) hS.2.2 dX12_laysCap_156

-- StrokeOutlinerModel.laysRun(I)V
def F_X12_laysRun_j91 (v0_17 : Int32) (v0_21 : Int32) (v0_23 : Int32) (v0_0 : Nat → Int32) (v0_6 : Nat → Int32) (v0_7 : Nat → Int32) (v0_8 : Nat → Int32) (v0_9 : Nat → Int32) (v0_10 : Nat → Int32) (v0_18 : Nat → Int32) (v0_19 : Nat → Int32) (v0_20 : Nat → Int32) (v0_22 : Nat → Int32) : Option (Int32 × Int32 × (Nat → Int32) × (Nat → Int32) × (Nat → Int32) × (Nat → Int32)) :=
  if v0_17 = 0 then gd (decide (vpi 0 20)) (gd (decide (vpi 0 20)) (obd (F_X12_laysCap v0_23 v0_0 v0_6 v0_7 v0_8 v0_9 v0_10 v0_22 (v0_18 (0 : Int32).toNatClampNeg) (v0_19 (0 : Int32).toNatClampNeg) (-1)) (fun u_4 => lt (v0_21 - 1) (fun y_5 => gd (decide (vpi y_5 20)) (lt (v0_21 - 1) (fun y_7 => gd (decide (vpi y_7 20)) (obd (F_X12_laysCap u_4.1 v0_0 v0_6 v0_7 v0_8 v0_9 v0_10 u_4.2 (v0_18 y_5.toNatClampNeg) (v0_20 y_7.toNatClampNeg) 1) (fun u_9 => some (v0_21, u_9.1, v0_18, v0_19, v0_20, u_9.2))))))))) else some (v0_21, v0_23, v0_18, v0_19, v0_20, v0_22)
def F_X12_laysRun_j85 (v0_23 : Int32) (v0_22 : Nat → Int32) (x2 : Int32) : Option (Sum (Int32 × Int32 × (Nat → Int32)) (Int32 × (Nat → Int32))) :=
  lt (x2 + 1) (fun y_10 => some (.inl (y_10, v0_23, v0_22)))
def F_X12_laysRun_j48 (v0_23 : Int32) (v0_0 : Nat → Int32) (v0_6 : Nat → Int32) (v0_7 : Nat → Int32) (v0_8 : Nat → Int32) (v0_9 : Nat → Int32) (v0_10 : Nat → Int32) (v0_18 : Nat → Int32) (v0_22 : Nat → Int32) (x2 : Int32) (t0 : Int32) : Option (Sum (Int32 × Int32 × (Nat → Int32)) (Int32 × (Nat → Int32))) :=
  if t0 = (-1) then F_X12_laysRun_j85 v0_23 v0_22 x2 else gd (decide (vpi t0 20)) (gd (decide (vpi x2 20)) (if (v0_18 t0.toNatClampNeg) = (v0_18 x2.toNatClampNeg) then F_X12_laysRun_j85 v0_23 v0_22 x2 else gd (decide (vpi x2 20)) (gd (decide (vpi t0 20)) (obd (F_X12_laysJoin v0_23 v0_0 v0_6 v0_7 v0_8 v0_9 v0_10 v0_22 (v0_18 x2.toNatClampNeg) (v0_18 t0.toNatClampNeg)) (fun u_17 => F_X12_laysRun_j85 u_17.1 u_17.2 x2)))))
def F_X12_laysRun_b7 (v0_17 : Int32) (v0_21 : Int32) (v0_0 : Nat → Int32) (v0_6 : Nat → Int32) (v0_7 : Nat → Int32) (v0_8 : Nat → Int32) (v0_9 : Nat → Int32) (v0_10 : Nat → Int32) (v0_18 : Nat → Int32) (v0_19 : Nat → Int32) (v0_20 : Nat → Int32) (s7 : Int32 × Int32 × (Nat → Int32)) : Option (Sum (Int32 × Int32 × (Nat → Int32)) (Int32 × (Nat → Int32))) :=
  if v0_21 ≤ s7.1 then some (.inr (s7.2.1, s7.2.2)) else obd (F_X12_laysStrip s7.2.1 v0_0 v0_6 v0_7 v0_8 v0_9 v0_10 v0_18 v0_19 v0_20 s7.2.2 s7.1) (fun u_19 => if v0_21 ≤ (s7.1 + 1) then if v0_17 = 0 then F_X12_laysRun_j48 u_19.1 v0_0 v0_6 v0_7 v0_8 v0_9 v0_10 v0_18 u_19.2 s7.1 (-1) else F_X12_laysRun_j48 u_19.1 v0_0 v0_6 v0_7 v0_8 v0_9 v0_10 v0_18 u_19.2 s7.1 0 else F_X12_laysRun_j48 u_19.1 v0_0 v0_6 v0_7 v0_8 v0_9 v0_10 v0_18 u_19.2 s7.1 (s7.1 + 1))
def F_X12_laysRun_j7 (n : Nat) (v0_17 : Int32) (v0_21 : Int32) (v0_23 : Int32) (v0_0 : Nat → Int32) (v0_6 : Nat → Int32) (v0_7 : Nat → Int32) (v0_8 : Nat → Int32) (v0_9 : Nat → Int32) (v0_10 : Nat → Int32) (v0_18 : Nat → Int32) (v0_19 : Nat → Int32) (v0_20 : Nat → Int32) (v0_22 : Nat → Int32) (x2 : Int32) : Option (Int32 × Int32 × (Nat → Int32) × (Nat → Int32) × (Nat → Int32) × (Nat → Int32)) :=
  obd (lpq (F_X12_laysRun_b7 v0_17 v0_21 v0_0 v0_6 v0_7 v0_8 v0_9 v0_10 v0_18 v0_19 v0_20) n (x2, v0_23, v0_22)) (fun x_7 => F_X12_laysRun_j91 v0_17 v0_21 x_7.1 v0_0 v0_6 v0_7 v0_8 v0_9 v0_10 v0_18 v0_19 v0_20 x_7.2)
def F_X12_laysRun (n : Nat) (v0_12 : Int32) (v0_13 : Int32) (v0_17 : Int32) (v0_23 : Int32) (v0_0 : Nat → Int32) (v0_6 : Nat → Int32) (v0_7 : Nat → Int32) (v0_8 : Nat → Int32) (v0_9 : Nat → Int32) (v0_10 : Nat → Int32) (v0_11 : Nat → Int32) (v0_14 : Nat → Int32) (v0_15 : Nat → Int32) (v0_18 : Nat → Int32) (v0_19 : Nat → Int32) (v0_20 : Nat → Int32) (v0_22 : Nat → Int32) (p1 : Int32) : Option (Int32 × Int32 × (Nat → Int32) × (Nat → Int32) × (Nat → Int32) × (Nat → Int32)) :=
  obd (F_X12_laysCuts n v0_12 v0_13 v0_10 v0_11 v0_14 v0_15 v0_18 v0_19 v0_20 p1) (fun u_22 => F_X12_laysRun_j7 n v0_17 u_22.1 v0_23 v0_0 v0_6 v0_7 v0_8 v0_9 v0_10 u_22.2.1 u_22.2.2.1 u_22.2.2.2 v0_22 0)
abbrev wd_X12_laysRun (cI : ClassId) (a0 : Nat → Nat) (v0_2 : Int32) (v0_3 : Int32) (v0_5 : Int32) (v0_12 : Int32) (v0_13 : Int32) (v0_16 : Int32) (v0_17 : Int32) (v0_21 : Int32) (v0_23 : Int32) (v0_24 : Int32) (v0_25 : Int32) (v0_26 : Int32) (v0_29 : Int32) (v0_30 : Int64) (v0_0 : Nat → Int32) (v0_6 : Nat → Int32) (v0_7 : Nat → Int32) (v0_8 : Nat → Int32) (v0_9 : Nat → Int32) (v0_10 : Nat → Int32) (v0_11 : Nat → Int32) (v0_14 : Nat → Int32) (v0_15 : Nat → Int32) (v0_18 : Nat → Int32) (v0_19 : Nat → Int32) (v0_20 : Nat → Int32) (v0_22 : Nat → Int32) : va_W := [(a0 0, .inr (11, [.ref (a0 1), .ref (a0 2), .int v0_2, .int v0_3, .ref (a0 5), .int v0_5, .ref (a0 7), .ref (a0 8), .ref (a0 9), .ref (a0 10), .ref (a0 11), .ref (a0 12), .int v0_12, .int v0_13, .ref (a0 15), .ref (a0 16), .int v0_16, .int v0_17, .ref (a0 19), .ref (a0 20), .ref (a0 21), .int v0_21, .ref (a0 23), .int v0_23, .int v0_24, .int v0_25, .int v0_26, .ref (a0 28), .ref (a0 29), .int v0_29, .long v0_30])), (a0 1, .inl (cI, 86, .inl v0_0)), (a0 7, .inl (cI, 8, .inl v0_6)), (a0 8, .inl (cI, 8, .inl v0_7)), (a0 9, .inl (cI, 8, .inl v0_8)), (a0 10, .inl (cI, 8, .inl v0_9)), (a0 11, .inl (cI, 8, .inl v0_10)), (a0 12, .inl (cI, 8, .inl v0_11)), (a0 15, .inl (cI, 240, .inl v0_14)), (a0 16, .inl (cI, 240, .inl v0_15)), (a0 19, .inl (cI, 20, .inl v0_18)), (a0 20, .inl (cI, 20, .inl v0_19)), (a0 21, .inl (cI, 20, .inl v0_20)), (a0 23, .inl (cI, 27000, .inl v0_22))]
abbrev wz_X12_laysRun : List Cond := .code yX12_laysRun cX12_laysRun 4 none :: wALL
abbrev rm_X12_laysRun : Room := { frames := 3, cells := 0, slots := 0, locals := 89 }
abbrev Q_X12_laysRun (dC : Nat → ClassId) (dI : Nat → Nat → Nat) (cI : ClassId) (a0 : Nat → Nat) (v0_2 : Int32) (v0_3 : Int32) (v0_5 : Int32) (v0_12 : Int32) (v0_13 : Int32) (v0_16 : Int32) (v0_17 : Int32) (v0_24 : Int32) (v0_25 : Int32) (v0_26 : Int32) (v0_29 : Int32) (v0_30 : Int64) (v0_0 : Nat → Int32) (v0_6 : Nat → Int32) (v0_7 : Nat → Int32) (v0_8 : Nat → Int32) (v0_9 : Nat → Int32) (v0_10 : Nat → Int32) (v0_11 : Nat → Int32) (v0_14 : Nat → Int32) (v0_15 : Nat → Int32) (u : (Int32 × Int32 × (Nat → Int32) × (Nat → Int32) × (Nat → Int32) × (Nat → Int32))) (A : Nat → Prop) : Array Value → State → Outcome → State → Prop := va_Qv (fun (_ : Unit) => True) (fun _ => q_at dC dI cI A (wd_X12_laysRun cI a0 v0_2 v0_3 v0_5 v0_12 v0_13 v0_16 v0_17 u.1 u.2.1 v0_24 v0_25 v0_26 v0_29 v0_30 v0_0 v0_6 v0_7 v0_8 v0_9 v0_10 v0_11 v0_14 v0_15 u.2.2.1 u.2.2.2.1 u.2.2.2.2.1 u.2.2.2.2.2)) A
set_option maxHeartbeats 4000000 in
set_option maxRecDepth 100000 in
theorem c_X12_laysRun (l : Launch) (dC : Nat → ClassId) (dI : Nat → Nat → Nat) (cI : ClassId) (sz : Nat) (a0 : Nat → Nat) (v0_2 : Int32) (v0_3 : Int32) (v0_5 : Int32) (v0_12 : Int32) (v0_13 : Int32) (v0_16 : Int32) (v0_17 : Int32) (v0_21 : Int32) (v0_23 : Int32) (v0_24 : Int32) (v0_25 : Int32) (v0_26 : Int32) (v0_29 : Int32) (v0_30 : Int64) (v0_0 : Nat → Int32) (v0_6 : Nat → Int32) (v0_7 : Nat → Int32) (v0_8 : Nat → Int32) (v0_9 : Nat → Int32) (v0_10 : Nat → Int32) (v0_11 : Nat → Int32) (v0_14 : Nat → Int32) (v0_15 : Nat → Int32) (v0_18 : Nat → Int32) (v0_19 : Nat → Int32) (v0_20 : Nat → Int32) (v0_22 : Nat → Int32) (p1 : Int32) (n : Nat) (u : (Int32 × Int32 × (Nat → Int32) × (Nat → Int32) × (Nat → Int32) × (Nat → Int32))) (hF : F_X12_laysRun n v0_12 v0_13 v0_17 v0_23 v0_0 v0_6 v0_7 v0_8 v0_9 v0_10 v0_11 v0_14 v0_15 v0_18 v0_19 v0_20 v0_22 p1 = some u) : Met l yX12_laysRun wz_X12_laysRun rm_X12_laysRun (va_Pc [.ref (a0 0), .int p1] (q_pre dC dI cI (wd_X12_laysRun cI a0 v0_2 v0_3 v0_5 v0_12 v0_13 v0_16 v0_17 v0_21 v0_23 v0_24 v0_25 v0_26 v0_29 v0_30 v0_0 v0_6 v0_7 v0_8 v0_9 v0_10 v0_11 v0_14 v0_15 v0_18 v0_19 v0_20 v0_22) sz)) (Q_X12_laysRun dC dI cI a0 v0_2 v0_3 v0_5 v0_12 v0_13 v0_16 v0_17 v0_24 v0_25 v0_26 v0_29 v0_30 v0_0 v0_6 v0_7 v0_8 v0_9 v0_10 v0_11 v0_14 v0_15 u (va_A (wd_X12_laysRun cI a0 v0_2 v0_3 v0_5 v0_12 v0_13 v0_16 v0_17 v0_21 v0_23 v0_24 v0_25 v0_26 v0_29 v0_30 v0_0 v0_6 v0_7 v0_8 v0_9 v0_10 v0_11 v0_14 v0_15 v0_18 v0_19 v0_20 v0_22) sz)) 0 0 (va_A (wd_X12_laysRun cI a0 v0_2 v0_3 v0_5 v0_12 v0_13 v0_16 v0_17 v0_21 v0_23 v0_24 v0_25 v0_26 v0_29 v0_30 v0_0 v0_6 v0_7 v0_8 v0_9 v0_10 v0_11 v0_14 v0_15 v0_18 v0_19 v0_20 v0_22) sz) := by
  refine Met.ofW (cc := cX12_laysRun) (maxL := 4) (ret := none) (by decide) rfl ?_
  intro p e s m args below meth c s₁ B hml hv
  obtain ⟨rfl, hsz, hP, hK, hD0⟩ := hv
  have hx := B.exec
  have hb := B.bytes
  have hr := B.returns
  have hts := atoms_spec (ws := wz_X12_laysRun) B.pre
  have hta := wz_tl hts
  have hown : s.vm.findClass RX12 = some m.cls := findClass_of_methodNamed B.named
  have hlocks := B.notSynchronized
  subst hsz
  have hD := hD0.self (sz := s.heap.size)
  generalize hAe : va_A (wd_X12_laysRun cI a0 v0_2 v0_3 v0_5 v0_12 v0_13 v0_16 v0_17 v0_21 v0_23 v0_24 v0_25 v0_26 v0_29 v0_30 v0_0 v0_6 v0_7 v0_8 v0_9 v0_10 v0_11 v0_14 v0_15 v0_18 v0_19 v0_20 v0_22) s.heap.size = A at hD ⊢
  have hA : ∀ q : Nat, s.heap.size ≤ q → A q := fun q h => by rw [← hAe]; exact Or.inr h
  have hS : va_S A s.heap s.heap [] := va_S.rf
  have hP : va_P (dC, dI) vwCl (wd_X12_laysRun cI a0 v0_2 v0_3 v0_5 v0_12 v0_13 v0_16 v0_17 v0_21 v0_23 v0_24 v0_25 v0_26 v0_29 v0_30 v0_0 v0_6 v0_7 v0_8 v0_9 v0_10 v0_11 v0_14 v0_15 v0_18 v0_19 v0_20 v0_22) s.heap := hP
  have hl := lv_entry ([.ref (a0 0), .int p1]) (n := 4) (Nat.le_of_ble_eq_true rfl)
  rw [lg_entry_eq]
  generalize (lg_sl ([.ref (a0 0), .int p1]) ++ List.replicate (4 - (lg_sl ([.ref (a0 0), .int p1])).length) Slot.unset).toArray = ls at hl ⊢
  have hl : lv_has ls 4 [(0, .ref (a0 0)), (1, .int p1)] := hl
  obtain ⟨H, hHe⟩ : ∃ H, H = s.heap := ⟨_, rfl⟩
  have hS : va_S A s.heap H [] := by rw [hHe]; exact hS
  have hP : va_P (dC, dI) vwCl (wd_X12_laysRun cI a0 v0_2 v0_3 v0_5 v0_12 v0_13 v0_16 v0_17 v0_21 v0_23 v0_24 v0_25 v0_26 v0_29 v0_30 v0_0 v0_6 v0_7 v0_8 v0_9 v0_10 v0_11 v0_14 v0_15 v0_18 v0_19 v0_20 v0_22) H := by rw [hHe]; exact hP
  rw [← hHe]
  unfold F_X12_laysRun at hF
  have j91 : ∀ (v0_21 : Int32) (v0_23 : Int32) (v0_18 : Nat → Int32) (v0_19 : Nat → Int32) (v0_20 : Nat → Int32) (v0_22 : Nat → Int32), F_X12_laysRun_j91 v0_17 v0_21 v0_23 v0_0 v0_6 v0_7 v0_8 v0_9 v0_10 v0_18 v0_19 v0_20 v0_22 = some u → ∀ (H : Heap) (locs : List Loc) (ls : Array Slot), va_P (dC, dI) vwCl (wd_X12_laysRun cI a0 v0_2 v0_3 v0_5 v0_12 v0_13 v0_16 v0_17 v0_21 v0_23 v0_24 v0_25 v0_26 v0_29 v0_30 v0_0 v0_6 v0_7 v0_8 v0_9 v0_10 v0_11 v0_14 v0_15 v0_18 v0_19 v0_20 v0_22) H → va_D A (wd_X12_laysRun cI a0 v0_2 v0_3 v0_5 v0_12 v0_13 v0_16 v0_17 v0_21 v0_23 v0_24 v0_25 v0_26 v0_29 v0_30 v0_0 v0_6 v0_7 v0_8 v0_9 v0_10 v0_11 v0_14 v0_15 v0_18 v0_19 v0_20 v0_22) → va_S A s.heap H locs → lv_has ls 4 [(0, .ref (a0 0))] → W p l e (headSpec wz_X12_laysRun rm_X12_laysRun).room s m [.ref (a0 0), .int p1].toArray below meth c H locs 0 0 (MQ below (Q_X12_laysRun dC dI cI a0 v0_2 v0_3 v0_5 v0_12 v0_13 v0_16 v0_17 v0_24 v0_25 v0_26 v0_29 v0_30 v0_0 v0_6 v0_7 v0_8 v0_9 v0_10 v0_11 v0_14 v0_15 u A) [.ref (a0 0), .int p1].toArray s 0 0 A) (F0 m 91 ls []) := by
    intro v0_21 v0_23 v0_18 v0_19 v0_20 v0_22 hF H locs ls hP hD hS hl
    unfold F_X12_laysRun_j91 at hF
    refine lv_aload_n hx hb dX12_laysRun_91 rfl (lv_at hl 0 rfl) ?_
    refine va_get (D := (dC, dI)) (ci := 11) (v := .int v0_17) (C := RX12) (T := TX12) (N := 31) hx hb hta uw_X12 hown hK hP 0 rfl rfl 17 (by decide) (hta _ mA925) (fun _ h9 => h9) rfl dX12_laysRun_92 ?_
    refine lv_if_ne (tgt := 142) hx hb dX12_laysRun_95 (by decide) (fun c_1 => ?_) (fun c_1 => ?_)
    · have hF := it_f hF c_1
      obtain rfl := Option.some.inj hF
      exact W.vret hx hb hr (fun t ht hW => ⟨⟨(), rfl, trivial, by rw [ht]; exact hP, va_K.moved hW.alike hK, hD⟩, hS.F ht⟩) hS.2.2 dX12_laysRun_142
    · have hF := it_t hF c_1
      refine lv_aload_n hx hb dX12_laysRun_98 rfl (lv_at hl 0 rfl) ?_
      refine lv_aload_n hx hb dX12_laysRun_99 rfl (lv_at hl 0 rfl) ?_
      refine va_get (D := (dC, dI)) (ci := 11) (v := .ref (a0 19)) (C := RX12) (T := TX12) (N := 31) hx hb hta uw_X12 hown hK hP 0 rfl rfl 18 (by decide) (hta _ mA801) (fun _ h9 => h9) rfl dX12_laysRun_100 ?_
      refine lv_iconst (v := 0) hx hb dX12_laysRun_103 (by decide) ?_
      obtain ⟨g_2, hF⟩ := gd_some hF
      refine va_iald hx hb hK hP 10 0 rfl rfl (vpi_in g_2) dX12_laysRun_104 ?_
      refine lv_aload_n hx hb dX12_laysRun_105 rfl (lv_at hl 0 rfl) ?_
      refine va_get (D := (dC, dI)) (ci := 11) (v := .ref (a0 20)) (C := RX12) (T := TX12) (N := 31) hx hb hta uw_X12 hown hK hP 0 rfl rfl 19 (by decide) (hta _ mA802) (fun _ h9 => h9) rfl dX12_laysRun_106 ?_
      refine lv_iconst (v := 0) hx hb dX12_laysRun_109 (by decide) ?_
      obtain ⟨g_3, hF⟩ := gd_some hF
      refine va_iald hx hb hK hP 11 0 rfl rfl (vpi_in g_3) dX12_laysRun_110 ?_
      refine lv_iconst (v := (-1)) hx hb dX12_laysRun_111 (by decide) ?_
      obtain ⟨u_4, hu_4, hF⟩ := obd_some hF
      have hPc := hP.sub (ws' := (wd_X12_laysCap cI a0 v0_2 v0_3 v0_5 v0_12 v0_13 v0_16 v0_17 v0_21 v0_23 v0_24 v0_25 v0_26 v0_29 v0_30 v0_0 v0_6 v0_7 v0_8 v0_9 v0_10 v0_22)) [0, 1, 2, 3, 4, 5, 6, 13] rfl
      have hDc := hD.sub (ws' := (wd_X12_laysCap cI a0 v0_2 v0_3 v0_5 v0_12 v0_13 v0_16 v0_17 v0_21 v0_23 v0_24 v0_25 v0_26 v0_29 v0_30 v0_0 v0_6 v0_7 v0_8 v0_9 v0_10 v0_22)) [0, 1, 2, 3, 4, 5, 6, 13] rfl rfl
      refine q_callv (wc := (wd_X12_laysCap cI a0 v0_2 v0_3 v0_5 v0_12 v0_13 v0_16 v0_17 v0_21 v0_23 v0_24 v0_25 v0_26 v0_29 v0_30 v0_0 v0_6 v0_7 v0_8 v0_9 v0_10 v0_22)) (w1 := (wd_X12_laysCap cI a0 v0_2 v0_3 v0_5 v0_12 v0_13 v0_16 v0_17 v0_21 u_4.1 v0_24 v0_25 v0_26 v0_29 v0_30 v0_0 v0_6 v0_7 v0_8 v0_9 v0_10 u_4.2)) (ws' := (wd_X12_laysRun cI a0 v0_2 v0_3 v0_5 v0_12 v0_13 v0_16 v0_17 v0_21 u_4.1 v0_24 v0_25 v0_26 v0_29 v0_30 v0_0 v0_6 v0_7 v0_8 v0_9 v0_10 v0_11 v0_14 v0_15 v0_18 v0_19 v0_20 u_4.2)) hP hD hS hA [0, 1, 2, 3, 4, 5, 6, 13] [7, 8, 9, 10, 11, 12] [6, 7, 8, 9, 10, 11, 12, 0, 1, 2, 3, 4, 5, 13] rfl rfl rfl (by decide) rfl rfl (va_runV (As := [.int (v0_18 (0 : Int32).toNatClampNeg), .int (v0_19 (0 : Int32).toNatClampNeg), .int (-1)]) (rest := []) ⟨hx, hb, hml, hown, hta⟩ (c_X12_laysCap l dC dI cI H.size a0 v0_2 v0_3 v0_5 v0_12 v0_13 v0_16 v0_17 v0_21 v0_23 v0_24 v0_25 v0_26 v0_29 v0_30 v0_0 v0_6 v0_7 v0_8 v0_9 v0_10 v0_22 (v0_18 (0 : Int32).toNatClampNeg) (v0_19 (0 : Int32).toNatClampNeg) (-1) u_4 hu_4) (cwV 3 hta (ga_V mA1002 mA1003 mA1004 mA814 mA988) rfl rfl rfl (by decide +kernel) ⟨Nat.le_of_ble_eq_true rfl, Nat.le_of_ble_eq_true rfl⟩) ⟨q_fb, va_recv hK hP (ci := 11) (q0 := 0) rfl rfl, q_ps hPc hK hDc⟩ rfl rfl hl.1 rfl (lv_room (Nat.le_of_ble_eq_true rfl)) dX12_laysRun_112 ⟨Nat.zero_le _, Nat.zero_le _⟩) (fun H locs hP hD hS => ?_)
      refine lv_aload_n hx hb dX12_laysRun_115 rfl (lv_at hl 0 rfl) ?_
      refine lv_aload_n hx hb dX12_laysRun_116 rfl (lv_at hl 0 rfl) ?_
      refine va_get (D := (dC, dI)) (ci := 11) (v := .ref (a0 19)) (C := RX12) (T := TX12) (N := 31) hx hb hta uw_X12 hown hK hP 0 rfl rfl 18 (by decide) (hta _ mA801) (fun _ h9 => h9) rfl dX12_laysRun_117 ?_
      refine lv_aload_n hx hb dX12_laysRun_120 rfl (lv_at hl 0 rfl) ?_
      refine va_get (D := (dC, dI)) (ci := 11) (v := .int v0_21) (C := RX12) (T := TX12) (N := 31) hx hb hta uw_X12 hown hK hP 0 rfl rfl 21 (by decide) (hta _ mA933) (fun _ h9 => h9) rfl dX12_laysRun_121 ?_
      refine lv_iconst (v := 1) hx hb dX12_laysRun_124 (by decide) ?_
      refine lv_isub hx hb dX12_laysRun_125 ?_
      obtain ⟨y_5, ey_5, hF⟩ := lt_some hF
      refine lv_eqi ey_5 ?_
      obtain ⟨g_6, hF⟩ := gd_some hF
      refine va_iald hx hb hK hP 10 0 rfl rfl (vpi_in g_6) dX12_laysRun_126 ?_
      refine lv_aload_n hx hb dX12_laysRun_127 rfl (lv_at hl 0 rfl) ?_
      refine va_get (D := (dC, dI)) (ci := 11) (v := .ref (a0 21)) (C := RX12) (T := TX12) (N := 31) hx hb hta uw_X12 hown hK hP 0 rfl rfl 20 (by decide) (hta _ mA803) (fun _ h9 => h9) rfl dX12_laysRun_128 ?_
      refine lv_aload_n hx hb dX12_laysRun_131 rfl (lv_at hl 0 rfl) ?_
      refine va_get (D := (dC, dI)) (ci := 11) (v := .int v0_21) (C := RX12) (T := TX12) (N := 31) hx hb hta uw_X12 hown hK hP 0 rfl rfl 21 (by decide) (hta _ mA933) (fun _ h9 => h9) rfl dX12_laysRun_132 ?_
      refine lv_iconst (v := 1) hx hb dX12_laysRun_135 (by decide) ?_
      refine lv_isub hx hb dX12_laysRun_136 ?_
      obtain ⟨y_7, ey_7, hF⟩ := lt_some hF
      refine lv_eqi ey_7 ?_
      obtain ⟨g_8, hF⟩ := gd_some hF
      refine va_iald hx hb hK hP 12 0 rfl rfl (vpi_in g_8) dX12_laysRun_137 ?_
      refine lv_iconst (v := 1) hx hb dX12_laysRun_138 (by decide) ?_
      obtain ⟨u_9, hu_9, hF⟩ := obd_some hF
      have hPc := hP.sub (ws' := (wd_X12_laysCap cI a0 v0_2 v0_3 v0_5 v0_12 v0_13 v0_16 v0_17 v0_21 u_4.1 v0_24 v0_25 v0_26 v0_29 v0_30 v0_0 v0_6 v0_7 v0_8 v0_9 v0_10 u_4.2)) [0, 1, 2, 3, 4, 5, 6, 13] rfl
      have hDc := hD.sub (ws' := (wd_X12_laysCap cI a0 v0_2 v0_3 v0_5 v0_12 v0_13 v0_16 v0_17 v0_21 u_4.1 v0_24 v0_25 v0_26 v0_29 v0_30 v0_0 v0_6 v0_7 v0_8 v0_9 v0_10 u_4.2)) [0, 1, 2, 3, 4, 5, 6, 13] rfl rfl
      refine q_callv (wc := (wd_X12_laysCap cI a0 v0_2 v0_3 v0_5 v0_12 v0_13 v0_16 v0_17 v0_21 u_4.1 v0_24 v0_25 v0_26 v0_29 v0_30 v0_0 v0_6 v0_7 v0_8 v0_9 v0_10 u_4.2)) (w1 := (wd_X12_laysCap cI a0 v0_2 v0_3 v0_5 v0_12 v0_13 v0_16 v0_17 v0_21 u_9.1 v0_24 v0_25 v0_26 v0_29 v0_30 v0_0 v0_6 v0_7 v0_8 v0_9 v0_10 u_9.2)) (ws' := (wd_X12_laysRun cI a0 v0_2 v0_3 v0_5 v0_12 v0_13 v0_16 v0_17 v0_21 u_9.1 v0_24 v0_25 v0_26 v0_29 v0_30 v0_0 v0_6 v0_7 v0_8 v0_9 v0_10 v0_11 v0_14 v0_15 v0_18 v0_19 v0_20 u_9.2)) hP hD hS hA [0, 1, 2, 3, 4, 5, 6, 13] [7, 8, 9, 10, 11, 12] [6, 7, 8, 9, 10, 11, 12, 0, 1, 2, 3, 4, 5, 13] rfl rfl rfl (by decide) rfl rfl (va_runV (As := [.int (v0_18 y_5.toNatClampNeg), .int (v0_20 y_7.toNatClampNeg), .int 1]) (rest := []) ⟨hx, hb, hml, hown, hta⟩ (c_X12_laysCap l dC dI cI H.size a0 v0_2 v0_3 v0_5 v0_12 v0_13 v0_16 v0_17 v0_21 u_4.1 v0_24 v0_25 v0_26 v0_29 v0_30 v0_0 v0_6 v0_7 v0_8 v0_9 v0_10 u_4.2 (v0_18 y_5.toNatClampNeg) (v0_20 y_7.toNatClampNeg) 1 u_9 hu_9) (cwV 3 hta (ga_V mA1002 mA1003 mA1004 mA814 mA988) rfl rfl rfl (by decide +kernel) ⟨Nat.le_of_ble_eq_true rfl, Nat.le_of_ble_eq_true rfl⟩) ⟨q_fb, va_recv hK hP (ci := 11) (q0 := 0) rfl rfl, q_ps hPc hK hDc⟩ rfl rfl hl.1 rfl (lv_room (Nat.le_of_ble_eq_true rfl)) dX12_laysRun_139 ⟨Nat.zero_le _, Nat.zero_le _⟩) (fun H locs hP hD hS => ?_)
      obtain rfl := Option.some.inj hF
      exact W.vret hx hb hr (fun t ht hW => ⟨⟨(), rfl, trivial, by rw [ht]; exact hP, va_K.moved hW.alike hK, hD⟩, hS.F ht⟩) hS.2.2 dX12_laysRun_142
  have j7 : ∀ (v0_21 : Int32) (v0_23 : Int32) (v0_18 : Nat → Int32) (v0_19 : Nat → Int32) (v0_20 : Nat → Int32) (v0_22 : Nat → Int32) (x2 : Int32), F_X12_laysRun_j7 n v0_17 v0_21 v0_23 v0_0 v0_6 v0_7 v0_8 v0_9 v0_10 v0_18 v0_19 v0_20 v0_22 x2 = some u → ∀ (H : Heap) (locs : List Loc) (ls : Array Slot), va_P (dC, dI) vwCl (wd_X12_laysRun cI a0 v0_2 v0_3 v0_5 v0_12 v0_13 v0_16 v0_17 v0_21 v0_23 v0_24 v0_25 v0_26 v0_29 v0_30 v0_0 v0_6 v0_7 v0_8 v0_9 v0_10 v0_11 v0_14 v0_15 v0_18 v0_19 v0_20 v0_22) H → va_D A (wd_X12_laysRun cI a0 v0_2 v0_3 v0_5 v0_12 v0_13 v0_16 v0_17 v0_21 v0_23 v0_24 v0_25 v0_26 v0_29 v0_30 v0_0 v0_6 v0_7 v0_8 v0_9 v0_10 v0_11 v0_14 v0_15 v0_18 v0_19 v0_20 v0_22) → va_S A s.heap H locs → lv_has ls 4 [(0, .ref (a0 0)), (2, .int x2)] → W p l e (headSpec wz_X12_laysRun rm_X12_laysRun).room s m [.ref (a0 0), .int p1].toArray below meth c H locs 0 0 (MQ below (Q_X12_laysRun dC dI cI a0 v0_2 v0_3 v0_5 v0_12 v0_13 v0_16 v0_17 v0_24 v0_25 v0_26 v0_29 v0_30 v0_0 v0_6 v0_7 v0_8 v0_9 v0_10 v0_11 v0_14 v0_15 u A) [.ref (a0 0), .int p1].toArray s 0 0 A) (F0 m 7 ls []) := by
    intro v0_21 v0_23 v0_18 v0_19 v0_20 v0_22 x2 hF H locs ls hP hD hS hl
    unfold F_X12_laysRun_j7 at hF
    obtain ⟨x_7, hL_7, hE_7⟩ := obd_some hF
    have kl_7 : ∀ (k : Nat) (s7 : Int32 × Int32 × (Nat → Int32)), lpq (F_X12_laysRun_b7 v0_17 v0_21 v0_0 v0_6 v0_7 v0_8 v0_9 v0_10 v0_18 v0_19 v0_20) k s7 = some x_7 → ∀ (H : Heap) (locs : List Loc) (ls : Array Slot), va_P (dC, dI) vwCl (wd_X12_laysRun cI a0 v0_2 v0_3 v0_5 v0_12 v0_13 v0_16 v0_17 v0_21 s7.2.1 v0_24 v0_25 v0_26 v0_29 v0_30 v0_0 v0_6 v0_7 v0_8 v0_9 v0_10 v0_11 v0_14 v0_15 v0_18 v0_19 v0_20 s7.2.2) H → va_D A (wd_X12_laysRun cI a0 v0_2 v0_3 v0_5 v0_12 v0_13 v0_16 v0_17 v0_21 s7.2.1 v0_24 v0_25 v0_26 v0_29 v0_30 v0_0 v0_6 v0_7 v0_8 v0_9 v0_10 v0_11 v0_14 v0_15 v0_18 v0_19 v0_20 s7.2.2) → va_S A s.heap H locs → lv_has ls 4 [(0, .ref (a0 0)), (2, .int s7.1)] → W p l e (headSpec wz_X12_laysRun rm_X12_laysRun).room s m [.ref (a0 0), .int p1].toArray below meth c H locs 0 0 (MQ below (Q_X12_laysRun dC dI cI a0 v0_2 v0_3 v0_5 v0_12 v0_13 v0_16 v0_17 v0_24 v0_25 v0_26 v0_29 v0_30 v0_0 v0_6 v0_7 v0_8 v0_9 v0_10 v0_11 v0_14 v0_15 u A) [.ref (a0 0), .int p1].toArray s 0 0 A) (F0 m 7 ls []) := by
      intro k
      induction k with
      | zero => intro s7 h; exact absurd h lpq_zero
      | succ k ih_7 =>
        intro s7 h H locs ls hP hD hS hl
        obtain ⟨o_7, hF, hO_7⟩ := lpq_succ h
        unfold F_X12_laysRun_b7 at hF
        have j85 : ∀ (v0_23 : Int32) (v0_22 : Nat → Int32) (x2 : Int32), F_X12_laysRun_j85 v0_23 v0_22 x2 = some o_7 → ∀ (H : Heap) (locs : List Loc) (ls : Array Slot), va_P (dC, dI) vwCl (wd_X12_laysRun cI a0 v0_2 v0_3 v0_5 v0_12 v0_13 v0_16 v0_17 v0_21 v0_23 v0_24 v0_25 v0_26 v0_29 v0_30 v0_0 v0_6 v0_7 v0_8 v0_9 v0_10 v0_11 v0_14 v0_15 v0_18 v0_19 v0_20 v0_22) H → va_D A (wd_X12_laysRun cI a0 v0_2 v0_3 v0_5 v0_12 v0_13 v0_16 v0_17 v0_21 v0_23 v0_24 v0_25 v0_26 v0_29 v0_30 v0_0 v0_6 v0_7 v0_8 v0_9 v0_10 v0_11 v0_14 v0_15 v0_18 v0_19 v0_20 v0_22) → va_S A s.heap H locs → lv_has ls 4 [(0, .ref (a0 0)), (2, .int x2)] → W p l e (headSpec wz_X12_laysRun rm_X12_laysRun).room s m [.ref (a0 0), .int p1].toArray below meth c H locs 0 0 (MQ below (Q_X12_laysRun dC dI cI a0 v0_2 v0_3 v0_5 v0_12 v0_13 v0_16 v0_17 v0_24 v0_25 v0_26 v0_29 v0_30 v0_0 v0_6 v0_7 v0_8 v0_9 v0_10 v0_11 v0_14 v0_15 u A) [.ref (a0 0), .int p1].toArray s 0 0 A) (F0 m 85 ls []) := by
          intro v0_23 v0_22 x2 hF H locs ls hP hD hS hl
          unfold F_X12_laysRun_j85 at hF
          obtain ⟨y_10, ey_10, hF⟩ := lt_some hF
          refine lv_iinc (v := y_10) (lv' := [(2, .int y_10), (0, .ref (a0 0))]) hx hb dX12_laysRun_85 hl (k := 1) rfl (by rw [ey_10]; rfl) (by decide) rfl (fun ls hl => ?_)
          refine lv_goto (tgt := 7) hx hb dX12_laysRun_88 (by decide) ?_
          obtain rfl := Option.some.inj hF
          exact ih_7 _ hO_7 _ _ _ hP hD hS (lv_sub hl [1, 0] rfl)
        have j48 : ∀ (v0_23 : Int32) (v0_22 : Nat → Int32) (x2 : Int32) (t0 : Int32), F_X12_laysRun_j48 v0_23 v0_0 v0_6 v0_7 v0_8 v0_9 v0_10 v0_18 v0_22 x2 t0 = some o_7 → ∀ (H : Heap) (locs : List Loc) (ls : Array Slot), va_P (dC, dI) vwCl (wd_X12_laysRun cI a0 v0_2 v0_3 v0_5 v0_12 v0_13 v0_16 v0_17 v0_21 v0_23 v0_24 v0_25 v0_26 v0_29 v0_30 v0_0 v0_6 v0_7 v0_8 v0_9 v0_10 v0_11 v0_14 v0_15 v0_18 v0_19 v0_20 v0_22) H → va_D A (wd_X12_laysRun cI a0 v0_2 v0_3 v0_5 v0_12 v0_13 v0_16 v0_17 v0_21 v0_23 v0_24 v0_25 v0_26 v0_29 v0_30 v0_0 v0_6 v0_7 v0_8 v0_9 v0_10 v0_11 v0_14 v0_15 v0_18 v0_19 v0_20 v0_22) → va_S A s.heap H locs → lv_has ls 4 [(0, .ref (a0 0)), (2, .int x2)] → W p l e (headSpec wz_X12_laysRun rm_X12_laysRun).room s m [.ref (a0 0), .int p1].toArray below meth c H locs 0 0 (MQ below (Q_X12_laysRun dC dI cI a0 v0_2 v0_3 v0_5 v0_12 v0_13 v0_16 v0_17 v0_24 v0_25 v0_26 v0_29 v0_30 v0_0 v0_6 v0_7 v0_8 v0_9 v0_10 v0_11 v0_14 v0_15 u A) [.ref (a0 0), .int p1].toArray s 0 0 A) (F0 m 48 ls [.int t0]) := by
          intro v0_23 v0_22 x2 t0 hF H locs ls hP hD hS hl
          unfold F_X12_laysRun_j48 at hF
          refine lv_istore_n (lv' := [(3, .int t0), (0, .ref (a0 0)), (2, .int x2)]) hx hb dX12_laysRun_48 rfl hl (by decide) rfl (fun ls hl => ?_)
          refine lv_iload_n hx hb dX12_laysRun_49 rfl (lv_at hl 0 rfl) ?_
          refine lv_iconst (v := (-1)) hx hb dX12_laysRun_50 (by decide) ?_
          refine lv_icmp_eq (tgt := 85) hx hb dX12_laysRun_51 (by decide) (fun c_11 => ?_) (fun c_11 => ?_)
          · have hF := it_t hF c_11
            exact j85 v0_23 v0_22 x2 hF _ _ _ hP hD hS (lv_sub hl [1, 2] rfl)
          · have hF := it_f hF c_11
            refine lv_aload_n hx hb dX12_laysRun_54 rfl (lv_at hl 1 rfl) ?_
            refine va_get (D := (dC, dI)) (ci := 11) (v := .ref (a0 19)) (C := RX12) (T := TX12) (N := 31) hx hb hta uw_X12 hown hK hP 0 rfl rfl 18 (by decide) (hta _ mA801) (fun _ h9 => h9) rfl dX12_laysRun_55 ?_
            refine lv_iload_n hx hb dX12_laysRun_58 rfl (lv_at hl 0 rfl) ?_
            obtain ⟨g_12, hF⟩ := gd_some hF
            refine va_iald hx hb hK hP 10 0 rfl rfl (vpi_in g_12) dX12_laysRun_59 ?_
            refine lv_aload_n hx hb dX12_laysRun_60 rfl (lv_at hl 1 rfl) ?_
            refine va_get (D := (dC, dI)) (ci := 11) (v := .ref (a0 19)) (C := RX12) (T := TX12) (N := 31) hx hb hta uw_X12 hown hK hP 0 rfl rfl 18 (by decide) (hta _ mA801) (fun _ h9 => h9) rfl dX12_laysRun_61 ?_
            refine lv_iload_n hx hb dX12_laysRun_64 rfl (lv_at hl 2 rfl) ?_
            obtain ⟨g_13, hF⟩ := gd_some hF
            refine va_iald hx hb hK hP 10 0 rfl rfl (vpi_in g_13) dX12_laysRun_65 ?_
            refine lv_icmp_eq (tgt := 85) hx hb dX12_laysRun_66 (by decide) (fun c_14 => ?_) (fun c_14 => ?_)
            · have hF := it_t hF c_14
              exact j85 v0_23 v0_22 x2 hF _ _ _ hP hD hS (lv_sub hl [1, 2] rfl)
            · have hF := it_f hF c_14
              refine lv_aload_n hx hb dX12_laysRun_69 rfl (lv_at hl 1 rfl) ?_
              refine lv_aload_n hx hb dX12_laysRun_70 rfl (lv_at hl 1 rfl) ?_
              refine va_get (D := (dC, dI)) (ci := 11) (v := .ref (a0 19)) (C := RX12) (T := TX12) (N := 31) hx hb hta uw_X12 hown hK hP 0 rfl rfl 18 (by decide) (hta _ mA801) (fun _ h9 => h9) rfl dX12_laysRun_71 ?_
              refine lv_iload_n hx hb dX12_laysRun_74 rfl (lv_at hl 2 rfl) ?_
              obtain ⟨g_15, hF⟩ := gd_some hF
              refine va_iald hx hb hK hP 10 0 rfl rfl (vpi_in g_15) dX12_laysRun_75 ?_
              refine lv_aload_n hx hb dX12_laysRun_76 rfl (lv_at hl 1 rfl) ?_
              refine va_get (D := (dC, dI)) (ci := 11) (v := .ref (a0 19)) (C := RX12) (T := TX12) (N := 31) hx hb hta uw_X12 hown hK hP 0 rfl rfl 18 (by decide) (hta _ mA801) (fun _ h9 => h9) rfl dX12_laysRun_77 ?_
              refine lv_iload_n hx hb dX12_laysRun_80 rfl (lv_at hl 0 rfl) ?_
              obtain ⟨g_16, hF⟩ := gd_some hF
              refine va_iald hx hb hK hP 10 0 rfl rfl (vpi_in g_16) dX12_laysRun_81 ?_
              obtain ⟨u_17, hu_17, hF⟩ := obd_some hF
              have hPc := hP.sub (ws' := (wd_X12_laysJoin cI a0 v0_2 v0_3 v0_5 v0_12 v0_13 v0_16 v0_17 v0_21 v0_23 v0_24 v0_25 v0_26 v0_29 v0_30 v0_0 v0_6 v0_7 v0_8 v0_9 v0_10 v0_22)) [0, 1, 2, 3, 4, 5, 6, 13] rfl
              have hDc := hD.sub (ws' := (wd_X12_laysJoin cI a0 v0_2 v0_3 v0_5 v0_12 v0_13 v0_16 v0_17 v0_21 v0_23 v0_24 v0_25 v0_26 v0_29 v0_30 v0_0 v0_6 v0_7 v0_8 v0_9 v0_10 v0_22)) [0, 1, 2, 3, 4, 5, 6, 13] rfl rfl
              refine q_callv (wc := (wd_X12_laysJoin cI a0 v0_2 v0_3 v0_5 v0_12 v0_13 v0_16 v0_17 v0_21 v0_23 v0_24 v0_25 v0_26 v0_29 v0_30 v0_0 v0_6 v0_7 v0_8 v0_9 v0_10 v0_22)) (w1 := (wd_X12_laysJoin cI a0 v0_2 v0_3 v0_5 v0_12 v0_13 v0_16 v0_17 v0_21 u_17.1 v0_24 v0_25 v0_26 v0_29 v0_30 v0_0 v0_6 v0_7 v0_8 v0_9 v0_10 u_17.2)) (ws' := (wd_X12_laysRun cI a0 v0_2 v0_3 v0_5 v0_12 v0_13 v0_16 v0_17 v0_21 u_17.1 v0_24 v0_25 v0_26 v0_29 v0_30 v0_0 v0_6 v0_7 v0_8 v0_9 v0_10 v0_11 v0_14 v0_15 v0_18 v0_19 v0_20 u_17.2)) hP hD hS hA [0, 1, 2, 3, 4, 5, 6, 13] [7, 8, 9, 10, 11, 12] [6, 7, 8, 9, 10, 11, 12, 0, 1, 2, 3, 4, 5, 13] rfl rfl rfl (by decide) rfl rfl (va_runV (As := [.int (v0_18 x2.toNatClampNeg), .int (v0_18 t0.toNatClampNeg)]) (rest := []) ⟨hx, hb, hml, hown, hta⟩ (c_X12_laysJoin l dC dI cI H.size a0 v0_2 v0_3 v0_5 v0_12 v0_13 v0_16 v0_17 v0_21 v0_23 v0_24 v0_25 v0_26 v0_29 v0_30 v0_0 v0_6 v0_7 v0_8 v0_9 v0_10 v0_22 (v0_18 x2.toNatClampNeg) (v0_18 t0.toNatClampNeg) u_17 hu_17) (cwV 2 hta (ga_V mA999 mA1000 mA1001 mA814 mA981) rfl rfl rfl (by decide +kernel) ⟨Nat.le_of_ble_eq_true rfl, Nat.le_of_ble_eq_true rfl⟩) ⟨q_fb, va_recv hK hP (ci := 11) (q0 := 0) rfl rfl, q_ps hPc hK hDc⟩ rfl rfl hl.1 rfl (lv_room (Nat.le_of_ble_eq_true rfl)) dX12_laysRun_82 ⟨Nat.zero_le _, Nat.zero_le _⟩) (fun H locs hP hD hS => ?_)
              exact j85 u_17.1 u_17.2 x2 hF _ _ _ hP hD hS (lv_sub hl [1, 2] rfl)
        refine lv_iload_n hx hb dX12_laysRun_7 rfl (lv_at hl 1 rfl) ?_
        refine lv_aload_n hx hb dX12_laysRun_8 rfl (lv_at hl 0 rfl) ?_
        refine va_get (D := (dC, dI)) (ci := 11) (v := .int v0_21) (C := RX12) (T := TX12) (N := 31) hx hb hta uw_X12 hown hK hP 0 rfl rfl 21 (by decide) (hta _ mA933) (fun _ h9 => h9) rfl dX12_laysRun_9 ?_
        refine lv_icmp_ge (tgt := 91) hx hb dX12_laysRun_12 (by decide) (fun c_18 => ?_) (fun c_18 => ?_)
        · have hF := it_t hF c_18
          obtain rfl := Option.some.inj hF
          obtain rfl := lpq_x hO_7
          have hF := hE_7
          exact j91 v0_21 s7.2.1 v0_18 v0_19 v0_20 s7.2.2 hF _ _ _ hP hD hS (lv_sub hl [0] rfl)
        · have hF := it_f hF c_18
          refine lv_aload_n hx hb dX12_laysRun_15 rfl (lv_at hl 0 rfl) ?_
          refine lv_iload_n hx hb dX12_laysRun_16 rfl (lv_at hl 1 rfl) ?_
          obtain ⟨u_19, hu_19, hF⟩ := obd_some hF
          have hPc := hP.sub (ws' := (wd_X12_laysStrip cI a0 v0_2 v0_3 v0_5 v0_12 v0_13 v0_16 v0_17 v0_21 s7.2.1 v0_24 v0_25 v0_26 v0_29 v0_30 v0_0 v0_6 v0_7 v0_8 v0_9 v0_10 v0_18 v0_19 v0_20 s7.2.2)) [0, 1, 2, 3, 4, 5, 6, 10, 11, 12, 13] rfl
          have hDc := hD.sub (ws' := (wd_X12_laysStrip cI a0 v0_2 v0_3 v0_5 v0_12 v0_13 v0_16 v0_17 v0_21 s7.2.1 v0_24 v0_25 v0_26 v0_29 v0_30 v0_0 v0_6 v0_7 v0_8 v0_9 v0_10 v0_18 v0_19 v0_20 s7.2.2)) [0, 1, 2, 3, 4, 5, 6, 10, 11, 12, 13] rfl rfl
          refine q_callv (wc := (wd_X12_laysStrip cI a0 v0_2 v0_3 v0_5 v0_12 v0_13 v0_16 v0_17 v0_21 s7.2.1 v0_24 v0_25 v0_26 v0_29 v0_30 v0_0 v0_6 v0_7 v0_8 v0_9 v0_10 v0_18 v0_19 v0_20 s7.2.2)) (w1 := (wd_X12_laysStrip cI a0 v0_2 v0_3 v0_5 v0_12 v0_13 v0_16 v0_17 v0_21 u_19.1 v0_24 v0_25 v0_26 v0_29 v0_30 v0_0 v0_6 v0_7 v0_8 v0_9 v0_10 v0_18 v0_19 v0_20 u_19.2)) (ws' := (wd_X12_laysRun cI a0 v0_2 v0_3 v0_5 v0_12 v0_13 v0_16 v0_17 v0_21 u_19.1 v0_24 v0_25 v0_26 v0_29 v0_30 v0_0 v0_6 v0_7 v0_8 v0_9 v0_10 v0_11 v0_14 v0_15 v0_18 v0_19 v0_20 u_19.2)) hP hD hS hA [0, 1, 2, 3, 4, 5, 6, 10, 11, 12, 13] [7, 8, 9] [3, 4, 5, 6, 7, 8, 9, 0, 1, 2, 10, 11, 12, 13] rfl rfl rfl (by decide) rfl rfl (va_runV (As := [.int s7.1]) (rest := []) ⟨hx, hb, hml, hown, hta⟩ (c_X12_laysStrip l dC dI cI H.size a0 v0_2 v0_3 v0_5 v0_12 v0_13 v0_16 v0_17 v0_21 s7.2.1 v0_24 v0_25 v0_26 v0_29 v0_30 v0_0 v0_6 v0_7 v0_8 v0_9 v0_10 v0_18 v0_19 v0_20 s7.2.2 s7.1 u_19 hu_19) (cwV 1 hta (ga_V mA996 mA997 mA998 mA814 mA970) rfl rfl rfl (by decide +kernel) ⟨Nat.le_of_ble_eq_true rfl, Nat.le_of_ble_eq_true rfl⟩) ⟨q_fb, va_recv hK hP (ci := 11) (q0 := 0) rfl rfl, q_ps hPc hK hDc⟩ rfl rfl hl.1 rfl (lv_room (Nat.le_of_ble_eq_true rfl)) dX12_laysRun_17 ⟨Nat.zero_le _, Nat.zero_le _⟩) (fun H locs hP hD hS => ?_)
          refine lv_iload_n hx hb dX12_laysRun_20 rfl (lv_at hl 1 rfl) ?_
          refine lv_iconst (v := 1) hx hb dX12_laysRun_21 (by decide) ?_
          refine lv_iadd hx hb dX12_laysRun_22 ?_
          refine lv_aload_n hx hb dX12_laysRun_23 rfl (lv_at hl 0 rfl) ?_
          refine va_get (D := (dC, dI)) (ci := 11) (v := .int v0_21) (C := RX12) (T := TX12) (N := 31) hx hb hta uw_X12 hown hK hP 0 rfl rfl 21 (by decide) (hta _ mA933) (fun _ h9 => h9) rfl dX12_laysRun_24 ?_
          refine lv_icmp_ge (tgt := 36) hx hb dX12_laysRun_27 (by decide) (fun c_20 => ?_) (fun c_20 => ?_)
          · have hF := it_t hF c_20
            refine lv_aload_n hx hb dX12_laysRun_36 rfl (lv_at hl 0 rfl) ?_
            refine va_get (D := (dC, dI)) (ci := 11) (v := .int v0_17) (C := RX12) (T := TX12) (N := 31) hx hb hta uw_X12 hown hK hP 0 rfl rfl 17 (by decide) (hta _ mA925) (fun _ h9 => h9) rfl dX12_laysRun_37 ?_
            refine lv_if_eq (tgt := 47) hx hb dX12_laysRun_40 (by decide) (fun c_21 => ?_) (fun c_21 => ?_)
            · have hF := it_t hF c_21
              refine lv_iconst (v := (-1)) hx hb dX12_laysRun_47 (by decide) ?_
              exact j48 u_19.1 u_19.2 s7.1 (-1) hF _ _ _ hP hD hS (lv_sub hl [0, 1] rfl)
            · have hF := it_f hF c_21
              refine lv_iconst (v := 0) hx hb dX12_laysRun_43 (by decide) ?_
              refine lv_goto (tgt := 48) hx hb dX12_laysRun_44 (by decide) ?_
              exact j48 u_19.1 u_19.2 s7.1 0 hF _ _ _ hP hD hS (lv_sub hl [0, 1] rfl)
          · have hF := it_f hF c_20
            refine lv_iload_n hx hb dX12_laysRun_30 rfl (lv_at hl 1 rfl) ?_
            refine lv_iconst (v := 1) hx hb dX12_laysRun_31 (by decide) ?_
            refine lv_iadd hx hb dX12_laysRun_32 ?_
            refine lv_goto (tgt := 48) hx hb dX12_laysRun_33 (by decide) ?_
            exact j48 u_19.1 u_19.2 s7.1 (s7.1 + 1) hF _ _ _ hP hD hS (lv_sub hl [0, 1] rfl)
    exact kl_7 n _ hL_7 _ _ _ hP hD hS hl
  refine lv_aload_n hx hb dX12_laysRun_0 rfl (lv_at hl 0 rfl) ?_
  refine lv_iload_n hx hb dX12_laysRun_1 rfl (lv_at hl 1 rfl) ?_
  obtain ⟨u_22, hu_22, hF⟩ := obd_some hF
  have hPc := hP.sub (ws' := (wd_X12_laysCuts cI a0 v0_2 v0_3 v0_5 v0_12 v0_13 v0_16 v0_17 v0_21 v0_23 v0_24 v0_25 v0_26 v0_29 v0_30 v0_10 v0_11 v0_14 v0_15 v0_18 v0_19 v0_20)) [0, 6, 7, 8, 9, 10, 11, 12] rfl
  have hDc := hD.sub (ws' := (wd_X12_laysCuts cI a0 v0_2 v0_3 v0_5 v0_12 v0_13 v0_16 v0_17 v0_21 v0_23 v0_24 v0_25 v0_26 v0_29 v0_30 v0_10 v0_11 v0_14 v0_15 v0_18 v0_19 v0_20)) [0, 6, 7, 8, 9, 10, 11, 12] rfl rfl
  refine q_callv (wc := (wd_X12_laysCuts cI a0 v0_2 v0_3 v0_5 v0_12 v0_13 v0_16 v0_17 v0_21 v0_23 v0_24 v0_25 v0_26 v0_29 v0_30 v0_10 v0_11 v0_14 v0_15 v0_18 v0_19 v0_20)) (w1 := (wd_X12_laysCuts cI a0 v0_2 v0_3 v0_5 v0_12 v0_13 v0_16 v0_17 u_22.1 v0_23 v0_24 v0_25 v0_26 v0_29 v0_30 v0_10 v0_11 v0_14 v0_15 u_22.2.1 u_22.2.2.1 u_22.2.2.2)) (ws' := (wd_X12_laysRun cI a0 v0_2 v0_3 v0_5 v0_12 v0_13 v0_16 v0_17 u_22.1 v0_23 v0_24 v0_25 v0_26 v0_29 v0_30 v0_0 v0_6 v0_7 v0_8 v0_9 v0_10 v0_11 v0_14 v0_15 u_22.2.1 u_22.2.2.1 u_22.2.2.2 v0_22)) hP hD hS hA [0, 6, 7, 8, 9, 10, 11, 12] [1, 2, 3, 4, 5, 13] [6, 0, 1, 2, 3, 4, 7, 8, 9, 10, 11, 12, 13, 5] rfl rfl rfl (by decide) rfl rfl (va_runV (As := [.int p1]) (rest := []) ⟨hx, hb, hml, hown, hta⟩ (c_X12_laysCuts l dC dI cI H.size a0 v0_2 v0_3 v0_5 v0_12 v0_13 v0_16 v0_17 v0_21 v0_23 v0_24 v0_25 v0_26 v0_29 v0_30 v0_10 v0_11 v0_14 v0_15 v0_18 v0_19 v0_20 p1 n u_22 hu_22) (cwV 1 hta (ga_V mA943 mA944 mA945 mA814 mA934) rfl rfl rfl (by decide +kernel) ⟨Nat.le_of_ble_eq_true rfl, Nat.le_of_ble_eq_true rfl⟩) ⟨q_fb, va_recv hK hP (ci := 11) (q0 := 0) rfl rfl, q_ps hPc hK hDc⟩ rfl rfl hl.1 rfl (lv_room (Nat.le_of_ble_eq_true rfl)) dX12_laysRun_2 ⟨Nat.zero_le _, Nat.zero_le _⟩) (fun H locs hP hD hS => ?_)
  refine lv_iconst (v := 0) hx hb dX12_laysRun_5 (by decide) ?_
  refine lv_istore_n (lv' := [(2, .int 0), (0, .ref (a0 0)), (1, .int p1)]) hx hb dX12_laysRun_6 rfl hl (by decide) rfl (fun ls hl => ?_)
  exact j7 u_22.1 v0_23 u_22.2.1 u_22.2.2.1 u_22.2.2.2 v0_22 0 hF _ _ _ hP hD hS (lv_sub hl [1, 0] rfl)

-- StrokeOutlinerModel.laysPoint(I)V
def F_X12_laysPoint (v0_23 : Int32) (v0_0 : Nat → Int32) (v0_22 : Nat → Int32) (p1 : Int32) : Option (Int32 × (Nat → Int32)) :=
  obd (F_X12_x v0_0 p1 0) (fun u_1 => lt (64 * u_1) (fun y_2 => obd (F_X12_y v0_0 p1 0) (fun u_3 => lt (64 * u_3) (fun y_4 => obd (F_X12_half v0_0) (fun u_5 => gd (decide (vpi 3 86)) (if (v0_0 (3 : Int32).toNatClampNeg) = 1 then obd (F_X12_laysDisc v0_23 v0_22 y_2 y_4) (fun u_15 => some (u_15.1, u_15.2)) else gd (decide (vpi 3 86)) (if (v0_0 (3 : Int32).toNatClampNeg) = 2 then obd (F_X12_begin v0_23 v0_22 4) (fun u_10 => obd (F_X12_corners u_10.1 u_10.2 0 (y_2 - u_5) (y_4 - u_5)) (fun u_11 => obd (F_X12_corners u_10.1 u_11 1 (y_2 + u_5) (y_4 - u_5)) (fun u_12 => obd (F_X12_corners u_10.1 u_12 2 (y_2 + u_5) (y_4 + u_5)) (fun u_13 => obd (F_X12_corners u_10.1 u_13 3 (y_2 - u_5) (y_4 + u_5)) (fun u_14 => some (u_10.1, u_14)))))) else some (v0_23, v0_22))))))))
abbrev wd_X12_laysPoint (cI : ClassId) (a0 : Nat → Nat) (v0_2 : Int32) (v0_3 : Int32) (v0_5 : Int32) (v0_12 : Int32) (v0_13 : Int32) (v0_16 : Int32) (v0_17 : Int32) (v0_21 : Int32) (v0_23 : Int32) (v0_24 : Int32) (v0_25 : Int32) (v0_26 : Int32) (v0_29 : Int32) (v0_30 : Int64) (v0_0 : Nat → Int32) (v0_22 : Nat → Int32) : va_W := [(a0 0, .inr (11, [.ref (a0 1), .ref (a0 2), .int v0_2, .int v0_3, .ref (a0 5), .int v0_5, .ref (a0 7), .ref (a0 8), .ref (a0 9), .ref (a0 10), .ref (a0 11), .ref (a0 12), .int v0_12, .int v0_13, .ref (a0 15), .ref (a0 16), .int v0_16, .int v0_17, .ref (a0 19), .ref (a0 20), .ref (a0 21), .int v0_21, .ref (a0 23), .int v0_23, .int v0_24, .int v0_25, .int v0_26, .ref (a0 28), .ref (a0 29), .int v0_29, .long v0_30])), (a0 1, .inl (cI, 86, .inl v0_0)), (a0 23, .inl (cI, 27000, .inl v0_22))]
abbrev wz_X12_laysPoint : List Cond := .code yX12_laysPoint cX12_laysPoint 5 none :: wALL
abbrev rm_X12_laysPoint : Room := { frames := 2, cells := 0, slots := 0, locals := 45 }
abbrev Q_X12_laysPoint (dC : Nat → ClassId) (dI : Nat → Nat → Nat) (cI : ClassId) (a0 : Nat → Nat) (v0_2 : Int32) (v0_3 : Int32) (v0_5 : Int32) (v0_12 : Int32) (v0_13 : Int32) (v0_16 : Int32) (v0_17 : Int32) (v0_21 : Int32) (v0_24 : Int32) (v0_25 : Int32) (v0_26 : Int32) (v0_29 : Int32) (v0_30 : Int64) (v0_0 : Nat → Int32) (u : (Int32 × (Nat → Int32))) (A : Nat → Prop) : Array Value → State → Outcome → State → Prop := va_Qv (fun (_ : Unit) => True) (fun _ => q_at dC dI cI A (wd_X12_laysPoint cI a0 v0_2 v0_3 v0_5 v0_12 v0_13 v0_16 v0_17 v0_21 u.1 v0_24 v0_25 v0_26 v0_29 v0_30 v0_0 u.2)) A
set_option maxHeartbeats 4000000 in
set_option maxRecDepth 100000 in
theorem c_X12_laysPoint (l : Launch) (dC : Nat → ClassId) (dI : Nat → Nat → Nat) (cI : ClassId) (sz : Nat) (a0 : Nat → Nat) (v0_2 : Int32) (v0_3 : Int32) (v0_5 : Int32) (v0_12 : Int32) (v0_13 : Int32) (v0_16 : Int32) (v0_17 : Int32) (v0_21 : Int32) (v0_23 : Int32) (v0_24 : Int32) (v0_25 : Int32) (v0_26 : Int32) (v0_29 : Int32) (v0_30 : Int64) (v0_0 : Nat → Int32) (v0_22 : Nat → Int32) (p1 : Int32) (u : (Int32 × (Nat → Int32))) (hF : F_X12_laysPoint v0_23 v0_0 v0_22 p1 = some u) : Met l yX12_laysPoint wz_X12_laysPoint rm_X12_laysPoint (va_Pc [.ref (a0 0), .int p1] (q_pre dC dI cI (wd_X12_laysPoint cI a0 v0_2 v0_3 v0_5 v0_12 v0_13 v0_16 v0_17 v0_21 v0_23 v0_24 v0_25 v0_26 v0_29 v0_30 v0_0 v0_22) sz)) (Q_X12_laysPoint dC dI cI a0 v0_2 v0_3 v0_5 v0_12 v0_13 v0_16 v0_17 v0_21 v0_24 v0_25 v0_26 v0_29 v0_30 v0_0 u (va_A (wd_X12_laysPoint cI a0 v0_2 v0_3 v0_5 v0_12 v0_13 v0_16 v0_17 v0_21 v0_23 v0_24 v0_25 v0_26 v0_29 v0_30 v0_0 v0_22) sz)) 0 0 (va_A (wd_X12_laysPoint cI a0 v0_2 v0_3 v0_5 v0_12 v0_13 v0_16 v0_17 v0_21 v0_23 v0_24 v0_25 v0_26 v0_29 v0_30 v0_0 v0_22) sz) := by
  refine Met.ofW (cc := cX12_laysPoint) (maxL := 5) (ret := none) (by decide) rfl ?_
  intro p e s m args below meth c s₁ B hml hv
  obtain ⟨rfl, hsz, hP, hK, hD0⟩ := hv
  have hx := B.exec
  have hb := B.bytes
  have hr := B.returns
  have hts := atoms_spec (ws := wz_X12_laysPoint) B.pre
  have hta := wz_tl hts
  have hown : s.vm.findClass RX12 = some m.cls := findClass_of_methodNamed B.named
  have hlocks := B.notSynchronized
  subst hsz
  have hD := hD0.self (sz := s.heap.size)
  generalize hAe : va_A (wd_X12_laysPoint cI a0 v0_2 v0_3 v0_5 v0_12 v0_13 v0_16 v0_17 v0_21 v0_23 v0_24 v0_25 v0_26 v0_29 v0_30 v0_0 v0_22) s.heap.size = A at hD ⊢
  have hA : ∀ q : Nat, s.heap.size ≤ q → A q := fun q h => by rw [← hAe]; exact Or.inr h
  have hS : va_S A s.heap s.heap [] := va_S.rf
  have hP : va_P (dC, dI) vwCl (wd_X12_laysPoint cI a0 v0_2 v0_3 v0_5 v0_12 v0_13 v0_16 v0_17 v0_21 v0_23 v0_24 v0_25 v0_26 v0_29 v0_30 v0_0 v0_22) s.heap := hP
  have hl := lv_entry ([.ref (a0 0), .int p1]) (n := 5) (Nat.le_of_ble_eq_true rfl)
  rw [lg_entry_eq]
  generalize (lg_sl ([.ref (a0 0), .int p1]) ++ List.replicate (5 - (lg_sl ([.ref (a0 0), .int p1])).length) Slot.unset).toArray = ls at hl ⊢
  have hl : lv_has ls 5 [(0, .ref (a0 0)), (1, .int p1)] := hl
  obtain ⟨H, hHe⟩ : ∃ H, H = s.heap := ⟨_, rfl⟩
  have hS : va_S A s.heap H [] := by rw [hHe]; exact hS
  have hP : va_P (dC, dI) vwCl (wd_X12_laysPoint cI a0 v0_2 v0_3 v0_5 v0_12 v0_13 v0_16 v0_17 v0_21 v0_23 v0_24 v0_25 v0_26 v0_29 v0_30 v0_0 v0_22) H := by rw [hHe]; exact hP
  rw [← hHe]
  unfold F_X12_laysPoint at hF
  refine lv_bipush (v := 64) hx hb dX12_laysPoint_0 (by decide) ?_
  refine lv_aload_n hx hb dX12_laysPoint_2 rfl (lv_at hl 0 rfl) ?_
  refine lv_iload_n hx hb dX12_laysPoint_3 rfl (lv_at hl 1 rfl) ?_
  refine lv_iconst (v := 0) hx hb dX12_laysPoint_4 (by decide) ?_
  obtain ⟨u_1, hu_1, hF⟩ := obd_some hF
  have hPc := hP.sub (ws' := (wd_X12_x cI a0 v0_2 v0_3 v0_5 v0_12 v0_13 v0_16 v0_17 v0_21 v0_23 v0_24 v0_25 v0_26 v0_29 v0_30 v0_0)) [0, 1] rfl
  have hDc := hD.sub (ws' := (wd_X12_x cI a0 v0_2 v0_3 v0_5 v0_12 v0_13 v0_16 v0_17 v0_21 v0_23 v0_24 v0_25 v0_26 v0_29 v0_30 v0_0)) [0, 1] rfl rfl
  refine q_calli (wc := (wd_X12_x cI a0 v0_2 v0_3 v0_5 v0_12 v0_13 v0_16 v0_17 v0_21 v0_23 v0_24 v0_25 v0_26 v0_29 v0_30 v0_0)) (w1 := (wd_X12_x cI a0 v0_2 v0_3 v0_5 v0_12 v0_13 v0_16 v0_17 v0_21 v0_23 v0_24 v0_25 v0_26 v0_29 v0_30 v0_0)) (ws' := (wd_X12_laysPoint cI a0 v0_2 v0_3 v0_5 v0_12 v0_13 v0_16 v0_17 v0_21 v0_23 v0_24 v0_25 v0_26 v0_29 v0_30 v0_0 v0_22)) hP hD hS hA [0, 1] [2] [1, 2, 0] rfl rfl rfl (by decide) rfl rfl (va_runV (As := [.int p1, .int 0]) (rest := [.int 64]) ⟨hx, hb, hml, hown, hta⟩ (c_X12_x l dC dI cI H.size a0 v0_2 v0_3 v0_5 v0_12 v0_13 v0_16 v0_17 v0_21 v0_23 v0_24 v0_25 v0_26 v0_29 v0_30 v0_0 p1 0 u_1 hu_1) (cwV 2 hta (ga_V mA870 mA871 mA872 mA814 mA831) rfl rfl rfl (by decide +kernel) ⟨Nat.le_of_ble_eq_true rfl, Nat.le_of_ble_eq_true rfl⟩) ⟨q_fb, va_recv hK hP (ci := 11) (q0 := 0) rfl rfl, q_ps hPc hK hDc⟩ rfl rfl hl.1 rfl (lv_room (Nat.le_of_ble_eq_true rfl)) dX12_laysPoint_5 ⟨Nat.zero_le _, Nat.zero_le _⟩) (fun H locs hP hD hS => ?_)
  refine lv_imul hx hb dX12_laysPoint_8 ?_
  obtain ⟨y_2, ey_2, hF⟩ := lt_some hF
  refine lv_eqi ey_2 ?_
  refine lv_istore_n (lv' := [(2, .int y_2), (0, .ref (a0 0)), (1, .int p1)]) hx hb dX12_laysPoint_9 rfl hl (by decide) rfl (fun ls hl => ?_)
  refine lv_bipush (v := 64) hx hb dX12_laysPoint_10 (by decide) ?_
  refine lv_aload_n hx hb dX12_laysPoint_12 rfl (lv_at hl 1 rfl) ?_
  refine lv_iload_n hx hb dX12_laysPoint_13 rfl (lv_at hl 2 rfl) ?_
  refine lv_iconst (v := 0) hx hb dX12_laysPoint_14 (by decide) ?_
  obtain ⟨u_3, hu_3, hF⟩ := obd_some hF
  have hPc := hP.sub (ws' := (wd_X12_y cI a0 v0_2 v0_3 v0_5 v0_12 v0_13 v0_16 v0_17 v0_21 v0_23 v0_24 v0_25 v0_26 v0_29 v0_30 v0_0)) [0, 1] rfl
  have hDc := hD.sub (ws' := (wd_X12_y cI a0 v0_2 v0_3 v0_5 v0_12 v0_13 v0_16 v0_17 v0_21 v0_23 v0_24 v0_25 v0_26 v0_29 v0_30 v0_0)) [0, 1] rfl rfl
  refine q_calli (wc := (wd_X12_y cI a0 v0_2 v0_3 v0_5 v0_12 v0_13 v0_16 v0_17 v0_21 v0_23 v0_24 v0_25 v0_26 v0_29 v0_30 v0_0)) (w1 := (wd_X12_y cI a0 v0_2 v0_3 v0_5 v0_12 v0_13 v0_16 v0_17 v0_21 v0_23 v0_24 v0_25 v0_26 v0_29 v0_30 v0_0)) (ws' := (wd_X12_laysPoint cI a0 v0_2 v0_3 v0_5 v0_12 v0_13 v0_16 v0_17 v0_21 v0_23 v0_24 v0_25 v0_26 v0_29 v0_30 v0_0 v0_22)) hP hD hS hA [0, 1] [2] [1, 2, 0] rfl rfl rfl (by decide) rfl rfl (va_runV (As := [.int p1, .int 0]) (rest := [.int 64]) ⟨hx, hb, hml, hown, hta⟩ (c_X12_y l dC dI cI H.size a0 v0_2 v0_3 v0_5 v0_12 v0_13 v0_16 v0_17 v0_21 v0_23 v0_24 v0_25 v0_26 v0_29 v0_30 v0_0 p1 0 u_3 hu_3) (cwV 2 hta (ga_V mA873 mA874 mA875 mA814 mA832) rfl rfl rfl (by decide +kernel) ⟨Nat.le_of_ble_eq_true rfl, Nat.le_of_ble_eq_true rfl⟩) ⟨q_fb, va_recv hK hP (ci := 11) (q0 := 0) rfl rfl, q_ps hPc hK hDc⟩ rfl rfl hl.1 rfl (lv_room (Nat.le_of_ble_eq_true rfl)) dX12_laysPoint_15 ⟨Nat.zero_le _, Nat.zero_le _⟩) (fun H locs hP hD hS => ?_)
  refine lv_imul hx hb dX12_laysPoint_18 ?_
  obtain ⟨y_4, ey_4, hF⟩ := lt_some hF
  refine lv_eqi ey_4 ?_
  refine lv_istore_n (lv' := [(3, .int y_4), (2, .int y_2), (0, .ref (a0 0)), (1, .int p1)]) hx hb dX12_laysPoint_19 rfl hl (by decide) rfl (fun ls hl => ?_)
  refine lv_aload_n hx hb dX12_laysPoint_20 rfl (lv_at hl 2 rfl) ?_
  obtain ⟨u_5, hu_5, hF⟩ := obd_some hF
  have hPc := hP.sub (ws' := (wd_X12_half cI a0 v0_2 v0_3 v0_5 v0_12 v0_13 v0_16 v0_17 v0_21 v0_23 v0_24 v0_25 v0_26 v0_29 v0_30 v0_0)) [0, 1] rfl
  have hDc := hD.sub (ws' := (wd_X12_half cI a0 v0_2 v0_3 v0_5 v0_12 v0_13 v0_16 v0_17 v0_21 v0_23 v0_24 v0_25 v0_26 v0_29 v0_30 v0_0)) [0, 1] rfl rfl
  refine q_calli (wc := (wd_X12_half cI a0 v0_2 v0_3 v0_5 v0_12 v0_13 v0_16 v0_17 v0_21 v0_23 v0_24 v0_25 v0_26 v0_29 v0_30 v0_0)) (w1 := (wd_X12_half cI a0 v0_2 v0_3 v0_5 v0_12 v0_13 v0_16 v0_17 v0_21 v0_23 v0_24 v0_25 v0_26 v0_29 v0_30 v0_0)) (ws' := (wd_X12_laysPoint cI a0 v0_2 v0_3 v0_5 v0_12 v0_13 v0_16 v0_17 v0_21 v0_23 v0_24 v0_25 v0_26 v0_29 v0_30 v0_0 v0_22)) hP hD hS hA [0, 1] [2] [1, 2, 0] rfl rfl rfl (by decide) rfl rfl (va_runV (As := []) (rest := []) ⟨hx, hb, hml, hown, hta⟩ (c_X12_half l dC dI cI H.size a0 v0_2 v0_3 v0_5 v0_12 v0_13 v0_16 v0_17 v0_21 v0_23 v0_24 v0_25 v0_26 v0_29 v0_30 v0_0 u_5 hu_5) (cwV 0 hta (ga_V mA957 mA958 mA959 mA814 mA951) rfl rfl rfl (by decide +kernel) ⟨Nat.le_of_ble_eq_true rfl, Nat.le_of_ble_eq_true rfl⟩) ⟨q_fb, va_recv hK hP (ci := 11) (q0 := 0) rfl rfl, q_ps hPc hK hDc⟩ rfl rfl hl.1 rfl (lv_room (Nat.le_of_ble_eq_true rfl)) dX12_laysPoint_21 ⟨Nat.zero_le _, Nat.zero_le _⟩) (fun H locs hP hD hS => ?_)
  refine lv_istore (lv' := [(4, .int u_5), (3, .int y_4), (2, .int y_2), (0, .ref (a0 0)), (1, .int p1)]) hx hb dX12_laysPoint_24 hl (by decide) rfl (fun ls hl => ?_)
  refine lv_aload_n hx hb dX12_laysPoint_26 rfl (lv_at hl 3 rfl) ?_
  refine va_get (D := (dC, dI)) (ci := 11) (v := .ref (a0 1)) (C := RX12) (T := TX12) (N := 31) hx hb hta uw_X12 hown hK hP 0 rfl rfl 0 (by decide) (hta _ mA790) (fun _ h9 => h9) rfl dX12_laysPoint_27 ?_
  refine lv_iconst (v := 3) hx hb dX12_laysPoint_30 (by decide) ?_
  obtain ⟨g_6, hF⟩ := gd_some hF
  refine va_iald hx hb hK hP 1 0 rfl rfl (vpi_in g_6) dX12_laysPoint_31 ?_
  refine lv_iconst (v := 1) hx hb dX12_laysPoint_32 (by decide) ?_
  refine lv_icmp_ne (tgt := 45) hx hb dX12_laysPoint_33 (by decide) (fun c_7 => ?_) (fun c_7 => ?_)
  · have hF := it_f hF c_7
    refine lv_aload_n hx hb dX12_laysPoint_45 rfl (lv_at hl 3 rfl) ?_
    refine va_get (D := (dC, dI)) (ci := 11) (v := .ref (a0 1)) (C := RX12) (T := TX12) (N := 31) hx hb hta uw_X12 hown hK hP 0 rfl rfl 0 (by decide) (hta _ mA790) (fun _ h9 => h9) rfl dX12_laysPoint_46 ?_
    refine lv_iconst (v := 3) hx hb dX12_laysPoint_49 (by decide) ?_
    obtain ⟨g_8, hF⟩ := gd_some hF
    refine va_iald hx hb hK hP 1 0 rfl rfl (vpi_in g_8) dX12_laysPoint_50 ?_
    refine lv_iconst (v := 2) hx hb dX12_laysPoint_51 (by decide) ?_
    refine lv_icmp_ne (tgt := 112) hx hb dX12_laysPoint_52 (by decide) (fun c_9 => ?_) (fun c_9 => ?_)
    · have hF := it_f hF c_9
      obtain rfl := Option.some.inj hF
      exact W.vret hx hb hr (fun t ht hW => ⟨⟨(), rfl, trivial, by rw [ht]; exact hP, va_K.moved hW.alike hK, hD⟩, hS.F ht⟩) hS.2.2 dX12_laysPoint_112
    · have hF := it_t hF c_9
      refine lv_aload_n hx hb dX12_laysPoint_55 rfl (lv_at hl 3 rfl) ?_
      refine lv_iconst (v := 4) hx hb dX12_laysPoint_56 (by decide) ?_
      obtain ⟨u_10, hu_10, hF⟩ := obd_some hF
      have hPc := hP.sub (ws' := (wd_X12_begin cI a0 v0_2 v0_3 v0_5 v0_12 v0_13 v0_16 v0_17 v0_21 v0_23 v0_24 v0_25 v0_26 v0_29 v0_30 v0_22)) [0, 2] rfl
      have hDc := hD.sub (ws' := (wd_X12_begin cI a0 v0_2 v0_3 v0_5 v0_12 v0_13 v0_16 v0_17 v0_21 v0_23 v0_24 v0_25 v0_26 v0_29 v0_30 v0_22)) [0, 2] rfl rfl
      refine q_callv (wc := (wd_X12_begin cI a0 v0_2 v0_3 v0_5 v0_12 v0_13 v0_16 v0_17 v0_21 v0_23 v0_24 v0_25 v0_26 v0_29 v0_30 v0_22)) (w1 := (wd_X12_begin cI a0 v0_2 v0_3 v0_5 v0_12 v0_13 v0_16 v0_17 v0_21 u_10.1 v0_24 v0_25 v0_26 v0_29 v0_30 u_10.2)) (ws' := (wd_X12_laysPoint cI a0 v0_2 v0_3 v0_5 v0_12 v0_13 v0_16 v0_17 v0_21 u_10.1 v0_24 v0_25 v0_26 v0_29 v0_30 v0_0 u_10.2)) hP hD hS hA [0, 2] [1] [1, 0, 2] rfl rfl rfl (by decide) rfl rfl (va_runV (As := [.int 4]) (rest := []) ⟨hx, hb, hml, hown, hta⟩ (c_X12_begin l dC dI cI H.size a0 v0_2 v0_3 v0_5 v0_12 v0_13 v0_16 v0_17 v0_21 v0_23 v0_24 v0_25 v0_26 v0_29 v0_30 v0_22 4 u_10 hu_10) (cwV 1 hta (ga_V mA964 mA965 mA966 mA814 mA952) rfl rfl rfl (by decide +kernel) ⟨Nat.le_of_ble_eq_true rfl, Nat.le_of_ble_eq_true rfl⟩) ⟨q_fb, va_recv hK hP (ci := 11) (q0 := 0) rfl rfl, q_ps hPc hK hDc⟩ rfl rfl hl.1 rfl (lv_room (Nat.le_of_ble_eq_true rfl)) dX12_laysPoint_57 ⟨Nat.zero_le _, Nat.zero_le _⟩) (fun H locs hP hD hS => ?_)
      refine lv_aload_n hx hb dX12_laysPoint_60 rfl (lv_at hl 3 rfl) ?_
      refine lv_iconst (v := 0) hx hb dX12_laysPoint_61 (by decide) ?_
      refine lv_iload_n hx hb dX12_laysPoint_62 rfl (lv_at hl 2 rfl) ?_
      refine lv_iload hx hb dX12_laysPoint_63 (lv_at hl 0 rfl) ?_
      refine lv_isub hx hb dX12_laysPoint_65 ?_
      refine lv_iload_n hx hb dX12_laysPoint_66 rfl (lv_at hl 1 rfl) ?_
      refine lv_iload hx hb dX12_laysPoint_67 (lv_at hl 0 rfl) ?_
      refine lv_isub hx hb dX12_laysPoint_69 ?_
      obtain ⟨u_11, hu_11, hF⟩ := obd_some hF
      have hPc := hP.sub (ws' := (wd_X12_corners cI a0 v0_2 v0_3 v0_5 v0_12 v0_13 v0_16 v0_17 v0_21 u_10.1 v0_24 v0_25 v0_26 v0_29 v0_30 u_10.2)) [0, 2] rfl
      have hDc := hD.sub (ws' := (wd_X12_corners cI a0 v0_2 v0_3 v0_5 v0_12 v0_13 v0_16 v0_17 v0_21 u_10.1 v0_24 v0_25 v0_26 v0_29 v0_30 u_10.2)) [0, 2] rfl rfl
      refine q_callv (wc := (wd_X12_corners cI a0 v0_2 v0_3 v0_5 v0_12 v0_13 v0_16 v0_17 v0_21 u_10.1 v0_24 v0_25 v0_26 v0_29 v0_30 u_10.2)) (w1 := (wd_X12_corners cI a0 v0_2 v0_3 v0_5 v0_12 v0_13 v0_16 v0_17 v0_21 u_10.1 v0_24 v0_25 v0_26 v0_29 v0_30 u_11)) (ws' := (wd_X12_laysPoint cI a0 v0_2 v0_3 v0_5 v0_12 v0_13 v0_16 v0_17 v0_21 u_10.1 v0_24 v0_25 v0_26 v0_29 v0_30 v0_0 u_11)) hP hD hS hA [0, 2] [1] [1, 0, 2] rfl rfl rfl (by decide) rfl rfl (va_runV (As := [.int 0, .int (y_2 - u_5), .int (y_4 - u_5)]) (rest := []) ⟨hx, hb, hml, hown, hta⟩ (c_X12_corners l dC dI cI H.size a0 v0_2 v0_3 v0_5 v0_12 v0_13 v0_16 v0_17 v0_21 u_10.1 v0_24 v0_25 v0_26 v0_29 v0_30 u_10.2 0 (y_2 - u_5) (y_4 - u_5) u_11 hu_11) (cwV 3 hta (ga_V mA967 mA968 mA969 mA814 mA954) rfl rfl rfl (by decide +kernel) ⟨Nat.le_of_ble_eq_true rfl, Nat.le_of_ble_eq_true rfl⟩) ⟨q_fb, va_recv hK hP (ci := 11) (q0 := 0) rfl rfl, q_ps hPc hK hDc⟩ rfl rfl hl.1 rfl (lv_room (Nat.le_of_ble_eq_true rfl)) dX12_laysPoint_70 ⟨Nat.zero_le _, Nat.zero_le _⟩) (fun H locs hP hD hS => ?_)
      refine lv_aload_n hx hb dX12_laysPoint_73 rfl (lv_at hl 3 rfl) ?_
      refine lv_iconst (v := 1) hx hb dX12_laysPoint_74 (by decide) ?_
      refine lv_iload_n hx hb dX12_laysPoint_75 rfl (lv_at hl 2 rfl) ?_
      refine lv_iload hx hb dX12_laysPoint_76 (lv_at hl 0 rfl) ?_
      refine lv_iadd hx hb dX12_laysPoint_78 ?_
      refine lv_iload_n hx hb dX12_laysPoint_79 rfl (lv_at hl 1 rfl) ?_
      refine lv_iload hx hb dX12_laysPoint_80 (lv_at hl 0 rfl) ?_
      refine lv_isub hx hb dX12_laysPoint_82 ?_
      obtain ⟨u_12, hu_12, hF⟩ := obd_some hF
      have hPc := hP.sub (ws' := (wd_X12_corners cI a0 v0_2 v0_3 v0_5 v0_12 v0_13 v0_16 v0_17 v0_21 u_10.1 v0_24 v0_25 v0_26 v0_29 v0_30 u_11)) [0, 2] rfl
      have hDc := hD.sub (ws' := (wd_X12_corners cI a0 v0_2 v0_3 v0_5 v0_12 v0_13 v0_16 v0_17 v0_21 u_10.1 v0_24 v0_25 v0_26 v0_29 v0_30 u_11)) [0, 2] rfl rfl
      refine q_callv (wc := (wd_X12_corners cI a0 v0_2 v0_3 v0_5 v0_12 v0_13 v0_16 v0_17 v0_21 u_10.1 v0_24 v0_25 v0_26 v0_29 v0_30 u_11)) (w1 := (wd_X12_corners cI a0 v0_2 v0_3 v0_5 v0_12 v0_13 v0_16 v0_17 v0_21 u_10.1 v0_24 v0_25 v0_26 v0_29 v0_30 u_12)) (ws' := (wd_X12_laysPoint cI a0 v0_2 v0_3 v0_5 v0_12 v0_13 v0_16 v0_17 v0_21 u_10.1 v0_24 v0_25 v0_26 v0_29 v0_30 v0_0 u_12)) hP hD hS hA [0, 2] [1] [1, 0, 2] rfl rfl rfl (by decide) rfl rfl (va_runV (As := [.int 1, .int (y_2 + u_5), .int (y_4 - u_5)]) (rest := []) ⟨hx, hb, hml, hown, hta⟩ (c_X12_corners l dC dI cI H.size a0 v0_2 v0_3 v0_5 v0_12 v0_13 v0_16 v0_17 v0_21 u_10.1 v0_24 v0_25 v0_26 v0_29 v0_30 u_11 1 (y_2 + u_5) (y_4 - u_5) u_12 hu_12) (cwV 3 hta (ga_V mA967 mA968 mA969 mA814 mA954) rfl rfl rfl (by decide +kernel) ⟨Nat.le_of_ble_eq_true rfl, Nat.le_of_ble_eq_true rfl⟩) ⟨q_fb, va_recv hK hP (ci := 11) (q0 := 0) rfl rfl, q_ps hPc hK hDc⟩ rfl rfl hl.1 rfl (lv_room (Nat.le_of_ble_eq_true rfl)) dX12_laysPoint_83 ⟨Nat.zero_le _, Nat.zero_le _⟩) (fun H locs hP hD hS => ?_)
      refine lv_aload_n hx hb dX12_laysPoint_86 rfl (lv_at hl 3 rfl) ?_
      refine lv_iconst (v := 2) hx hb dX12_laysPoint_87 (by decide) ?_
      refine lv_iload_n hx hb dX12_laysPoint_88 rfl (lv_at hl 2 rfl) ?_
      refine lv_iload hx hb dX12_laysPoint_89 (lv_at hl 0 rfl) ?_
      refine lv_iadd hx hb dX12_laysPoint_91 ?_
      refine lv_iload_n hx hb dX12_laysPoint_92 rfl (lv_at hl 1 rfl) ?_
      refine lv_iload hx hb dX12_laysPoint_93 (lv_at hl 0 rfl) ?_
      refine lv_iadd hx hb dX12_laysPoint_95 ?_
      obtain ⟨u_13, hu_13, hF⟩ := obd_some hF
      have hPc := hP.sub (ws' := (wd_X12_corners cI a0 v0_2 v0_3 v0_5 v0_12 v0_13 v0_16 v0_17 v0_21 u_10.1 v0_24 v0_25 v0_26 v0_29 v0_30 u_12)) [0, 2] rfl
      have hDc := hD.sub (ws' := (wd_X12_corners cI a0 v0_2 v0_3 v0_5 v0_12 v0_13 v0_16 v0_17 v0_21 u_10.1 v0_24 v0_25 v0_26 v0_29 v0_30 u_12)) [0, 2] rfl rfl
      refine q_callv (wc := (wd_X12_corners cI a0 v0_2 v0_3 v0_5 v0_12 v0_13 v0_16 v0_17 v0_21 u_10.1 v0_24 v0_25 v0_26 v0_29 v0_30 u_12)) (w1 := (wd_X12_corners cI a0 v0_2 v0_3 v0_5 v0_12 v0_13 v0_16 v0_17 v0_21 u_10.1 v0_24 v0_25 v0_26 v0_29 v0_30 u_13)) (ws' := (wd_X12_laysPoint cI a0 v0_2 v0_3 v0_5 v0_12 v0_13 v0_16 v0_17 v0_21 u_10.1 v0_24 v0_25 v0_26 v0_29 v0_30 v0_0 u_13)) hP hD hS hA [0, 2] [1] [1, 0, 2] rfl rfl rfl (by decide) rfl rfl (va_runV (As := [.int 2, .int (y_2 + u_5), .int (y_4 + u_5)]) (rest := []) ⟨hx, hb, hml, hown, hta⟩ (c_X12_corners l dC dI cI H.size a0 v0_2 v0_3 v0_5 v0_12 v0_13 v0_16 v0_17 v0_21 u_10.1 v0_24 v0_25 v0_26 v0_29 v0_30 u_12 2 (y_2 + u_5) (y_4 + u_5) u_13 hu_13) (cwV 3 hta (ga_V mA967 mA968 mA969 mA814 mA954) rfl rfl rfl (by decide +kernel) ⟨Nat.le_of_ble_eq_true rfl, Nat.le_of_ble_eq_true rfl⟩) ⟨q_fb, va_recv hK hP (ci := 11) (q0 := 0) rfl rfl, q_ps hPc hK hDc⟩ rfl rfl hl.1 rfl (lv_room (Nat.le_of_ble_eq_true rfl)) dX12_laysPoint_96 ⟨Nat.zero_le _, Nat.zero_le _⟩) (fun H locs hP hD hS => ?_)
      refine lv_aload_n hx hb dX12_laysPoint_99 rfl (lv_at hl 3 rfl) ?_
      refine lv_iconst (v := 3) hx hb dX12_laysPoint_100 (by decide) ?_
      refine lv_iload_n hx hb dX12_laysPoint_101 rfl (lv_at hl 2 rfl) ?_
      refine lv_iload hx hb dX12_laysPoint_102 (lv_at hl 0 rfl) ?_
      refine lv_isub hx hb dX12_laysPoint_104 ?_
      refine lv_iload_n hx hb dX12_laysPoint_105 rfl (lv_at hl 1 rfl) ?_
      refine lv_iload hx hb dX12_laysPoint_106 (lv_at hl 0 rfl) ?_
      refine lv_iadd hx hb dX12_laysPoint_108 ?_
      obtain ⟨u_14, hu_14, hF⟩ := obd_some hF
      have hPc := hP.sub (ws' := (wd_X12_corners cI a0 v0_2 v0_3 v0_5 v0_12 v0_13 v0_16 v0_17 v0_21 u_10.1 v0_24 v0_25 v0_26 v0_29 v0_30 u_13)) [0, 2] rfl
      have hDc := hD.sub (ws' := (wd_X12_corners cI a0 v0_2 v0_3 v0_5 v0_12 v0_13 v0_16 v0_17 v0_21 u_10.1 v0_24 v0_25 v0_26 v0_29 v0_30 u_13)) [0, 2] rfl rfl
      refine q_callv (wc := (wd_X12_corners cI a0 v0_2 v0_3 v0_5 v0_12 v0_13 v0_16 v0_17 v0_21 u_10.1 v0_24 v0_25 v0_26 v0_29 v0_30 u_13)) (w1 := (wd_X12_corners cI a0 v0_2 v0_3 v0_5 v0_12 v0_13 v0_16 v0_17 v0_21 u_10.1 v0_24 v0_25 v0_26 v0_29 v0_30 u_14)) (ws' := (wd_X12_laysPoint cI a0 v0_2 v0_3 v0_5 v0_12 v0_13 v0_16 v0_17 v0_21 u_10.1 v0_24 v0_25 v0_26 v0_29 v0_30 v0_0 u_14)) hP hD hS hA [0, 2] [1] [1, 0, 2] rfl rfl rfl (by decide) rfl rfl (va_runV (As := [.int 3, .int (y_2 - u_5), .int (y_4 + u_5)]) (rest := []) ⟨hx, hb, hml, hown, hta⟩ (c_X12_corners l dC dI cI H.size a0 v0_2 v0_3 v0_5 v0_12 v0_13 v0_16 v0_17 v0_21 u_10.1 v0_24 v0_25 v0_26 v0_29 v0_30 u_13 3 (y_2 - u_5) (y_4 + u_5) u_14 hu_14) (cwV 3 hta (ga_V mA967 mA968 mA969 mA814 mA954) rfl rfl rfl (by decide +kernel) ⟨Nat.le_of_ble_eq_true rfl, Nat.le_of_ble_eq_true rfl⟩) ⟨q_fb, va_recv hK hP (ci := 11) (q0 := 0) rfl rfl, q_ps hPc hK hDc⟩ rfl rfl hl.1 rfl (lv_room (Nat.le_of_ble_eq_true rfl)) dX12_laysPoint_109 ⟨Nat.zero_le _, Nat.zero_le _⟩) (fun H locs hP hD hS => ?_)
      obtain rfl := Option.some.inj hF
      exact W.vret hx hb hr (fun t ht hW => ⟨⟨(), rfl, trivial, by rw [ht]; exact hP, va_K.moved hW.alike hK, hD⟩, hS.F ht⟩) hS.2.2 dX12_laysPoint_112
  · have hF := it_t hF c_7
    refine lv_aload_n hx hb dX12_laysPoint_36 rfl (lv_at hl 3 rfl) ?_
    refine lv_iload_n hx hb dX12_laysPoint_37 rfl (lv_at hl 2 rfl) ?_
    refine lv_iload_n hx hb dX12_laysPoint_38 rfl (lv_at hl 1 rfl) ?_
    obtain ⟨u_15, hu_15, hF⟩ := obd_some hF
    have hPc := hP.sub (ws' := (wd_X12_laysDisc cI a0 v0_2 v0_3 v0_5 v0_12 v0_13 v0_16 v0_17 v0_21 v0_23 v0_24 v0_25 v0_26 v0_29 v0_30 v0_22)) [0, 2] rfl
    have hDc := hD.sub (ws' := (wd_X12_laysDisc cI a0 v0_2 v0_3 v0_5 v0_12 v0_13 v0_16 v0_17 v0_21 v0_23 v0_24 v0_25 v0_26 v0_29 v0_30 v0_22)) [0, 2] rfl rfl
    refine q_callv (wc := (wd_X12_laysDisc cI a0 v0_2 v0_3 v0_5 v0_12 v0_13 v0_16 v0_17 v0_21 v0_23 v0_24 v0_25 v0_26 v0_29 v0_30 v0_22)) (w1 := (wd_X12_laysDisc cI a0 v0_2 v0_3 v0_5 v0_12 v0_13 v0_16 v0_17 v0_21 u_15.1 v0_24 v0_25 v0_26 v0_29 v0_30 u_15.2)) (ws' := (wd_X12_laysPoint cI a0 v0_2 v0_3 v0_5 v0_12 v0_13 v0_16 v0_17 v0_21 u_15.1 v0_24 v0_25 v0_26 v0_29 v0_30 v0_0 u_15.2)) hP hD hS hA [0, 2] [1] [1, 0, 2] rfl rfl rfl (by decide) rfl rfl (va_runV (As := [.int y_2, .int y_4]) (rest := []) ⟨hx, hb, hml, hown, hta⟩ (c_X12_laysDisc l dC dI cI H.size a0 v0_2 v0_3 v0_5 v0_12 v0_13 v0_16 v0_17 v0_21 v0_23 v0_24 v0_25 v0_26 v0_29 v0_30 v0_22 y_2 y_4 u_15 hu_15) (cwV 2 hta (ga_V mA982 mA983 mA984 mA814 mA963) rfl rfl rfl (by decide +kernel) ⟨Nat.le_of_ble_eq_true rfl, Nat.le_of_ble_eq_true rfl⟩) ⟨q_fb, va_recv hK hP (ci := 11) (q0 := 0) rfl rfl, q_ps hPc hK hDc⟩ rfl rfl hl.1 rfl (lv_room (Nat.le_of_ble_eq_true rfl)) dX12_laysPoint_39 ⟨Nat.zero_le _, Nat.zero_le _⟩) (fun H locs hP hD hS => ?_)
    refine lv_goto (tgt := 112) hx hb dX12_laysPoint_42 (by decide) ?_
    obtain rfl := Option.some.inj hF
    exact W.vret hx hb hr (fun t ht hW => ⟨⟨(), rfl, trivial, by rw [ht]; exact hP, va_K.moved hW.alike hK, hD⟩, hS.F ht⟩) hS.2.2 dX12_laysPoint_112

-- StrokeOutlinerModel.laysPieces()V
def F_X12_laysPieces_j56 (v0_12 : Int32) (v0_13 : Int32) (v0_16 : Int32) (v0_17 : Int32) (v0_21 : Int32) (v0_23 : Int32) (v0_6 : Nat → Int32) (v0_7 : Nat → Int32) (v0_8 : Nat → Int32) (v0_9 : Nat → Int32) (v0_10 : Nat → Int32) (v0_11 : Nat → Int32) (v0_14 : Nat → Int32) (v0_15 : Nat → Int32) (v0_18 : Nat → Int32) (v0_19 : Nat → Int32) (v0_20 : Nat → Int32) (v0_22 : Nat → Int32) (x1 : Int32) : Option (Sum (Int32 × Int32 × Int32 × Int32 × Int32 × Int32 × Int32 × (Nat → Int32) × (Nat → Int32) × (Nat → Int32) × (Nat → Int32) × (Nat → Int32) × (Nat → Int32) × (Nat → Int32) × (Nat → Int32) × (Nat → Int32) × (Nat → Int32) × (Nat → Int32) × (Nat → Int32)) (Int32 × Int32 × Int32 × Int32 × Int32 × Int32 × (Nat → Int32) × (Nat → Int32) × (Nat → Int32) × (Nat → Int32) × (Nat → Int32) × (Nat → Int32) × (Nat → Int32) × (Nat → Int32) × (Nat → Int32) × (Nat → Int32) × (Nat → Int32) × (Nat → Int32))) :=
  lt (x1 + 1) (fun y_1 => some (.inl (y_1, v0_12, v0_13, v0_16, v0_17, v0_21, v0_23, v0_6, v0_7, v0_8, v0_9, v0_10, v0_11, v0_14, v0_15, v0_18, v0_19, v0_20, v0_22)))
def F_X12_laysPieces_b37 (n : Nat) (v0_12 : Int32) (v0_13 : Int32) (v0_16 : Int32) (v0_17 : Int32) (v0_0 : Nat → Int32) (v0_6 : Nat → Int32) (v0_7 : Nat → Int32) (v0_8 : Nat → Int32) (v0_9 : Nat → Int32) (v0_10 : Nat → Int32) (v0_11 : Nat → Int32) (v0_14 : Nat → Int32) (v0_15 : Nat → Int32) (s37 : Int32 × Int32 × Int32 × (Nat → Int32) × (Nat → Int32) × (Nat → Int32) × (Nat → Int32)) : Option (Sum (Int32 × Int32 × Int32 × (Nat → Int32) × (Nat → Int32) × (Nat → Int32) × (Nat → Int32)) (Int32 × Int32 × (Nat → Int32) × (Nat → Int32) × (Nat → Int32) × (Nat → Int32))) :=
  if v0_16 ≤ s37.1 then some (.inr (s37.2.1, s37.2.2.1, s37.2.2.2.1, s37.2.2.2.2.1, s37.2.2.2.2.2.1, s37.2.2.2.2.2.2)) else obd (F_X12_laysRun n v0_12 v0_13 v0_17 s37.2.2.1 v0_0 v0_6 v0_7 v0_8 v0_9 v0_10 v0_11 v0_14 v0_15 s37.2.2.2.1 s37.2.2.2.2.1 s37.2.2.2.2.2.1 s37.2.2.2.2.2.2 s37.1) (fun u_3 => lt (s37.1 + 1) (fun y_4 => some (.inl (y_4, u_3.1, u_3.2.1, u_3.2.2.1, u_3.2.2.2.1, u_3.2.2.2.2.1, u_3.2.2.2.2.2))))
def F_X12_laysPieces_j37 (n : Nat) (v0_12 : Int32) (v0_13 : Int32) (v0_16 : Int32) (v0_17 : Int32) (v0_21 : Int32) (v0_23 : Int32) (v0_0 : Nat → Int32) (v0_6 : Nat → Int32) (v0_7 : Nat → Int32) (v0_8 : Nat → Int32) (v0_9 : Nat → Int32) (v0_10 : Nat → Int32) (v0_11 : Nat → Int32) (v0_14 : Nat → Int32) (v0_15 : Nat → Int32) (v0_18 : Nat → Int32) (v0_19 : Nat → Int32) (v0_20 : Nat → Int32) (v0_22 : Nat → Int32) (x1 : Int32) (x2 : Int32) : Option (Sum (Int32 × Int32 × Int32 × Int32 × Int32 × Int32 × Int32 × (Nat → Int32) × (Nat → Int32) × (Nat → Int32) × (Nat → Int32) × (Nat → Int32) × (Nat → Int32) × (Nat → Int32) × (Nat → Int32) × (Nat → Int32) × (Nat → Int32) × (Nat → Int32) × (Nat → Int32)) (Int32 × Int32 × Int32 × Int32 × Int32 × Int32 × (Nat → Int32) × (Nat → Int32) × (Nat → Int32) × (Nat → Int32) × (Nat → Int32) × (Nat → Int32) × (Nat → Int32) × (Nat → Int32) × (Nat → Int32) × (Nat → Int32) × (Nat → Int32) × (Nat → Int32))) :=
  obd (lpq (F_X12_laysPieces_b37 n v0_12 v0_13 v0_16 v0_17 v0_0 v0_6 v0_7 v0_8 v0_9 v0_10 v0_11 v0_14 v0_15) n (x2, v0_21, v0_23, v0_18, v0_19, v0_20, v0_22)) (fun x_37 => F_X12_laysPieces_j56 v0_12 v0_13 v0_16 v0_17 x_37.1 x_37.2.1 v0_6 v0_7 v0_8 v0_9 v0_10 v0_11 v0_14 v0_15 x_37.2.2.1 x_37.2.2.2.1 x_37.2.2.2.2.1 x_37.2.2.2.2.2 x1)
def F_X12_laysPieces_j35 (n : Nat) (v0_12 : Int32) (v0_13 : Int32) (v0_16 : Int32) (v0_17 : Int32) (v0_21 : Int32) (v0_23 : Int32) (v0_0 : Nat → Int32) (v0_6 : Nat → Int32) (v0_7 : Nat → Int32) (v0_8 : Nat → Int32) (v0_9 : Nat → Int32) (v0_10 : Nat → Int32) (v0_11 : Nat → Int32) (v0_14 : Nat → Int32) (v0_15 : Nat → Int32) (v0_18 : Nat → Int32) (v0_19 : Nat → Int32) (v0_20 : Nat → Int32) (v0_22 : Nat → Int32) (x1 : Int32) : Option (Sum (Int32 × Int32 × Int32 × Int32 × Int32 × Int32 × Int32 × (Nat → Int32) × (Nat → Int32) × (Nat → Int32) × (Nat → Int32) × (Nat → Int32) × (Nat → Int32) × (Nat → Int32) × (Nat → Int32) × (Nat → Int32) × (Nat → Int32) × (Nat → Int32) × (Nat → Int32)) (Int32 × Int32 × Int32 × Int32 × Int32 × Int32 × (Nat → Int32) × (Nat → Int32) × (Nat → Int32) × (Nat → Int32) × (Nat → Int32) × (Nat → Int32) × (Nat → Int32) × (Nat → Int32) × (Nat → Int32) × (Nat → Int32) × (Nat → Int32) × (Nat → Int32))) :=
  F_X12_laysPieces_j37 n v0_12 v0_13 v0_16 v0_17 v0_21 v0_23 v0_0 v0_6 v0_7 v0_8 v0_9 v0_10 v0_11 v0_14 v0_15 v0_18 v0_19 v0_20 v0_22 x1 0
def F_X12_laysPieces_b7 (n : Nat) (v0_0 : Nat → Int32) (s7 : Int32 × Int32 × Int32 × Int32 × Int32 × Int32 × Int32 × (Nat → Int32) × (Nat → Int32) × (Nat → Int32) × (Nat → Int32) × (Nat → Int32) × (Nat → Int32) × (Nat → Int32) × (Nat → Int32) × (Nat → Int32) × (Nat → Int32) × (Nat → Int32) × (Nat → Int32)) : Option (Sum (Int32 × Int32 × Int32 × Int32 × Int32 × Int32 × Int32 × (Nat → Int32) × (Nat → Int32) × (Nat → Int32) × (Nat → Int32) × (Nat → Int32) × (Nat → Int32) × (Nat → Int32) × (Nat → Int32) × (Nat → Int32) × (Nat → Int32) × (Nat → Int32) × (Nat → Int32)) (Int32 × Int32 × Int32 × Int32 × Int32 × Int32 × (Nat → Int32) × (Nat → Int32) × (Nat → Int32) × (Nat → Int32) × (Nat → Int32) × (Nat → Int32) × (Nat → Int32) × (Nat → Int32) × (Nat → Int32) × (Nat → Int32) × (Nat → Int32) × (Nat → Int32))) :=
  gd (decide (vpi 13 86)) (if (v0_0 (13 : Int32).toNatClampNeg) ≤ s7.1 then some (.inr (s7.2.1, s7.2.2.1, s7.2.2.2.1, s7.2.2.2.2.1, s7.2.2.2.2.2.1, s7.2.2.2.2.2.2.1, s7.2.2.2.2.2.2.2.1, s7.2.2.2.2.2.2.2.2.1, s7.2.2.2.2.2.2.2.2.2.1, s7.2.2.2.2.2.2.2.2.2.2.1, s7.2.2.2.2.2.2.2.2.2.2.2.1, s7.2.2.2.2.2.2.2.2.2.2.2.2.1, s7.2.2.2.2.2.2.2.2.2.2.2.2.2.1, s7.2.2.2.2.2.2.2.2.2.2.2.2.2.2.1, s7.2.2.2.2.2.2.2.2.2.2.2.2.2.2.2.1, s7.2.2.2.2.2.2.2.2.2.2.2.2.2.2.2.2.1, s7.2.2.2.2.2.2.2.2.2.2.2.2.2.2.2.2.2.1, s7.2.2.2.2.2.2.2.2.2.2.2.2.2.2.2.2.2.2)) else obd (F_X12_laysRuns n s7.2.1 s7.2.2.1 v0_0 s7.2.2.2.2.2.2.2.1 s7.2.2.2.2.2.2.2.2.1 s7.2.2.2.2.2.2.2.2.2.1 s7.2.2.2.2.2.2.2.2.2.2.1 s7.2.2.2.2.2.2.2.2.2.2.2.1 s7.2.2.2.2.2.2.2.2.2.2.2.2.1 s7.2.2.2.2.2.2.2.2.2.2.2.2.2.1 s7.2.2.2.2.2.2.2.2.2.2.2.2.2.2.1 s7.1) (fun u_7 => if u_7.1 = 0 then obd (F_X12_laysPoint s7.2.2.2.2.2.2.1 v0_0 s7.2.2.2.2.2.2.2.2.2.2.2.2.2.2.2.2.2.2 s7.1) (fun u_9 => F_X12_laysPieces_j35 n u_7.1 u_7.2.1 u_7.2.2.1 u_7.2.2.2.1 s7.2.2.2.2.2.1 u_9.1 v0_0 u_7.2.2.2.2.1 u_7.2.2.2.2.2.1 u_7.2.2.2.2.2.2.1 u_7.2.2.2.2.2.2.2.1 u_7.2.2.2.2.2.2.2.2.1 u_7.2.2.2.2.2.2.2.2.2.1 u_7.2.2.2.2.2.2.2.2.2.2.1 u_7.2.2.2.2.2.2.2.2.2.2.2 s7.2.2.2.2.2.2.2.2.2.2.2.2.2.2.2.1 s7.2.2.2.2.2.2.2.2.2.2.2.2.2.2.2.2.1 s7.2.2.2.2.2.2.2.2.2.2.2.2.2.2.2.2.2.1 u_9.2 s7.1) else F_X12_laysPieces_j35 n u_7.1 u_7.2.1 u_7.2.2.1 u_7.2.2.2.1 s7.2.2.2.2.2.1 s7.2.2.2.2.2.2.1 v0_0 u_7.2.2.2.2.1 u_7.2.2.2.2.2.1 u_7.2.2.2.2.2.2.1 u_7.2.2.2.2.2.2.2.1 u_7.2.2.2.2.2.2.2.2.1 u_7.2.2.2.2.2.2.2.2.2.1 u_7.2.2.2.2.2.2.2.2.2.2.1 u_7.2.2.2.2.2.2.2.2.2.2.2 s7.2.2.2.2.2.2.2.2.2.2.2.2.2.2.2.1 s7.2.2.2.2.2.2.2.2.2.2.2.2.2.2.2.2.1 s7.2.2.2.2.2.2.2.2.2.2.2.2.2.2.2.2.2.1 s7.2.2.2.2.2.2.2.2.2.2.2.2.2.2.2.2.2.2 s7.1))
def F_X12_laysPieces_j7 (n : Nat) (v0_12 : Int32) (v0_13 : Int32) (v0_16 : Int32) (v0_17 : Int32) (v0_21 : Int32) (v0_23 : Int32) (v0_0 : Nat → Int32) (v0_6 : Nat → Int32) (v0_7 : Nat → Int32) (v0_8 : Nat → Int32) (v0_9 : Nat → Int32) (v0_10 : Nat → Int32) (v0_11 : Nat → Int32) (v0_14 : Nat → Int32) (v0_15 : Nat → Int32) (v0_18 : Nat → Int32) (v0_19 : Nat → Int32) (v0_20 : Nat → Int32) (v0_22 : Nat → Int32) (x1 : Int32) : Option (Int32 × Int32 × Int32 × Int32 × Int32 × Int32 × (Nat → Int32) × (Nat → Int32) × (Nat → Int32) × (Nat → Int32) × (Nat → Int32) × (Nat → Int32) × (Nat → Int32) × (Nat → Int32) × (Nat → Int32) × (Nat → Int32) × (Nat → Int32) × (Nat → Int32)) :=
  obd (lpq (F_X12_laysPieces_b7 n v0_0) n (x1, v0_12, v0_13, v0_16, v0_17, v0_21, v0_23, v0_6, v0_7, v0_8, v0_9, v0_10, v0_11, v0_14, v0_15, v0_18, v0_19, v0_20, v0_22)) (fun x_7 => some (x_7.1, x_7.2.1, x_7.2.2.1, x_7.2.2.2.1, x_7.2.2.2.2.1, x_7.2.2.2.2.2.1, x_7.2.2.2.2.2.2.1, x_7.2.2.2.2.2.2.2.1, x_7.2.2.2.2.2.2.2.2.1, x_7.2.2.2.2.2.2.2.2.2.1, x_7.2.2.2.2.2.2.2.2.2.2.1, x_7.2.2.2.2.2.2.2.2.2.2.2.1, x_7.2.2.2.2.2.2.2.2.2.2.2.2.1, x_7.2.2.2.2.2.2.2.2.2.2.2.2.2.1, x_7.2.2.2.2.2.2.2.2.2.2.2.2.2.2.1, x_7.2.2.2.2.2.2.2.2.2.2.2.2.2.2.2.1, x_7.2.2.2.2.2.2.2.2.2.2.2.2.2.2.2.2.1, x_7.2.2.2.2.2.2.2.2.2.2.2.2.2.2.2.2.2))
def F_X12_laysPieces (n : Nat) (v0_12 : Int32) (v0_13 : Int32) (v0_16 : Int32) (v0_17 : Int32) (v0_21 : Int32) (v0_0 : Nat → Int32) (v0_6 : Nat → Int32) (v0_7 : Nat → Int32) (v0_8 : Nat → Int32) (v0_9 : Nat → Int32) (v0_10 : Nat → Int32) (v0_11 : Nat → Int32) (v0_14 : Nat → Int32) (v0_15 : Nat → Int32) (v0_18 : Nat → Int32) (v0_19 : Nat → Int32) (v0_20 : Nat → Int32) (v0_22 : Nat → Int32) : Option (Int32 × Int32 × Int32 × Int32 × Int32 × Int32 × (Nat → Int32) × (Nat → Int32) × (Nat → Int32) × (Nat → Int32) × (Nat → Int32) × (Nat → Int32) × (Nat → Int32) × (Nat → Int32) × (Nat → Int32) × (Nat → Int32) × (Nat → Int32) × (Nat → Int32)) :=
  F_X12_laysPieces_j7 n v0_12 v0_13 v0_16 v0_17 v0_21 0 v0_0 v0_6 v0_7 v0_8 v0_9 v0_10 v0_11 v0_14 v0_15 v0_18 v0_19 v0_20 v0_22 0
abbrev wd_X12_laysPieces (cI : ClassId) (a0 : Nat → Nat) (v0_2 : Int32) (v0_3 : Int32) (v0_5 : Int32) (v0_12 : Int32) (v0_13 : Int32) (v0_16 : Int32) (v0_17 : Int32) (v0_21 : Int32) (v0_23 : Int32) (v0_24 : Int32) (v0_25 : Int32) (v0_26 : Int32) (v0_29 : Int32) (v0_30 : Int64) (v0_0 : Nat → Int32) (v0_6 : Nat → Int32) (v0_7 : Nat → Int32) (v0_8 : Nat → Int32) (v0_9 : Nat → Int32) (v0_10 : Nat → Int32) (v0_11 : Nat → Int32) (v0_14 : Nat → Int32) (v0_15 : Nat → Int32) (v0_18 : Nat → Int32) (v0_19 : Nat → Int32) (v0_20 : Nat → Int32) (v0_22 : Nat → Int32) : va_W := [(a0 0, .inr (11, [.ref (a0 1), .ref (a0 2), .int v0_2, .int v0_3, .ref (a0 5), .int v0_5, .ref (a0 7), .ref (a0 8), .ref (a0 9), .ref (a0 10), .ref (a0 11), .ref (a0 12), .int v0_12, .int v0_13, .ref (a0 15), .ref (a0 16), .int v0_16, .int v0_17, .ref (a0 19), .ref (a0 20), .ref (a0 21), .int v0_21, .ref (a0 23), .int v0_23, .int v0_24, .int v0_25, .int v0_26, .ref (a0 28), .ref (a0 29), .int v0_29, .long v0_30])), (a0 1, .inl (cI, 86, .inl v0_0)), (a0 7, .inl (cI, 8, .inl v0_6)), (a0 8, .inl (cI, 8, .inl v0_7)), (a0 9, .inl (cI, 8, .inl v0_8)), (a0 10, .inl (cI, 8, .inl v0_9)), (a0 11, .inl (cI, 8, .inl v0_10)), (a0 12, .inl (cI, 8, .inl v0_11)), (a0 15, .inl (cI, 240, .inl v0_14)), (a0 16, .inl (cI, 240, .inl v0_15)), (a0 19, .inl (cI, 20, .inl v0_18)), (a0 20, .inl (cI, 20, .inl v0_19)), (a0 21, .inl (cI, 20, .inl v0_20)), (a0 23, .inl (cI, 27000, .inl v0_22))]
abbrev wz_X12_laysPieces : List Cond := .code yX12_laysPieces cX12_laysPieces 3 none :: wALL
abbrev rm_X12_laysPieces : Room := { frames := 5, cells := 0, slots := 0, locals := 116 }
abbrev Q_X12_laysPieces (dC : Nat → ClassId) (dI : Nat → Nat → Nat) (cI : ClassId) (a0 : Nat → Nat) (v0_2 : Int32) (v0_3 : Int32) (v0_5 : Int32) (v0_24 : Int32) (v0_25 : Int32) (v0_26 : Int32) (v0_29 : Int32) (v0_30 : Int64) (v0_0 : Nat → Int32) (u : (Int32 × Int32 × Int32 × Int32 × Int32 × Int32 × (Nat → Int32) × (Nat → Int32) × (Nat → Int32) × (Nat → Int32) × (Nat → Int32) × (Nat → Int32) × (Nat → Int32) × (Nat → Int32) × (Nat → Int32) × (Nat → Int32) × (Nat → Int32) × (Nat → Int32))) (A : Nat → Prop) : Array Value → State → Outcome → State → Prop := va_Qv (fun (_ : Unit) => True) (fun _ => q_at dC dI cI A (wd_X12_laysPieces cI a0 v0_2 v0_3 v0_5 u.1 u.2.1 u.2.2.1 u.2.2.2.1 u.2.2.2.2.1 u.2.2.2.2.2.1 v0_24 v0_25 v0_26 v0_29 v0_30 v0_0 u.2.2.2.2.2.2.1 u.2.2.2.2.2.2.2.1 u.2.2.2.2.2.2.2.2.1 u.2.2.2.2.2.2.2.2.2.1 u.2.2.2.2.2.2.2.2.2.2.1 u.2.2.2.2.2.2.2.2.2.2.2.1 u.2.2.2.2.2.2.2.2.2.2.2.2.1 u.2.2.2.2.2.2.2.2.2.2.2.2.2.1 u.2.2.2.2.2.2.2.2.2.2.2.2.2.2.1 u.2.2.2.2.2.2.2.2.2.2.2.2.2.2.2.1 u.2.2.2.2.2.2.2.2.2.2.2.2.2.2.2.2.1 u.2.2.2.2.2.2.2.2.2.2.2.2.2.2.2.2.2)) A
set_option maxHeartbeats 4000000 in
set_option maxRecDepth 100000 in
theorem c_X12_laysPieces (l : Launch) (dC : Nat → ClassId) (dI : Nat → Nat → Nat) (cI : ClassId) (sz : Nat) (a0 : Nat → Nat) (v0_2 : Int32) (v0_3 : Int32) (v0_5 : Int32) (v0_12 : Int32) (v0_13 : Int32) (v0_16 : Int32) (v0_17 : Int32) (v0_21 : Int32) (v0_23 : Int32) (v0_24 : Int32) (v0_25 : Int32) (v0_26 : Int32) (v0_29 : Int32) (v0_30 : Int64) (v0_0 : Nat → Int32) (v0_6 : Nat → Int32) (v0_7 : Nat → Int32) (v0_8 : Nat → Int32) (v0_9 : Nat → Int32) (v0_10 : Nat → Int32) (v0_11 : Nat → Int32) (v0_14 : Nat → Int32) (v0_15 : Nat → Int32) (v0_18 : Nat → Int32) (v0_19 : Nat → Int32) (v0_20 : Nat → Int32) (v0_22 : Nat → Int32) (n : Nat) (u : (Int32 × Int32 × Int32 × Int32 × Int32 × Int32 × (Nat → Int32) × (Nat → Int32) × (Nat → Int32) × (Nat → Int32) × (Nat → Int32) × (Nat → Int32) × (Nat → Int32) × (Nat → Int32) × (Nat → Int32) × (Nat → Int32) × (Nat → Int32) × (Nat → Int32))) (hF : F_X12_laysPieces n v0_12 v0_13 v0_16 v0_17 v0_21 v0_0 v0_6 v0_7 v0_8 v0_9 v0_10 v0_11 v0_14 v0_15 v0_18 v0_19 v0_20 v0_22 = some u) : Met l yX12_laysPieces wz_X12_laysPieces rm_X12_laysPieces (va_Pc [.ref (a0 0)] (q_pre dC dI cI (wd_X12_laysPieces cI a0 v0_2 v0_3 v0_5 v0_12 v0_13 v0_16 v0_17 v0_21 v0_23 v0_24 v0_25 v0_26 v0_29 v0_30 v0_0 v0_6 v0_7 v0_8 v0_9 v0_10 v0_11 v0_14 v0_15 v0_18 v0_19 v0_20 v0_22) sz)) (Q_X12_laysPieces dC dI cI a0 v0_2 v0_3 v0_5 v0_24 v0_25 v0_26 v0_29 v0_30 v0_0 u (va_A (wd_X12_laysPieces cI a0 v0_2 v0_3 v0_5 v0_12 v0_13 v0_16 v0_17 v0_21 v0_23 v0_24 v0_25 v0_26 v0_29 v0_30 v0_0 v0_6 v0_7 v0_8 v0_9 v0_10 v0_11 v0_14 v0_15 v0_18 v0_19 v0_20 v0_22) sz)) 0 0 (va_A (wd_X12_laysPieces cI a0 v0_2 v0_3 v0_5 v0_12 v0_13 v0_16 v0_17 v0_21 v0_23 v0_24 v0_25 v0_26 v0_29 v0_30 v0_0 v0_6 v0_7 v0_8 v0_9 v0_10 v0_11 v0_14 v0_15 v0_18 v0_19 v0_20 v0_22) sz) := by
  refine Met.ofW (cc := cX12_laysPieces) (maxL := 3) (ret := none) (by decide) rfl ?_
  intro p e s m args below meth c s₁ B hml hv
  obtain ⟨rfl, hsz, hP, hK, hD0⟩ := hv
  have hx := B.exec
  have hb := B.bytes
  have hr := B.returns
  have hts := atoms_spec (ws := wz_X12_laysPieces) B.pre
  have hta := wz_tl hts
  have hown : s.vm.findClass RX12 = some m.cls := findClass_of_methodNamed B.named
  have hlocks := B.notSynchronized
  subst hsz
  have hD := hD0.self (sz := s.heap.size)
  generalize hAe : va_A (wd_X12_laysPieces cI a0 v0_2 v0_3 v0_5 v0_12 v0_13 v0_16 v0_17 v0_21 v0_23 v0_24 v0_25 v0_26 v0_29 v0_30 v0_0 v0_6 v0_7 v0_8 v0_9 v0_10 v0_11 v0_14 v0_15 v0_18 v0_19 v0_20 v0_22) s.heap.size = A at hD ⊢
  have hA : ∀ q : Nat, s.heap.size ≤ q → A q := fun q h => by rw [← hAe]; exact Or.inr h
  have hS : va_S A s.heap s.heap [] := va_S.rf
  have hP : va_P (dC, dI) vwCl (wd_X12_laysPieces cI a0 v0_2 v0_3 v0_5 v0_12 v0_13 v0_16 v0_17 v0_21 v0_23 v0_24 v0_25 v0_26 v0_29 v0_30 v0_0 v0_6 v0_7 v0_8 v0_9 v0_10 v0_11 v0_14 v0_15 v0_18 v0_19 v0_20 v0_22) s.heap := hP
  have hl := lv_entry ([.ref (a0 0)]) (n := 3) (Nat.le_of_ble_eq_true rfl)
  rw [lg_entry_eq]
  generalize (lg_sl ([.ref (a0 0)]) ++ List.replicate (3 - (lg_sl ([.ref (a0 0)])).length) Slot.unset).toArray = ls at hl ⊢
  have hl : lv_has ls 3 [(0, .ref (a0 0))] := hl
  obtain ⟨H, hHe⟩ : ∃ H, H = s.heap := ⟨_, rfl⟩
  have hS : va_S A s.heap H [] := by rw [hHe]; exact hS
  have hP : va_P (dC, dI) vwCl (wd_X12_laysPieces cI a0 v0_2 v0_3 v0_5 v0_12 v0_13 v0_16 v0_17 v0_21 v0_23 v0_24 v0_25 v0_26 v0_29 v0_30 v0_0 v0_6 v0_7 v0_8 v0_9 v0_10 v0_11 v0_14 v0_15 v0_18 v0_19 v0_20 v0_22) H := by rw [hHe]; exact hP
  rw [← hHe]
  unfold F_X12_laysPieces at hF
  have j7 : ∀ (v0_12 : Int32) (v0_13 : Int32) (v0_16 : Int32) (v0_17 : Int32) (v0_21 : Int32) (v0_23 : Int32) (v0_6 : Nat → Int32) (v0_7 : Nat → Int32) (v0_8 : Nat → Int32) (v0_9 : Nat → Int32) (v0_10 : Nat → Int32) (v0_11 : Nat → Int32) (v0_14 : Nat → Int32) (v0_15 : Nat → Int32) (v0_18 : Nat → Int32) (v0_19 : Nat → Int32) (v0_20 : Nat → Int32) (v0_22 : Nat → Int32) (x1 : Int32), F_X12_laysPieces_j7 n v0_12 v0_13 v0_16 v0_17 v0_21 v0_23 v0_0 v0_6 v0_7 v0_8 v0_9 v0_10 v0_11 v0_14 v0_15 v0_18 v0_19 v0_20 v0_22 x1 = some u → ∀ (H : Heap) (locs : List Loc) (ls : Array Slot), va_P (dC, dI) vwCl (wd_X12_laysPieces cI a0 v0_2 v0_3 v0_5 v0_12 v0_13 v0_16 v0_17 v0_21 v0_23 v0_24 v0_25 v0_26 v0_29 v0_30 v0_0 v0_6 v0_7 v0_8 v0_9 v0_10 v0_11 v0_14 v0_15 v0_18 v0_19 v0_20 v0_22) H → va_D A (wd_X12_laysPieces cI a0 v0_2 v0_3 v0_5 v0_12 v0_13 v0_16 v0_17 v0_21 v0_23 v0_24 v0_25 v0_26 v0_29 v0_30 v0_0 v0_6 v0_7 v0_8 v0_9 v0_10 v0_11 v0_14 v0_15 v0_18 v0_19 v0_20 v0_22) → va_S A s.heap H locs → lv_has ls 3 [(0, .ref (a0 0)), (1, .int x1)] → W p l e (headSpec wz_X12_laysPieces rm_X12_laysPieces).room s m [.ref (a0 0)].toArray below meth c H locs 0 0 (MQ below (Q_X12_laysPieces dC dI cI a0 v0_2 v0_3 v0_5 v0_24 v0_25 v0_26 v0_29 v0_30 v0_0 u A) [.ref (a0 0)].toArray s 0 0 A) (F0 m 7 ls []) := by
    intro v0_12 v0_13 v0_16 v0_17 v0_21 v0_23 v0_6 v0_7 v0_8 v0_9 v0_10 v0_11 v0_14 v0_15 v0_18 v0_19 v0_20 v0_22 x1 hF H locs ls hP hD hS hl
    unfold F_X12_laysPieces_j7 at hF
    obtain ⟨x_7, hL_7, hE_7⟩ := obd_some hF
    have kl_7 : ∀ (k : Nat) (s7 : Int32 × Int32 × Int32 × Int32 × Int32 × Int32 × Int32 × (Nat → Int32) × (Nat → Int32) × (Nat → Int32) × (Nat → Int32) × (Nat → Int32) × (Nat → Int32) × (Nat → Int32) × (Nat → Int32) × (Nat → Int32) × (Nat → Int32) × (Nat → Int32) × (Nat → Int32)), lpq (F_X12_laysPieces_b7 n v0_0) k s7 = some x_7 → ∀ (H : Heap) (locs : List Loc) (ls : Array Slot), va_P (dC, dI) vwCl (wd_X12_laysPieces cI a0 v0_2 v0_3 v0_5 s7.2.1 s7.2.2.1 s7.2.2.2.1 s7.2.2.2.2.1 s7.2.2.2.2.2.1 s7.2.2.2.2.2.2.1 v0_24 v0_25 v0_26 v0_29 v0_30 v0_0 s7.2.2.2.2.2.2.2.1 s7.2.2.2.2.2.2.2.2.1 s7.2.2.2.2.2.2.2.2.2.1 s7.2.2.2.2.2.2.2.2.2.2.1 s7.2.2.2.2.2.2.2.2.2.2.2.1 s7.2.2.2.2.2.2.2.2.2.2.2.2.1 s7.2.2.2.2.2.2.2.2.2.2.2.2.2.1 s7.2.2.2.2.2.2.2.2.2.2.2.2.2.2.1 s7.2.2.2.2.2.2.2.2.2.2.2.2.2.2.2.1 s7.2.2.2.2.2.2.2.2.2.2.2.2.2.2.2.2.1 s7.2.2.2.2.2.2.2.2.2.2.2.2.2.2.2.2.2.1 s7.2.2.2.2.2.2.2.2.2.2.2.2.2.2.2.2.2.2) H → va_D A (wd_X12_laysPieces cI a0 v0_2 v0_3 v0_5 s7.2.1 s7.2.2.1 s7.2.2.2.1 s7.2.2.2.2.1 s7.2.2.2.2.2.1 s7.2.2.2.2.2.2.1 v0_24 v0_25 v0_26 v0_29 v0_30 v0_0 s7.2.2.2.2.2.2.2.1 s7.2.2.2.2.2.2.2.2.1 s7.2.2.2.2.2.2.2.2.2.1 s7.2.2.2.2.2.2.2.2.2.2.1 s7.2.2.2.2.2.2.2.2.2.2.2.1 s7.2.2.2.2.2.2.2.2.2.2.2.2.1 s7.2.2.2.2.2.2.2.2.2.2.2.2.2.1 s7.2.2.2.2.2.2.2.2.2.2.2.2.2.2.1 s7.2.2.2.2.2.2.2.2.2.2.2.2.2.2.2.1 s7.2.2.2.2.2.2.2.2.2.2.2.2.2.2.2.2.1 s7.2.2.2.2.2.2.2.2.2.2.2.2.2.2.2.2.2.1 s7.2.2.2.2.2.2.2.2.2.2.2.2.2.2.2.2.2.2) → va_S A s.heap H locs → lv_has ls 3 [(0, .ref (a0 0)), (1, .int s7.1)] → W p l e (headSpec wz_X12_laysPieces rm_X12_laysPieces).room s m [.ref (a0 0)].toArray below meth c H locs 0 0 (MQ below (Q_X12_laysPieces dC dI cI a0 v0_2 v0_3 v0_5 v0_24 v0_25 v0_26 v0_29 v0_30 v0_0 u A) [.ref (a0 0)].toArray s 0 0 A) (F0 m 7 ls []) := by
      intro k
      induction k with
      | zero => intro s7 h; exact absurd h lpq_zero
      | succ k ih_7 =>
        intro s7 h H locs ls hP hD hS hl
        obtain ⟨o_7, hF, hO_7⟩ := lpq_succ h
        unfold F_X12_laysPieces_b7 at hF
        have j56 : ∀ (v0_12 : Int32) (v0_13 : Int32) (v0_16 : Int32) (v0_17 : Int32) (v0_21 : Int32) (v0_23 : Int32) (v0_6 : Nat → Int32) (v0_7 : Nat → Int32) (v0_8 : Nat → Int32) (v0_9 : Nat → Int32) (v0_10 : Nat → Int32) (v0_11 : Nat → Int32) (v0_14 : Nat → Int32) (v0_15 : Nat → Int32) (v0_18 : Nat → Int32) (v0_19 : Nat → Int32) (v0_20 : Nat → Int32) (v0_22 : Nat → Int32) (x1 : Int32), F_X12_laysPieces_j56 v0_12 v0_13 v0_16 v0_17 v0_21 v0_23 v0_6 v0_7 v0_8 v0_9 v0_10 v0_11 v0_14 v0_15 v0_18 v0_19 v0_20 v0_22 x1 = some o_7 → ∀ (H : Heap) (locs : List Loc) (ls : Array Slot), va_P (dC, dI) vwCl (wd_X12_laysPieces cI a0 v0_2 v0_3 v0_5 v0_12 v0_13 v0_16 v0_17 v0_21 v0_23 v0_24 v0_25 v0_26 v0_29 v0_30 v0_0 v0_6 v0_7 v0_8 v0_9 v0_10 v0_11 v0_14 v0_15 v0_18 v0_19 v0_20 v0_22) H → va_D A (wd_X12_laysPieces cI a0 v0_2 v0_3 v0_5 v0_12 v0_13 v0_16 v0_17 v0_21 v0_23 v0_24 v0_25 v0_26 v0_29 v0_30 v0_0 v0_6 v0_7 v0_8 v0_9 v0_10 v0_11 v0_14 v0_15 v0_18 v0_19 v0_20 v0_22) → va_S A s.heap H locs → lv_has ls 3 [(0, .ref (a0 0)), (1, .int x1)] → W p l e (headSpec wz_X12_laysPieces rm_X12_laysPieces).room s m [.ref (a0 0)].toArray below meth c H locs 0 0 (MQ below (Q_X12_laysPieces dC dI cI a0 v0_2 v0_3 v0_5 v0_24 v0_25 v0_26 v0_29 v0_30 v0_0 u A) [.ref (a0 0)].toArray s 0 0 A) (F0 m 56 ls []) := by
          intro v0_12 v0_13 v0_16 v0_17 v0_21 v0_23 v0_6 v0_7 v0_8 v0_9 v0_10 v0_11 v0_14 v0_15 v0_18 v0_19 v0_20 v0_22 x1 hF H locs ls hP hD hS hl
          unfold F_X12_laysPieces_j56 at hF
          obtain ⟨y_1, ey_1, hF⟩ := lt_some hF
          refine lv_iinc (v := y_1) (lv' := [(1, .int y_1), (0, .ref (a0 0))]) hx hb dX12_laysPieces_56 hl (k := 1) rfl (by rw [ey_1]; rfl) (by decide) rfl (fun ls hl => ?_)
          refine lv_goto (tgt := 7) hx hb dX12_laysPieces_59 (by decide) ?_
          obtain rfl := Option.some.inj hF
          exact ih_7 _ hO_7 _ _ _ hP hD hS (lv_sub hl [1, 0] rfl)
        have j37 : ∀ (v0_12 : Int32) (v0_13 : Int32) (v0_16 : Int32) (v0_17 : Int32) (v0_21 : Int32) (v0_23 : Int32) (v0_6 : Nat → Int32) (v0_7 : Nat → Int32) (v0_8 : Nat → Int32) (v0_9 : Nat → Int32) (v0_10 : Nat → Int32) (v0_11 : Nat → Int32) (v0_14 : Nat → Int32) (v0_15 : Nat → Int32) (v0_18 : Nat → Int32) (v0_19 : Nat → Int32) (v0_20 : Nat → Int32) (v0_22 : Nat → Int32) (x1 : Int32) (x2 : Int32), F_X12_laysPieces_j37 n v0_12 v0_13 v0_16 v0_17 v0_21 v0_23 v0_0 v0_6 v0_7 v0_8 v0_9 v0_10 v0_11 v0_14 v0_15 v0_18 v0_19 v0_20 v0_22 x1 x2 = some o_7 → ∀ (H : Heap) (locs : List Loc) (ls : Array Slot), va_P (dC, dI) vwCl (wd_X12_laysPieces cI a0 v0_2 v0_3 v0_5 v0_12 v0_13 v0_16 v0_17 v0_21 v0_23 v0_24 v0_25 v0_26 v0_29 v0_30 v0_0 v0_6 v0_7 v0_8 v0_9 v0_10 v0_11 v0_14 v0_15 v0_18 v0_19 v0_20 v0_22) H → va_D A (wd_X12_laysPieces cI a0 v0_2 v0_3 v0_5 v0_12 v0_13 v0_16 v0_17 v0_21 v0_23 v0_24 v0_25 v0_26 v0_29 v0_30 v0_0 v0_6 v0_7 v0_8 v0_9 v0_10 v0_11 v0_14 v0_15 v0_18 v0_19 v0_20 v0_22) → va_S A s.heap H locs → lv_has ls 3 [(0, .ref (a0 0)), (1, .int x1), (2, .int x2)] → W p l e (headSpec wz_X12_laysPieces rm_X12_laysPieces).room s m [.ref (a0 0)].toArray below meth c H locs 0 0 (MQ below (Q_X12_laysPieces dC dI cI a0 v0_2 v0_3 v0_5 v0_24 v0_25 v0_26 v0_29 v0_30 v0_0 u A) [.ref (a0 0)].toArray s 0 0 A) (F0 m 37 ls []) := by
          intro v0_12 v0_13 v0_16 v0_17 v0_21 v0_23 v0_6 v0_7 v0_8 v0_9 v0_10 v0_11 v0_14 v0_15 v0_18 v0_19 v0_20 v0_22 x1 x2 hF H locs ls hP hD hS hl
          unfold F_X12_laysPieces_j37 at hF
          obtain ⟨x_37, hL_37, hE_37⟩ := obd_some hF
          have kl_37 : ∀ (k : Nat) (s37 : Int32 × Int32 × Int32 × (Nat → Int32) × (Nat → Int32) × (Nat → Int32) × (Nat → Int32)), lpq (F_X12_laysPieces_b37 n v0_12 v0_13 v0_16 v0_17 v0_0 v0_6 v0_7 v0_8 v0_9 v0_10 v0_11 v0_14 v0_15) k s37 = some x_37 → ∀ (H : Heap) (locs : List Loc) (ls : Array Slot), va_P (dC, dI) vwCl (wd_X12_laysPieces cI a0 v0_2 v0_3 v0_5 v0_12 v0_13 v0_16 v0_17 s37.2.1 s37.2.2.1 v0_24 v0_25 v0_26 v0_29 v0_30 v0_0 v0_6 v0_7 v0_8 v0_9 v0_10 v0_11 v0_14 v0_15 s37.2.2.2.1 s37.2.2.2.2.1 s37.2.2.2.2.2.1 s37.2.2.2.2.2.2) H → va_D A (wd_X12_laysPieces cI a0 v0_2 v0_3 v0_5 v0_12 v0_13 v0_16 v0_17 s37.2.1 s37.2.2.1 v0_24 v0_25 v0_26 v0_29 v0_30 v0_0 v0_6 v0_7 v0_8 v0_9 v0_10 v0_11 v0_14 v0_15 s37.2.2.2.1 s37.2.2.2.2.1 s37.2.2.2.2.2.1 s37.2.2.2.2.2.2) → va_S A s.heap H locs → lv_has ls 3 [(0, .ref (a0 0)), (1, .int x1), (2, .int s37.1)] → W p l e (headSpec wz_X12_laysPieces rm_X12_laysPieces).room s m [.ref (a0 0)].toArray below meth c H locs 0 0 (MQ below (Q_X12_laysPieces dC dI cI a0 v0_2 v0_3 v0_5 v0_24 v0_25 v0_26 v0_29 v0_30 v0_0 u A) [.ref (a0 0)].toArray s 0 0 A) (F0 m 37 ls []) := by
            intro k
            induction k with
            | zero => intro s37 h; exact absurd h lpq_zero
            | succ k ih_37 =>
              intro s37 h H locs ls hP hD hS hl
              obtain ⟨o_37, hF, hO_37⟩ := lpq_succ h
              unfold F_X12_laysPieces_b37 at hF
              refine lv_iload_n hx hb dX12_laysPieces_37 rfl (lv_at hl 2 rfl) ?_
              refine lv_aload_n hx hb dX12_laysPieces_38 rfl (lv_at hl 0 rfl) ?_
              refine va_get (D := (dC, dI)) (ci := 11) (v := .int v0_16) (C := RX12) (T := TX12) (N := 31) hx hb hta uw_X12 hown hK hP 0 rfl rfl 16 (by decide) (hta _ mA924) (fun _ h9 => h9) rfl dX12_laysPieces_39 ?_
              refine lv_icmp_ge (tgt := 56) hx hb dX12_laysPieces_42 (by decide) (fun c_2 => ?_) (fun c_2 => ?_)
              · have hF := it_t hF c_2
                obtain rfl := Option.some.inj hF
                obtain rfl := lpq_x hO_37
                have hF := hE_37
                exact j56 v0_12 v0_13 v0_16 v0_17 s37.2.1 s37.2.2.1 v0_6 v0_7 v0_8 v0_9 v0_10 v0_11 v0_14 v0_15 s37.2.2.2.1 s37.2.2.2.2.1 s37.2.2.2.2.2.1 s37.2.2.2.2.2.2 x1 hF _ _ _ hP hD hS (lv_sub hl [0, 1] rfl)
              · have hF := it_f hF c_2
                refine lv_aload_n hx hb dX12_laysPieces_45 rfl (lv_at hl 0 rfl) ?_
                refine lv_iload_n hx hb dX12_laysPieces_46 rfl (lv_at hl 2 rfl) ?_
                obtain ⟨u_3, hu_3, hF⟩ := obd_some hF
                have hPc := hP.sub (ws' := (wd_X12_laysRun cI a0 v0_2 v0_3 v0_5 v0_12 v0_13 v0_16 v0_17 s37.2.1 s37.2.2.1 v0_24 v0_25 v0_26 v0_29 v0_30 v0_0 v0_6 v0_7 v0_8 v0_9 v0_10 v0_11 v0_14 v0_15 s37.2.2.2.1 s37.2.2.2.2.1 s37.2.2.2.2.2.1 s37.2.2.2.2.2.2)) [0, 1, 2, 3, 4, 5, 6, 7, 8, 9, 10, 11, 12, 13] rfl
                have hDc := hD.sub (ws' := (wd_X12_laysRun cI a0 v0_2 v0_3 v0_5 v0_12 v0_13 v0_16 v0_17 s37.2.1 s37.2.2.1 v0_24 v0_25 v0_26 v0_29 v0_30 v0_0 v0_6 v0_7 v0_8 v0_9 v0_10 v0_11 v0_14 v0_15 s37.2.2.2.1 s37.2.2.2.2.1 s37.2.2.2.2.2.1 s37.2.2.2.2.2.2)) [0, 1, 2, 3, 4, 5, 6, 7, 8, 9, 10, 11, 12, 13] rfl rfl
                refine q_callv (wc := (wd_X12_laysRun cI a0 v0_2 v0_3 v0_5 v0_12 v0_13 v0_16 v0_17 s37.2.1 s37.2.2.1 v0_24 v0_25 v0_26 v0_29 v0_30 v0_0 v0_6 v0_7 v0_8 v0_9 v0_10 v0_11 v0_14 v0_15 s37.2.2.2.1 s37.2.2.2.2.1 s37.2.2.2.2.2.1 s37.2.2.2.2.2.2)) (w1 := (wd_X12_laysRun cI a0 v0_2 v0_3 v0_5 v0_12 v0_13 v0_16 v0_17 u_3.1 u_3.2.1 v0_24 v0_25 v0_26 v0_29 v0_30 v0_0 v0_6 v0_7 v0_8 v0_9 v0_10 v0_11 v0_14 v0_15 u_3.2.2.1 u_3.2.2.2.1 u_3.2.2.2.2.1 u_3.2.2.2.2.2)) (ws' := (wd_X12_laysPieces cI a0 v0_2 v0_3 v0_5 v0_12 v0_13 v0_16 v0_17 u_3.1 u_3.2.1 v0_24 v0_25 v0_26 v0_29 v0_30 v0_0 v0_6 v0_7 v0_8 v0_9 v0_10 v0_11 v0_14 v0_15 u_3.2.2.1 u_3.2.2.2.1 u_3.2.2.2.2.1 u_3.2.2.2.2.2)) hP hD hS hA [0, 1, 2, 3, 4, 5, 6, 7, 8, 9, 10, 11, 12, 13] [] [0, 1, 2, 3, 4, 5, 6, 7, 8, 9, 10, 11, 12, 13] rfl rfl rfl (by decide) rfl rfl (va_runV (As := [.int s37.1]) (rest := []) ⟨hx, hb, hml, hown, hta⟩ (c_X12_laysRun l dC dI cI H.size a0 v0_2 v0_3 v0_5 v0_12 v0_13 v0_16 v0_17 s37.2.1 s37.2.2.1 v0_24 v0_25 v0_26 v0_29 v0_30 v0_0 v0_6 v0_7 v0_8 v0_9 v0_10 v0_11 v0_14 v0_15 s37.2.2.2.1 s37.2.2.2.2.1 s37.2.2.2.2.2.1 s37.2.2.2.2.2.2 s37.1 n u_3 hu_3) (cwV 1 hta (ga_V mA1010 mA1011 mA1012 mA814 mA995) rfl rfl rfl (by decide +kernel) ⟨Nat.le_of_ble_eq_true rfl, Nat.le_of_ble_eq_true rfl⟩) ⟨q_fb, va_recv hK hP (ci := 11) (q0 := 0) rfl rfl, q_ps hPc hK hDc⟩ rfl rfl hl.1 rfl (lv_room (Nat.le_of_ble_eq_true rfl)) dX12_laysPieces_47 ⟨Nat.zero_le _, Nat.zero_le _⟩) (fun H locs hP hD hS => ?_)
                obtain ⟨y_4, ey_4, hF⟩ := lt_some hF
                refine lv_iinc (v := y_4) (lv' := [(2, .int y_4), (0, .ref (a0 0)), (1, .int x1)]) hx hb dX12_laysPieces_50 hl (k := 2) rfl (by rw [ey_4]; rfl) (by decide) rfl (fun ls hl => ?_)
                refine lv_goto (tgt := 37) hx hb dX12_laysPieces_53 (by decide) ?_
                obtain rfl := Option.some.inj hF
                exact ih_37 _ hO_37 _ _ _ hP hD hS (lv_sub hl [1, 2, 0] rfl)
          exact kl_37 n _ hL_37 _ _ _ hP hD hS hl
        have j35 : ∀ (v0_12 : Int32) (v0_13 : Int32) (v0_16 : Int32) (v0_17 : Int32) (v0_21 : Int32) (v0_23 : Int32) (v0_6 : Nat → Int32) (v0_7 : Nat → Int32) (v0_8 : Nat → Int32) (v0_9 : Nat → Int32) (v0_10 : Nat → Int32) (v0_11 : Nat → Int32) (v0_14 : Nat → Int32) (v0_15 : Nat → Int32) (v0_18 : Nat → Int32) (v0_19 : Nat → Int32) (v0_20 : Nat → Int32) (v0_22 : Nat → Int32) (x1 : Int32), F_X12_laysPieces_j35 n v0_12 v0_13 v0_16 v0_17 v0_21 v0_23 v0_0 v0_6 v0_7 v0_8 v0_9 v0_10 v0_11 v0_14 v0_15 v0_18 v0_19 v0_20 v0_22 x1 = some o_7 → ∀ (H : Heap) (locs : List Loc) (ls : Array Slot), va_P (dC, dI) vwCl (wd_X12_laysPieces cI a0 v0_2 v0_3 v0_5 v0_12 v0_13 v0_16 v0_17 v0_21 v0_23 v0_24 v0_25 v0_26 v0_29 v0_30 v0_0 v0_6 v0_7 v0_8 v0_9 v0_10 v0_11 v0_14 v0_15 v0_18 v0_19 v0_20 v0_22) H → va_D A (wd_X12_laysPieces cI a0 v0_2 v0_3 v0_5 v0_12 v0_13 v0_16 v0_17 v0_21 v0_23 v0_24 v0_25 v0_26 v0_29 v0_30 v0_0 v0_6 v0_7 v0_8 v0_9 v0_10 v0_11 v0_14 v0_15 v0_18 v0_19 v0_20 v0_22) → va_S A s.heap H locs → lv_has ls 3 [(0, .ref (a0 0)), (1, .int x1)] → W p l e (headSpec wz_X12_laysPieces rm_X12_laysPieces).room s m [.ref (a0 0)].toArray below meth c H locs 0 0 (MQ below (Q_X12_laysPieces dC dI cI a0 v0_2 v0_3 v0_5 v0_24 v0_25 v0_26 v0_29 v0_30 v0_0 u A) [.ref (a0 0)].toArray s 0 0 A) (F0 m 35 ls []) := by
          intro v0_12 v0_13 v0_16 v0_17 v0_21 v0_23 v0_6 v0_7 v0_8 v0_9 v0_10 v0_11 v0_14 v0_15 v0_18 v0_19 v0_20 v0_22 x1 hF H locs ls hP hD hS hl
          unfold F_X12_laysPieces_j35 at hF
          refine lv_iconst (v := 0) hx hb dX12_laysPieces_35 (by decide) ?_
          refine lv_istore_n (lv' := [(2, .int 0), (0, .ref (a0 0)), (1, .int x1)]) hx hb dX12_laysPieces_36 rfl hl (by decide) rfl (fun ls hl => ?_)
          exact j37 v0_12 v0_13 v0_16 v0_17 v0_21 v0_23 v0_6 v0_7 v0_8 v0_9 v0_10 v0_11 v0_14 v0_15 v0_18 v0_19 v0_20 v0_22 x1 0 hF _ _ _ hP hD hS (lv_sub hl [1, 2, 0] rfl)
        refine lv_iload_n hx hb dX12_laysPieces_7 rfl (lv_at hl 1 rfl) ?_
        refine lv_aload_n hx hb dX12_laysPieces_8 rfl (lv_at hl 0 rfl) ?_
        refine va_get (D := (dC, dI)) (ci := 11) (v := .ref (a0 1)) (C := RX12) (T := TX12) (N := 31) hx hb hta uw_X12 hown hK hP 0 rfl rfl 0 (by decide) (hta _ mA790) (fun _ h9 => h9) rfl dX12_laysPieces_9 ?_
        refine lv_bipush (v := 13) hx hb dX12_laysPieces_12 (by decide) ?_
        obtain ⟨g_5, hF⟩ := gd_some hF
        refine va_iald hx hb hK hP 1 0 rfl rfl (vpi_in g_5) dX12_laysPieces_14 ?_
        refine lv_icmp_ge (tgt := 62) hx hb dX12_laysPieces_15 (by decide) (fun c_6 => ?_) (fun c_6 => ?_)
        · have hF := it_t hF c_6
          obtain rfl := Option.some.inj hF
          obtain rfl := lpq_x hO_7
          have hF := hE_7
          obtain rfl := Option.some.inj hF
          exact W.vret hx hb hr (fun t ht hW => ⟨⟨(), rfl, trivial, by rw [ht]; exact hP, va_K.moved hW.alike hK, hD⟩, hS.F ht⟩) hS.2.2 dX12_laysPieces_62
        · have hF := it_f hF c_6
          refine lv_aload_n hx hb dX12_laysPieces_18 rfl (lv_at hl 0 rfl) ?_
          refine lv_iload_n hx hb dX12_laysPieces_19 rfl (lv_at hl 1 rfl) ?_
          obtain ⟨u_7, hu_7, hF⟩ := obd_some hF
          have hPc := hP.sub (ws' := (wd_X12_laysRuns cI a0 v0_2 v0_3 v0_5 s7.2.1 s7.2.2.1 s7.2.2.2.1 s7.2.2.2.2.1 s7.2.2.2.2.2.1 s7.2.2.2.2.2.2.1 v0_24 v0_25 v0_26 v0_29 v0_30 v0_0 s7.2.2.2.2.2.2.2.1 s7.2.2.2.2.2.2.2.2.1 s7.2.2.2.2.2.2.2.2.2.1 s7.2.2.2.2.2.2.2.2.2.2.1 s7.2.2.2.2.2.2.2.2.2.2.2.1 s7.2.2.2.2.2.2.2.2.2.2.2.2.1 s7.2.2.2.2.2.2.2.2.2.2.2.2.2.1 s7.2.2.2.2.2.2.2.2.2.2.2.2.2.2.1)) [0, 1, 2, 3, 4, 5, 6, 7, 8, 9] rfl
          have hDc := hD.sub (ws' := (wd_X12_laysRuns cI a0 v0_2 v0_3 v0_5 s7.2.1 s7.2.2.1 s7.2.2.2.1 s7.2.2.2.2.1 s7.2.2.2.2.2.1 s7.2.2.2.2.2.2.1 v0_24 v0_25 v0_26 v0_29 v0_30 v0_0 s7.2.2.2.2.2.2.2.1 s7.2.2.2.2.2.2.2.2.1 s7.2.2.2.2.2.2.2.2.2.1 s7.2.2.2.2.2.2.2.2.2.2.1 s7.2.2.2.2.2.2.2.2.2.2.2.1 s7.2.2.2.2.2.2.2.2.2.2.2.2.1 s7.2.2.2.2.2.2.2.2.2.2.2.2.2.1 s7.2.2.2.2.2.2.2.2.2.2.2.2.2.2.1)) [0, 1, 2, 3, 4, 5, 6, 7, 8, 9] rfl rfl
          refine q_callv (wc := (wd_X12_laysRuns cI a0 v0_2 v0_3 v0_5 s7.2.1 s7.2.2.1 s7.2.2.2.1 s7.2.2.2.2.1 s7.2.2.2.2.2.1 s7.2.2.2.2.2.2.1 v0_24 v0_25 v0_26 v0_29 v0_30 v0_0 s7.2.2.2.2.2.2.2.1 s7.2.2.2.2.2.2.2.2.1 s7.2.2.2.2.2.2.2.2.2.1 s7.2.2.2.2.2.2.2.2.2.2.1 s7.2.2.2.2.2.2.2.2.2.2.2.1 s7.2.2.2.2.2.2.2.2.2.2.2.2.1 s7.2.2.2.2.2.2.2.2.2.2.2.2.2.1 s7.2.2.2.2.2.2.2.2.2.2.2.2.2.2.1)) (w1 := (wd_X12_laysRuns cI a0 v0_2 v0_3 v0_5 u_7.1 u_7.2.1 u_7.2.2.1 u_7.2.2.2.1 s7.2.2.2.2.2.1 s7.2.2.2.2.2.2.1 v0_24 v0_25 v0_26 v0_29 v0_30 v0_0 u_7.2.2.2.2.1 u_7.2.2.2.2.2.1 u_7.2.2.2.2.2.2.1 u_7.2.2.2.2.2.2.2.1 u_7.2.2.2.2.2.2.2.2.1 u_7.2.2.2.2.2.2.2.2.2.1 u_7.2.2.2.2.2.2.2.2.2.2.1 u_7.2.2.2.2.2.2.2.2.2.2.2)) (ws' := (wd_X12_laysPieces cI a0 v0_2 v0_3 v0_5 u_7.1 u_7.2.1 u_7.2.2.1 u_7.2.2.2.1 s7.2.2.2.2.2.1 s7.2.2.2.2.2.2.1 v0_24 v0_25 v0_26 v0_29 v0_30 v0_0 u_7.2.2.2.2.1 u_7.2.2.2.2.2.1 u_7.2.2.2.2.2.2.1 u_7.2.2.2.2.2.2.2.1 u_7.2.2.2.2.2.2.2.2.1 u_7.2.2.2.2.2.2.2.2.2.1 u_7.2.2.2.2.2.2.2.2.2.2.1 u_7.2.2.2.2.2.2.2.2.2.2.2 s7.2.2.2.2.2.2.2.2.2.2.2.2.2.2.2.1 s7.2.2.2.2.2.2.2.2.2.2.2.2.2.2.2.2.1 s7.2.2.2.2.2.2.2.2.2.2.2.2.2.2.2.2.2.1 s7.2.2.2.2.2.2.2.2.2.2.2.2.2.2.2.2.2.2)) hP hD hS hA [0, 1, 2, 3, 4, 5, 6, 7, 8, 9] [10, 11, 12, 13] [4, 5, 6, 7, 8, 9, 10, 11, 12, 13, 0, 1, 2, 3] rfl rfl rfl (by decide) rfl rfl (va_runV (As := [.int s7.1]) (rest := []) ⟨hx, hb, hml, hown, hta⟩ (c_X12_laysRuns l dC dI cI H.size a0 v0_2 v0_3 v0_5 s7.2.1 s7.2.2.1 s7.2.2.2.1 s7.2.2.2.2.1 s7.2.2.2.2.2.1 s7.2.2.2.2.2.2.1 v0_24 v0_25 v0_26 v0_29 v0_30 v0_0 s7.2.2.2.2.2.2.2.1 s7.2.2.2.2.2.2.2.2.1 s7.2.2.2.2.2.2.2.2.2.1 s7.2.2.2.2.2.2.2.2.2.2.1 s7.2.2.2.2.2.2.2.2.2.2.2.1 s7.2.2.2.2.2.2.2.2.2.2.2.2.1 s7.2.2.2.2.2.2.2.2.2.2.2.2.2.1 s7.2.2.2.2.2.2.2.2.2.2.2.2.2.2.1 s7.1 n u_7 hu_7) (cwV 1 hta (ga_V mA939 mA940 mA941 mA814 mA923) rfl rfl rfl (by decide +kernel) ⟨Nat.le_of_ble_eq_true rfl, Nat.le_of_ble_eq_true rfl⟩) ⟨q_fb, va_recv hK hP (ci := 11) (q0 := 0) rfl rfl, q_ps hPc hK hDc⟩ rfl rfl hl.1 rfl (lv_room (Nat.le_of_ble_eq_true rfl)) dX12_laysPieces_20 ⟨Nat.zero_le _, Nat.zero_le _⟩) (fun H locs hP hD hS => ?_)
          refine lv_aload_n hx hb dX12_laysPieces_23 rfl (lv_at hl 0 rfl) ?_
          refine va_get (D := (dC, dI)) (ci := 11) (v := .int u_7.1) (C := RX12) (T := TX12) (N := 31) hx hb hta uw_X12 hown hK hP 0 rfl rfl 12 (by decide) (hta _ mA863) (fun _ h9 => h9) rfl dX12_laysPieces_24 ?_
          refine lv_if_ne (tgt := 35) hx hb dX12_laysPieces_27 (by decide) (fun c_8 => ?_) (fun c_8 => ?_)
          · have hF := it_f hF c_8
            exact j35 u_7.1 u_7.2.1 u_7.2.2.1 u_7.2.2.2.1 s7.2.2.2.2.2.1 s7.2.2.2.2.2.2.1 u_7.2.2.2.2.1 u_7.2.2.2.2.2.1 u_7.2.2.2.2.2.2.1 u_7.2.2.2.2.2.2.2.1 u_7.2.2.2.2.2.2.2.2.1 u_7.2.2.2.2.2.2.2.2.2.1 u_7.2.2.2.2.2.2.2.2.2.2.1 u_7.2.2.2.2.2.2.2.2.2.2.2 s7.2.2.2.2.2.2.2.2.2.2.2.2.2.2.2.1 s7.2.2.2.2.2.2.2.2.2.2.2.2.2.2.2.2.1 s7.2.2.2.2.2.2.2.2.2.2.2.2.2.2.2.2.2.1 s7.2.2.2.2.2.2.2.2.2.2.2.2.2.2.2.2.2.2 s7.1 hF _ _ _ hP hD hS (lv_sub hl [0, 1] rfl)
          · have hF := it_t hF c_8
            refine lv_aload_n hx hb dX12_laysPieces_30 rfl (lv_at hl 0 rfl) ?_
            refine lv_iload_n hx hb dX12_laysPieces_31 rfl (lv_at hl 1 rfl) ?_
            obtain ⟨u_9, hu_9, hF⟩ := obd_some hF
            have hPc := hP.sub (ws' := (wd_X12_laysPoint cI a0 v0_2 v0_3 v0_5 u_7.1 u_7.2.1 u_7.2.2.1 u_7.2.2.2.1 s7.2.2.2.2.2.1 s7.2.2.2.2.2.2.1 v0_24 v0_25 v0_26 v0_29 v0_30 v0_0 s7.2.2.2.2.2.2.2.2.2.2.2.2.2.2.2.2.2.2)) [0, 1, 13] rfl
            have hDc := hD.sub (ws' := (wd_X12_laysPoint cI a0 v0_2 v0_3 v0_5 u_7.1 u_7.2.1 u_7.2.2.1 u_7.2.2.2.1 s7.2.2.2.2.2.1 s7.2.2.2.2.2.2.1 v0_24 v0_25 v0_26 v0_29 v0_30 v0_0 s7.2.2.2.2.2.2.2.2.2.2.2.2.2.2.2.2.2.2)) [0, 1, 13] rfl rfl
            refine q_callv (wc := (wd_X12_laysPoint cI a0 v0_2 v0_3 v0_5 u_7.1 u_7.2.1 u_7.2.2.1 u_7.2.2.2.1 s7.2.2.2.2.2.1 s7.2.2.2.2.2.2.1 v0_24 v0_25 v0_26 v0_29 v0_30 v0_0 s7.2.2.2.2.2.2.2.2.2.2.2.2.2.2.2.2.2.2)) (w1 := (wd_X12_laysPoint cI a0 v0_2 v0_3 v0_5 u_7.1 u_7.2.1 u_7.2.2.1 u_7.2.2.2.1 s7.2.2.2.2.2.1 u_9.1 v0_24 v0_25 v0_26 v0_29 v0_30 v0_0 u_9.2)) (ws' := (wd_X12_laysPieces cI a0 v0_2 v0_3 v0_5 u_7.1 u_7.2.1 u_7.2.2.1 u_7.2.2.2.1 s7.2.2.2.2.2.1 u_9.1 v0_24 v0_25 v0_26 v0_29 v0_30 v0_0 u_7.2.2.2.2.1 u_7.2.2.2.2.2.1 u_7.2.2.2.2.2.2.1 u_7.2.2.2.2.2.2.2.1 u_7.2.2.2.2.2.2.2.2.1 u_7.2.2.2.2.2.2.2.2.2.1 u_7.2.2.2.2.2.2.2.2.2.2.1 u_7.2.2.2.2.2.2.2.2.2.2.2 s7.2.2.2.2.2.2.2.2.2.2.2.2.2.2.2.1 s7.2.2.2.2.2.2.2.2.2.2.2.2.2.2.2.2.1 s7.2.2.2.2.2.2.2.2.2.2.2.2.2.2.2.2.2.1 u_9.2)) hP hD hS hA [0, 1, 13] [2, 3, 4, 5, 6, 7, 8, 9, 10, 11, 12] [11, 12, 0, 1, 2, 3, 4, 5, 6, 7, 8, 9, 10, 13] rfl rfl rfl (by decide) rfl rfl (va_runV (As := [.int s7.1]) (rest := []) ⟨hx, hb, hml, hown, hta⟩ (c_X12_laysPoint l dC dI cI H.size a0 v0_2 v0_3 v0_5 u_7.1 u_7.2.1 u_7.2.2.1 u_7.2.2.2.1 s7.2.2.2.2.2.1 s7.2.2.2.2.2.2.1 v0_24 v0_25 v0_26 v0_29 v0_30 v0_0 s7.2.2.2.2.2.2.2.2.2.2.2.2.2.2.2.2.2.2 s7.1 u_9 hu_9) (cwV 1 hta (ga_V mA1007 mA1008 mA1009 mA814 mA1005) rfl rfl rfl (by decide +kernel) ⟨Nat.le_of_ble_eq_true rfl, Nat.le_of_ble_eq_true rfl⟩) ⟨q_fb, va_recv hK hP (ci := 11) (q0 := 0) rfl rfl, q_ps hPc hK hDc⟩ rfl rfl hl.1 rfl (lv_room (Nat.le_of_ble_eq_true rfl)) dX12_laysPieces_32 ⟨Nat.zero_le _, Nat.zero_le _⟩) (fun H locs hP hD hS => ?_)
            exact j35 u_7.1 u_7.2.1 u_7.2.2.1 u_7.2.2.2.1 s7.2.2.2.2.2.1 u_9.1 u_7.2.2.2.2.1 u_7.2.2.2.2.2.1 u_7.2.2.2.2.2.2.1 u_7.2.2.2.2.2.2.2.1 u_7.2.2.2.2.2.2.2.2.1 u_7.2.2.2.2.2.2.2.2.2.1 u_7.2.2.2.2.2.2.2.2.2.2.1 u_7.2.2.2.2.2.2.2.2.2.2.2 s7.2.2.2.2.2.2.2.2.2.2.2.2.2.2.2.1 s7.2.2.2.2.2.2.2.2.2.2.2.2.2.2.2.2.1 s7.2.2.2.2.2.2.2.2.2.2.2.2.2.2.2.2.2.1 u_9.2 s7.1 hF _ _ _ hP hD hS (lv_sub hl [0, 1] rfl)
    exact kl_7 n _ hL_7 _ _ _ hP hD hS hl
  refine lv_aload_n hx hb dX12_laysPieces_0 rfl (lv_at hl 0 rfl) ?_
  refine lv_iconst (v := 0) hx hb dX12_laysPieces_1 (by decide) ?_
  refine va_put (D := (dC, dI)) (ci := 11) (v := .int 0) (ty := .int) (C := RX12) (T := TX12) (N := 31) hx hb hta uw_X12 tyX12 tyX12_ok nmX12 hown hK hP hD hS 0 rfl rfl 23 (by decide) (hta _ mA953) (fun _ h9 => h9) rfl (by decide +kernel) rfl rfl (Nat.le_of_ble_eq_true rfl) dX12_laysPieces_2 (fun H locs hP hD hS => ?_)
  have hP : va_P (dC, dI) vwCl (wd_X12_laysPieces cI a0 v0_2 v0_3 v0_5 v0_12 v0_13 v0_16 v0_17 v0_21 0 v0_24 v0_25 v0_26 v0_29 v0_30 v0_0 v0_6 v0_7 v0_8 v0_9 v0_10 v0_11 v0_14 v0_15 v0_18 v0_19 v0_20 v0_22) H := hP
  have hD : va_D A (wd_X12_laysPieces cI a0 v0_2 v0_3 v0_5 v0_12 v0_13 v0_16 v0_17 v0_21 0 v0_24 v0_25 v0_26 v0_29 v0_30 v0_0 v0_6 v0_7 v0_8 v0_9 v0_10 v0_11 v0_14 v0_15 v0_18 v0_19 v0_20 v0_22) := hD
  refine lv_iconst (v := 0) hx hb dX12_laysPieces_5 (by decide) ?_
  refine lv_istore_n (lv' := [(1, .int 0), (0, .ref (a0 0))]) hx hb dX12_laysPieces_6 rfl hl (by decide) rfl (fun ls hl => ?_)
  exact j7 v0_12 v0_13 v0_16 v0_17 v0_21 0 v0_6 v0_7 v0_8 v0_9 v0_10 v0_11 v0_14 v0_15 v0_18 v0_19 v0_20 v0_22 0 hF _ _ _ hP hD hS (lv_sub hl [1, 0] rfl)
