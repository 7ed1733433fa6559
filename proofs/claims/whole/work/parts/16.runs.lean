-- StrokeOutliner$DashCursor.take(LStrokeOutliner$Drawing;)V
def F_X0_take_j48 (v0_1 : Int32) (v0_0 : Nat → Int32) (v1_0 : Nat → Int32) : Option (Int32 × Int32 × (Nat → Int32)) :=
  obd (F_X1_cell v1_0 4) (fun u_1 => lt (64 * u_1) (fun y_2 => some (v0_1, y_2, v0_0)))
def F_X0_take_b17 (v0_1 : Int32) (v1_0 : Nat → Int32) (s17 : Int32 × (Nat → Int32)) : Option (Sum (Int32 × (Nat → Int32)) ((Nat → Int32))) :=
  if v0_1 ≤ s17.1 then some (.inr s17.2) else obd (F_X1_cell v1_0 (7 + s17.1)) (fun u_4 => lt (64 * u_4) (fun y_5 => gd (decide (vpi s17.1 6)) (lt (upd s17.2 s17.1.toNatClampNeg y_5) (fun y_7 => lt (s17.1 + 1) (fun y_8 => some (.inl (y_8, y_7)))))))
def F_X0_take_j17 (n : Nat) (v0_1 : Int32) (v0_0 : Nat → Int32) (v1_0 : Nat → Int32) (x2 : Int32) : Option (Int32 × Int32 × (Nat → Int32)) :=
  obd (lpq (F_X0_take_b17 v0_1 v1_0) n (x2, v0_0)) (fun x_17 => F_X0_take_j48 v0_1 x_17 v1_0)
def F_X0_take (n : Nat) (v0_0 : Nat → Int32) (v1_0 : Nat → Int32) : Option (Int32 × Int32 × (Nat → Int32)) :=
  obd (F_X1_cell v1_0 6) (fun u_9 => lt (if 6 < u_9 then 6 else u_9) (fun y_10 => F_X0_take_j17 n y_10 v0_0 v1_0 0))
abbrev wd_X0_take (cI : ClassId) (a0 : Nat → Nat) (a1 : Nat → Nat) (v0_1 : Int32) (v0_2 : Int32) (v0_3 : Int32) (v0_4 : Int32) (v0_0 : Nat → Int32) (v1_0 : Nat → Int32) : va_W := [(a0 0, .inr (0, [.ref (a0 1), .int v0_1, .int v0_2, .int v0_3, .int v0_4])), (a0 1, .inl (cI, 6, .inl v0_0)), (a1 0, .inr (1, [.ref (a1 1)])), (a1 1, .inl (cI, 86, .inl v1_0))]
abbrev wz_X0_take : List Cond := .code yX0_take cX0_take 3 none :: wALL
abbrev rm_X0_take : Room := { frames := 1, cells := 0, slots := 0, locals := 21 }
abbrev Q_X0_take (dC : Nat → ClassId) (dI : Nat → Nat → Nat) (cI : ClassId) (a0 : Nat → Nat) (a1 : Nat → Nat) (v0_3 : Int32) (v0_4 : Int32) (v1_0 : Nat → Int32) (u : (Int32 × Int32 × (Nat → Int32))) (A : Nat → Prop) : Array Value → State → Outcome → State → Prop := va_Qv (fun (_ : Unit) => True) (fun _ => q_at dC dI cI A (wd_X0_take cI a0 a1 u.1 u.2.1 v0_3 v0_4 u.2.2 v1_0)) A
set_option maxHeartbeats 4000000 in
set_option maxRecDepth 100000 in
theorem c_X0_take (l : Launch) (dC : Nat → ClassId) (dI : Nat → Nat → Nat) (cI : ClassId) (sz : Nat) (a0 : Nat → Nat) (a1 : Nat → Nat) (v0_1 : Int32) (v0_2 : Int32) (v0_3 : Int32) (v0_4 : Int32) (v0_0 : Nat → Int32) (v1_0 : Nat → Int32) (n : Nat) (u : (Int32 × Int32 × (Nat → Int32))) (hF : F_X0_take n v0_0 v1_0 = some u) : Met l yX0_take wz_X0_take rm_X0_take (va_Pc [.ref (a0 0), .ref (a1 0)] (q_pre dC dI cI (wd_X0_take cI a0 a1 v0_1 v0_2 v0_3 v0_4 v0_0 v1_0) sz)) (Q_X0_take dC dI cI a0 a1 v0_3 v0_4 v1_0 u (va_A (wd_X0_take cI a0 a1 v0_1 v0_2 v0_3 v0_4 v0_0 v1_0) sz)) 0 0 (va_A (wd_X0_take cI a0 a1 v0_1 v0_2 v0_3 v0_4 v0_0 v1_0) sz) := by
  refine Met.ofW (cc := cX0_take) (maxL := 3) (ret := none) (by decide) rfl ?_
  intro p e s m args below meth c s₁ B hml hv
  obtain ⟨rfl, hsz, hP, hK, hD0⟩ := hv
  have hx := B.exec
  have hb := B.bytes
  have hr := B.returns
  have hts := atoms_spec (ws := wz_X0_take) B.pre
  have hta := wz_tl hts
  have hown : s.vm.findClass RX0 = some m.cls := findClass_of_methodNamed B.named
  have hlocks := B.notSynchronized
  subst hsz
  have hD := hD0.self (sz := s.heap.size)
  generalize hAe : va_A (wd_X0_take cI a0 a1 v0_1 v0_2 v0_3 v0_4 v0_0 v1_0) s.heap.size = A at hD ⊢
  have hA : ∀ q : Nat, s.heap.size ≤ q → A q := fun q h => by rw [← hAe]; exact Or.inr h
  have hS : va_S A s.heap s.heap [] := va_S.rf
  have hP : va_P (dC, dI) vwCl (wd_X0_take cI a0 a1 v0_1 v0_2 v0_3 v0_4 v0_0 v1_0) s.heap := hP
  have hl := lv_entry ([.ref (a0 0), .ref (a1 0)]) (n := 3) (Nat.le_of_ble_eq_true rfl)
  rw [lg_entry_eq]
  generalize (lg_sl ([.ref (a0 0), .ref (a1 0)]) ++ List.replicate (3 - (lg_sl ([.ref (a0 0), .ref (a1 0)])).length) Slot.unset).toArray = ls at hl ⊢
  have hl : lv_has ls 3 [(0, .ref (a0 0)), (1, .ref (a1 0))] := hl
  obtain ⟨H, hHe⟩ : ∃ H, H = s.heap := ⟨_, rfl⟩
  have hS : va_S A s.heap H [] := by rw [hHe]; exact hS
  have hP : va_P (dC, dI) vwCl (wd_X0_take cI a0 a1 v0_1 v0_2 v0_3 v0_4 v0_0 v1_0) H := by rw [hHe]; exact hP
  rw [← hHe]
  unfold F_X0_take at hF
  have j48 : ∀ (v0_1 : Int32) (v0_2 : Int32) (v0_0 : Nat → Int32), F_X0_take_j48 v0_1 v0_0 v1_0 = some u → ∀ (H : Heap) (locs : List Loc) (ls : Array Slot), va_P (dC, dI) vwCl (wd_X0_take cI a0 a1 v0_1 v0_2 v0_3 v0_4 v0_0 v1_0) H → va_D A (wd_X0_take cI a0 a1 v0_1 v0_2 v0_3 v0_4 v0_0 v1_0) → va_S A s.heap H locs → lv_has ls 3 [(0, .ref (a0 0)), (1, .ref (a1 0))] → W p l e (headSpec wz_X0_take rm_X0_take).room s m [.ref (a0 0), .ref (a1 0)].toArray below meth c H locs 0 0 (MQ below (Q_X0_take dC dI cI a0 a1 v0_3 v0_4 v1_0 u A) [.ref (a0 0), .ref (a1 0)].toArray s 0 0 A) (F0 m 48 ls []) := by
    intro v0_1 v0_2 v0_0 hF H locs ls hP hD hS hl
    unfold F_X0_take_j48 at hF
    refine lv_aload_n hx hb dX0_take_48 rfl (lv_at hl 0 rfl) ?_
    refine lv_bipush (v := 64) hx hb dX0_take_49 (by decide) ?_
    refine lv_aload_n hx hb dX0_take_51 rfl (lv_at hl 1 rfl) ?_
    refine lv_iconst (v := 4) hx hb dX0_take_52 (by decide) ?_
    obtain ⟨u_1, hu_1, hF⟩ := obd_some hF
    have hPc := hP.sub (ws' := (wd_X1_cell cI a1 v1_0)) [2, 3] rfl
    have hDc := hD.sub (ws' := (wd_X1_cell cI a1 v1_0)) [2, 3] rfl rfl
    refine q_calli (wc := (wd_X1_cell cI a1 v1_0)) (w1 := (wd_X1_cell cI a1 v1_0)) (ws' := (wd_X0_take cI a0 a1 v0_1 v0_2 v0_3 v0_4 v0_0 v1_0)) hP hD hS hA [2, 3] [0, 1] [0, 1, 2, 3] rfl rfl rfl (by decide) rfl rfl (va_runV (As := [.int 4]) (rest := [.int 64, .ref (a0 0)]) ⟨hx, hb, hml, hown, hta⟩ (c_X1_cell l dC dI cI H.size a1 v1_0 4 u_1 hu_1) (cwV 1 hta (ga_V mA367 mA117 mA118 mA6 mA119) rfl rfl rfl (by decide +kernel) ⟨Nat.le_of_ble_eq_true rfl, Nat.le_of_ble_eq_true rfl⟩) ⟨q_fb, va_recv hK hP (ci := 1) (q0 := 2) rfl rfl, q_ps hPc hK hDc⟩ rfl rfl hl.1 rfl (lv_room (Nat.le_of_ble_eq_true rfl)) dX0_take_53 ⟨Nat.zero_le _, Nat.zero_le _⟩) (fun H locs hP hD hS => ?_)
    refine lv_imul hx hb dX0_take_56 ?_
    obtain ⟨y_2, ey_2, hF⟩ := lt_some hF
    refine lv_eqi ey_2 ?_
    refine va_put (D := (dC, dI)) (ci := 0) (v := .int y_2) (ty := .int) (C := RX0) (T := TX0) (N := 5) hx hb hta uw_X0 tyX0 tyX0_ok nmX0 hown hK hP hD hS 0 rfl rfl 2 (by decide) (hta _ mA366) (fun _ h9 => h9) rfl (by decide +kernel) rfl rfl (Nat.le_of_ble_eq_true rfl) dX0_take_57 (fun H locs hP hD hS => ?_)
    have hP : va_P (dC, dI) vwCl (wd_X0_take cI a0 a1 v0_1 y_2 v0_3 v0_4 v0_0 v1_0) H := hP
    have hD : va_D A (wd_X0_take cI a0 a1 v0_1 y_2 v0_3 v0_4 v0_0 v1_0) := hD
    obtain rfl := Option.some.inj hF
    exact W.vret hx hb hr (fun t ht hW => ⟨⟨(), rfl, trivial, by rw [ht]; exact hP, va_K.moved hW.alike hK, hD⟩, hS.F ht⟩) hS.2.2 dX0_take_60
  have j17 : ∀ (v0_1 : Int32) (v0_2 : Int32) (v0_0 : Nat → Int32) (x2 : Int32), F_X0_take_j17 n v0_1 v0_0 v1_0 x2 = some u → ∀ (H : Heap) (locs : List Loc) (ls : Array Slot), va_P (dC, dI) vwCl (wd_X0_take cI a0 a1 v0_1 v0_2 v0_3 v0_4 v0_0 v1_0) H → va_D A (wd_X0_take cI a0 a1 v0_1 v0_2 v0_3 v0_4 v0_0 v1_0) → va_S A s.heap H locs → lv_has ls 3 [(0, .ref (a0 0)), (1, .ref (a1 0)), (2, .int x2)] → W p l e (headSpec wz_X0_take rm_X0_take).room s m [.ref (a0 0), .ref (a1 0)].toArray below meth c H locs 0 0 (MQ below (Q_X0_take dC dI cI a0 a1 v0_3 v0_4 v1_0 u A) [.ref (a0 0), .ref (a1 0)].toArray s 0 0 A) (F0 m 17 ls []) := by
    intro v0_1 v0_2 v0_0 x2 hF H locs ls hP hD hS hl
    unfold F_X0_take_j17 at hF
    obtain ⟨x_17, hL_17, hE_17⟩ := obd_some hF
    have kl_17 : ∀ (k : Nat) (s17 : Int32 × (Nat → Int32)), lpq (F_X0_take_b17 v0_1 v1_0) k s17 = some x_17 → ∀ (H : Heap) (locs : List Loc) (ls : Array Slot), va_P (dC, dI) vwCl (wd_X0_take cI a0 a1 v0_1 v0_2 v0_3 v0_4 s17.2 v1_0) H → va_D A (wd_X0_take cI a0 a1 v0_1 v0_2 v0_3 v0_4 s17.2 v1_0) → va_S A s.heap H locs → lv_has ls 3 [(0, .ref (a0 0)), (1, .ref (a1 0)), (2, .int s17.1)] → W p l e (headSpec wz_X0_take rm_X0_take).room s m [.ref (a0 0), .ref (a1 0)].toArray below meth c H locs 0 0 (MQ below (Q_X0_take dC dI cI a0 a1 v0_3 v0_4 v1_0 u A) [.ref (a0 0), .ref (a1 0)].toArray s 0 0 A) (F0 m 17 ls []) := by
      intro k
      induction k with
      | zero => intro s17 h; exact absurd h lpq_zero
      | succ k ih_17 =>
        intro s17 h H locs ls hP hD hS hl
        obtain ⟨o_17, hF, hO_17⟩ := lpq_succ h
        unfold F_X0_take_b17 at hF
        refine lv_iload_n hx hb dX0_take_17 rfl (lv_at hl 2 rfl) ?_
        refine lv_aload_n hx hb dX0_take_18 rfl (lv_at hl 0 rfl) ?_
        refine va_get (D := (dC, dI)) (ci := 0) (v := .int v0_1) (C := RX0) (T := TX0) (N := 5) hx hb hta uw_X0 hown hK hP 0 rfl rfl 1 (by decide) (hta _ mA365) (fun _ h9 => h9) rfl dX0_take_19 ?_
        refine lv_icmp_ge (tgt := 48) hx hb dX0_take_22 (by decide) (fun c_3 => ?_) (fun c_3 => ?_)
        · have hF := it_t hF c_3
          obtain rfl := Option.some.inj hF
          obtain rfl := lpq_x hO_17
          have hF := hE_17
          exact j48 v0_1 v0_2 s17.2 hF _ _ _ hP hD hS (lv_sub hl [0, 1] rfl)
        · have hF := it_f hF c_3
          refine lv_aload_n hx hb dX0_take_25 rfl (lv_at hl 0 rfl) ?_
          refine va_get (D := (dC, dI)) (ci := 0) (v := .ref (a0 1)) (C := RX0) (T := TX0) (N := 5) hx hb hta uw_X0 hown hK hP 0 rfl rfl 0 (by decide) (hta _ mA94) (fun _ h9 => h9) rfl dX0_take_26 ?_
          refine lv_iload_n hx hb dX0_take_29 rfl (lv_at hl 2 rfl) ?_
          refine lv_bipush (v := 64) hx hb dX0_take_30 (by decide) ?_
          refine lv_aload_n hx hb dX0_take_32 rfl (lv_at hl 1 rfl) ?_
          refine lv_bipush (v := 7) hx hb dX0_take_33 (by decide) ?_
          refine lv_iload_n hx hb dX0_take_35 rfl (lv_at hl 2 rfl) ?_
          refine lv_iadd hx hb dX0_take_36 ?_
          obtain ⟨u_4, hu_4, hF⟩ := obd_some hF
          have hPc := hP.sub (ws' := (wd_X1_cell cI a1 v1_0)) [2, 3] rfl
          have hDc := hD.sub (ws' := (wd_X1_cell cI a1 v1_0)) [2, 3] rfl rfl
          refine q_calli (wc := (wd_X1_cell cI a1 v1_0)) (w1 := (wd_X1_cell cI a1 v1_0)) (ws' := (wd_X0_take cI a0 a1 v0_1 v0_2 v0_3 v0_4 s17.2 v1_0)) hP hD hS hA [2, 3] [0, 1] [0, 1, 2, 3] rfl rfl rfl (by decide) rfl rfl (va_runV (As := [.int (7 + s17.1)]) (rest := [.int 64, .int s17.1, .ref (a0 1)]) ⟨hx, hb, hml, hown, hta⟩ (c_X1_cell l dC dI cI H.size a1 v1_0 (7 + s17.1) u_4 hu_4) (cwV 1 hta (ga_V mA367 mA117 mA118 mA6 mA119) rfl rfl rfl (by decide +kernel) ⟨Nat.le_of_ble_eq_true rfl, Nat.le_of_ble_eq_true rfl⟩) ⟨q_fb, va_recv hK hP (ci := 1) (q0 := 2) rfl rfl, q_ps hPc hK hDc⟩ rfl rfl hl.1 rfl (lv_room (Nat.le_of_ble_eq_true rfl)) dX0_take_37 ⟨Nat.zero_le _, Nat.zero_le _⟩) (fun H locs hP hD hS => ?_)
          refine lv_imul hx hb dX0_take_40 ?_
          obtain ⟨y_5, ey_5, hF⟩ := lt_some hF
          refine lv_eqi ey_5 ?_
          obtain ⟨g_6, hF⟩ := gd_some hF
          refine va_iast hx hb hK hP hD hS 1 0 rfl rfl (vpi_in g_6) dX0_take_41 (fun H locs hP hD hS => ?_)
          obtain ⟨y_7, ey_7, hF⟩ := lt_some hF
          have hP : va_P (dC, dI) vwCl (wd_X0_take cI a0 a1 v0_1 v0_2 v0_3 v0_4 y_7 v1_0) H := by rw [ey_7]; exact hP
          have hD : va_D A (wd_X0_take cI a0 a1 v0_1 v0_2 v0_3 v0_4 y_7 v1_0) := by rw [ey_7]; exact hD
          obtain ⟨y_8, ey_8, hF⟩ := lt_some hF
          refine lv_iinc (v := y_8) (lv' := [(2, .int y_8), (0, .ref (a0 0)), (1, .ref (a1 0))]) hx hb dX0_take_42 hl (k := 2) rfl (by rw [ey_8]; rfl) (by decide) rfl (fun ls hl => ?_)
          refine lv_goto (tgt := 17) hx hb dX0_take_45 (by decide) ?_
          obtain rfl := Option.some.inj hF
          exact ih_17 _ hO_17 _ _ _ hP hD hS (lv_sub hl [1, 2, 0] rfl)
    exact kl_17 n _ hL_17 _ _ _ hP hD hS hl
  refine lv_aload_n hx hb dX0_take_0 rfl (lv_at hl 0 rfl) ?_
  refine lv_aload_n hx hb dX0_take_1 rfl (lv_at hl 1 rfl) ?_
  refine lv_bipush (v := 6) hx hb dX0_take_2 (by decide) ?_
  obtain ⟨u_9, hu_9, hF⟩ := obd_some hF
  have hPc := hP.sub (ws' := (wd_X1_cell cI a1 v1_0)) [2, 3] rfl
  have hDc := hD.sub (ws' := (wd_X1_cell cI a1 v1_0)) [2, 3] rfl rfl
  refine q_calli (wc := (wd_X1_cell cI a1 v1_0)) (w1 := (wd_X1_cell cI a1 v1_0)) (ws' := (wd_X0_take cI a0 a1 v0_1 v0_2 v0_3 v0_4 v0_0 v1_0)) hP hD hS hA [2, 3] [0, 1] [0, 1, 2, 3] rfl rfl rfl (by decide) rfl rfl (va_runV (As := [.int 6]) (rest := [.ref (a0 0)]) ⟨hx, hb, hml, hown, hta⟩ (c_X1_cell l dC dI cI H.size a1 v1_0 6 u_9 hu_9) (cwV 1 hta (ga_V mA367 mA117 mA118 mA6 mA119) rfl rfl rfl (by decide +kernel) ⟨Nat.le_of_ble_eq_true rfl, Nat.le_of_ble_eq_true rfl⟩) ⟨q_fb, va_recv hK hP (ci := 1) (q0 := 2) rfl rfl, q_ps hPc hK hDc⟩ rfl rfl hl.1 rfl (lv_room (Nat.le_of_ble_eq_true rfl)) dX0_take_4 ⟨Nat.zero_le _, Nat.zero_le _⟩) (fun H locs hP hD hS => ?_)
  refine lv_bipush (v := 6) hx hb dX0_take_7 (by decide) ?_
  refine va_mmin hx hb (hml.trans hl.1.symm) hown (hta _ mA364) (hta _ mA279) (hta _ mA280) (hta _ mA281) (Nat.le_of_ble_eq_true rfl) (Nat.le_of_ble_eq_true rfl) (Nat.zero_le _) (Nat.zero_le _) dX0_take_9 ?_
  obtain ⟨y_10, ey_10, hF⟩ := lt_some hF
  refine lv_eqi ey_10 ?_
  refine va_put (D := (dC, dI)) (ci := 0) (v := .int y_10) (ty := .int) (C := RX0) (T := TX0) (N := 5) hx hb hta uw_X0 tyX0 tyX0_ok nmX0 hown hK hP hD hS 0 rfl rfl 1 (by decide) (hta _ mA365) (fun _ h9 => h9) rfl (by decide +kernel) rfl rfl (Nat.le_of_ble_eq_true rfl) dX0_take_12 (fun H locs hP hD hS => ?_)
  have hP : va_P (dC, dI) vwCl (wd_X0_take cI a0 a1 y_10 v0_2 v0_3 v0_4 v0_0 v1_0) H := hP
  have hD : va_D A (wd_X0_take cI a0 a1 y_10 v0_2 v0_3 v0_4 v0_0 v1_0) := hD
  refine lv_iconst (v := 0) hx hb dX0_take_15 (by decide) ?_
  refine lv_istore_n (lv' := [(2, .int 0), (0, .ref (a0 0)), (1, .ref (a1 0))]) hx hb dX0_take_16 rfl hl (by decide) rfl (fun ls hl => ?_)
  exact j17 y_10 v0_2 v0_0 0 hF _ _ _ hP hD hS (lv_sub hl [1, 2, 0] rfl)

-- StrokeOutliner$DashCursor.lengthOf(I)I
def F_X0_lengthOf_j25  : Option (Int32) :=
  some 1073741824
def F_X0_lengthOf (v0_1 : Int32) (v0_0 : Nat → Int32) (p1 : Int32) : Option (Int32) :=
  if v0_1 ≤ 0 then F_X0_lengthOf_j25 else if p1 < 0 then F_X0_lengthOf_j25 else gd (decide (¬ (v0_1 : Int32) = 0)) (lt (p1 - p1 / v0_1 * v0_1) (fun y_4 => gd (decide (vpi y_4 6)) (some (v0_0 y_4.toNatClampNeg))))
abbrev wd_X0_lengthOf (cI : ClassId) (a0 : Nat → Nat) (v0_1 : Int32) (v0_2 : Int32) (v0_3 : Int32) (v0_4 : Int32) (v0_0 : Nat → Int32) : va_W := [(a0 0, .inr (0, [.ref (a0 1), .int v0_1, .int v0_2, .int v0_3, .int v0_4])), (a0 1, .inl (cI, 6, .inl v0_0))]
abbrev wz_X0_lengthOf : List Cond := .code yX0_lengthOf cX0_lengthOf 2 (some .int) :: wALL
abbrev rm_X0_lengthOf : Room := { frames := 0, cells := 0, slots := 0, locals := 0 }
abbrev Q_X0_lengthOf (dC : Nat → ClassId) (dI : Nat → Nat → Nat) (cI : ClassId) (a0 : Nat → Nat) (v0_1 : Int32) (v0_2 : Int32) (v0_3 : Int32) (v0_4 : Int32) (v0_0 : Nat → Int32) (u : (Int32)) (A : Nat → Prop) : Array Value → State → Outcome → State → Prop := va_Qi (fun (r : Int32) (_ : Unit) => r = u) (fun _ => q_at dC dI cI A (wd_X0_lengthOf cI a0 v0_1 v0_2 v0_3 v0_4 v0_0)) A
set_option maxHeartbeats 4000000 in
set_option maxRecDepth 100000 in
theorem c_X0_lengthOf (l : Launch) (dC : Nat → ClassId) (dI : Nat → Nat → Nat) (cI : ClassId) (sz : Nat) (a0 : Nat → Nat) (v0_1 : Int32) (v0_2 : Int32) (v0_3 : Int32) (v0_4 : Int32) (v0_0 : Nat → Int32) (p1 : Int32) (u : (Int32)) (hF : F_X0_lengthOf v0_1 v0_0 p1 = some u) : Met l yX0_lengthOf wz_X0_lengthOf rm_X0_lengthOf (va_Pc [.ref (a0 0), .int p1] (q_pre dC dI cI (wd_X0_lengthOf cI a0 v0_1 v0_2 v0_3 v0_4 v0_0) sz)) (Q_X0_lengthOf dC dI cI a0 v0_1 v0_2 v0_3 v0_4 v0_0 u (va_A (wd_X0_lengthOf cI a0 v0_1 v0_2 v0_3 v0_4 v0_0) sz)) 0 0 (va_A (wd_X0_lengthOf cI a0 v0_1 v0_2 v0_3 v0_4 v0_0) sz) := by
  refine Met.ofW (cc := cX0_lengthOf) (maxL := 2) (ret := (some .int)) (by decide) rfl ?_
  intro p e s m args below meth c s₁ B hml hv
  obtain ⟨rfl, hsz, hP, hK, hD0⟩ := hv
  have hx := B.exec
  have hb := B.bytes
  have hr := B.returns
  have hts := atoms_spec (ws := wz_X0_lengthOf) B.pre
  have hta := wz_tl hts
  have hown : s.vm.findClass RX0 = some m.cls := findClass_of_methodNamed B.named
  have hlocks := B.notSynchronized
  subst hsz
  have hD := hD0.self (sz := s.heap.size)
  generalize hAe : va_A (wd_X0_lengthOf cI a0 v0_1 v0_2 v0_3 v0_4 v0_0) s.heap.size = A at hD ⊢
  have hA : ∀ q : Nat, s.heap.size ≤ q → A q := fun q h => by rw [← hAe]; exact Or.inr h
  have hS : va_S A s.heap s.heap [] := va_S.rf
  have hP : va_P (dC, dI) vwCl (wd_X0_lengthOf cI a0 v0_1 v0_2 v0_3 v0_4 v0_0) s.heap := hP
  have hl := lv_entry ([.ref (a0 0), .int p1]) (n := 2) (Nat.le_of_ble_eq_true rfl)
  rw [lg_entry_eq]
  generalize (lg_sl ([.ref (a0 0), .int p1]) ++ List.replicate (2 - (lg_sl ([.ref (a0 0), .int p1])).length) Slot.unset).toArray = ls at hl ⊢
  have hl : lv_has ls 2 [(0, .ref (a0 0)), (1, .int p1)] := hl
  obtain ⟨H, hHe⟩ : ∃ H, H = s.heap := ⟨_, rfl⟩
  have hS : va_S A s.heap H [] := by rw [hHe]; exact hS
  have hP : va_P (dC, dI) vwCl (wd_X0_lengthOf cI a0 v0_1 v0_2 v0_3 v0_4 v0_0) H := by rw [hHe]; exact hP
  rw [← hHe]
  unfold F_X0_lengthOf at hF
  have j25 : ∀ (_ : Unit), F_X0_lengthOf_j25 = some u → ∀ (H : Heap) (locs : List Loc) (ls : Array Slot), va_P (dC, dI) vwCl (wd_X0_lengthOf cI a0 v0_1 v0_2 v0_3 v0_4 v0_0) H → va_D A (wd_X0_lengthOf cI a0 v0_1 v0_2 v0_3 v0_4 v0_0) → va_S A s.heap H locs → lv_has ls 2 [] → W p l e (headSpec wz_X0_lengthOf rm_X0_lengthOf).room s m [.ref (a0 0), .int p1].toArray below meth c H locs 0 0 (MQ below (Q_X0_lengthOf dC dI cI a0 v0_1 v0_2 v0_3 v0_4 v0_0 u A) [.ref (a0 0), .int p1].toArray s 0 0 A) (F0 m 25 ls []) := by
    intro _ hF H locs ls hP hD hS hl
    unfold F_X0_lengthOf_j25 at hF
    refine lv_ldc (v := 1073741824) hx hb hown (hta _ mA379) dX0_lengthOf_25 ?_
    obtain rfl := Option.some.inj hF
    exact W.iret (v := 1073741824) hx hb hr (fun t ht hW => ⟨⟨1073741824, (), rfl, rfl, by rw [ht]; exact hP, va_K.moved hW.alike hK, hD⟩, hS.F ht⟩) hS.2.2 dX0_lengthOf_27
  refine lv_aload_n hx hb dX0_lengthOf_0 rfl (lv_at hl 0 rfl) ?_
  refine va_get (D := (dC, dI)) (ci := 0) (v := .int v0_1) (C := RX0) (T := TX0) (N := 5) hx hb hta uw_X0 hown hK hP 0 rfl rfl 1 (by decide) (hta _ mA365) (fun _ h9 => h9) rfl dX0_lengthOf_1 ?_
  refine lv_if_le (tgt := 25) hx hb dX0_lengthOf_4 (by decide) (fun c_1 => ?_) (fun c_1 => ?_)
  · have hF := it_t hF c_1
    exact j25 () hF _ _ _ hP hD hS (lv_sub hl [] rfl)
  · have hF := it_f hF c_1
    refine lv_iload_n hx hb dX0_lengthOf_7 rfl (lv_at hl 1 rfl) ?_
    refine lv_if_lt (tgt := 25) hx hb dX0_lengthOf_8 (by decide) (fun c_2 => ?_) (fun c_2 => ?_)
    · have hF := it_t hF c_2
      exact j25 () hF _ _ _ hP hD hS (lv_sub hl [] rfl)
    · have hF := it_f hF c_2
      refine lv_aload_n hx hb dX0_lengthOf_11 rfl (lv_at hl 0 rfl) ?_
      refine va_get (D := (dC, dI)) (ci := 0) (v := .ref (a0 1)) (C := RX0) (T := TX0) (N := 5) hx hb hta uw_X0 hown hK hP 0 rfl rfl 0 (by decide) (hta _ mA94) (fun _ h9 => h9) rfl dX0_lengthOf_12 ?_
      refine lv_iload_n hx hb dX0_lengthOf_15 rfl (lv_at hl 1 rfl) ?_
      refine lv_aload_n hx hb dX0_lengthOf_16 rfl (lv_at hl 0 rfl) ?_
      refine va_get (D := (dC, dI)) (ci := 0) (v := .int v0_1) (C := RX0) (T := TX0) (N := 5) hx hb hta uw_X0 hown hK hP 0 rfl rfl 1 (by decide) (hta _ mA365) (fun _ h9 => h9) rfl dX0_lengthOf_17 ?_
      obtain ⟨g_3, hF⟩ := gd_some hF
      refine lv_irem hx hb dX0_lengthOf_20 g_3 ?_
      obtain ⟨y_4, ey_4, hF⟩ := lt_some hF
      refine lv_eqi ey_4 ?_
      obtain ⟨g_5, hF⟩ := gd_some hF
      refine va_iald hx hb hK hP 1 0 rfl rfl (vpi_in g_5) dX0_lengthOf_21 ?_
      refine lv_goto (tgt := 27) hx hb dX0_lengthOf_22 (by decide) ?_
      obtain rfl := Option.some.inj hF
      exact W.iret (v := (v0_0 y_4.toNatClampNeg)) hx hb hr (fun t ht hW => ⟨⟨(v0_0 y_4.toNatClampNeg), (), rfl, rfl, by rw [ht]; exact hP, va_K.moved hW.alike hK, hD⟩, hS.F ht⟩) hS.2.2 dX0_lengthOf_27

-- StrokeOutliner$DashCursor.goToPhase()V
def F_X0_goToPhase_j70 (v0_3 : Int32) (v0_4 : Int32) (x1 : Int32) : Option (Int32 × Int32) :=
  lt (v0_4 - x1) (fun y_1 => some (v0_3, y_1))
def F_X0_goToPhase_b21 (v0_1 : Int32) (v0_0 : Nat → Int32) (s21 : Int32 × Int32 × Int32 × Int32) : Option (Sum (Int32 × Int32 × Int32 × Int32) (Int32 × Int32 × Int32)) :=
  if 120 ≤ s21.2.1 then some (.inr (s21.1, s21.2.2.1, s21.2.2.2)) else if s21.1 < s21.2.2.2 then some (.inr (s21.1, s21.2.2.1, s21.2.2.2)) else lt (s21.1 - s21.2.2.2) (fun y_4 => lt (s21.2.2.1 + 1) (fun y_5 => obd (F_X0_lengthOf v0_1 v0_0 y_5) (fun u_6 => lt (s21.2.1 + 1) (fun y_7 => some (.inl (y_4, y_7, y_5, u_6))))))
def F_X0_goToPhase_j21 (n : Nat) (v0_1 : Int32) (v0_3 : Int32) (v0_4 : Int32) (v0_0 : Nat → Int32) (x1 : Int32) (x2 : Int32) : Option (Int32 × Int32) :=
  obd (lpq (F_X0_goToPhase_b21 v0_1 v0_0) n (x1, x2, v0_3, v0_4)) (fun x_21 => F_X0_goToPhase_j70 x_21.2.1 x_21.2.2 x_21.1)
def F_X0_goToPhase (n : Nat) (v0_1 : Int32) (v0_2 : Int32) (v0_0 : Nat → Int32) : Option (Int32 × Int32) :=
  obd (F_X0_lengthOf v0_1 v0_0 0) (fun u_8 => F_X0_goToPhase_j21 n v0_1 0 u_8 v0_0 v0_2 0)
abbrev wd_X0_goToPhase (cI : ClassId) (a0 : Nat → Nat) (v0_1 : Int32) (v0_2 : Int32) (v0_3 : Int32) (v0_4 : Int32) (v0_0 : Nat → Int32) : va_W := [(a0 0, .inr (0, [.ref (a0 1), .int v0_1, .int v0_2, .int v0_3, .int v0_4])), (a0 1, .inl (cI, 6, .inl v0_0))]
abbrev wz_X0_goToPhase : List Cond := .code yX0_goToPhase cX0_goToPhase 3 none :: wALL
abbrev rm_X0_goToPhase : Room := { frames := 1, cells := 0, slots := 0, locals := 21 }
abbrev Q_X0_goToPhase (dC : Nat → ClassId) (dI : Nat → Nat → Nat) (cI : ClassId) (a0 : Nat → Nat) (v0_1 : Int32) (v0_2 : Int32) (v0_0 : Nat → Int32) (u : (Int32 × Int32)) (A : Nat → Prop) : Array Value → State → Outcome → State → Prop := va_Qv (fun (_ : Unit) => True) (fun _ => q_at dC dI cI A (wd_X0_goToPhase cI a0 v0_1 v0_2 u.1 u.2 v0_0)) A
set_option maxHeartbeats 4000000 in
set_option maxRecDepth 100000 in
theorem c_X0_goToPhase (l : Launch) (dC : Nat → ClassId) (dI : Nat → Nat → Nat) (cI : ClassId) (sz : Nat) (a0 : Nat → Nat) (v0_1 : Int32) (v0_2 : Int32) (v0_3 : Int32) (v0_4 : Int32) (v0_0 : Nat → Int32) (n : Nat) (u : (Int32 × Int32)) (hF : F_X0_goToPhase n v0_1 v0_2 v0_0 = some u) : Met l yX0_goToPhase wz_X0_goToPhase rm_X0_goToPhase (va_Pc [.ref (a0 0)] (q_pre dC dI cI (wd_X0_goToPhase cI a0 v0_1 v0_2 v0_3 v0_4 v0_0) sz)) (Q_X0_goToPhase dC dI cI a0 v0_1 v0_2 v0_0 u (va_A (wd_X0_goToPhase cI a0 v0_1 v0_2 v0_3 v0_4 v0_0) sz)) 0 0 (va_A (wd_X0_goToPhase cI a0 v0_1 v0_2 v0_3 v0_4 v0_0) sz) := by
  refine Met.ofW (cc := cX0_goToPhase) (maxL := 3) (ret := none) (by decide) rfl ?_
  intro p e s m args below meth c s₁ B hml hv
  obtain ⟨rfl, hsz, hP, hK, hD0⟩ := hv
  have hx := B.exec
  have hb := B.bytes
  have hr := B.returns
  have hts := atoms_spec (ws := wz_X0_goToPhase) B.pre
  have hta := wz_tl hts
  have hown : s.vm.findClass RX0 = some m.cls := findClass_of_methodNamed B.named
  have hlocks := B.notSynchronized
  subst hsz
  have hD := hD0.self (sz := s.heap.size)
  generalize hAe : va_A (wd_X0_goToPhase cI a0 v0_1 v0_2 v0_3 v0_4 v0_0) s.heap.size = A at hD ⊢
  have hA : ∀ q : Nat, s.heap.size ≤ q → A q := fun q h => by rw [← hAe]; exact Or.inr h
  have hS : va_S A s.heap s.heap [] := va_S.rf
  have hP : va_P (dC, dI) vwCl (wd_X0_goToPhase cI a0 v0_1 v0_2 v0_3 v0_4 v0_0) s.heap := hP
  have hl := lv_entry ([.ref (a0 0)]) (n := 3) (Nat.le_of_ble_eq_true rfl)
  rw [lg_entry_eq]
  generalize (lg_sl ([.ref (a0 0)]) ++ List.replicate (3 - (lg_sl ([.ref (a0 0)])).length) Slot.unset).toArray = ls at hl ⊢
  have hl : lv_has ls 3 [(0, .ref (a0 0))] := hl
  obtain ⟨H, hHe⟩ : ∃ H, H = s.heap := ⟨_, rfl⟩
  have hS : va_S A s.heap H [] := by rw [hHe]; exact hS
  have hP : va_P (dC, dI) vwCl (wd_X0_goToPhase cI a0 v0_1 v0_2 v0_3 v0_4 v0_0) H := by rw [hHe]; exact hP
  rw [← hHe]
  unfold F_X0_goToPhase at hF
  have j70 : ∀ (v0_3 : Int32) (v0_4 : Int32) (x1 : Int32), F_X0_goToPhase_j70 v0_3 v0_4 x1 = some u → ∀ (H : Heap) (locs : List Loc) (ls : Array Slot), va_P (dC, dI) vwCl (wd_X0_goToPhase cI a0 v0_1 v0_2 v0_3 v0_4 v0_0) H → va_D A (wd_X0_goToPhase cI a0 v0_1 v0_2 v0_3 v0_4 v0_0) → va_S A s.heap H locs → lv_has ls 3 [(0, .ref (a0 0)), (1, .int x1)] → W p l e (headSpec wz_X0_goToPhase rm_X0_goToPhase).room s m [.ref (a0 0)].toArray below meth c H locs 0 0 (MQ below (Q_X0_goToPhase dC dI cI a0 v0_1 v0_2 v0_0 u A) [.ref (a0 0)].toArray s 0 0 A) (F0 m 70 ls []) := by
    intro v0_3 v0_4 x1 hF H locs ls hP hD hS hl
    unfold F_X0_goToPhase_j70 at hF
    refine lv_aload_n hx hb dX0_goToPhase_70 rfl (lv_at hl 0 rfl) ?_
    refine lv_dup hx hb dX0_goToPhase_71 rfl ?_
    refine va_get (D := (dC, dI)) (ci := 0) (v := .int v0_4) (C := RX0) (T := TX0) (N := 5) hx hb hta uw_X0 hown hK hP 0 rfl rfl 4 (by decide) (hta _ mA374) (fun _ h9 => h9) rfl dX0_goToPhase_72 ?_
    refine lv_iload_n hx hb dX0_goToPhase_75 rfl (lv_at hl 1 rfl) ?_
    refine lv_isub hx hb dX0_goToPhase_76 ?_
    obtain ⟨y_1, ey_1, hF⟩ := lt_some hF
    refine lv_eqi ey_1 ?_
    refine va_put (D := (dC, dI)) (ci := 0) (v := .int y_1) (ty := .int) (C := RX0) (T := TX0) (N := 5) hx hb hta uw_X0 tyX0 tyX0_ok nmX0 hown hK hP hD hS 0 rfl rfl 4 (by decide) (hta _ mA374) (fun _ h9 => h9) rfl (by decide +kernel) rfl rfl (Nat.le_of_ble_eq_true rfl) dX0_goToPhase_77 (fun H locs hP hD hS => ?_)
    have hP : va_P (dC, dI) vwCl (wd_X0_goToPhase cI a0 v0_1 v0_2 v0_3 y_1 v0_0) H := hP
    have hD : va_D A (wd_X0_goToPhase cI a0 v0_1 v0_2 v0_3 y_1 v0_0) := hD
    obtain rfl := Option.some.inj hF
    exact W.vret hx hb hr (fun t ht hW => ⟨⟨(), rfl, trivial, by rw [ht]; exact hP, va_K.moved hW.alike hK, hD⟩, hS.F ht⟩) hS.2.2 dX0_goToPhase_80
  have j21 : ∀ (v0_3 : Int32) (v0_4 : Int32) (x1 : Int32) (x2 : Int32), F_X0_goToPhase_j21 n v0_1 v0_3 v0_4 v0_0 x1 x2 = some u → ∀ (H : Heap) (locs : List Loc) (ls : Array Slot), va_P (dC, dI) vwCl (wd_X0_goToPhase cI a0 v0_1 v0_2 v0_3 v0_4 v0_0) H → va_D A (wd_X0_goToPhase cI a0 v0_1 v0_2 v0_3 v0_4 v0_0) → va_S A s.heap H locs → lv_has ls 3 [(0, .ref (a0 0)), (1, .int x1), (2, .int x2)] → W p l e (headSpec wz_X0_goToPhase rm_X0_goToPhase).room s m [.ref (a0 0)].toArray below meth c H locs 0 0 (MQ below (Q_X0_goToPhase dC dI cI a0 v0_1 v0_2 v0_0 u A) [.ref (a0 0)].toArray s 0 0 A) (F0 m 21 ls []) := by
    intro v0_3 v0_4 x1 x2 hF H locs ls hP hD hS hl
    unfold F_X0_goToPhase_j21 at hF
    obtain ⟨x_21, hL_21, hE_21⟩ := obd_some hF
    have kl_21 : ∀ (k : Nat) (s21 : Int32 × Int32 × Int32 × Int32), lpq (F_X0_goToPhase_b21 v0_1 v0_0) k s21 = some x_21 → ∀ (H : Heap) (locs : List Loc) (ls : Array Slot), va_P (dC, dI) vwCl (wd_X0_goToPhase cI a0 v0_1 v0_2 s21.2.2.1 s21.2.2.2 v0_0) H → va_D A (wd_X0_goToPhase cI a0 v0_1 v0_2 s21.2.2.1 s21.2.2.2 v0_0) → va_S A s.heap H locs → lv_has ls 3 [(0, .ref (a0 0)), (1, .int s21.1), (2, .int s21.2.1)] → W p l e (headSpec wz_X0_goToPhase rm_X0_goToPhase).room s m [.ref (a0 0)].toArray below meth c H locs 0 0 (MQ below (Q_X0_goToPhase dC dI cI a0 v0_1 v0_2 v0_0 u A) [.ref (a0 0)].toArray s 0 0 A) (F0 m 21 ls []) := by
      intro k
      induction k with
      | zero => intro s21 h; exact absurd h lpq_zero
      | succ k ih_21 =>
        intro s21 h H locs ls hP hD hS hl
        obtain ⟨o_21, hF, hO_21⟩ := lpq_succ h
        unfold F_X0_goToPhase_b21 at hF
        refine lv_iload_n hx hb dX0_goToPhase_21 rfl (lv_at hl 2 rfl) ?_
        refine lv_bipush (v := 120) hx hb dX0_goToPhase_22 (by decide) ?_
        refine lv_icmp_ge (tgt := 70) hx hb dX0_goToPhase_24 (by decide) (fun c_2 => ?_) (fun c_2 => ?_)
        · have hF := it_t hF c_2
          obtain rfl := Option.some.inj hF
          obtain rfl := lpq_x hO_21
          have hF := hE_21
          exact j70 s21.2.2.1 s21.2.2.2 s21.1 hF _ _ _ hP hD hS (lv_sub hl [0, 1] rfl)
        · have hF := it_f hF c_2
          refine lv_iload_n hx hb dX0_goToPhase_27 rfl (lv_at hl 1 rfl) ?_
          refine lv_aload_n hx hb dX0_goToPhase_28 rfl (lv_at hl 0 rfl) ?_
          refine va_get (D := (dC, dI)) (ci := 0) (v := .int s21.2.2.2) (C := RX0) (T := TX0) (N := 5) hx hb hta uw_X0 hown hK hP 0 rfl rfl 4 (by decide) (hta _ mA374) (fun _ h9 => h9) rfl dX0_goToPhase_29 ?_
          refine lv_icmp_lt (tgt := 70) hx hb dX0_goToPhase_32 (by decide) (fun c_3 => ?_) (fun c_3 => ?_)
          · have hF := it_t hF c_3
            obtain rfl := Option.some.inj hF
            obtain rfl := lpq_x hO_21
            have hF := hE_21
            exact j70 s21.2.2.1 s21.2.2.2 s21.1 hF _ _ _ hP hD hS (lv_sub hl [0, 1] rfl)
          · have hF := it_f hF c_3
            refine lv_iload_n hx hb dX0_goToPhase_35 rfl (lv_at hl 1 rfl) ?_
            refine lv_aload_n hx hb dX0_goToPhase_36 rfl (lv_at hl 0 rfl) ?_
            refine va_get (D := (dC, dI)) (ci := 0) (v := .int s21.2.2.2) (C := RX0) (T := TX0) (N := 5) hx hb hta uw_X0 hown hK hP 0 rfl rfl 4 (by decide) (hta _ mA374) (fun _ h9 => h9) rfl dX0_goToPhase_37 ?_
            refine lv_isub hx hb dX0_goToPhase_40 ?_
            obtain ⟨y_4, ey_4, hF⟩ := lt_some hF
            refine lv_eqi ey_4 ?_
            refine lv_istore_n (lv' := [(1, .int y_4), (0, .ref (a0 0)), (2, .int s21.2.1)]) hx hb dX0_goToPhase_41 rfl hl (by decide) rfl (fun ls hl => ?_)
            refine lv_aload_n hx hb dX0_goToPhase_42 rfl (lv_at hl 1 rfl) ?_
            refine lv_dup hx hb dX0_goToPhase_43 rfl ?_
            refine va_get (D := (dC, dI)) (ci := 0) (v := .int s21.2.2.1) (C := RX0) (T := TX0) (N := 5) hx hb hta uw_X0 hown hK hP 0 rfl rfl 3 (by decide) (hta _ mA373) (fun _ h9 => h9) rfl dX0_goToPhase_44 ?_
            refine lv_iconst (v := 1) hx hb dX0_goToPhase_47 (by decide) ?_
            refine lv_iadd hx hb dX0_goToPhase_48 ?_
            obtain ⟨y_5, ey_5, hF⟩ := lt_some hF
            refine lv_eqi ey_5 ?_
            refine va_put (D := (dC, dI)) (ci := 0) (v := .int y_5) (ty := .int) (C := RX0) (T := TX0) (N := 5) hx hb hta uw_X0 tyX0 tyX0_ok nmX0 hown hK hP hD hS 0 rfl rfl 3 (by decide) (hta _ mA373) (fun _ h9 => h9) rfl (by decide +kernel) rfl rfl (Nat.le_of_ble_eq_true rfl) dX0_goToPhase_49 (fun H locs hP hD hS => ?_)
            have hP : va_P (dC, dI) vwCl (wd_X0_goToPhase cI a0 v0_1 v0_2 y_5 s21.2.2.2 v0_0) H := hP
            have hD : va_D A (wd_X0_goToPhase cI a0 v0_1 v0_2 y_5 s21.2.2.2 v0_0) := hD
            refine lv_aload_n hx hb dX0_goToPhase_52 rfl (lv_at hl 1 rfl) ?_
            refine lv_aload_n hx hb dX0_goToPhase_53 rfl (lv_at hl 1 rfl) ?_
            refine lv_aload_n hx hb dX0_goToPhase_54 rfl (lv_at hl 1 rfl) ?_
            refine va_get (D := (dC, dI)) (ci := 0) (v := .int y_5) (C := RX0) (T := TX0) (N := 5) hx hb hta uw_X0 hown hK hP 0 rfl rfl 3 (by decide) (hta _ mA373) (fun _ h9 => h9) rfl dX0_goToPhase_55 ?_
            obtain ⟨u_6, hu_6, hF⟩ := obd_some hF
            have hPc := hP.sub (ws' := (wd_X0_lengthOf cI a0 v0_1 v0_2 y_5 s21.2.2.2 v0_0)) [0, 1] rfl
            have hDc := hD.sub (ws' := (wd_X0_lengthOf cI a0 v0_1 v0_2 y_5 s21.2.2.2 v0_0)) [0, 1] rfl rfl
            refine q_calli (wc := (wd_X0_lengthOf cI a0 v0_1 v0_2 y_5 s21.2.2.2 v0_0)) (w1 := (wd_X0_lengthOf cI a0 v0_1 v0_2 y_5 s21.2.2.2 v0_0)) (ws' := (wd_X0_goToPhase cI a0 v0_1 v0_2 y_5 s21.2.2.2 v0_0)) hP hD hS hA [0, 1] [] [0, 1] rfl rfl rfl (by decide) rfl rfl (va_runV (As := [.int y_5]) (rest := [.ref (a0 0)]) ⟨hx, hb, hml, hown, hta⟩ (c_X0_lengthOf l dC dI cI H.size a0 v0_1 v0_2 y_5 s21.2.2.2 v0_0 y_5 u_6 hu_6) (cwV 1 hta (ga_V mA375 mA376 mA377 mA80 mA378) rfl rfl rfl (by decide +kernel) ⟨Nat.le_of_ble_eq_true rfl, Nat.le_of_ble_eq_true rfl⟩) ⟨q_fb, va_recv hK hP (ci := 0) (q0 := 0) rfl rfl, q_ps hPc hK hDc⟩ rfl rfl hl.1 rfl (lv_room (Nat.le_of_ble_eq_true rfl)) dX0_goToPhase_58 ⟨Nat.zero_le _, Nat.zero_le _⟩) (fun H locs hP hD hS => ?_)
            refine va_put (D := (dC, dI)) (ci := 0) (v := .int u_6) (ty := .int) (C := RX0) (T := TX0) (N := 5) hx hb hta uw_X0 tyX0 tyX0_ok nmX0 hown hK hP hD hS 0 rfl rfl 4 (by decide) (hta _ mA374) (fun _ h9 => h9) rfl (by decide +kernel) rfl rfl (Nat.le_of_ble_eq_true rfl) dX0_goToPhase_61 (fun H locs hP hD hS => ?_)
            have hP : va_P (dC, dI) vwCl (wd_X0_goToPhase cI a0 v0_1 v0_2 y_5 u_6 v0_0) H := hP
            have hD : va_D A (wd_X0_goToPhase cI a0 v0_1 v0_2 y_5 u_6 v0_0) := hD
            obtain ⟨y_7, ey_7, hF⟩ := lt_some hF
            refine lv_iinc (v := y_7) (lv' := [(2, .int y_7), (1, .int y_4), (0, .ref (a0 0))]) hx hb dX0_goToPhase_64 hl (k := 2) rfl (by rw [ey_7]; rfl) (by decide) rfl (fun ls hl => ?_)
            refine lv_goto (tgt := 21) hx hb dX0_goToPhase_67 (by decide) ?_
            obtain rfl := Option.some.inj hF
            exact ih_21 _ hO_21 _ _ _ hP hD hS (lv_sub hl [2, 1, 0] rfl)
    exact kl_21 n _ hL_21 _ _ _ hP hD hS hl
  refine lv_aload_n hx hb dX0_goToPhase_0 rfl (lv_at hl 0 rfl) ?_
  refine va_get (D := (dC, dI)) (ci := 0) (v := .int v0_2) (C := RX0) (T := TX0) (N := 5) hx hb hta uw_X0 hown hK hP 0 rfl rfl 2 (by decide) (hta _ mA366) (fun _ h9 => h9) rfl dX0_goToPhase_1 ?_
  refine lv_istore_n (lv' := [(1, .int v0_2), (0, .ref (a0 0))]) hx hb dX0_goToPhase_4 rfl hl (by decide) rfl (fun ls hl => ?_)
  refine lv_aload_n hx hb dX0_goToPhase_5 rfl (lv_at hl 1 rfl) ?_
  refine lv_iconst (v := 0) hx hb dX0_goToPhase_6 (by decide) ?_
  refine va_put (D := (dC, dI)) (ci := 0) (v := .int 0) (ty := .int) (C := RX0) (T := TX0) (N := 5) hx hb hta uw_X0 tyX0 tyX0_ok nmX0 hown hK hP hD hS 0 rfl rfl 3 (by decide) (hta _ mA373) (fun _ h9 => h9) rfl (by decide +kernel) rfl rfl (Nat.le_of_ble_eq_true rfl) dX0_goToPhase_7 (fun H locs hP hD hS => ?_)
  have hP : va_P (dC, dI) vwCl (wd_X0_goToPhase cI a0 v0_1 v0_2 0 v0_4 v0_0) H := hP
  have hD : va_D A (wd_X0_goToPhase cI a0 v0_1 v0_2 0 v0_4 v0_0) := hD
  refine lv_aload_n hx hb dX0_goToPhase_10 rfl (lv_at hl 1 rfl) ?_
  refine lv_aload_n hx hb dX0_goToPhase_11 rfl (lv_at hl 1 rfl) ?_
  refine lv_iconst (v := 0) hx hb dX0_goToPhase_12 (by decide) ?_
  obtain ⟨u_8, hu_8, hF⟩ := obd_some hF
  have hPc := hP.sub (ws' := (wd_X0_lengthOf cI a0 v0_1 v0_2 0 v0_4 v0_0)) [0, 1] rfl
  have hDc := hD.sub (ws' := (wd_X0_lengthOf cI a0 v0_1 v0_2 0 v0_4 v0_0)) [0, 1] rfl rfl
  refine q_calli (wc := (wd_X0_lengthOf cI a0 v0_1 v0_2 0 v0_4 v0_0)) (w1 := (wd_X0_lengthOf cI a0 v0_1 v0_2 0 v0_4 v0_0)) (ws' := (wd_X0_goToPhase cI a0 v0_1 v0_2 0 v0_4 v0_0)) hP hD hS hA [0, 1] [] [0, 1] rfl rfl rfl (by decide) rfl rfl (va_runV (As := [.int 0]) (rest := [.ref (a0 0)]) ⟨hx, hb, hml, hown, hta⟩ (c_X0_lengthOf l dC dI cI H.size a0 v0_1 v0_2 0 v0_4 v0_0 0 u_8 hu_8) (cwV 1 hta (ga_V mA375 mA376 mA377 mA80 mA378) rfl rfl rfl (by decide +kernel) ⟨Nat.le_of_ble_eq_true rfl, Nat.le_of_ble_eq_true rfl⟩) ⟨q_fb, va_recv hK hP (ci := 0) (q0 := 0) rfl rfl, q_ps hPc hK hDc⟩ rfl rfl hl.1 rfl (lv_room (Nat.le_of_ble_eq_true rfl)) dX0_goToPhase_13 ⟨Nat.zero_le _, Nat.zero_le _⟩) (fun H locs hP hD hS => ?_)
  refine va_put (D := (dC, dI)) (ci := 0) (v := .int u_8) (ty := .int) (C := RX0) (T := TX0) (N := 5) hx hb hta uw_X0 tyX0 tyX0_ok nmX0 hown hK hP hD hS 0 rfl rfl 4 (by decide) (hta _ mA374) (fun _ h9 => h9) rfl (by decide +kernel) rfl rfl (Nat.le_of_ble_eq_true rfl) dX0_goToPhase_16 (fun H locs hP hD hS => ?_)
  have hP : va_P (dC, dI) vwCl (wd_X0_goToPhase cI a0 v0_1 v0_2 0 u_8 v0_0) H := hP
  have hD : va_D A (wd_X0_goToPhase cI a0 v0_1 v0_2 0 u_8 v0_0) := hD
  refine lv_iconst (v := 0) hx hb dX0_goToPhase_19 (by decide) ?_
  refine lv_istore_n (lv' := [(2, .int 0), (1, .int v0_2), (0, .ref (a0 0))]) hx hb dX0_goToPhase_20 rfl hl (by decide) rfl (fun ls hl => ?_)
  exact j21 0 u_8 v0_2 0 hF _ _ _ hP hD hS (lv_sub hl [2, 1, 0] rfl)

-- StrokeOutliner$DashCursor.ahead()I
def F_X0_ahead (v0_4 : Int32) : (Int32) :=
  v0_4
abbrev wd_X0_ahead (cI : ClassId) (a0 : Nat → Nat) (v0_1 : Int32) (v0_2 : Int32) (v0_3 : Int32) (v0_4 : Int32) : va_W := [(a0 0, .inr (0, [.ref (a0 1), .int v0_1, .int v0_2, .int v0_3, .int v0_4]))]
abbrev wz_X0_ahead : List Cond := .code yX0_ahead cX0_ahead 1 (some .int) :: wALL
abbrev rm_X0_ahead : Room := { frames := 0, cells := 0, slots := 0, locals := 0 }
abbrev Q_X0_ahead (dC : Nat → ClassId) (dI : Nat → Nat → Nat) (cI : ClassId) (a0 : Nat → Nat) (v0_1 : Int32) (v0_2 : Int32) (v0_3 : Int32) (v0_4 : Int32) (u : (Int32)) (A : Nat → Prop) : Array Value → State → Outcome → State → Prop := va_Qi (fun (r : Int32) (_ : Unit) => r = u) (fun _ => q_at dC dI cI A (wd_X0_ahead cI a0 v0_1 v0_2 v0_3 v0_4)) A
set_option maxHeartbeats 4000000 in
set_option maxRecDepth 100000 in
theorem c_X0_ahead (l : Launch) (dC : Nat → ClassId) (dI : Nat → Nat → Nat) (cI : ClassId) (sz : Nat) (a0 : Nat → Nat) (v0_1 : Int32) (v0_2 : Int32) (v0_3 : Int32) (v0_4 : Int32) (u : (Int32)) (hF : F_X0_ahead v0_4 = u) : Met l yX0_ahead wz_X0_ahead rm_X0_ahead (va_Pc [.ref (a0 0)] (q_pre dC dI cI (wd_X0_ahead cI a0 v0_1 v0_2 v0_3 v0_4) sz)) (Q_X0_ahead dC dI cI a0 v0_1 v0_2 v0_3 v0_4 u (va_A (wd_X0_ahead cI a0 v0_1 v0_2 v0_3 v0_4) sz)) 0 0 (va_A (wd_X0_ahead cI a0 v0_1 v0_2 v0_3 v0_4) sz) := by
  refine Met.ofW (cc := cX0_ahead) (maxL := 1) (ret := (some .int)) (by decide) rfl ?_
  intro p e s m args below meth c s₁ B hml hv
  obtain ⟨rfl, hsz, hP, hK, hD0⟩ := hv
  have hx := B.exec
  have hb := B.bytes
  have hr := B.returns
  have hts := atoms_spec (ws := wz_X0_ahead) B.pre
  have hta := wz_tl hts
  have hown : s.vm.findClass RX0 = some m.cls := findClass_of_methodNamed B.named
  have hlocks := B.notSynchronized
  subst hsz
  have hD := hD0.self (sz := s.heap.size)
  generalize hAe : va_A (wd_X0_ahead cI a0 v0_1 v0_2 v0_3 v0_4) s.heap.size = A at hD ⊢
  have hA : ∀ q : Nat, s.heap.size ≤ q → A q := fun q h => by rw [← hAe]; exact Or.inr h
  have hS : va_S A s.heap s.heap [] := va_S.rf
  have hP : va_P (dC, dI) vwCl (wd_X0_ahead cI a0 v0_1 v0_2 v0_3 v0_4) s.heap := hP
  have hl := lv_entry ([.ref (a0 0)]) (n := 1) (Nat.le_of_ble_eq_true rfl)
  rw [lg_entry_eq]
  generalize (lg_sl ([.ref (a0 0)]) ++ List.replicate (1 - (lg_sl ([.ref (a0 0)])).length) Slot.unset).toArray = ls at hl ⊢
  have hl : lv_has ls 1 [(0, .ref (a0 0))] := hl
  obtain ⟨H, hHe⟩ : ∃ H, H = s.heap := ⟨_, rfl⟩
  have hS : va_S A s.heap H [] := by rw [hHe]; exact hS
  have hP : va_P (dC, dI) vwCl (wd_X0_ahead cI a0 v0_1 v0_2 v0_3 v0_4) H := by rw [hHe]; exact hP
  rw [← hHe]
  unfold F_X0_ahead at hF
  refine lv_aload_n hx hb dX0_ahead_0 rfl (lv_at hl 0 rfl) ?_
  refine va_get (D := (dC, dI)) (ci := 0) (v := .int v0_4) (C := RX0) (T := TX0) (N := 5) hx hb hta uw_X0 hown hK hP 0 rfl rfl 4 (by decide) (hta _ mA374) (fun _ h9 => h9) rfl dX0_ahead_1 ?_
  subst hF
  exact W.iret (v := v0_4) hx hb hr (fun t ht hW => ⟨⟨v0_4, (), rfl, rfl, by rw [ht]; exact hP, va_K.moved hW.alike hK, hD⟩, hS.F ht⟩) hS.2.2 dX0_ahead_4

-- StrokeOutliner$DashCursor.isOn()Z
def F_X0_isOn (v0_3 : Int32) : (Int32) :=
  if (v0_3 &&& 1) = 0 then 1 else 0
abbrev wd_X0_isOn (cI : ClassId) (a0 : Nat → Nat) (v0_1 : Int32) (v0_2 : Int32) (v0_3 : Int32) (v0_4 : Int32) : va_W := [(a0 0, .inr (0, [.ref (a0 1), .int v0_1, .int v0_2, .int v0_3, .int v0_4]))]
abbrev wz_X0_isOn : List Cond := .code yX0_isOn cX0_isOn 1 (some .boolean) :: wALL
abbrev rm_X0_isOn : Room := { frames := 0, cells := 0, slots := 0, locals := 0 }
abbrev Q_X0_isOn (dC : Nat → ClassId) (dI : Nat → Nat → Nat) (cI : ClassId) (a0 : Nat → Nat) (v0_1 : Int32) (v0_2 : Int32) (v0_3 : Int32) (v0_4 : Int32) (u : (Int32)) (A : Nat → Prop) : Array Value → State → Outcome → State → Prop := va_Qi (fun (r : Int32) (_ : Unit) => r = u ∧ (u = 0 ∨ u = 1)) (fun _ => q_at dC dI cI A (wd_X0_isOn cI a0 v0_1 v0_2 v0_3 v0_4)) A
set_option maxHeartbeats 4000000 in
set_option maxRecDepth 100000 in
theorem c_X0_isOn (l : Launch) (dC : Nat → ClassId) (dI : Nat → Nat → Nat) (cI : ClassId) (sz : Nat) (a0 : Nat → Nat) (v0_1 : Int32) (v0_2 : Int32) (v0_3 : Int32) (v0_4 : Int32) (u : (Int32)) (hF : F_X0_isOn v0_3 = u) : Met l yX0_isOn wz_X0_isOn rm_X0_isOn (va_Pc [.ref (a0 0)] (q_pre dC dI cI (wd_X0_isOn cI a0 v0_1 v0_2 v0_3 v0_4) sz)) (Q_X0_isOn dC dI cI a0 v0_1 v0_2 v0_3 v0_4 u (va_A (wd_X0_isOn cI a0 v0_1 v0_2 v0_3 v0_4) sz)) 0 0 (va_A (wd_X0_isOn cI a0 v0_1 v0_2 v0_3 v0_4) sz) := by
  refine Met.ofW (cc := cX0_isOn) (maxL := 1) (ret := (some .boolean)) (by decide) rfl ?_
  intro p e s m args below meth c s₁ B hml hv
  obtain ⟨rfl, hsz, hP, hK, hD0⟩ := hv
  have hx := B.exec
  have hb := B.bytes
  have hr := B.returns
  have hts := atoms_spec (ws := wz_X0_isOn) B.pre
  have hta := wz_tl hts
  have hown : s.vm.findClass RX0 = some m.cls := findClass_of_methodNamed B.named
  have hlocks := B.notSynchronized
  subst hsz
  have hD := hD0.self (sz := s.heap.size)
  generalize hAe : va_A (wd_X0_isOn cI a0 v0_1 v0_2 v0_3 v0_4) s.heap.size = A at hD ⊢
  have hA : ∀ q : Nat, s.heap.size ≤ q → A q := fun q h => by rw [← hAe]; exact Or.inr h
  have hS : va_S A s.heap s.heap [] := va_S.rf
  have hP : va_P (dC, dI) vwCl (wd_X0_isOn cI a0 v0_1 v0_2 v0_3 v0_4) s.heap := hP
  have hl := lv_entry ([.ref (a0 0)]) (n := 1) (Nat.le_of_ble_eq_true rfl)
  rw [lg_entry_eq]
  generalize (lg_sl ([.ref (a0 0)]) ++ List.replicate (1 - (lg_sl ([.ref (a0 0)])).length) Slot.unset).toArray = ls at hl ⊢
  have hl : lv_has ls 1 [(0, .ref (a0 0))] := hl
  obtain ⟨H, hHe⟩ : ∃ H, H = s.heap := ⟨_, rfl⟩
  have hS : va_S A s.heap H [] := by rw [hHe]; exact hS
  have hP : va_P (dC, dI) vwCl (wd_X0_isOn cI a0 v0_1 v0_2 v0_3 v0_4) H := by rw [hHe]; exact hP
  rw [← hHe]
  unfold F_X0_isOn at hF
  refine lv_aload_n hx hb dX0_isOn_0 rfl (lv_at hl 0 rfl) ?_
  refine va_get (D := (dC, dI)) (ci := 0) (v := .int v0_3) (C := RX0) (T := TX0) (N := 5) hx hb hta uw_X0 hown hK hP 0 rfl rfl 3 (by decide) (hta _ mA373) (fun _ h9 => h9) rfl dX0_isOn_1 ?_
  refine lv_iconst (v := 1) hx hb dX0_isOn_4 (by decide) ?_
  refine lv_iand hx hb dX0_isOn_5 ?_
  refine lv_if_ne (tgt := 13) hx hb dX0_isOn_6 (by decide) (fun c_1 => ?_) (fun c_1 => ?_)
  · have hF := it_f hF c_1
    refine lv_iconst (v := 0) hx hb dX0_isOn_13 (by decide) ?_
    subst hF
    exact W.zret (v := 0) (ty := .boolean) hx hb hr (z_nar (Or.inl rfl)) (fun t ht hW => ⟨⟨0, (), rfl, ⟨rfl, (Or.inl rfl)⟩, by rw [ht]; exact hP, va_K.moved hW.alike hK, hD⟩, hS.F ht⟩) hS.2.2 dX0_isOn_14
  · have hF := it_t hF c_1
    refine lv_iconst (v := 1) hx hb dX0_isOn_9 (by decide) ?_
    refine lv_goto (tgt := 14) hx hb dX0_isOn_10 (by decide) ?_
    subst hF
    exact W.zret (v := 1) (ty := .boolean) hx hb hr (z_nar (Or.inr rfl)) (fun t ht hW => ⟨⟨1, (), rfl, ⟨rfl, (Or.inr rfl)⟩, by rw [ht]; exact hP, va_K.moved hW.alike hK, hD⟩, hS.F ht⟩) hS.2.2 dX0_isOn_14

-- StrokeOutliner$Runs.addRun(I)V
def F_X8_addRun (v0_10 : Int32) (v0_11 : Int32) (v0_2 : Nat → Int32) (v0_3 : Nat → Int32) (v0_4 : Nat → Int32) (v0_5 : Nat → Int32) (v0_6 : Nat → Int32) (p1 : Int32) : Option (Int32 × (Nat → Int32) × (Nat → Int32) × (Nat → Int32) × (Nat → Int32) × (Nat → Int32)) :=
  if v0_10 < 0 then some (v0_10, v0_2, v0_3, v0_4, v0_5, v0_6) else if 928 ≤ v0_10 then some (v0_10, v0_2, v0_3, v0_4, v0_5, v0_6) else gd (decide (vpi v0_10 928)) (lt (upd v0_2 v0_10.toNatClampNeg p1) (fun y_4 => gd (decide (vpi v0_10 928)) (lt (upd v0_3 v0_10.toNatClampNeg 0) (fun y_6 => gd (decide (vpi v0_10 928)) (lt (upd v0_4 v0_10.toNatClampNeg 0) (fun y_8 => gd (decide (vpi v0_10 928)) (lt (upd v0_5 v0_10.toNatClampNeg v0_11) (fun y_10 => gd (decide (vpi v0_10 928)) (lt (upd v0_6 v0_10.toNatClampNeg 0) (fun y_12 => lt (v0_10 + 1) (fun y_13 => some (y_13, y_4, y_6, y_8, y_10, y_12))))))))))))
abbrev wd_X8_addRun (cI : ClassId) (a0 : Nat → Nat) (a1 : Nat → Nat) (v0_10 : Int32) (v0_11 : Int32) (v0_2 : Nat → Int32) (v0_3 : Nat → Int32) (v0_4 : Nat → Int32) (v0_5 : Nat → Int32) (v0_6 : Nat → Int32) : va_W := [(a0 0, .inr (7, [.ref (a1 0), .ref (a0 2), .ref (a0 3), .ref (a0 4), .ref (a0 5), .ref (a0 6), .ref (a0 7), .ref (a0 8), .ref (a0 9), .ref (a0 10), .int v0_10, .int v0_11])), (a0 3, .inl (cI, 928, .inl v0_2)), (a0 4, .inl (cI, 928, .inl v0_3)), (a0 5, .inl (cI, 928, .inl v0_4)), (a0 6, .inl (cI, 928, .inl v0_5)), (a0 7, .inl (cI, 928, .inl v0_6))]
abbrev wz_X8_addRun : List Cond := .code yX8_addRun cX8_addRun 2 none :: wALL
abbrev rm_X8_addRun : Room := { frames := 0, cells := 0, slots := 0, locals := 0 }
abbrev Q_X8_addRun (dC : Nat → ClassId) (dI : Nat → Nat → Nat) (cI : ClassId) (a0 : Nat → Nat) (a1 : Nat → Nat) (v0_11 : Int32) (u : (Int32 × (Nat → Int32) × (Nat → Int32) × (Nat → Int32) × (Nat → Int32) × (Nat → Int32))) (A : Nat → Prop) : Array Value → State → Outcome → State → Prop := va_Qv (fun (_ : Unit) => True) (fun _ => q_at dC dI cI A (wd_X8_addRun cI a0 a1 u.1 v0_11 u.2.1 u.2.2.1 u.2.2.2.1 u.2.2.2.2.1 u.2.2.2.2.2)) A
set_option maxHeartbeats 4000000 in
set_option maxRecDepth 100000 in
theorem c_X8_addRun (l : Launch) (dC : Nat → ClassId) (dI : Nat → Nat → Nat) (cI : ClassId) (sz : Nat) (a0 : Nat → Nat) (a1 : Nat → Nat) (v0_10 : Int32) (v0_11 : Int32) (v0_2 : Nat → Int32) (v0_3 : Nat → Int32) (v0_4 : Nat → Int32) (v0_5 : Nat → Int32) (v0_6 : Nat → Int32) (p1 : Int32) (u : (Int32 × (Nat → Int32) × (Nat → Int32) × (Nat → Int32) × (Nat → Int32) × (Nat → Int32))) (hF : F_X8_addRun v0_10 v0_11 v0_2 v0_3 v0_4 v0_5 v0_6 p1 = some u) : Met l yX8_addRun wz_X8_addRun rm_X8_addRun (va_Pc [.ref (a0 0), .int p1] (q_pre dC dI cI (wd_X8_addRun cI a0 a1 v0_10 v0_11 v0_2 v0_3 v0_4 v0_5 v0_6) sz)) (Q_X8_addRun dC dI cI a0 a1 v0_11 u (va_A (wd_X8_addRun cI a0 a1 v0_10 v0_11 v0_2 v0_3 v0_4 v0_5 v0_6) sz)) 0 0 (va_A (wd_X8_addRun cI a0 a1 v0_10 v0_11 v0_2 v0_3 v0_4 v0_5 v0_6) sz) := by
  refine Met.ofW (cc := cX8_addRun) (maxL := 2) (ret := none) (by decide) rfl ?_
  intro p e s m args below meth c s₁ B hml hv
  obtain ⟨rfl, hsz, hP, hK, hD0⟩ := hv
  have hx := B.exec
  have hb := B.bytes
  have hr := B.returns
  have hts := atoms_spec (ws := wz_X8_addRun) B.pre
  have hta := wz_tl hts
  have hown : s.vm.findClass RX8 = some m.cls := findClass_of_methodNamed B.named
  have hlocks := B.notSynchronized
  subst hsz
  have hD := hD0.self (sz := s.heap.size)
  generalize hAe : va_A (wd_X8_addRun cI a0 a1 v0_10 v0_11 v0_2 v0_3 v0_4 v0_5 v0_6) s.heap.size = A at hD ⊢
  have hA : ∀ q : Nat, s.heap.size ≤ q → A q := fun q h => by rw [← hAe]; exact Or.inr h
  have hS : va_S A s.heap s.heap [] := va_S.rf
  have hP : va_P (dC, dI) vwCl (wd_X8_addRun cI a0 a1 v0_10 v0_11 v0_2 v0_3 v0_4 v0_5 v0_6) s.heap := hP
  have hl := lv_entry ([.ref (a0 0), .int p1]) (n := 2) (Nat.le_of_ble_eq_true rfl)
  rw [lg_entry_eq]
  generalize (lg_sl ([.ref (a0 0), .int p1]) ++ List.replicate (2 - (lg_sl ([.ref (a0 0), .int p1])).length) Slot.unset).toArray = ls at hl ⊢
  have hl : lv_has ls 2 [(0, .ref (a0 0)), (1, .int p1)] := hl
  obtain ⟨H, hHe⟩ : ∃ H, H = s.heap := ⟨_, rfl⟩
  have hS : va_S A s.heap H [] := by rw [hHe]; exact hS
  have hP : va_P (dC, dI) vwCl (wd_X8_addRun cI a0 a1 v0_10 v0_11 v0_2 v0_3 v0_4 v0_5 v0_6) H := by rw [hHe]; exact hP
  rw [← hHe]
  unfold F_X8_addRun at hF
  refine lv_aload_n hx hb dX8_addRun_0 rfl (lv_at hl 0 rfl) ?_
  refine va_get (D := (dC, dI)) (ci := 7) (v := .int v0_10) (C := RX8) (T := TX8) (N := 12) hx hb hta uw_X8 hown hK hP 0 rfl rfl 10 (by decide) (hta _ mA358) (fun _ h9 => h9) rfl dX8_addRun_1 ?_
  refine lv_if_lt (tgt := 80) hx hb dX8_addRun_4 (by decide) (fun c_1 => ?_) (fun c_1 => ?_)
  · have hF := it_t hF c_1
    obtain rfl := Option.some.inj hF
    exact W.vret hx hb hr (fun t ht hW => ⟨⟨(), rfl, trivial, by rw [ht]; exact hP, va_K.moved hW.alike hK, hD⟩, hS.F ht⟩) hS.2.2 dX8_addRun_80
  · have hF := it_f hF c_1
    refine lv_aload_n hx hb dX8_addRun_7 rfl (lv_at hl 0 rfl) ?_
    refine va_get (D := (dC, dI)) (ci := 7) (v := .int v0_10) (C := RX8) (T := TX8) (N := 12) hx hb hta uw_X8 hown hK hP 0 rfl rfl 10 (by decide) (hta _ mA358) (fun _ h9 => h9) rfl dX8_addRun_8 ?_
    refine lv_sipush (v := 928) hx hb dX8_addRun_11 (by decide) ?_
    refine lv_icmp_ge (tgt := 80) hx hb dX8_addRun_14 (by decide) (fun c_2 => ?_) (fun c_2 => ?_)
    · have hF := it_t hF c_2
      obtain rfl := Option.some.inj hF
      exact W.vret hx hb hr (fun t ht hW => ⟨⟨(), rfl, trivial, by rw [ht]; exact hP, va_K.moved hW.alike hK, hD⟩, hS.F ht⟩) hS.2.2 dX8_addRun_80
    · have hF := it_f hF c_2
      refine lv_aload_n hx hb dX8_addRun_17 rfl (lv_at hl 0 rfl) ?_
      refine va_get (D := (dC, dI)) (ci := 7) (v := .ref (a0 3)) (C := RX8) (T := TX8) (N := 12) hx hb hta uw_X8 hown hK hP 0 rfl rfl 2 (by decide) (hta _ mA83) (fun _ h9 => h9) rfl dX8_addRun_18 ?_
      refine lv_aload_n hx hb dX8_addRun_21 rfl (lv_at hl 0 rfl) ?_
      refine va_get (D := (dC, dI)) (ci := 7) (v := .int v0_10) (C := RX8) (T := TX8) (N := 12) hx hb hta uw_X8 hown hK hP 0 rfl rfl 10 (by decide) (hta _ mA358) (fun _ h9 => h9) rfl dX8_addRun_22 ?_
      refine lv_iload_n hx hb dX8_addRun_25 rfl (lv_at hl 1 rfl) ?_
      obtain ⟨g_3, hF⟩ := gd_some hF
      refine va_iast hx hb hK hP hD hS 1 0 rfl rfl (vpi_in g_3) dX8_addRun_26 (fun H locs hP hD hS => ?_)
      obtain ⟨y_4, ey_4, hF⟩ := lt_some hF
      have hP : va_P (dC, dI) vwCl (wd_X8_addRun cI a0 a1 v0_10 v0_11 y_4 v0_3 v0_4 v0_5 v0_6) H := by rw [ey_4]; exact hP
      have hD : va_D A (wd_X8_addRun cI a0 a1 v0_10 v0_11 y_4 v0_3 v0_4 v0_5 v0_6) := by rw [ey_4]; exact hD
      refine lv_aload_n hx hb dX8_addRun_27 rfl (lv_at hl 0 rfl) ?_
      refine va_get (D := (dC, dI)) (ci := 7) (v := .ref (a0 4)) (C := RX8) (T := TX8) (N := 12) hx hb hta uw_X8 hown hK hP 0 rfl rfl 3 (by decide) (hta _ mA84) (fun _ h9 => h9) rfl dX8_addRun_28 ?_
      refine lv_aload_n hx hb dX8_addRun_31 rfl (lv_at hl 0 rfl) ?_
      refine va_get (D := (dC, dI)) (ci := 7) (v := .int v0_10) (C := RX8) (T := TX8) (N := 12) hx hb hta uw_X8 hown hK hP 0 rfl rfl 10 (by decide) (hta _ mA358) (fun _ h9 => h9) rfl dX8_addRun_32 ?_
      refine lv_iconst (v := 0) hx hb dX8_addRun_35 (by decide) ?_
      obtain ⟨g_5, hF⟩ := gd_some hF
      refine va_iast hx hb hK hP hD hS 2 0 rfl rfl (vpi_in g_5) dX8_addRun_36 (fun H locs hP hD hS => ?_)
      obtain ⟨y_6, ey_6, hF⟩ := lt_some hF
      have hP : va_P (dC, dI) vwCl (wd_X8_addRun cI a0 a1 v0_10 v0_11 y_4 y_6 v0_4 v0_5 v0_6) H := by rw [ey_6]; exact hP
      have hD : va_D A (wd_X8_addRun cI a0 a1 v0_10 v0_11 y_4 y_6 v0_4 v0_5 v0_6) := by rw [ey_6]; exact hD
      refine lv_aload_n hx hb dX8_addRun_37 rfl (lv_at hl 0 rfl) ?_
      refine va_get (D := (dC, dI)) (ci := 7) (v := .ref (a0 5)) (C := RX8) (T := TX8) (N := 12) hx hb hta uw_X8 hown hK hP 0 rfl rfl 4 (by decide) (hta _ mA85) (fun _ h9 => h9) rfl dX8_addRun_38 ?_
      refine lv_aload_n hx hb dX8_addRun_41 rfl (lv_at hl 0 rfl) ?_
      refine va_get (D := (dC, dI)) (ci := 7) (v := .int v0_10) (C := RX8) (T := TX8) (N := 12) hx hb hta uw_X8 hown hK hP 0 rfl rfl 10 (by decide) (hta _ mA358) (fun _ h9 => h9) rfl dX8_addRun_42 ?_
      refine lv_iconst (v := 0) hx hb dX8_addRun_45 (by decide) ?_
      obtain ⟨g_7, hF⟩ := gd_some hF
      refine va_iast hx hb hK hP hD hS 3 0 rfl rfl (vpi_in g_7) dX8_addRun_46 (fun H locs hP hD hS => ?_)
      obtain ⟨y_8, ey_8, hF⟩ := lt_some hF
      have hP : va_P (dC, dI) vwCl (wd_X8_addRun cI a0 a1 v0_10 v0_11 y_4 y_6 y_8 v0_5 v0_6) H := by rw [ey_8]; exact hP
      have hD : va_D A (wd_X8_addRun cI a0 a1 v0_10 v0_11 y_4 y_6 y_8 v0_5 v0_6) := by rw [ey_8]; exact hD
      refine lv_aload_n hx hb dX8_addRun_47 rfl (lv_at hl 0 rfl) ?_
      refine va_get (D := (dC, dI)) (ci := 7) (v := .ref (a0 6)) (C := RX8) (T := TX8) (N := 12) hx hb hta uw_X8 hown hK hP 0 rfl rfl 5 (by decide) (hta _ mA86) (fun _ h9 => h9) rfl dX8_addRun_48 ?_
      refine lv_aload_n hx hb dX8_addRun_51 rfl (lv_at hl 0 rfl) ?_
      refine va_get (D := (dC, dI)) (ci := 7) (v := .int v0_10) (C := RX8) (T := TX8) (N := 12) hx hb hta uw_X8 hown hK hP 0 rfl rfl 10 (by decide) (hta _ mA358) (fun _ h9 => h9) rfl dX8_addRun_52 ?_
      refine lv_aload_n hx hb dX8_addRun_55 rfl (lv_at hl 0 rfl) ?_
      refine va_get (D := (dC, dI)) (ci := 7) (v := .int v0_11) (C := RX8) (T := TX8) (N := 12) hx hb hta uw_X8 hown hK hP 0 rfl rfl 11 (by decide) (hta _ mA359) (fun _ h9 => h9) rfl dX8_addRun_56 ?_
      obtain ⟨g_9, hF⟩ := gd_some hF
      refine va_iast hx hb hK hP hD hS 4 0 rfl rfl (vpi_in g_9) dX8_addRun_59 (fun H locs hP hD hS => ?_)
      obtain ⟨y_10, ey_10, hF⟩ := lt_some hF
      have hP : va_P (dC, dI) vwCl (wd_X8_addRun cI a0 a1 v0_10 v0_11 y_4 y_6 y_8 y_10 v0_6) H := by rw [ey_10]; exact hP
      have hD : va_D A (wd_X8_addRun cI a0 a1 v0_10 v0_11 y_4 y_6 y_8 y_10 v0_6) := by rw [ey_10]; exact hD
      refine lv_aload_n hx hb dX8_addRun_60 rfl (lv_at hl 0 rfl) ?_
      refine va_get (D := (dC, dI)) (ci := 7) (v := .ref (a0 7)) (C := RX8) (T := TX8) (N := 12) hx hb hta uw_X8 hown hK hP 0 rfl rfl 6 (by decide) (hta _ mA87) (fun _ h9 => h9) rfl dX8_addRun_61 ?_
      refine lv_aload_n hx hb dX8_addRun_64 rfl (lv_at hl 0 rfl) ?_
      refine va_get (D := (dC, dI)) (ci := 7) (v := .int v0_10) (C := RX8) (T := TX8) (N := 12) hx hb hta uw_X8 hown hK hP 0 rfl rfl 10 (by decide) (hta _ mA358) (fun _ h9 => h9) rfl dX8_addRun_65 ?_
      refine lv_iconst (v := 0) hx hb dX8_addRun_68 (by decide) ?_
      obtain ⟨g_11, hF⟩ := gd_some hF
      refine va_iast hx hb hK hP hD hS 5 0 rfl rfl (vpi_in g_11) dX8_addRun_69 (fun H locs hP hD hS => ?_)
      obtain ⟨y_12, ey_12, hF⟩ := lt_some hF
      have hP : va_P (dC, dI) vwCl (wd_X8_addRun cI a0 a1 v0_10 v0_11 y_4 y_6 y_8 y_10 y_12) H := by rw [ey_12]; exact hP
      have hD : va_D A (wd_X8_addRun cI a0 a1 v0_10 v0_11 y_4 y_6 y_8 y_10 y_12) := by rw [ey_12]; exact hD
      refine lv_aload_n hx hb dX8_addRun_70 rfl (lv_at hl 0 rfl) ?_
      refine lv_dup hx hb dX8_addRun_71 rfl ?_
      refine va_get (D := (dC, dI)) (ci := 7) (v := .int v0_10) (C := RX8) (T := TX8) (N := 12) hx hb hta uw_X8 hown hK hP 0 rfl rfl 10 (by decide) (hta _ mA358) (fun _ h9 => h9) rfl dX8_addRun_72 ?_
      refine lv_iconst (v := 1) hx hb dX8_addRun_75 (by decide) ?_
      refine lv_iadd hx hb dX8_addRun_76 ?_
      obtain ⟨y_13, ey_13, hF⟩ := lt_some hF
      refine lv_eqi ey_13 ?_
      refine va_put (D := (dC, dI)) (ci := 7) (v := .int y_13) (ty := .int) (C := RX8) (T := TX8) (N := 12) hx hb hta uw_X8 tyX8 tyX8_ok nmX8 hown hK hP hD hS 0 rfl rfl 10 (by decide) (hta _ mA358) (fun _ h9 => h9) rfl (by decide +kernel) rfl rfl (Nat.le_of_ble_eq_true rfl) dX8_addRun_77 (fun H locs hP hD hS => ?_)
      have hP : va_P (dC, dI) vwCl (wd_X8_addRun cI a0 a1 y_13 v0_11 y_4 y_6 y_8 y_10 y_12) H := hP
      have hD : va_D A (wd_X8_addRun cI a0 a1 y_13 v0_11 y_4 y_6 y_8 y_10 y_12) := hD
      obtain rfl := Option.some.inj hF
      exact W.vret hx hb hr (fun t ht hW => ⟨⟨(), rfl, trivial, by rw [ht]; exact hP, va_K.moved hW.alike hK, hD⟩, hS.F ht⟩) hS.2.2 dX8_addRun_80

-- StrokeOutliner$Runs.addSpan(III)V
def F_X8_addSpan (v0_10 : Int32) (v0_11 : Int32) (v0_3 : Nat → Int32) (v0_6 : Nat → Int32) (v0_7 : Nat → Int32) (v0_8 : Nat → Int32) (v0_9 : Nat → Int32) (p1 : Int32) (p2 : Int32) (p3 : Int32) : Option (Int32 × (Nat → Int32) × (Nat → Int32) × (Nat → Int32) × (Nat → Int32) × (Nat → Int32)) :=
  lt (v0_10 - 1) (fun y_1 => if y_1 < 0 then some (v0_11, v0_3, v0_6, v0_7, v0_8, v0_9) else if 928 ≤ y_1 then some (v0_11, v0_3, v0_6, v0_7, v0_8, v0_9) else if v0_11 < 0 then some (v0_11, v0_3, v0_6, v0_7, v0_8, v0_9) else if 1024 ≤ v0_11 then some (v0_11, v0_3, v0_6, v0_7, v0_8, v0_9) else gd (decide (vpi v0_11 1024)) (lt (upd v0_7 v0_11.toNatClampNeg p1) (fun y_7 => gd (decide (vpi v0_11 1024)) (lt (upd v0_8 v0_11.toNatClampNeg p2) (fun y_9 => gd (decide (vpi v0_11 1024)) (lt (upd v0_9 v0_11.toNatClampNeg p3) (fun y_11 => lt (v0_11 + 1) (fun y_12 => gd (decide (vpi y_1 928)) (lt ((v0_3 y_1.toNatClampNeg) + (p3 - p2)) (fun y_14 => gd (decide (vpi y_1 928)) (lt (upd v0_3 y_1.toNatClampNeg y_14) (fun y_16 => gd (decide (vpi y_1 928)) (lt ((v0_6 y_1.toNatClampNeg) + 1) (fun y_18 => gd (decide (vpi y_1 928)) (lt (upd v0_6 y_1.toNatClampNeg y_18) (fun y_20 => some (y_12, y_16, y_20, y_7, y_9, y_11)))))))))))))))))
abbrev wd_X8_addSpan (cI : ClassId) (a0 : Nat → Nat) (a1 : Nat → Nat) (v0_10 : Int32) (v0_11 : Int32) (v0_3 : Nat → Int32) (v0_6 : Nat → Int32) (v0_7 : Nat → Int32) (v0_8 : Nat → Int32) (v0_9 : Nat → Int32) : va_W := [(a0 0, .inr (7, [.ref (a1 0), .ref (a0 2), .ref (a0 3), .ref (a0 4), .ref (a0 5), .ref (a0 6), .ref (a0 7), .ref (a0 8), .ref (a0 9), .ref (a0 10), .int v0_10, .int v0_11])), (a0 4, .inl (cI, 928, .inl v0_3)), (a0 7, .inl (cI, 928, .inl v0_6)), (a0 8, .inl (cI, 1024, .inl v0_7)), (a0 9, .inl (cI, 1024, .inl v0_8)), (a0 10, .inl (cI, 1024, .inl v0_9))]
abbrev wz_X8_addSpan : List Cond := .code yX8_addSpan cX8_addSpan 5 none :: wALL
abbrev rm_X8_addSpan : Room := { frames := 0, cells := 0, slots := 0, locals := 0 }
abbrev Q_X8_addSpan (dC : Nat → ClassId) (dI : Nat → Nat → Nat) (cI : ClassId) (a0 : Nat → Nat) (a1 : Nat → Nat) (v0_10 : Int32) (u : (Int32 × (Nat → Int32) × (Nat → Int32) × (Nat → Int32) × (Nat → Int32) × (Nat → Int32))) (A : Nat → Prop) : Array Value → State → Outcome → State → Prop := va_Qv (fun (_ : Unit) => True) (fun _ => q_at dC dI cI A (wd_X8_addSpan cI a0 a1 v0_10 u.1 u.2.1 u.2.2.1 u.2.2.2.1 u.2.2.2.2.1 u.2.2.2.2.2)) A
set_option maxHeartbeats 4000000 in
set_option maxRecDepth 100000 in
theorem c_X8_addSpan (l : Launch) (dC : Nat → ClassId) (dI : Nat → Nat → Nat) (cI : ClassId) (sz : Nat) (a0 : Nat → Nat) (a1 : Nat → Nat) (v0_10 : Int32) (v0_11 : Int32) (v0_3 : Nat → Int32) (v0_6 : Nat → Int32) (v0_7 : Nat → Int32) (v0_8 : Nat → Int32) (v0_9 : Nat → Int32) (p1 : Int32) (p2 : Int32) (p3 : Int32) (u : (Int32 × (Nat → Int32) × (Nat → Int32) × (Nat → Int32) × (Nat → Int32) × (Nat → Int32))) (hF : F_X8_addSpan v0_10 v0_11 v0_3 v0_6 v0_7 v0_8 v0_9 p1 p2 p3 = some u) : Met l yX8_addSpan wz_X8_addSpan rm_X8_addSpan (va_Pc [.ref (a0 0), .int p1, .int p2, .int p3] (q_pre dC dI cI (wd_X8_addSpan cI a0 a1 v0_10 v0_11 v0_3 v0_6 v0_7 v0_8 v0_9) sz)) (Q_X8_addSpan dC dI cI a0 a1 v0_10 u (va_A (wd_X8_addSpan cI a0 a1 v0_10 v0_11 v0_3 v0_6 v0_7 v0_8 v0_9) sz)) 0 0 (va_A (wd_X8_addSpan cI a0 a1 v0_10 v0_11 v0_3 v0_6 v0_7 v0_8 v0_9) sz) := by
  refine Met.ofW (cc := cX8_addSpan) (maxL := 5) (ret := none) (by decide) rfl ?_
  intro p e s m args below meth c s₁ B hml hv
  obtain ⟨rfl, hsz, hP, hK, hD0⟩ := hv
  have hx := B.exec
  have hb := B.bytes
  have hr := B.returns
  have hts := atoms_spec (ws := wz_X8_addSpan) B.pre
  have hta := wz_tl hts
  have hown : s.vm.findClass RX8 = some m.cls := findClass_of_methodNamed B.named
  have hlocks := B.notSynchronized
  subst hsz
  have hD := hD0.self (sz := s.heap.size)
  generalize hAe : va_A (wd_X8_addSpan cI a0 a1 v0_10 v0_11 v0_3 v0_6 v0_7 v0_8 v0_9) s.heap.size = A at hD ⊢
  have hA : ∀ q : Nat, s.heap.size ≤ q → A q := fun q h => by rw [← hAe]; exact Or.inr h
  have hS : va_S A s.heap s.heap [] := va_S.rf
  have hP : va_P (dC, dI) vwCl (wd_X8_addSpan cI a0 a1 v0_10 v0_11 v0_3 v0_6 v0_7 v0_8 v0_9) s.heap := hP
  have hl := lv_entry ([.ref (a0 0), .int p1, .int p2, .int p3]) (n := 5) (Nat.le_of_ble_eq_true rfl)
  rw [lg_entry_eq]
  generalize (lg_sl ([.ref (a0 0), .int p1, .int p2, .int p3]) ++ List.replicate (5 - (lg_sl ([.ref (a0 0), .int p1, .int p2, .int p3])).length) Slot.unset).toArray = ls at hl ⊢
  have hl : lv_has ls 5 [(0, .ref (a0 0)), (1, .int p1), (2, .int p2), (3, .int p3)] := hl
  obtain ⟨H, hHe⟩ : ∃ H, H = s.heap := ⟨_, rfl⟩
  have hS : va_S A s.heap H [] := by rw [hHe]; exact hS
  have hP : va_P (dC, dI) vwCl (wd_X8_addSpan cI a0 a1 v0_10 v0_11 v0_3 v0_6 v0_7 v0_8 v0_9) H := by rw [hHe]; exact hP
  rw [← hHe]
  unfold F_X8_addSpan at hF
  refine lv_aload_n hx hb dX8_addSpan_0 rfl (lv_at hl 0 rfl) ?_
  refine va_get (D := (dC, dI)) (ci := 7) (v := .int v0_10) (C := RX8) (T := TX8) (N := 12) hx hb hta uw_X8 hown hK hP 0 rfl rfl 10 (by decide) (hta _ mA358) (fun _ h9 => h9) rfl dX8_addSpan_1 ?_
  refine lv_iconst (v := 1) hx hb dX8_addSpan_4 (by decide) ?_
  refine lv_isub hx hb dX8_addSpan_5 ?_
  obtain ⟨y_1, ey_1, hF⟩ := lt_some hF
  refine lv_eqi ey_1 ?_
  refine lv_istore (lv' := [(4, .int y_1), (0, .ref (a0 0)), (1, .int p1), (2, .int p2), (3, .int p3)]) hx hb dX8_addSpan_6 hl (by decide) rfl (fun ls hl => ?_)
  refine lv_iload hx hb dX8_addSpan_8 (lv_at hl 0 rfl) ?_
  refine lv_if_lt (tgt := 102) hx hb dX8_addSpan_10 (by decide) (fun c_2 => ?_) (fun c_2 => ?_)
  · have hF := it_t hF c_2
    obtain rfl := Option.some.inj hF
    exact W.vret hx hb hr (fun t ht hW => ⟨⟨(), rfl, trivial, by rw [ht]; exact hP, va_K.moved hW.alike hK, hD⟩, hS.F ht⟩) hS.2.2 dX8_addSpan_102
  · have hF := it_f hF c_2
    refine lv_iload hx hb dX8_addSpan_13 (lv_at hl 0 rfl) ?_
    refine lv_sipush (v := 928) hx hb dX8_addSpan_15 (by decide) ?_
    refine lv_icmp_ge (tgt := 102) hx hb dX8_addSpan_18 (by decide) (fun c_3 => ?_) (fun c_3 => ?_)
    · have hF := it_t hF c_3
      obtain rfl := Option.some.inj hF
      exact W.vret hx hb hr (fun t ht hW => ⟨⟨(), rfl, trivial, by rw [ht]; exact hP, va_K.moved hW.alike hK, hD⟩, hS.F ht⟩) hS.2.2 dX8_addSpan_102
    · have hF := it_f hF c_3
      refine lv_aload_n hx hb dX8_addSpan_21 rfl (lv_at hl 1 rfl) ?_
      refine va_get (D := (dC, dI)) (ci := 7) (v := .int v0_11) (C := RX8) (T := TX8) (N := 12) hx hb hta uw_X8 hown hK hP 0 rfl rfl 11 (by decide) (hta _ mA359) (fun _ h9 => h9) rfl dX8_addSpan_22 ?_
      refine lv_if_lt (tgt := 102) hx hb dX8_addSpan_25 (by decide) (fun c_4 => ?_) (fun c_4 => ?_)
      · have hF := it_t hF c_4
        obtain rfl := Option.some.inj hF
        exact W.vret hx hb hr (fun t ht hW => ⟨⟨(), rfl, trivial, by rw [ht]; exact hP, va_K.moved hW.alike hK, hD⟩, hS.F ht⟩) hS.2.2 dX8_addSpan_102
      · have hF := it_f hF c_4
        refine lv_aload_n hx hb dX8_addSpan_28 rfl (lv_at hl 1 rfl) ?_
        refine va_get (D := (dC, dI)) (ci := 7) (v := .int v0_11) (C := RX8) (T := TX8) (N := 12) hx hb hta uw_X8 hown hK hP 0 rfl rfl 11 (by decide) (hta _ mA359) (fun _ h9 => h9) rfl dX8_addSpan_29 ?_
        refine lv_sipush (v := 1024) hx hb dX8_addSpan_32 (by decide) ?_
        refine lv_icmp_ge (tgt := 102) hx hb dX8_addSpan_35 (by decide) (fun c_5 => ?_) (fun c_5 => ?_)
        · have hF := it_t hF c_5
          obtain rfl := Option.some.inj hF
          exact W.vret hx hb hr (fun t ht hW => ⟨⟨(), rfl, trivial, by rw [ht]; exact hP, va_K.moved hW.alike hK, hD⟩, hS.F ht⟩) hS.2.2 dX8_addSpan_102
        · have hF := it_f hF c_5
          refine lv_aload_n hx hb dX8_addSpan_38 rfl (lv_at hl 1 rfl) ?_
          refine va_get (D := (dC, dI)) (ci := 7) (v := .ref (a0 8)) (C := RX8) (T := TX8) (N := 12) hx hb hta uw_X8 hown hK hP 0 rfl rfl 7 (by decide) (hta _ mA88) (fun _ h9 => h9) rfl dX8_addSpan_39 ?_
          refine lv_aload_n hx hb dX8_addSpan_42 rfl (lv_at hl 1 rfl) ?_
          refine va_get (D := (dC, dI)) (ci := 7) (v := .int v0_11) (C := RX8) (T := TX8) (N := 12) hx hb hta uw_X8 hown hK hP 0 rfl rfl 11 (by decide) (hta _ mA359) (fun _ h9 => h9) rfl dX8_addSpan_43 ?_
          refine lv_iload_n hx hb dX8_addSpan_46 rfl (lv_at hl 2 rfl) ?_
          obtain ⟨g_6, hF⟩ := gd_some hF
          refine va_iast hx hb hK hP hD hS 3 0 rfl rfl (vpi_in g_6) dX8_addSpan_47 (fun H locs hP hD hS => ?_)
          obtain ⟨y_7, ey_7, hF⟩ := lt_some hF
          have hP : va_P (dC, dI) vwCl (wd_X8_addSpan cI a0 a1 v0_10 v0_11 v0_3 v0_6 y_7 v0_8 v0_9) H := by rw [ey_7]; exact hP
          have hD : va_D A (wd_X8_addSpan cI a0 a1 v0_10 v0_11 v0_3 v0_6 y_7 v0_8 v0_9) := by rw [ey_7]; exact hD
          refine lv_aload_n hx hb dX8_addSpan_48 rfl (lv_at hl 1 rfl) ?_
          refine va_get (D := (dC, dI)) (ci := 7) (v := .ref (a0 9)) (C := RX8) (T := TX8) (N := 12) hx hb hta uw_X8 hown hK hP 0 rfl rfl 8 (by decide) (hta _ mA89) (fun _ h9 => h9) rfl dX8_addSpan_49 ?_
          refine lv_aload_n hx hb dX8_addSpan_52 rfl (lv_at hl 1 rfl) ?_
          refine va_get (D := (dC, dI)) (ci := 7) (v := .int v0_11) (C := RX8) (T := TX8) (N := 12) hx hb hta uw_X8 hown hK hP 0 rfl rfl 11 (by decide) (hta _ mA359) (fun _ h9 => h9) rfl dX8_addSpan_53 ?_
          refine lv_iload_n hx hb dX8_addSpan_56 rfl (lv_at hl 3 rfl) ?_
          obtain ⟨g_8, hF⟩ := gd_some hF
          refine va_iast hx hb hK hP hD hS 4 0 rfl rfl (vpi_in g_8) dX8_addSpan_57 (fun H locs hP hD hS => ?_)
          obtain ⟨y_9, ey_9, hF⟩ := lt_some hF
          have hP : va_P (dC, dI) vwCl (wd_X8_addSpan cI a0 a1 v0_10 v0_11 v0_3 v0_6 y_7 y_9 v0_9) H := by rw [ey_9]; exact hP
          have hD : va_D A (wd_X8_addSpan cI a0 a1 v0_10 v0_11 v0_3 v0_6 y_7 y_9 v0_9) := by rw [ey_9]; exact hD
          refine lv_aload_n hx hb dX8_addSpan_58 rfl (lv_at hl 1 rfl) ?_
          refine va_get (D := (dC, dI)) (ci := 7) (v := .ref (a0 10)) (C := RX8) (T := TX8) (N := 12) hx hb hta uw_X8 hown hK hP 0 rfl rfl 9 (by decide) (hta _ mA90) (fun _ h9 => h9) rfl dX8_addSpan_59 ?_
          refine lv_aload_n hx hb dX8_addSpan_62 rfl (lv_at hl 1 rfl) ?_
          refine va_get (D := (dC, dI)) (ci := 7) (v := .int v0_11) (C := RX8) (T := TX8) (N := 12) hx hb hta uw_X8 hown hK hP 0 rfl rfl 11 (by decide) (hta _ mA359) (fun _ h9 => h9) rfl dX8_addSpan_63 ?_
          refine lv_iload_n hx hb dX8_addSpan_66 rfl (lv_at hl 4 rfl) ?_
          obtain ⟨g_10, hF⟩ := gd_some hF
          refine va_iast hx hb hK hP hD hS 5 0 rfl rfl (vpi_in g_10) dX8_addSpan_67 (fun H locs hP hD hS => ?_)
          obtain ⟨y_11, ey_11, hF⟩ := lt_some hF
          have hP : va_P (dC, dI) vwCl (wd_X8_addSpan cI a0 a1 v0_10 v0_11 v0_3 v0_6 y_7 y_9 y_11) H := by rw [ey_11]; exact hP
          have hD : va_D A (wd_X8_addSpan cI a0 a1 v0_10 v0_11 v0_3 v0_6 y_7 y_9 y_11) := by rw [ey_11]; exact hD
          refine lv_aload_n hx hb dX8_addSpan_68 rfl (lv_at hl 1 rfl) ?_
          refine lv_dup hx hb dX8_addSpan_69 rfl ?_
          refine va_get (D := (dC, dI)) (ci := 7) (v := .int v0_11) (C := RX8) (T := TX8) (N := 12) hx hb hta uw_X8 hown hK hP 0 rfl rfl 11 (by decide) (hta _ mA359) (fun _ h9 => h9) rfl dX8_addSpan_70 ?_
          refine lv_iconst (v := 1) hx hb dX8_addSpan_73 (by decide) ?_
          refine lv_iadd hx hb dX8_addSpan_74 ?_
          obtain ⟨y_12, ey_12, hF⟩ := lt_some hF
          refine lv_eqi ey_12 ?_
          refine va_put (D := (dC, dI)) (ci := 7) (v := .int y_12) (ty := .int) (C := RX8) (T := TX8) (N := 12) hx hb hta uw_X8 tyX8 tyX8_ok nmX8 hown hK hP hD hS 0 rfl rfl 11 (by decide) (hta _ mA359) (fun _ h9 => h9) rfl (by decide +kernel) rfl rfl (Nat.le_of_ble_eq_true rfl) dX8_addSpan_75 (fun H locs hP hD hS => ?_)
          have hP : va_P (dC, dI) vwCl (wd_X8_addSpan cI a0 a1 v0_10 y_12 v0_3 v0_6 y_7 y_9 y_11) H := hP
          have hD : va_D A (wd_X8_addSpan cI a0 a1 v0_10 y_12 v0_3 v0_6 y_7 y_9 y_11) := hD
          refine lv_aload_n hx hb dX8_addSpan_78 rfl (lv_at hl 1 rfl) ?_
          refine va_get (D := (dC, dI)) (ci := 7) (v := .ref (a0 4)) (C := RX8) (T := TX8) (N := 12) hx hb hta uw_X8 hown hK hP 0 rfl rfl 3 (by decide) (hta _ mA84) (fun _ h9 => h9) rfl dX8_addSpan_79 ?_
          refine lv_iload hx hb dX8_addSpan_82 (lv_at hl 0 rfl) ?_
          refine lv_dup2_11 hx hb dX8_addSpan_84 rfl rfl ?_
          obtain ⟨g_13, hF⟩ := gd_some hF
          refine va_iald hx hb hK hP 1 0 rfl rfl (vpi_in g_13) dX8_addSpan_85 ?_
          refine lv_iload_n hx hb dX8_addSpan_86 rfl (lv_at hl 4 rfl) ?_
          refine lv_iload_n hx hb dX8_addSpan_87 rfl (lv_at hl 3 rfl) ?_
          refine lv_isub hx hb dX8_addSpan_88 ?_
          refine lv_iadd hx hb dX8_addSpan_89 ?_
          obtain ⟨y_14, ey_14, hF⟩ := lt_some hF
          refine lv_eqi ey_14 ?_
          obtain ⟨g_15, hF⟩ := gd_some hF
          refine va_iast hx hb hK hP hD hS 1 0 rfl rfl (vpi_in g_15) dX8_addSpan_90 (fun H locs hP hD hS => ?_)
          obtain ⟨y_16, ey_16, hF⟩ := lt_some hF
          have hP : va_P (dC, dI) vwCl (wd_X8_addSpan cI a0 a1 v0_10 y_12 y_16 v0_6 y_7 y_9 y_11) H := by rw [ey_16]; exact hP
          have hD : va_D A (wd_X8_addSpan cI a0 a1 v0_10 y_12 y_16 v0_6 y_7 y_9 y_11) := by rw [ey_16]; exact hD
          refine lv_aload_n hx hb dX8_addSpan_91 rfl (lv_at hl 1 rfl) ?_
          refine va_get (D := (dC, dI)) (ci := 7) (v := .ref (a0 7)) (C := RX8) (T := TX8) (N := 12) hx hb hta uw_X8 hown hK hP 0 rfl rfl 6 (by decide) (hta _ mA87) (fun _ h9 => h9) rfl dX8_addSpan_92 ?_
          refine lv_iload hx hb dX8_addSpan_95 (lv_at hl 0 rfl) ?_
          refine lv_dup2_11 hx hb dX8_addSpan_97 rfl rfl ?_
          obtain ⟨g_17, hF⟩ := gd_some hF
          refine va_iald hx hb hK hP 2 0 rfl rfl (vpi_in g_17) dX8_addSpan_98 ?_
          refine lv_iconst (v := 1) hx hb dX8_addSpan_99 (by decide) ?_
          refine lv_iadd hx hb dX8_addSpan_100 ?_
          obtain ⟨y_18, ey_18, hF⟩ := lt_some hF
          refine lv_eqi ey_18 ?_
          obtain ⟨g_19, hF⟩ := gd_some hF
          refine va_iast hx hb hK hP hD hS 2 0 rfl rfl (vpi_in g_19) dX8_addSpan_101 (fun H locs hP hD hS => ?_)
          obtain ⟨y_20, ey_20, hF⟩ := lt_some hF
          have hP : va_P (dC, dI) vwCl (wd_X8_addSpan cI a0 a1 v0_10 y_12 y_16 y_20 y_7 y_9 y_11) H := by rw [ey_20]; exact hP
          have hD : va_D A (wd_X8_addSpan cI a0 a1 v0_10 y_12 y_16 y_20 y_7 y_9 y_11) := by rw [ey_20]; exact hD
          obtain rfl := Option.some.inj hF
          exact W.vret hx hb hr (fun t ht hW => ⟨⟨(), rfl, trivial, by rw [ht]; exact hP, va_K.moved hW.alike hK, hD⟩, hS.F ht⟩) hS.2.2 dX8_addSpan_102

-- StrokeOutliner$DashCursor.pass(I)Z
def F_X0_pass (v0_1 : Int32) (v0_3 : Int32) (v0_4 : Int32) (v0_0 : Nat → Int32) (p1 : Int32) : Option (Int32 × Int32 × Int32) :=
  lt (v0_4 - p1) (fun y_1 => if y_1 ≤ 0 then lt (v0_3 + 1) (fun y_3 => obd (F_X0_lengthOf v0_1 v0_0 y_3) (fun u_4 => some (1, y_3, u_4))) else some (0, v0_3, y_1))
abbrev wd_X0_pass (cI : ClassId) (a0 : Nat → Nat) (v0_1 : Int32) (v0_2 : Int32) (v0_3 : Int32) (v0_4 : Int32) (v0_0 : Nat → Int32) : va_W := [(a0 0, .inr (0, [.ref (a0 1), .int v0_1, .int v0_2, .int v0_3, .int v0_4])), (a0 1, .inl (cI, 6, .inl v0_0))]
abbrev wz_X0_pass : List Cond := .code yX0_pass cX0_pass 2 (some .boolean) :: wALL
abbrev rm_X0_pass : Room := { frames := 1, cells := 0, slots := 0, locals := 21 }
abbrev Q_X0_pass (dC : Nat → ClassId) (dI : Nat → Nat → Nat) (cI : ClassId) (a0 : Nat → Nat) (v0_1 : Int32) (v0_2 : Int32) (v0_0 : Nat → Int32) (u : (Int32 × Int32 × Int32)) (A : Nat → Prop) : Array Value → State → Outcome → State → Prop := va_Qi (fun (r : Int32) (_ : Unit) => r = u.1 ∧ (u.1 = 0 ∨ u.1 = 1)) (fun _ => q_at dC dI cI A (wd_X0_pass cI a0 v0_1 v0_2 u.2.1 u.2.2 v0_0)) A
set_option maxHeartbeats 4000000 in
set_option maxRecDepth 100000 in
theorem c_X0_pass (l : Launch) (dC : Nat → ClassId) (dI : Nat → Nat → Nat) (cI : ClassId) (sz : Nat) (a0 : Nat → Nat) (v0_1 : Int32) (v0_2 : Int32) (v0_3 : Int32) (v0_4 : Int32) (v0_0 : Nat → Int32) (p1 : Int32) (u : (Int32 × Int32 × Int32)) (hF : F_X0_pass v0_1 v0_3 v0_4 v0_0 p1 = some u) : Met l yX0_pass wz_X0_pass rm_X0_pass (va_Pc [.ref (a0 0), .int p1] (q_pre dC dI cI (wd_X0_pass cI a0 v0_1 v0_2 v0_3 v0_4 v0_0) sz)) (Q_X0_pass dC dI cI a0 v0_1 v0_2 v0_0 u (va_A (wd_X0_pass cI a0 v0_1 v0_2 v0_3 v0_4 v0_0) sz)) 0 0 (va_A (wd_X0_pass cI a0 v0_1 v0_2 v0_3 v0_4 v0_0) sz) := by
  refine Met.ofW (cc := cX0_pass) (maxL := 2) (ret := (some .boolean)) (by decide) rfl ?_
  intro p e s m args below meth c s₁ B hml hv
  obtain ⟨rfl, hsz, hP, hK, hD0⟩ := hv
  have hx := B.exec
  have hb := B.bytes
  have hr := B.returns
  have hts := atoms_spec (ws := wz_X0_pass) B.pre
  have hta := wz_tl hts
  have hown : s.vm.findClass RX0 = some m.cls := findClass_of_methodNamed B.named
  have hlocks := B.notSynchronized
  subst hsz
  have hD := hD0.self (sz := s.heap.size)
  generalize hAe : va_A (wd_X0_pass cI a0 v0_1 v0_2 v0_3 v0_4 v0_0) s.heap.size = A at hD ⊢
  have hA : ∀ q : Nat, s.heap.size ≤ q → A q := fun q h => by rw [← hAe]; exact Or.inr h
  have hS : va_S A s.heap s.heap [] := va_S.rf
  have hP : va_P (dC, dI) vwCl (wd_X0_pass cI a0 v0_1 v0_2 v0_3 v0_4 v0_0) s.heap := hP
  have hl := lv_entry ([.ref (a0 0), .int p1]) (n := 2) (Nat.le_of_ble_eq_true rfl)
  rw [lg_entry_eq]
  generalize (lg_sl ([.ref (a0 0), .int p1]) ++ List.replicate (2 - (lg_sl ([.ref (a0 0), .int p1])).length) Slot.unset).toArray = ls at hl ⊢
  have hl : lv_has ls 2 [(0, .ref (a0 0)), (1, .int p1)] := hl
  obtain ⟨H, hHe⟩ : ∃ H, H = s.heap := ⟨_, rfl⟩
  have hS : va_S A s.heap H [] := by rw [hHe]; exact hS
  have hP : va_P (dC, dI) vwCl (wd_X0_pass cI a0 v0_1 v0_2 v0_3 v0_4 v0_0) H := by rw [hHe]; exact hP
  rw [← hHe]
  unfold F_X0_pass at hF
  refine lv_aload_n hx hb dX0_pass_0 rfl (lv_at hl 0 rfl) ?_
  refine lv_dup hx hb dX0_pass_1 rfl ?_
  refine va_get (D := (dC, dI)) (ci := 0) (v := .int v0_4) (C := RX0) (T := TX0) (N := 5) hx hb hta uw_X0 hown hK hP 0 rfl rfl 4 (by decide) (hta _ mA374) (fun _ h9 => h9) rfl dX0_pass_2 ?_
  refine lv_iload_n hx hb dX0_pass_5 rfl (lv_at hl 1 rfl) ?_
  refine lv_isub hx hb dX0_pass_6 ?_
  obtain ⟨y_1, ey_1, hF⟩ := lt_some hF
  refine lv_eqi ey_1 ?_
  refine va_put (D := (dC, dI)) (ci := 0) (v := .int y_1) (ty := .int) (C := RX0) (T := TX0) (N := 5) hx hb hta uw_X0 tyX0 tyX0_ok nmX0 hown hK hP hD hS 0 rfl rfl 4 (by decide) (hta _ mA374) (fun _ h9 => h9) rfl (by decide +kernel) rfl rfl (Nat.le_of_ble_eq_true rfl) dX0_pass_7 (fun H locs hP hD hS => ?_)
  have hP : va_P (dC, dI) vwCl (wd_X0_pass cI a0 v0_1 v0_2 v0_3 y_1 v0_0) H := hP
  have hD : va_D A (wd_X0_pass cI a0 v0_1 v0_2 v0_3 y_1 v0_0) := hD
  refine lv_aload_n hx hb dX0_pass_10 rfl (lv_at hl 0 rfl) ?_
  refine va_get (D := (dC, dI)) (ci := 0) (v := .int y_1) (C := RX0) (T := TX0) (N := 5) hx hb hta uw_X0 hown hK hP 0 rfl rfl 4 (by decide) (hta _ mA374) (fun _ h9 => h9) rfl dX0_pass_11 ?_
  refine lv_if_le (tgt := 19) hx hb dX0_pass_14 (by decide) (fun c_2 => ?_) (fun c_2 => ?_)
  · have hF := it_t hF c_2
    refine lv_aload_n hx hb dX0_pass_19 rfl (lv_at hl 0 rfl) ?_
    refine lv_dup hx hb dX0_pass_20 rfl ?_
    refine va_get (D := (dC, dI)) (ci := 0) (v := .int v0_3) (C := RX0) (T := TX0) (N := 5) hx hb hta uw_X0 hown hK hP 0 rfl rfl 3 (by decide) (hta _ mA373) (fun _ h9 => h9) rfl dX0_pass_21 ?_
    refine lv_iconst (v := 1) hx hb dX0_pass_24 (by decide) ?_
    refine lv_iadd hx hb dX0_pass_25 ?_
    obtain ⟨y_3, ey_3, hF⟩ := lt_some hF
    refine lv_eqi ey_3 ?_
    refine va_put (D := (dC, dI)) (ci := 0) (v := .int y_3) (ty := .int) (C := RX0) (T := TX0) (N := 5) hx hb hta uw_X0 tyX0 tyX0_ok nmX0 hown hK hP hD hS 0 rfl rfl 3 (by decide) (hta _ mA373) (fun _ h9 => h9) rfl (by decide +kernel) rfl rfl (Nat.le_of_ble_eq_true rfl) dX0_pass_26 (fun H locs hP hD hS => ?_)
    have hP : va_P (dC, dI) vwCl (wd_X0_pass cI a0 v0_1 v0_2 y_3 y_1 v0_0) H := hP
    have hD : va_D A (wd_X0_pass cI a0 v0_1 v0_2 y_3 y_1 v0_0) := hD
    refine lv_aload_n hx hb dX0_pass_29 rfl (lv_at hl 0 rfl) ?_
    refine lv_aload_n hx hb dX0_pass_30 rfl (lv_at hl 0 rfl) ?_
    refine lv_aload_n hx hb dX0_pass_31 rfl (lv_at hl 0 rfl) ?_
    refine va_get (D := (dC, dI)) (ci := 0) (v := .int y_3) (C := RX0) (T := TX0) (N := 5) hx hb hta uw_X0 hown hK hP 0 rfl rfl 3 (by decide) (hta _ mA373) (fun _ h9 => h9) rfl dX0_pass_32 ?_
    obtain ⟨u_4, hu_4, hF⟩ := obd_some hF
    have hPc := hP.sub (ws' := (wd_X0_lengthOf cI a0 v0_1 v0_2 y_3 y_1 v0_0)) [0, 1] rfl
    have hDc := hD.sub (ws' := (wd_X0_lengthOf cI a0 v0_1 v0_2 y_3 y_1 v0_0)) [0, 1] rfl rfl
    refine q_calli (wc := (wd_X0_lengthOf cI a0 v0_1 v0_2 y_3 y_1 v0_0)) (w1 := (wd_X0_lengthOf cI a0 v0_1 v0_2 y_3 y_1 v0_0)) (ws' := (wd_X0_pass cI a0 v0_1 v0_2 y_3 y_1 v0_0)) hP hD hS hA [0, 1] [] [0, 1] rfl rfl rfl (by decide) rfl rfl (va_runV (As := [.int y_3]) (rest := [.ref (a0 0)]) ⟨hx, hb, hml, hown, hta⟩ (c_X0_lengthOf l dC dI cI H.size a0 v0_1 v0_2 y_3 y_1 v0_0 y_3 u_4 hu_4) (cwV 1 hta (ga_V mA375 mA376 mA377 mA80 mA378) rfl rfl rfl (by decide +kernel) ⟨Nat.le_of_ble_eq_true rfl, Nat.le_of_ble_eq_true rfl⟩) ⟨q_fb, va_recv hK hP (ci := 0) (q0 := 0) rfl rfl, q_ps hPc hK hDc⟩ rfl rfl hl.1 rfl (lv_room (Nat.le_of_ble_eq_true rfl)) dX0_pass_35 ⟨Nat.zero_le _, Nat.zero_le _⟩) (fun H locs hP hD hS => ?_)
    refine va_put (D := (dC, dI)) (ci := 0) (v := .int u_4) (ty := .int) (C := RX0) (T := TX0) (N := 5) hx hb hta uw_X0 tyX0 tyX0_ok nmX0 hown hK hP hD hS 0 rfl rfl 4 (by decide) (hta _ mA374) (fun _ h9 => h9) rfl (by decide +kernel) rfl rfl (Nat.le_of_ble_eq_true rfl) dX0_pass_38 (fun H locs hP hD hS => ?_)
    have hP : va_P (dC, dI) vwCl (wd_X0_pass cI a0 v0_1 v0_2 y_3 u_4 v0_0) H := hP
    have hD : va_D A (wd_X0_pass cI a0 v0_1 v0_2 y_3 u_4 v0_0) := hD
    refine lv_iconst (v := 1) hx hb dX0_pass_41 (by decide) ?_
    obtain rfl := Option.some.inj hF
    exact W.zret (v := 1) (ty := .boolean) hx hb hr (z_nar (Or.inr rfl)) (fun t ht hW => ⟨⟨1, (), rfl, ⟨rfl, (Or.inr rfl)⟩, by rw [ht]; exact hP, va_K.moved hW.alike hK, hD⟩, hS.F ht⟩) hS.2.2 dX0_pass_42
  · have hF := it_f hF c_2
    refine lv_iconst (v := 0) hx hb dX0_pass_17 (by decide) ?_
    obtain rfl := Option.some.inj hF
    exact W.zret (v := 0) (ty := .boolean) hx hb hr (z_nar (Or.inl rfl)) (fun t ht hW => ⟨⟨0, (), rfl, ⟨rfl, (Or.inl rfl)⟩, by rw [ht]; exact hP, va_K.moved hW.alike hK, hD⟩, hS.F ht⟩) hS.2.2 dX0_pass_18

-- StrokeOutliner$Runs.walkSubpath(LStrokeOutliner$Segments;I)V
def F_X8_walkSubpath_j126 (v0_10 : Int32) (v0_11 : Int32) (v0_2 : Nat → Int32) (v0_3 : Nat → Int32) (v0_4 : Nat → Int32) (v0_5 : Nat → Int32) (v0_6 : Nat → Int32) (v0_7 : Nat → Int32) (v0_8 : Nat → Int32) (v0_9 : Nat → Int32) (v1_3 : Int32) (v1_4 : Int32) (x3 : Int32) (x4 : Int32) (x5 : Int32) (x6 : Int32) : Option (Sum (Int32 × Int32 × Int32 × Int32 × Int32 × (Nat → Int32) × (Nat → Int32) × (Nat → Int32) × (Nat → Int32) × (Nat → Int32) × (Nat → Int32) × (Nat → Int32) × (Nat → Int32) × Int32 × Int32) (Int32 × Int32 × (Nat → Int32) × (Nat → Int32) × (Nat → Int32) × (Nat → Int32) × (Nat → Int32) × (Nat → Int32) × (Nat → Int32) × (Nat → Int32) × Int32 × Int32)) :=
  lt (x4 + x6) (fun y_1 => lt (x5 + 1) (fun y_2 => some (.inl (x3, y_1, y_2, v0_10, v0_11, v0_2, v0_3, v0_4, v0_5, v0_6, v0_7, v0_8, v0_9, v1_3, v1_4))))
def F_X8_walkSubpath_j116 (v0_10 : Int32) (v0_11 : Int32) (v0_2 : Nat → Int32) (v0_3 : Nat → Int32) (v0_4 : Nat → Int32) (v0_5 : Nat → Int32) (v0_6 : Nat → Int32) (v0_7 : Nat → Int32) (v0_8 : Nat → Int32) (v0_9 : Nat → Int32) (v1_3 : Int32) (v1_4 : Int32) (x3 : Int32) (x7 : Int32) (x8 : Int32) : Option (Sum (Int32 × Int32 × Int32 × Int32 × (Nat → Int32) × (Nat → Int32) × (Nat → Int32) × (Nat → Int32) × (Nat → Int32) × (Nat → Int32) × (Nat → Int32) × (Nat → Int32) × Int32 × Int32) (Int32 × Int32 × Int32 × (Nat → Int32) × (Nat → Int32) × (Nat → Int32) × (Nat → Int32) × (Nat → Int32) × (Nat → Int32) × (Nat → Int32) × (Nat → Int32) × Int32 × Int32)) :=
  lt (x8 + x7) (fun y_3 => some (.inl (x3, y_3, v0_10, v0_11, v0_2, v0_3, v0_4, v0_5, v0_6, v0_7, v0_8, v0_9, v1_3, v1_4)))
def F_X8_walkSubpath_j102 (v0_10 : Int32) (v0_11 : Int32) (v0_2 : Nat → Int32) (v0_3 : Nat → Int32) (v0_4 : Nat → Int32) (v0_5 : Nat → Int32) (v0_6 : Nat → Int32) (v0_7 : Nat → Int32) (v0_8 : Nat → Int32) (v0_9 : Nat → Int32) (v1_1 : Int32) (v1_3 : Int32) (v1_4 : Int32) (v1_0 : Nat → Int32) (x3 : Int32) (x7 : Int32) (x8 : Int32) : Option (Sum (Int32 × Int32 × Int32 × Int32 × (Nat → Int32) × (Nat → Int32) × (Nat → Int32) × (Nat → Int32) × (Nat → Int32) × (Nat → Int32) × (Nat → Int32) × (Nat → Int32) × Int32 × Int32) (Int32 × Int32 × Int32 × (Nat → Int32) × (Nat → Int32) × (Nat → Int32) × (Nat → Int32) × (Nat → Int32) × (Nat → Int32) × (Nat → Int32) × (Nat → Int32) × Int32 × Int32)) :=
  obd (F_X0_pass v1_1 v1_3 v1_4 v1_0 x7) (fun u_4 => if u_4.1 = 0 then F_X8_walkSubpath_j116 v0_10 v0_11 v0_2 v0_3 v0_4 v0_5 v0_6 v0_7 v0_8 v0_9 u_4.2.1 u_4.2.2 x3 x7 x8 else F_X8_walkSubpath_j116 v0_10 v0_11 v0_2 v0_3 v0_4 v0_5 v0_6 v0_7 v0_8 v0_9 u_4.2.1 u_4.2.2 0 x7 x8)
def F_X8_walkSubpath_j87 (v0_10 : Int32) (v0_11 : Int32) (v0_2 : Nat → Int32) (v0_3 : Nat → Int32) (v0_4 : Nat → Int32) (v0_5 : Nat → Int32) (v0_6 : Nat → Int32) (v0_7 : Nat → Int32) (v0_8 : Nat → Int32) (v0_9 : Nat → Int32) (v1_1 : Int32) (v1_3 : Int32) (v1_4 : Int32) (v1_0 : Nat → Int32) (x5 : Int32) (x7 : Int32) (x8 : Int32) : Option (Sum (Int32 × Int32 × Int32 × Int32 × (Nat → Int32) × (Nat → Int32) × (Nat → Int32) × (Nat → Int32) × (Nat → Int32) × (Nat → Int32) × (Nat → Int32) × (Nat → Int32) × Int32 × Int32) (Int32 × Int32 × Int32 × (Nat → Int32) × (Nat → Int32) × (Nat → Int32) × (Nat → Int32) × (Nat → Int32) × (Nat → Int32) × (Nat → Int32) × (Nat → Int32) × Int32 × Int32)) :=
  obd (F_X8_addSpan v0_10 v0_11 v0_3 v0_6 v0_7 v0_8 v0_9 x5 x8 (x8 + x7)) (fun u_6 => F_X8_walkSubpath_j102 v0_10 u_6.1 v0_2 u_6.2.1 v0_4 v0_5 u_6.2.2.1 u_6.2.2.2.1 u_6.2.2.2.2.1 u_6.2.2.2.2.2 v1_1 v1_3 v1_4 v1_0 1 x7 x8)
def F_X8_walkSubpath_b36 (v1_1 : Int32) (v1_0 : Nat → Int32) (x4 : Int32) (x5 : Int32) (x6 : Int32) (s36 : Int32 × Int32 × Int32 × Int32 × (Nat → Int32) × (Nat → Int32) × (Nat → Int32) × (Nat → Int32) × (Nat → Int32) × (Nat → Int32) × (Nat → Int32) × (Nat → Int32) × Int32 × Int32) : Option (Sum (Int32 × Int32 × Int32 × Int32 × (Nat → Int32) × (Nat → Int32) × (Nat → Int32) × (Nat → Int32) × (Nat → Int32) × (Nat → Int32) × (Nat → Int32) × (Nat → Int32) × Int32 × Int32) (Int32 × Int32 × Int32 × (Nat → Int32) × (Nat → Int32) × (Nat → Int32) × (Nat → Int32) × (Nat → Int32) × (Nat → Int32) × (Nat → Int32) × (Nat → Int32) × Int32 × Int32)) :=
  if x6 ≤ s36.2.1 then some (.inr (s36.1, s36.2.2.1, s36.2.2.2.1, s36.2.2.2.2.1, s36.2.2.2.2.2.1, s36.2.2.2.2.2.2.1, s36.2.2.2.2.2.2.2.1, s36.2.2.2.2.2.2.2.2.1, s36.2.2.2.2.2.2.2.2.2.1, s36.2.2.2.2.2.2.2.2.2.2.1, s36.2.2.2.2.2.2.2.2.2.2.2.1, s36.2.2.2.2.2.2.2.2.2.2.2.2.1, s36.2.2.2.2.2.2.2.2.2.2.2.2.2)) else lt (F_X0_ahead s36.2.2.2.2.2.2.2.2.2.2.2.2.2) (fun u_8 => lt (x6 - s36.2.1) (fun y_9 => lt (if y_9 < u_8 then y_9 else u_8) (fun y_10 => lt (if 1 < y_10 then y_10 else 1) (fun y_11 => lt (F_X0_isOn s36.2.2.2.2.2.2.2.2.2.2.2.2.1) (fun u_12 => if u_12 = 0 then F_X8_walkSubpath_j102 s36.2.2.1 s36.2.2.2.1 s36.2.2.2.2.1 s36.2.2.2.2.2.1 s36.2.2.2.2.2.2.1 s36.2.2.2.2.2.2.2.1 s36.2.2.2.2.2.2.2.2.1 s36.2.2.2.2.2.2.2.2.2.1 s36.2.2.2.2.2.2.2.2.2.2.1 s36.2.2.2.2.2.2.2.2.2.2.2.1 v1_1 s36.2.2.2.2.2.2.2.2.2.2.2.2.1 s36.2.2.2.2.2.2.2.2.2.2.2.2.2 v1_0 s36.1 y_11 s36.2.1 else if s36.1 = 0 then obd (F_X8_addRun s36.2.2.1 s36.2.2.2.1 s36.2.2.2.2.1 s36.2.2.2.2.2.1 s36.2.2.2.2.2.2.1 s36.2.2.2.2.2.2.2.1 s36.2.2.2.2.2.2.2.2.1 (x4 + s36.2.1)) (fun u_15 => F_X8_walkSubpath_j87 u_15.1 s36.2.2.2.1 u_15.2.1 u_15.2.2.1 u_15.2.2.2.1 u_15.2.2.2.2.1 u_15.2.2.2.2.2 s36.2.2.2.2.2.2.2.2.2.1 s36.2.2.2.2.2.2.2.2.2.2.1 s36.2.2.2.2.2.2.2.2.2.2.2.1 v1_1 s36.2.2.2.2.2.2.2.2.2.2.2.2.1 s36.2.2.2.2.2.2.2.2.2.2.2.2.2 v1_0 x5 y_11 s36.2.1) else F_X8_walkSubpath_j87 s36.2.2.1 s36.2.2.2.1 s36.2.2.2.2.1 s36.2.2.2.2.2.1 s36.2.2.2.2.2.2.1 s36.2.2.2.2.2.2.2.1 s36.2.2.2.2.2.2.2.2.1 s36.2.2.2.2.2.2.2.2.2.1 s36.2.2.2.2.2.2.2.2.2.2.1 s36.2.2.2.2.2.2.2.2.2.2.2.1 v1_1 s36.2.2.2.2.2.2.2.2.2.2.2.2.1 s36.2.2.2.2.2.2.2.2.2.2.2.2.2 v1_0 x5 y_11 s36.2.1)))))
def F_X8_walkSubpath_j36 (n : Nat) (v0_10 : Int32) (v0_11 : Int32) (v0_2 : Nat → Int32) (v0_3 : Nat → Int32) (v0_4 : Nat → Int32) (v0_5 : Nat → Int32) (v0_6 : Nat → Int32) (v0_7 : Nat → Int32) (v0_8 : Nat → Int32) (v0_9 : Nat → Int32) (v1_1 : Int32) (v1_3 : Int32) (v1_4 : Int32) (v1_0 : Nat → Int32) (x3 : Int32) (x4 : Int32) (x5 : Int32) (x6 : Int32) (x8 : Int32) : Option (Sum (Int32 × Int32 × Int32 × Int32 × Int32 × (Nat → Int32) × (Nat → Int32) × (Nat → Int32) × (Nat → Int32) × (Nat → Int32) × (Nat → Int32) × (Nat → Int32) × (Nat → Int32) × Int32 × Int32) (Int32 × Int32 × (Nat → Int32) × (Nat → Int32) × (Nat → Int32) × (Nat → Int32) × (Nat → Int32) × (Nat → Int32) × (Nat → Int32) × (Nat → Int32) × Int32 × Int32)) :=
  obd (lpq (F_X8_walkSubpath_b36 v1_1 v1_0 x4 x5 x6) n (x3, x8, v0_10, v0_11, v0_2, v0_3, v0_4, v0_5, v0_6, v0_7, v0_8, v0_9, v1_3, v1_4)) (fun x_36 => F_X8_walkSubpath_j126 x_36.2.1 x_36.2.2.1 x_36.2.2.2.1 x_36.2.2.2.2.1 x_36.2.2.2.2.2.1 x_36.2.2.2.2.2.2.1 x_36.2.2.2.2.2.2.2.1 x_36.2.2.2.2.2.2.2.2.1 x_36.2.2.2.2.2.2.2.2.2.1 x_36.2.2.2.2.2.2.2.2.2.2.1 x_36.2.2.2.2.2.2.2.2.2.2.2.1 x_36.2.2.2.2.2.2.2.2.2.2.2.2 x_36.1 x4 x5 x6)
def F_X8_walkSubpath_b12 (n : Nat) (v1_1 : Int32) (v1_0 : Nat → Int32) (v2_0 : Nat → Int32) (v2_5 : Nat → Int32) (x2 : Int32) (s12 : Int32 × Int32 × Int32 × Int32 × Int32 × (Nat → Int32) × (Nat → Int32) × (Nat → Int32) × (Nat → Int32) × (Nat → Int32) × (Nat → Int32) × (Nat → Int32) × (Nat → Int32) × Int32 × Int32) : Option (Sum (Int32 × Int32 × Int32 × Int32 × Int32 × (Nat → Int32) × (Nat → Int32) × (Nat → Int32) × (Nat → Int32) × (Nat → Int32) × (Nat → Int32) × (Nat → Int32) × (Nat → Int32) × Int32 × Int32) (Int32 × Int32 × (Nat → Int32) × (Nat → Int32) × (Nat → Int32) × (Nat → Int32) × (Nat → Int32) × (Nat → Int32) × (Nat → Int32) × (Nat → Int32) × Int32 × Int32)) :=
  obd (F_X9_endOf v2_0 x2) (fun u_16 => if u_16 ≤ s12.2.2.1 then some (.inr (s12.2.2.2.1, s12.2.2.2.2.1, s12.2.2.2.2.2.1, s12.2.2.2.2.2.2.1, s12.2.2.2.2.2.2.2.1, s12.2.2.2.2.2.2.2.2.1, s12.2.2.2.2.2.2.2.2.2.1, s12.2.2.2.2.2.2.2.2.2.2.1, s12.2.2.2.2.2.2.2.2.2.2.2.1, s12.2.2.2.2.2.2.2.2.2.2.2.2.1, s12.2.2.2.2.2.2.2.2.2.2.2.2.2.1, s12.2.2.2.2.2.2.2.2.2.2.2.2.2.2)) else obd (F_X9_size v2_5 s12.2.2.1) (fun u_18 => F_X8_walkSubpath_j36 n s12.2.2.2.1 s12.2.2.2.2.1 s12.2.2.2.2.2.1 s12.2.2.2.2.2.2.1 s12.2.2.2.2.2.2.2.1 s12.2.2.2.2.2.2.2.2.1 s12.2.2.2.2.2.2.2.2.2.1 s12.2.2.2.2.2.2.2.2.2.2.1 s12.2.2.2.2.2.2.2.2.2.2.2.1 s12.2.2.2.2.2.2.2.2.2.2.2.2.1 v1_1 s12.2.2.2.2.2.2.2.2.2.2.2.2.2.1 s12.2.2.2.2.2.2.2.2.2.2.2.2.2.2 v1_0 s12.1 s12.2.1 s12.2.2.1 u_18 0))
def F_X8_walkSubpath_j12 (n : Nat) (v0_10 : Int32) (v0_11 : Int32) (v0_2 : Nat → Int32) (v0_3 : Nat → Int32) (v0_4 : Nat → Int32) (v0_5 : Nat → Int32) (v0_6 : Nat → Int32) (v0_7 : Nat → Int32) (v0_8 : Nat → Int32) (v0_9 : Nat → Int32) (v1_1 : Int32) (v1_3 : Int32) (v1_4 : Int32) (v1_0 : Nat → Int32) (v2_0 : Nat → Int32) (v2_5 : Nat → Int32) (x2 : Int32) (x3 : Int32) (x4 : Int32) (x5 : Int32) : Option (Int32 × Int32 × (Nat → Int32) × (Nat → Int32) × (Nat → Int32) × (Nat → Int32) × (Nat → Int32) × (Nat → Int32) × (Nat → Int32) × (Nat → Int32) × Int32 × Int32) :=
  obd (lpq (F_X8_walkSubpath_b12 n v1_1 v1_0 v2_0 v2_5 x2) n (x3, x4, x5, v0_10, v0_11, v0_2, v0_3, v0_4, v0_5, v0_6, v0_7, v0_8, v0_9, v1_3, v1_4)) (fun x_12 => some (x_12.1, x_12.2.1, x_12.2.2.1, x_12.2.2.2.1, x_12.2.2.2.2.1, x_12.2.2.2.2.2.1, x_12.2.2.2.2.2.2.1, x_12.2.2.2.2.2.2.2.1, x_12.2.2.2.2.2.2.2.2.1, x_12.2.2.2.2.2.2.2.2.2.1, x_12.2.2.2.2.2.2.2.2.2.2.1, x_12.2.2.2.2.2.2.2.2.2.2.2))
def F_X8_walkSubpath (n : Nat) (v0_10 : Int32) (v0_11 : Int32) (v0_2 : Nat → Int32) (v0_3 : Nat → Int32) (v0_4 : Nat → Int32) (v0_5 : Nat → Int32) (v0_6 : Nat → Int32) (v0_7 : Nat → Int32) (v0_8 : Nat → Int32) (v0_9 : Nat → Int32) (v1_1 : Int32) (v1_3 : Int32) (v1_4 : Int32) (v1_0 : Nat → Int32) (v2_0 : Nat → Int32) (v2_5 : Nat → Int32) (p2 : Int32) : Option (Int32 × Int32 × (Nat → Int32) × (Nat → Int32) × (Nat → Int32) × (Nat → Int32) × (Nat → Int32) × (Nat → Int32) × (Nat → Int32) × (Nat → Int32) × Int32 × Int32) :=
  obd (F_X9_firstOf v2_0 p2) (fun u_19 => F_X8_walkSubpath_j12 n v0_10 v0_11 v0_2 v0_3 v0_4 v0_5 v0_6 v0_7 v0_8 v0_9 v1_1 v1_3 v1_4 v1_0 v2_0 v2_5 p2 0 0 u_19)
abbrev wd_X8_walkSubpath (cI : ClassId) (a0 : Nat → Nat) (a1 : Nat → Nat) (a2 : Nat → Nat) (v0_10 : Int32) (v0_11 : Int32) (v0_2 : Nat → Int32) (v0_3 : Nat → Int32) (v0_4 : Nat → Int32) (v0_5 : Nat → Int32) (v0_6 : Nat → Int32) (v0_7 : Nat → Int32) (v0_8 : Nat → Int32) (v0_9 : Nat → Int32) (v1_1 : Int32) (v1_2 : Int32) (v1_3 : Int32) (v1_4 : Int32) (v1_0 : Nat → Int32) (v2_10 : Int32) (v2_0 : Nat → Int32) (v2_5 : Nat → Int32) : va_W := [(a0 0, .inr (7, [.ref (a1 0), .ref (a0 2), .ref (a0 3), .ref (a0 4), .ref (a0 5), .ref (a0 6), .ref (a0 7), .ref (a0 8), .ref (a0 9), .ref (a0 10), .int v0_10, .int v0_11])), (a0 3, .inl (cI, 928, .inl v0_2)), (a0 4, .inl (cI, 928, .inl v0_3)), (a0 5, .inl (cI, 928, .inl v0_4)), (a0 6, .inl (cI, 928, .inl v0_5)), (a0 7, .inl (cI, 928, .inl v0_6)), (a0 8, .inl (cI, 1024, .inl v0_7)), (a0 9, .inl (cI, 1024, .inl v0_8)), (a0 10, .inl (cI, 1024, .inl v0_9)), (a1 0, .inr (0, [.ref (a1 1), .int v1_1, .int v1_2, .int v1_3, .int v1_4])), (a1 1, .inl (cI, 6, .inl v1_0)), (a2 0, .inr (8, [.ref (a2 1), .ref (a2 2), .ref (a2 3), .ref (a2 4), .ref (a2 5), .ref (a2 6), .ref (a2 7), .ref (a2 8), .ref (a2 9), .ref (a2 10), .int v2_10])), (a2 1, .inl (cI, 5, .inl v2_0)), (a2 6, .inl (cI, 32, .inl v2_5))]
abbrev wz_X8_walkSubpath : List Cond := .code yX8_walkSubpath cX8_walkSubpath 9 none :: wALL
abbrev rm_X8_walkSubpath : Room := { frames := 2, cells := 0, slots := 0, locals := 42 }
abbrev Q_X8_walkSubpath (dC : Nat → ClassId) (dI : Nat → Nat → Nat) (cI : ClassId) (a0 : Nat → Nat) (a1 : Nat → Nat) (a2 : Nat → Nat) (v1_1 : Int32) (v1_2 : Int32) (v1_0 : Nat → Int32) (v2_10 : Int32) (v2_0 : Nat → Int32) (v2_5 : Nat → Int32) (u : (Int32 × Int32 × (Nat → Int32) × (Nat → Int32) × (Nat → Int32) × (Nat → Int32) × (Nat → Int32) × (Nat → Int32) × (Nat → Int32) × (Nat → Int32) × Int32 × Int32)) (A : Nat → Prop) : Array Value → State → Outcome → State → Prop := va_Qv (fun (_ : Unit) => True) (fun _ => q_at dC dI cI A (wd_X8_walkSubpath cI a0 a1 a2 u.1 u.2.1 u.2.2.1 u.2.2.2.1 u.2.2.2.2.1 u.2.2.2.2.2.1 u.2.2.2.2.2.2.1 u.2.2.2.2.2.2.2.1 u.2.2.2.2.2.2.2.2.1 u.2.2.2.2.2.2.2.2.2.1 v1_1 v1_2 u.2.2.2.2.2.2.2.2.2.2.1 u.2.2.2.2.2.2.2.2.2.2.2 v1_0 v2_10 v2_0 v2_5)) A
set_option maxHeartbeats 4000000 in
set_option maxRecDepth 100000 in
theorem c_X8_walkSubpath (l : Launch) (dC : Nat → ClassId) (dI : Nat → Nat → Nat) (cI : ClassId) (sz : Nat) (a0 : Nat → Nat) (a1 : Nat → Nat) (a2 : Nat → Nat) (v0_10 : Int32) (v0_11 : Int32) (v0_2 : Nat → Int32) (v0_3 : Nat → Int32) (v0_4 : Nat → Int32) (v0_5 : Nat → Int32) (v0_6 : Nat → Int32) (v0_7 : Nat → Int32) (v0_8 : Nat → Int32) (v0_9 : Nat → Int32) (v1_1 : Int32) (v1_2 : Int32) (v1_3 : Int32) (v1_4 : Int32) (v1_0 : Nat → Int32) (v2_10 : Int32) (v2_0 : Nat → Int32) (v2_5 : Nat → Int32) (p2 : Int32) (n : Nat) (u : (Int32 × Int32 × (Nat → Int32) × (Nat → Int32) × (Nat → Int32) × (Nat → Int32) × (Nat → Int32) × (Nat → Int32) × (Nat → Int32) × (Nat → Int32) × Int32 × Int32)) (hF : F_X8_walkSubpath n v0_10 v0_11 v0_2 v0_3 v0_4 v0_5 v0_6 v0_7 v0_8 v0_9 v1_1 v1_3 v1_4 v1_0 v2_0 v2_5 p2 = some u) : Met l yX8_walkSubpath wz_X8_walkSubpath rm_X8_walkSubpath (va_Pc [.ref (a0 0), .ref (a2 0), .int p2] (q_pre dC dI cI (wd_X8_walkSubpath cI a0 a1 a2 v0_10 v0_11 v0_2 v0_3 v0_4 v0_5 v0_6 v0_7 v0_8 v0_9 v1_1 v1_2 v1_3 v1_4 v1_0 v2_10 v2_0 v2_5) sz)) (Q_X8_walkSubpath dC dI cI a0 a1 a2 v1_1 v1_2 v1_0 v2_10 v2_0 v2_5 u (va_A (wd_X8_walkSubpath cI a0 a1 a2 v0_10 v0_11 v0_2 v0_3 v0_4 v0_5 v0_6 v0_7 v0_8 v0_9 v1_1 v1_2 v1_3 v1_4 v1_0 v2_10 v2_0 v2_5) sz)) 0 0 (va_A (wd_X8_walkSubpath cI a0 a1 a2 v0_10 v0_11 v0_2 v0_3 v0_4 v0_5 v0_6 v0_7 v0_8 v0_9 v1_1 v1_2 v1_3 v1_4 v1_0 v2_10 v2_0 v2_5) sz) := by
  refine Met.ofW (cc := cX8_walkSubpath) (maxL := 9) (ret := none) (by decide) rfl ?_
  intro p e s m args below meth c s₁ B hml hv
  obtain ⟨rfl, hsz, hP, hK, hD0⟩ := hv
  have hx := B.exec
  have hb := B.bytes
  have hr := B.returns
  have hts := atoms_spec (ws := wz_X8_walkSubpath) B.pre
  have hta := wz_tl hts
  have hown : s.vm.findClass RX8 = some m.cls := findClass_of_methodNamed B.named
  have hlocks := B.notSynchronized
  subst hsz
  have hD := hD0.self (sz := s.heap.size)
  generalize hAe : va_A (wd_X8_walkSubpath cI a0 a1 a2 v0_10 v0_11 v0_2 v0_3 v0_4 v0_5 v0_6 v0_7 v0_8 v0_9 v1_1 v1_2 v1_3 v1_4 v1_0 v2_10 v2_0 v2_5) s.heap.size = A at hD ⊢
  have hA : ∀ q : Nat, s.heap.size ≤ q → A q := fun q h => by rw [← hAe]; exact Or.inr h
  have hS : va_S A s.heap s.heap [] := va_S.rf
  have hP : va_P (dC, dI) vwCl (wd_X8_walkSubpath cI a0 a1 a2 v0_10 v0_11 v0_2 v0_3 v0_4 v0_5 v0_6 v0_7 v0_8 v0_9 v1_1 v1_2 v1_3 v1_4 v1_0 v2_10 v2_0 v2_5) s.heap := hP
  have hl := lv_entry ([.ref (a0 0), .ref (a2 0), .int p2]) (n := 9) (Nat.le_of_ble_eq_true rfl)
  rw [lg_entry_eq]
  generalize (lg_sl ([.ref (a0 0), .ref (a2 0), .int p2]) ++ List.replicate (9 - (lg_sl ([.ref (a0 0), .ref (a2 0), .int p2])).length) Slot.unset).toArray = ls at hl ⊢
  have hl : lv_has ls 9 [(0, .ref (a0 0)), (1, .ref (a2 0)), (2, .int p2)] := hl
  obtain ⟨H, hHe⟩ : ∃ H, H = s.heap := ⟨_, rfl⟩
  have hS : va_S A s.heap H [] := by rw [hHe]; exact hS
  have hP : va_P (dC, dI) vwCl (wd_X8_walkSubpath cI a0 a1 a2 v0_10 v0_11 v0_2 v0_3 v0_4 v0_5 v0_6 v0_7 v0_8 v0_9 v1_1 v1_2 v1_3 v1_4 v1_0 v2_10 v2_0 v2_5) H := by rw [hHe]; exact hP
  rw [← hHe]
  unfold F_X8_walkSubpath at hF
  have j12 : ∀ (v0_10 : Int32) (v0_11 : Int32) (v0_2 : Nat → Int32) (v0_3 : Nat → Int32) (v0_4 : Nat → Int32) (v0_5 : Nat → Int32) (v0_6 : Nat → Int32) (v0_7 : Nat → Int32) (v0_8 : Nat → Int32) (v0_9 : Nat → Int32) (v1_3 : Int32) (v1_4 : Int32) (x2 : Int32) (x3 : Int32) (x4 : Int32) (x5 : Int32), F_X8_walkSubpath_j12 n v0_10 v0_11 v0_2 v0_3 v0_4 v0_5 v0_6 v0_7 v0_8 v0_9 v1_1 v1_3 v1_4 v1_0 v2_0 v2_5 x2 x3 x4 x5 = some u → ∀ (H : Heap) (locs : List Loc) (ls : Array Slot), va_P (dC, dI) vwCl (wd_X8_walkSubpath cI a0 a1 a2 v0_10 v0_11 v0_2 v0_3 v0_4 v0_5 v0_6 v0_7 v0_8 v0_9 v1_1 v1_2 v1_3 v1_4 v1_0 v2_10 v2_0 v2_5) H → va_D A (wd_X8_walkSubpath cI a0 a1 a2 v0_10 v0_11 v0_2 v0_3 v0_4 v0_5 v0_6 v0_7 v0_8 v0_9 v1_1 v1_2 v1_3 v1_4 v1_0 v2_10 v2_0 v2_5) → va_S A s.heap H locs → lv_has ls 9 [(0, .ref (a0 0)), (1, .ref (a2 0)), (2, .int x2), (3, .int x3), (4, .int x4), (5, .int x5)] → W p l e (headSpec wz_X8_walkSubpath rm_X8_walkSubpath).room s m [.ref (a0 0), .ref (a2 0), .int p2].toArray below meth c H locs 0 0 (MQ below (Q_X8_walkSubpath dC dI cI a0 a1 a2 v1_1 v1_2 v1_0 v2_10 v2_0 v2_5 u A) [.ref (a0 0), .ref (a2 0), .int p2].toArray s 0 0 A) (F0 m 12 ls []) := by
    intro v0_10 v0_11 v0_2 v0_3 v0_4 v0_5 v0_6 v0_7 v0_8 v0_9 v1_3 v1_4 x2 x3 x4 x5 hF H locs ls hP hD hS hl
    unfold F_X8_walkSubpath_j12 at hF
    obtain ⟨x_12, hL_12, hE_12⟩ := obd_some hF
    have kl_12 : ∀ (k : Nat) (s12 : Int32 × Int32 × Int32 × Int32 × Int32 × (Nat → Int32) × (Nat → Int32) × (Nat → Int32) × (Nat → Int32) × (Nat → Int32) × (Nat → Int32) × (Nat → Int32) × (Nat → Int32) × Int32 × Int32), lpq (F_X8_walkSubpath_b12 n v1_1 v1_0 v2_0 v2_5 x2) k s12 = some x_12 → ∀ (H : Heap) (locs : List Loc) (ls : Array Slot), va_P (dC, dI) vwCl (wd_X8_walkSubpath cI a0 a1 a2 s12.2.2.2.1 s12.2.2.2.2.1 s12.2.2.2.2.2.1 s12.2.2.2.2.2.2.1 s12.2.2.2.2.2.2.2.1 s12.2.2.2.2.2.2.2.2.1 s12.2.2.2.2.2.2.2.2.2.1 s12.2.2.2.2.2.2.2.2.2.2.1 s12.2.2.2.2.2.2.2.2.2.2.2.1 s12.2.2.2.2.2.2.2.2.2.2.2.2.1 v1_1 v1_2 s12.2.2.2.2.2.2.2.2.2.2.2.2.2.1 s12.2.2.2.2.2.2.2.2.2.2.2.2.2.2 v1_0 v2_10 v2_0 v2_5) H → va_D A (wd_X8_walkSubpath cI a0 a1 a2 s12.2.2.2.1 s12.2.2.2.2.1 s12.2.2.2.2.2.1 s12.2.2.2.2.2.2.1 s12.2.2.2.2.2.2.2.1 s12.2.2.2.2.2.2.2.2.1 s12.2.2.2.2.2.2.2.2.2.1 s12.2.2.2.2.2.2.2.2.2.2.1 s12.2.2.2.2.2.2.2.2.2.2.2.1 s12.2.2.2.2.2.2.2.2.2.2.2.2.1 v1_1 v1_2 s12.2.2.2.2.2.2.2.2.2.2.2.2.2.1 s12.2.2.2.2.2.2.2.2.2.2.2.2.2.2 v1_0 v2_10 v2_0 v2_5) → va_S A s.heap H locs → lv_has ls 9 [(0, .ref (a0 0)), (1, .ref (a2 0)), (2, .int x2), (3, .int s12.1), (4, .int s12.2.1), (5, .int s12.2.2.1)] → W p l e (headSpec wz_X8_walkSubpath rm_X8_walkSubpath).room s m [.ref (a0 0), .ref (a2 0), .int p2].toArray below meth c H locs 0 0 (MQ below (Q_X8_walkSubpath dC dI cI a0 a1 a2 v1_1 v1_2 v1_0 v2_10 v2_0 v2_5 u A) [.ref (a0 0), .ref (a2 0), .int p2].toArray s 0 0 A) (F0 m 12 ls []) := by
      intro k
      induction k with
      | zero => intro s12 h; exact absurd h lpq_zero
      | succ k ih_12 =>
        intro s12 h H locs ls hP hD hS hl
        obtain ⟨o_12, hF, hO_12⟩ := lpq_succ h
        unfold F_X8_walkSubpath_b12 at hF
        have j126 : ∀ (v0_10 : Int32) (v0_11 : Int32) (v0_2 : Nat → Int32) (v0_3 : Nat → Int32) (v0_4 : Nat → Int32) (v0_5 : Nat → Int32) (v0_6 : Nat → Int32) (v0_7 : Nat → Int32) (v0_8 : Nat → Int32) (v0_9 : Nat → Int32) (v1_3 : Int32) (v1_4 : Int32) (x3 : Int32) (x4 : Int32) (x5 : Int32) (x6 : Int32), F_X8_walkSubpath_j126 v0_10 v0_11 v0_2 v0_3 v0_4 v0_5 v0_6 v0_7 v0_8 v0_9 v1_3 v1_4 x3 x4 x5 x6 = some o_12 → ∀ (H : Heap) (locs : List Loc) (ls : Array Slot), va_P (dC, dI) vwCl (wd_X8_walkSubpath cI a0 a1 a2 v0_10 v0_11 v0_2 v0_3 v0_4 v0_5 v0_6 v0_7 v0_8 v0_9 v1_1 v1_2 v1_3 v1_4 v1_0 v2_10 v2_0 v2_5) H → va_D A (wd_X8_walkSubpath cI a0 a1 a2 v0_10 v0_11 v0_2 v0_3 v0_4 v0_5 v0_6 v0_7 v0_8 v0_9 v1_1 v1_2 v1_3 v1_4 v1_0 v2_10 v2_0 v2_5) → va_S A s.heap H locs → lv_has ls 9 [(0, .ref (a0 0)), (1, .ref (a2 0)), (2, .int x2), (3, .int x3), (4, .int x4), (5, .int x5), (6, .int x6)] → W p l e (headSpec wz_X8_walkSubpath rm_X8_walkSubpath).room s m [.ref (a0 0), .ref (a2 0), .int p2].toArray below meth c H locs 0 0 (MQ below (Q_X8_walkSubpath dC dI cI a0 a1 a2 v1_1 v1_2 v1_0 v2_10 v2_0 v2_5 u A) [.ref (a0 0), .ref (a2 0), .int p2].toArray s 0 0 A) (F0 m 126 ls []) := by
          intro v0_10 v0_11 v0_2 v0_3 v0_4 v0_5 v0_6 v0_7 v0_8 v0_9 v1_3 v1_4 x3 x4 x5 x6 hF H locs ls hP hD hS hl
          unfold F_X8_walkSubpath_j126 at hF
          refine lv_iload hx hb dX8_walkSubpath_126 (lv_at hl 4 rfl) ?_
          refine lv_iload hx hb dX8_walkSubpath_128 (lv_at hl 6 rfl) ?_
          refine lv_iadd hx hb dX8_walkSubpath_130 ?_
          obtain ⟨y_1, ey_1, hF⟩ := lt_some hF
          refine lv_eqi ey_1 ?_
          refine lv_istore (lv' := [(4, .int y_1), (0, .ref (a0 0)), (1, .ref (a2 0)), (2, .int x2), (3, .int x3), (5, .int x5), (6, .int x6)]) hx hb dX8_walkSubpath_131 hl (by decide) rfl (fun ls hl => ?_)
          obtain ⟨y_2, ey_2, hF⟩ := lt_some hF
          refine lv_iinc (v := y_2) (lv' := [(5, .int y_2), (4, .int y_1), (0, .ref (a0 0)), (1, .ref (a2 0)), (2, .int x2), (3, .int x3), (6, .int x6)]) hx hb dX8_walkSubpath_133 hl (k := 5) rfl (by rw [ey_2]; rfl) (by decide) rfl (fun ls hl => ?_)
          refine lv_goto (tgt := 12) hx hb dX8_walkSubpath_136 (by decide) ?_
          obtain rfl := Option.some.inj hF
          exact ih_12 _ hO_12 _ _ _ hP hD hS (lv_sub hl [2, 3, 4, 5, 1, 0] rfl)
        have j36 : ∀ (v0_10 : Int32) (v0_11 : Int32) (v0_2 : Nat → Int32) (v0_3 : Nat → Int32) (v0_4 : Nat → Int32) (v0_5 : Nat → Int32) (v0_6 : Nat → Int32) (v0_7 : Nat → Int32) (v0_8 : Nat → Int32) (v0_9 : Nat → Int32) (v1_3 : Int32) (v1_4 : Int32) (x3 : Int32) (x4 : Int32) (x5 : Int32) (x6 : Int32) (x8 : Int32), F_X8_walkSubpath_j36 n v0_10 v0_11 v0_2 v0_3 v0_4 v0_5 v0_6 v0_7 v0_8 v0_9 v1_1 v1_3 v1_4 v1_0 x3 x4 x5 x6 x8 = some o_12 → ∀ (H : Heap) (locs : List Loc) (ls : Array Slot), va_P (dC, dI) vwCl (wd_X8_walkSubpath cI a0 a1 a2 v0_10 v0_11 v0_2 v0_3 v0_4 v0_5 v0_6 v0_7 v0_8 v0_9 v1_1 v1_2 v1_3 v1_4 v1_0 v2_10 v2_0 v2_5) H → va_D A (wd_X8_walkSubpath cI a0 a1 a2 v0_10 v0_11 v0_2 v0_3 v0_4 v0_5 v0_6 v0_7 v0_8 v0_9 v1_1 v1_2 v1_3 v1_4 v1_0 v2_10 v2_0 v2_5) → va_S A s.heap H locs → lv_has ls 9 [(0, .ref (a0 0)), (1, .ref (a2 0)), (2, .int x2), (3, .int x3), (4, .int x4), (5, .int x5), (6, .int x6), (8, .int x8)] → W p l e (headSpec wz_X8_walkSubpath rm_X8_walkSubpath).room s m [.ref (a0 0), .ref (a2 0), .int p2].toArray below meth c H locs 0 0 (MQ below (Q_X8_walkSubpath dC dI cI a0 a1 a2 v1_1 v1_2 v1_0 v2_10 v2_0 v2_5 u A) [.ref (a0 0), .ref (a2 0), .int p2].toArray s 0 0 A) (F0 m 36 ls []) := by
          intro v0_10 v0_11 v0_2 v0_3 v0_4 v0_5 v0_6 v0_7 v0_8 v0_9 v1_3 v1_4 x3 x4 x5 x6 x8 hF H locs ls hP hD hS hl
          unfold F_X8_walkSubpath_j36 at hF
          obtain ⟨x_36, hL_36, hE_36⟩ := obd_some hF
          have kl_36 : ∀ (k : Nat) (s36 : Int32 × Int32 × Int32 × Int32 × (Nat → Int32) × (Nat → Int32) × (Nat → Int32) × (Nat → Int32) × (Nat → Int32) × (Nat → Int32) × (Nat → Int32) × (Nat → Int32) × Int32 × Int32), lpq (F_X8_walkSubpath_b36 v1_1 v1_0 x4 x5 x6) k s36 = some x_36 → ∀ (H : Heap) (locs : List Loc) (ls : Array Slot), va_P (dC, dI) vwCl (wd_X8_walkSubpath cI a0 a1 a2 s36.2.2.1 s36.2.2.2.1 s36.2.2.2.2.1 s36.2.2.2.2.2.1 s36.2.2.2.2.2.2.1 s36.2.2.2.2.2.2.2.1 s36.2.2.2.2.2.2.2.2.1 s36.2.2.2.2.2.2.2.2.2.1 s36.2.2.2.2.2.2.2.2.2.2.1 s36.2.2.2.2.2.2.2.2.2.2.2.1 v1_1 v1_2 s36.2.2.2.2.2.2.2.2.2.2.2.2.1 s36.2.2.2.2.2.2.2.2.2.2.2.2.2 v1_0 v2_10 v2_0 v2_5) H → va_D A (wd_X8_walkSubpath cI a0 a1 a2 s36.2.2.1 s36.2.2.2.1 s36.2.2.2.2.1 s36.2.2.2.2.2.1 s36.2.2.2.2.2.2.1 s36.2.2.2.2.2.2.2.1 s36.2.2.2.2.2.2.2.2.1 s36.2.2.2.2.2.2.2.2.2.1 s36.2.2.2.2.2.2.2.2.2.2.1 s36.2.2.2.2.2.2.2.2.2.2.2.1 v1_1 v1_2 s36.2.2.2.2.2.2.2.2.2.2.2.2.1 s36.2.2.2.2.2.2.2.2.2.2.2.2.2 v1_0 v2_10 v2_0 v2_5) → va_S A s.heap H locs → lv_has ls 9 [(0, .ref (a0 0)), (1, .ref (a2 0)), (2, .int x2), (3, .int s36.1), (4, .int x4), (5, .int x5), (6, .int x6), (8, .int s36.2.1)] → W p l e (headSpec wz_X8_walkSubpath rm_X8_walkSubpath).room s m [.ref (a0 0), .ref (a2 0), .int p2].toArray below meth c H locs 0 0 (MQ below (Q_X8_walkSubpath dC dI cI a0 a1 a2 v1_1 v1_2 v1_0 v2_10 v2_0 v2_5 u A) [.ref (a0 0), .ref (a2 0), .int p2].toArray s 0 0 A) (F0 m 36 ls []) := by
            intro k
            induction k with
            | zero => intro s36 h; exact absurd h lpq_zero
            | succ k ih_36 =>
              intro s36 h H locs ls hP hD hS hl
              obtain ⟨o_36, hF, hO_36⟩ := lpq_succ h
              unfold F_X8_walkSubpath_b36 at hF
              have j116 : ∀ (v0_10 : Int32) (v0_11 : Int32) (v0_2 : Nat → Int32) (v0_3 : Nat → Int32) (v0_4 : Nat → Int32) (v0_5 : Nat → Int32) (v0_6 : Nat → Int32) (v0_7 : Nat → Int32) (v0_8 : Nat → Int32) (v0_9 : Nat → Int32) (v1_3 : Int32) (v1_4 : Int32) (x3 : Int32) (x7 : Int32) (x8 : Int32), F_X8_walkSubpath_j116 v0_10 v0_11 v0_2 v0_3 v0_4 v0_5 v0_6 v0_7 v0_8 v0_9 v1_3 v1_4 x3 x7 x8 = some o_36 → ∀ (H : Heap) (locs : List Loc) (ls : Array Slot), va_P (dC, dI) vwCl (wd_X8_walkSubpath cI a0 a1 a2 v0_10 v0_11 v0_2 v0_3 v0_4 v0_5 v0_6 v0_7 v0_8 v0_9 v1_1 v1_2 v1_3 v1_4 v1_0 v2_10 v2_0 v2_5) H → va_D A (wd_X8_walkSubpath cI a0 a1 a2 v0_10 v0_11 v0_2 v0_3 v0_4 v0_5 v0_6 v0_7 v0_8 v0_9 v1_1 v1_2 v1_3 v1_4 v1_0 v2_10 v2_0 v2_5) → va_S A s.heap H locs → lv_has ls 9 [(0, .ref (a0 0)), (1, .ref (a2 0)), (2, .int x2), (3, .int x3), (4, .int x4), (5, .int x5), (6, .int x6), (7, .int x7), (8, .int x8)] → W p l e (headSpec wz_X8_walkSubpath rm_X8_walkSubpath).room s m [.ref (a0 0), .ref (a2 0), .int p2].toArray below meth c H locs 0 0 (MQ below (Q_X8_walkSubpath dC dI cI a0 a1 a2 v1_1 v1_2 v1_0 v2_10 v2_0 v2_5 u A) [.ref (a0 0), .ref (a2 0), .int p2].toArray s 0 0 A) (F0 m 116 ls []) := by
                intro v0_10 v0_11 v0_2 v0_3 v0_4 v0_5 v0_6 v0_7 v0_8 v0_9 v1_3 v1_4 x3 x7 x8 hF H locs ls hP hD hS hl
                unfold F_X8_walkSubpath_j116 at hF
                refine lv_iload hx hb dX8_walkSubpath_116 (lv_at hl 8 rfl) ?_
                refine lv_iload hx hb dX8_walkSubpath_118 (lv_at hl 7 rfl) ?_
                refine lv_iadd hx hb dX8_walkSubpath_120 ?_
                obtain ⟨y_3, ey_3, hF⟩ := lt_some hF
                refine lv_eqi ey_3 ?_
                refine lv_istore (lv' := [(8, .int y_3), (0, .ref (a0 0)), (1, .ref (a2 0)), (2, .int x2), (3, .int x3), (4, .int x4), (5, .int x5), (6, .int x6), (7, .int x7)]) hx hb dX8_walkSubpath_121 hl (by decide) rfl (fun ls hl => ?_)
                refine lv_goto (tgt := 36) hx hb dX8_walkSubpath_123 (by decide) ?_
                obtain rfl := Option.some.inj hF
                exact ih_36 _ hO_36 _ _ _ hP hD hS (lv_sub hl [1, 2, 3, 4, 5, 6, 7, 0] rfl)
              have j102 : ∀ (v0_10 : Int32) (v0_11 : Int32) (v0_2 : Nat → Int32) (v0_3 : Nat → Int32) (v0_4 : Nat → Int32) (v0_5 : Nat → Int32) (v0_6 : Nat → Int32) (v0_7 : Nat → Int32) (v0_8 : Nat → Int32) (v0_9 : Nat → Int32) (v1_3 : Int32) (v1_4 : Int32) (x3 : Int32) (x7 : Int32) (x8 : Int32), F_X8_walkSubpath_j102 v0_10 v0_11 v0_2 v0_3 v0_4 v0_5 v0_6 v0_7 v0_8 v0_9 v1_1 v1_3 v1_4 v1_0 x3 x7 x8 = some o_36 → ∀ (H : Heap) (locs : List Loc) (ls : Array Slot), va_P (dC, dI) vwCl (wd_X8_walkSubpath cI a0 a1 a2 v0_10 v0_11 v0_2 v0_3 v0_4 v0_5 v0_6 v0_7 v0_8 v0_9 v1_1 v1_2 v1_3 v1_4 v1_0 v2_10 v2_0 v2_5) H → va_D A (wd_X8_walkSubpath cI a0 a1 a2 v0_10 v0_11 v0_2 v0_3 v0_4 v0_5 v0_6 v0_7 v0_8 v0_9 v1_1 v1_2 v1_3 v1_4 v1_0 v2_10 v2_0 v2_5) → va_S A s.heap H locs → lv_has ls 9 [(0, .ref (a0 0)), (1, .ref (a2 0)), (2, .int x2), (3, .int x3), (4, .int x4), (5, .int x5), (6, .int x6), (7, .int x7), (8, .int x8)] → W p l e (headSpec wz_X8_walkSubpath rm_X8_walkSubpath).room s m [.ref (a0 0), .ref (a2 0), .int p2].toArray below meth c H locs 0 0 (MQ below (Q_X8_walkSubpath dC dI cI a0 a1 a2 v1_1 v1_2 v1_0 v2_10 v2_0 v2_5 u A) [.ref (a0 0), .ref (a2 0), .int p2].toArray s 0 0 A) (F0 m 102 ls []) := by
                intro v0_10 v0_11 v0_2 v0_3 v0_4 v0_5 v0_6 v0_7 v0_8 v0_9 v1_3 v1_4 x3 x7 x8 hF H locs ls hP hD hS hl
                unfold F_X8_walkSubpath_j102 at hF
                refine lv_aload_n hx hb dX8_walkSubpath_102 rfl (lv_at hl 0 rfl) ?_
                refine va_get (D := (dC, dI)) (ci := 7) (v := .ref (a1 0)) (C := RX8) (T := TX8) (N := 12) hx hb hta uw_X8 hown hK hP 0 rfl rfl 0 (by decide) (hta _ mA81) (fun _ h9 => h9) rfl dX8_walkSubpath_103 ?_
                refine lv_iload hx hb dX8_walkSubpath_106 (lv_at hl 7 rfl) ?_
                obtain ⟨u_4, hu_4, hF⟩ := obd_some hF
                have hPc := hP.sub (ws' := (wd_X0_pass cI a1 v1_1 v1_2 v1_3 v1_4 v1_0)) [9, 10] rfl
                have hDc := hD.sub (ws' := (wd_X0_pass cI a1 v1_1 v1_2 v1_3 v1_4 v1_0)) [9, 10] rfl rfl
                refine q_callz (wc := (wd_X0_pass cI a1 v1_1 v1_2 v1_3 v1_4 v1_0)) (w1 := (wd_X0_pass cI a1 v1_1 v1_2 u_4.2.1 u_4.2.2 v1_0)) (ws' := (wd_X8_walkSubpath cI a0 a1 a2 v0_10 v0_11 v0_2 v0_3 v0_4 v0_5 v0_6 v0_7 v0_8 v0_9 v1_1 v1_2 u_4.2.1 u_4.2.2 v1_0 v2_10 v2_0 v2_5)) hP hD hS hA [9, 10] [0, 1, 2, 3, 4, 5, 6, 7, 8, 11, 12, 13] [0, 1, 2, 3, 4, 5, 6, 7, 8, 12, 13, 9, 10, 11] rfl rfl rfl (by decide) rfl rfl (va_runV (As := [.int x7]) (rest := []) ⟨hx, hb, hml, hown, hta⟩ (c_X0_pass l dC dI cI H.size a1 v1_1 v1_2 v1_3 v1_4 v1_0 x7 u_4 hu_4) (cwV 1 hta (ga_V mA405 mA406 mA407 mA80 mA408) rfl rfl rfl (by decide +kernel) ⟨Nat.le_of_ble_eq_true rfl, Nat.le_of_ble_eq_true rfl⟩) ⟨q_fb, va_recv hK hP (ci := 0) (q0 := 9) rfl rfl, q_ps hPc hK hDc⟩ rfl rfl hl.1 rfl (lv_room (Nat.le_of_ble_eq_true rfl)) dX8_walkSubpath_108 ⟨Nat.zero_le _, Nat.zero_le _⟩) (fun hzu_4 H locs hP hD hS => ?_)
                refine lv_if_eq (tgt := 116) hx hb dX8_walkSubpath_111 (by decide) (fun c_5 => ?_) (fun c_5 => ?_)
                · have hF := it_t hF c_5
                  exact j116 v0_10 v0_11 v0_2 v0_3 v0_4 v0_5 v0_6 v0_7 v0_8 v0_9 u_4.2.1 u_4.2.2 x3 x7 x8 hF _ _ _ hP hD hS (lv_sub hl [0, 1, 2, 3, 4, 5, 6, 7, 8] rfl)
                · have hF := it_f hF c_5
                  refine lv_iconst (v := 0) hx hb dX8_walkSubpath_114 (by decide) ?_
                  refine lv_istore_n (lv' := [(3, .int 0), (0, .ref (a0 0)), (1, .ref (a2 0)), (2, .int x2), (4, .int x4), (5, .int x5), (6, .int x6), (7, .int x7), (8, .int x8)]) hx hb dX8_walkSubpath_115 rfl hl (by decide) rfl (fun ls hl => ?_)
                  exact j116 v0_10 v0_11 v0_2 v0_3 v0_4 v0_5 v0_6 v0_7 v0_8 v0_9 u_4.2.1 u_4.2.2 0 x7 x8 hF _ _ _ hP hD hS (lv_sub hl [1, 2, 3, 0, 4, 5, 6, 7, 8] rfl)
              have j87 : ∀ (v0_10 : Int32) (v0_11 : Int32) (v0_2 : Nat → Int32) (v0_3 : Nat → Int32) (v0_4 : Nat → Int32) (v0_5 : Nat → Int32) (v0_6 : Nat → Int32) (v0_7 : Nat → Int32) (v0_8 : Nat → Int32) (v0_9 : Nat → Int32) (v1_3 : Int32) (v1_4 : Int32) (x7 : Int32) (x8 : Int32), F_X8_walkSubpath_j87 v0_10 v0_11 v0_2 v0_3 v0_4 v0_5 v0_6 v0_7 v0_8 v0_9 v1_1 v1_3 v1_4 v1_0 x5 x7 x8 = some o_36 → ∀ (H : Heap) (locs : List Loc) (ls : Array Slot), va_P (dC, dI) vwCl (wd_X8_walkSubpath cI a0 a1 a2 v0_10 v0_11 v0_2 v0_3 v0_4 v0_5 v0_6 v0_7 v0_8 v0_9 v1_1 v1_2 v1_3 v1_4 v1_0 v2_10 v2_0 v2_5) H → va_D A (wd_X8_walkSubpath cI a0 a1 a2 v0_10 v0_11 v0_2 v0_3 v0_4 v0_5 v0_6 v0_7 v0_8 v0_9 v1_1 v1_2 v1_3 v1_4 v1_0 v2_10 v2_0 v2_5) → va_S A s.heap H locs → lv_has ls 9 [(0, .ref (a0 0)), (1, .ref (a2 0)), (2, .int x2), (4, .int x4), (5, .int x5), (6, .int x6), (7, .int x7), (8, .int x8)] → W p l e (headSpec wz_X8_walkSubpath rm_X8_walkSubpath).room s m [.ref (a0 0), .ref (a2 0), .int p2].toArray below meth c H locs 0 0 (MQ below (Q_X8_walkSubpath dC dI cI a0 a1 a2 v1_1 v1_2 v1_0 v2_10 v2_0 v2_5 u A) [.ref (a0 0), .ref (a2 0), .int p2].toArray s 0 0 A) (F0 m 87 ls []) := by
                intro v0_10 v0_11 v0_2 v0_3 v0_4 v0_5 v0_6 v0_7 v0_8 v0_9 v1_3 v1_4 x7 x8 hF H locs ls hP hD hS hl
                unfold F_X8_walkSubpath_j87 at hF
                refine lv_aload_n hx hb dX8_walkSubpath_87 rfl (lv_at hl 0 rfl) ?_
                refine lv_iload hx hb dX8_walkSubpath_88 (lv_at hl 4 rfl) ?_
                refine lv_iload hx hb dX8_walkSubpath_90 (lv_at hl 7 rfl) ?_
                refine lv_iload hx hb dX8_walkSubpath_92 (lv_at hl 7 rfl) ?_
                refine lv_iload hx hb dX8_walkSubpath_94 (lv_at hl 6 rfl) ?_
                refine lv_iadd hx hb dX8_walkSubpath_96 ?_
                obtain ⟨u_6, hu_6, hF⟩ := obd_some hF
                have hPc := hP.sub (ws' := (wd_X8_addSpan cI a0 a1 v0_10 v0_11 v0_3 v0_6 v0_7 v0_8 v0_9)) [0, 2, 5, 6, 7, 8] rfl
                have hDc := hD.sub (ws' := (wd_X8_addSpan cI a0 a1 v0_10 v0_11 v0_3 v0_6 v0_7 v0_8 v0_9)) [0, 2, 5, 6, 7, 8] rfl rfl
                refine q_callv (wc := (wd_X8_addSpan cI a0 a1 v0_10 v0_11 v0_3 v0_6 v0_7 v0_8 v0_9)) (w1 := (wd_X8_addSpan cI a0 a1 v0_10 u_6.1 u_6.2.1 u_6.2.2.1 u_6.2.2.2.1 u_6.2.2.2.2.1 u_6.2.2.2.2.2)) (ws' := (wd_X8_walkSubpath cI a0 a1 a2 v0_10 u_6.1 v0_2 u_6.2.1 v0_4 v0_5 u_6.2.2.1 u_6.2.2.2.1 u_6.2.2.2.2.1 u_6.2.2.2.2.2 v1_1 v1_2 v1_3 v1_4 v1_0 v2_10 v2_0 v2_5)) hP hD hS hA [0, 2, 5, 6, 7, 8] [1, 3, 4, 9, 10, 11, 12, 13] [8, 0, 9, 1, 2, 10, 11, 12, 13, 3, 4, 5, 6, 7] rfl rfl rfl (by decide) rfl rfl (va_runV (As := [.int x5, .int x8, .int (x8 + x7)]) (rest := []) ⟨hx, hb, hml, hown, hta⟩ (c_X8_addSpan l dC dI cI H.size a0 a1 v0_10 v0_11 v0_3 v0_6 v0_7 v0_8 v0_9 x5 x8 (x8 + x7) u_6 hu_6) (cwV 3 hta (ga_V mA401 mA402 mA403 mA56 mA404) rfl rfl rfl (by decide +kernel) ⟨Nat.le_of_ble_eq_true rfl, Nat.le_of_ble_eq_true rfl⟩) ⟨q_fb, va_recv hK hP (ci := 7) (q0 := 0) rfl rfl, q_ps hPc hK hDc⟩ rfl rfl hl.1 rfl (lv_room (Nat.le_of_ble_eq_true rfl)) dX8_walkSubpath_97 ⟨Nat.zero_le _, Nat.zero_le _⟩) (fun H locs hP hD hS => ?_)
                refine lv_iconst (v := 1) hx hb dX8_walkSubpath_100 (by decide) ?_
                refine lv_istore_n (lv' := [(3, .int 1), (0, .ref (a0 0)), (1, .ref (a2 0)), (2, .int x2), (4, .int x4), (5, .int x5), (6, .int x6), (7, .int x7), (8, .int x8)]) hx hb dX8_walkSubpath_101 rfl hl (by decide) rfl (fun ls hl => ?_)
                exact j102 v0_10 u_6.1 v0_2 u_6.2.1 v0_4 v0_5 u_6.2.2.1 u_6.2.2.2.1 u_6.2.2.2.2.1 u_6.2.2.2.2.2 v1_3 v1_4 1 x7 x8 hF _ _ _ hP hD hS (lv_sub hl [1, 2, 3, 0, 4, 5, 6, 7, 8] rfl)
              refine lv_iload hx hb dX8_walkSubpath_36 (lv_at hl 7 rfl) ?_
              refine lv_iload hx hb dX8_walkSubpath_38 (lv_at hl 6 rfl) ?_
              refine lv_icmp_ge (tgt := 126) hx hb dX8_walkSubpath_40 (by decide) (fun c_7 => ?_) (fun c_7 => ?_)
              · have hF := it_t hF c_7
                obtain rfl := Option.some.inj hF
                obtain rfl := lpq_x hO_36
                have hF := hE_36
                exact j126 s36.2.2.1 s36.2.2.2.1 s36.2.2.2.2.1 s36.2.2.2.2.2.1 s36.2.2.2.2.2.2.1 s36.2.2.2.2.2.2.2.1 s36.2.2.2.2.2.2.2.2.1 s36.2.2.2.2.2.2.2.2.2.1 s36.2.2.2.2.2.2.2.2.2.2.1 s36.2.2.2.2.2.2.2.2.2.2.2.1 s36.2.2.2.2.2.2.2.2.2.2.2.2.1 s36.2.2.2.2.2.2.2.2.2.2.2.2.2 s36.1 x4 x5 x6 hF _ _ _ hP hD hS (lv_sub hl [0, 1, 2, 3, 4, 5, 6] rfl)
              · have hF := it_f hF c_7
                refine lv_iconst (v := 1) hx hb dX8_walkSubpath_43 (by decide) ?_
                refine lv_aload_n hx hb dX8_walkSubpath_44 rfl (lv_at hl 0 rfl) ?_
                refine va_get (D := (dC, dI)) (ci := 7) (v := .ref (a1 0)) (C := RX8) (T := TX8) (N := 12) hx hb hta uw_X8 hown hK hP 0 rfl rfl 0 (by decide) (hta _ mA81) (fun _ h9 => h9) rfl dX8_walkSubpath_45 ?_
                obtain ⟨u_8, hu_8, hF⟩ := lt_some hF
                have hPc := hP.sub (ws' := (wd_X0_ahead cI a1 v1_1 v1_2 s36.2.2.2.2.2.2.2.2.2.2.2.2.1 s36.2.2.2.2.2.2.2.2.2.2.2.2.2)) [9] rfl
                have hDc := hD.sub (ws' := (wd_X0_ahead cI a1 v1_1 v1_2 s36.2.2.2.2.2.2.2.2.2.2.2.2.1 s36.2.2.2.2.2.2.2.2.2.2.2.2.2)) [9] rfl rfl
                refine q_calli (wc := (wd_X0_ahead cI a1 v1_1 v1_2 s36.2.2.2.2.2.2.2.2.2.2.2.2.1 s36.2.2.2.2.2.2.2.2.2.2.2.2.2)) (w1 := (wd_X0_ahead cI a1 v1_1 v1_2 s36.2.2.2.2.2.2.2.2.2.2.2.2.1 s36.2.2.2.2.2.2.2.2.2.2.2.2.2)) (ws' := (wd_X8_walkSubpath cI a0 a1 a2 s36.2.2.1 s36.2.2.2.1 s36.2.2.2.2.1 s36.2.2.2.2.2.1 s36.2.2.2.2.2.2.1 s36.2.2.2.2.2.2.2.1 s36.2.2.2.2.2.2.2.2.1 s36.2.2.2.2.2.2.2.2.2.1 s36.2.2.2.2.2.2.2.2.2.2.1 s36.2.2.2.2.2.2.2.2.2.2.2.1 v1_1 v1_2 s36.2.2.2.2.2.2.2.2.2.2.2.2.1 s36.2.2.2.2.2.2.2.2.2.2.2.2.2 v1_0 v2_10 v2_0 v2_5)) hP hD hS hA [9] [0, 1, 2, 3, 4, 5, 6, 7, 8, 10, 11, 12, 13] [0, 1, 2, 3, 4, 5, 6, 7, 8, 13, 9, 10, 11, 12] rfl rfl rfl (by decide) rfl rfl (va_runV (As := []) (rest := [.int 1]) ⟨hx, hb, hml, hown, hta⟩ (c_X0_ahead l dC dI cI H.size a1 v1_1 v1_2 s36.2.2.2.2.2.2.2.2.2.2.2.2.1 s36.2.2.2.2.2.2.2.2.2.2.2.2.2 u_8 hu_8.symm) (cwV 0 hta (ga_V mA389 mA390 mA391 mA80 mA392) rfl rfl rfl (by decide +kernel) ⟨Nat.le_of_ble_eq_true rfl, Nat.le_of_ble_eq_true rfl⟩) ⟨q_fb, va_recv hK hP (ci := 0) (q0 := 9) rfl rfl, q_ps hPc hK hDc⟩ rfl rfl hl.1 rfl (lv_room (Nat.le_of_ble_eq_true rfl)) dX8_walkSubpath_48 ⟨Nat.zero_le _, Nat.zero_le _⟩) (fun H locs hP hD hS => ?_)
                refine lv_iload hx hb dX8_walkSubpath_51 (lv_at hl 6 rfl) ?_
                refine lv_iload hx hb dX8_walkSubpath_53 (lv_at hl 7 rfl) ?_
                refine lv_isub hx hb dX8_walkSubpath_55 ?_
                obtain ⟨y_9, ey_9, hF⟩ := lt_some hF
                refine lv_eqi ey_9 ?_
                refine va_mmin hx hb (hml.trans hl.1.symm) hown (hta _ mA384) (hta _ mA279) (hta _ mA280) (hta _ mA281) (Nat.le_of_ble_eq_true rfl) (Nat.le_of_ble_eq_true rfl) (Nat.zero_le _) (Nat.zero_le _) dX8_walkSubpath_56 ?_
                obtain ⟨y_10, ey_10, hF⟩ := lt_some hF
                refine lv_eqi ey_10 ?_
                refine va_mmax hx hb (hml.trans hl.1.symm) hown (hta _ mA385) (hta _ mA283) (hta _ mA280) (hta _ mA284) (Nat.le_of_ble_eq_true rfl) (Nat.le_of_ble_eq_true rfl) (Nat.zero_le _) (Nat.zero_le _) dX8_walkSubpath_59 ?_
                obtain ⟨y_11, ey_11, hF⟩ := lt_some hF
                refine lv_eqi ey_11 ?_
                refine lv_istore (lv' := [(7, .int y_11), (0, .ref (a0 0)), (1, .ref (a2 0)), (2, .int x2), (3, .int s36.1), (4, .int x4), (5, .int x5), (6, .int x6), (8, .int s36.2.1)]) hx hb dX8_walkSubpath_62 hl (by decide) rfl (fun ls hl => ?_)
                refine lv_aload_n hx hb dX8_walkSubpath_64 rfl (lv_at hl 1 rfl) ?_
                refine va_get (D := (dC, dI)) (ci := 7) (v := .ref (a1 0)) (C := RX8) (T := TX8) (N := 12) hx hb hta uw_X8 hown hK hP 0 rfl rfl 0 (by decide) (hta _ mA81) (fun _ h9 => h9) rfl dX8_walkSubpath_65 ?_
                obtain ⟨u_12, hu_12, hF⟩ := lt_some hF
                have hPc := hP.sub (ws' := (wd_X0_isOn cI a1 v1_1 v1_2 s36.2.2.2.2.2.2.2.2.2.2.2.2.1 s36.2.2.2.2.2.2.2.2.2.2.2.2.2)) [9] rfl
                have hDc := hD.sub (ws' := (wd_X0_isOn cI a1 v1_1 v1_2 s36.2.2.2.2.2.2.2.2.2.2.2.2.1 s36.2.2.2.2.2.2.2.2.2.2.2.2.2)) [9] rfl rfl
                refine q_callz (wc := (wd_X0_isOn cI a1 v1_1 v1_2 s36.2.2.2.2.2.2.2.2.2.2.2.2.1 s36.2.2.2.2.2.2.2.2.2.2.2.2.2)) (w1 := (wd_X0_isOn cI a1 v1_1 v1_2 s36.2.2.2.2.2.2.2.2.2.2.2.2.1 s36.2.2.2.2.2.2.2.2.2.2.2.2.2)) (ws' := (wd_X8_walkSubpath cI a0 a1 a2 s36.2.2.1 s36.2.2.2.1 s36.2.2.2.2.1 s36.2.2.2.2.2.1 s36.2.2.2.2.2.2.1 s36.2.2.2.2.2.2.2.1 s36.2.2.2.2.2.2.2.2.1 s36.2.2.2.2.2.2.2.2.2.1 s36.2.2.2.2.2.2.2.2.2.2.1 s36.2.2.2.2.2.2.2.2.2.2.2.1 v1_1 v1_2 s36.2.2.2.2.2.2.2.2.2.2.2.2.1 s36.2.2.2.2.2.2.2.2.2.2.2.2.2 v1_0 v2_10 v2_0 v2_5)) hP hD hS hA [9] [0, 1, 2, 3, 4, 5, 6, 7, 8, 10, 11, 12, 13] [0, 1, 2, 3, 4, 5, 6, 7, 8, 13, 9, 10, 11, 12] rfl rfl rfl (by decide) rfl rfl (va_runV (As := []) (rest := []) ⟨hx, hb, hml, hown, hta⟩ (c_X0_isOn l dC dI cI H.size a1 v1_1 v1_2 s36.2.2.2.2.2.2.2.2.2.2.2.2.1 s36.2.2.2.2.2.2.2.2.2.2.2.2.2 u_12 hu_12.symm) (cwV 0 hta (ga_V mA393 mA394 mA395 mA80 mA396) rfl rfl rfl (by decide +kernel) ⟨Nat.le_of_ble_eq_true rfl, Nat.le_of_ble_eq_true rfl⟩) ⟨q_fb, va_recv hK hP (ci := 0) (q0 := 9) rfl rfl, q_ps hPc hK hDc⟩ rfl rfl hl.1 rfl (lv_room (Nat.le_of_ble_eq_true rfl)) dX8_walkSubpath_68 ⟨Nat.zero_le _, Nat.zero_le _⟩) (fun hzu_12 H locs hP hD hS => ?_)
                refine lv_if_eq (tgt := 102) hx hb dX8_walkSubpath_71 (by decide) (fun c_13 => ?_) (fun c_13 => ?_)
                · have hF := it_t hF c_13
                  exact j102 s36.2.2.1 s36.2.2.2.1 s36.2.2.2.2.1 s36.2.2.2.2.2.1 s36.2.2.2.2.2.2.1 s36.2.2.2.2.2.2.2.1 s36.2.2.2.2.2.2.2.2.1 s36.2.2.2.2.2.2.2.2.2.1 s36.2.2.2.2.2.2.2.2.2.2.1 s36.2.2.2.2.2.2.2.2.2.2.2.1 s36.2.2.2.2.2.2.2.2.2.2.2.2.1 s36.2.2.2.2.2.2.2.2.2.2.2.2.2 s36.1 y_11 s36.2.1 hF _ _ _ hP hD hS (lv_sub hl [1, 2, 3, 4, 5, 6, 7, 0, 8] rfl)
                · have hF := it_f hF c_13
                  refine lv_iload_n hx hb dX8_walkSubpath_74 rfl (lv_at hl 4 rfl) ?_
                  refine lv_if_ne (tgt := 87) hx hb dX8_walkSubpath_75 (by decide) (fun c_14 => ?_) (fun c_14 => ?_)
                  · have hF := it_f hF c_14
                    exact j87 s36.2.2.1 s36.2.2.2.1 s36.2.2.2.2.1 s36.2.2.2.2.2.1 s36.2.2.2.2.2.2.1 s36.2.2.2.2.2.2.2.1 s36.2.2.2.2.2.2.2.2.1 s36.2.2.2.2.2.2.2.2.2.1 s36.2.2.2.2.2.2.2.2.2.2.1 s36.2.2.2.2.2.2.2.2.2.2.2.1 s36.2.2.2.2.2.2.2.2.2.2.2.2.1 s36.2.2.2.2.2.2.2.2.2.2.2.2.2 y_11 s36.2.1 hF _ _ _ hP hD hS (lv_sub hl [1, 2, 3, 5, 6, 7, 0, 8] rfl)
                  · have hF := it_t hF c_14
                    refine lv_aload_n hx hb dX8_walkSubpath_78 rfl (lv_at hl 1 rfl) ?_
                    refine lv_iload hx hb dX8_walkSubpath_79 (lv_at hl 5 rfl) ?_
                    refine lv_iload hx hb dX8_walkSubpath_81 (lv_at hl 8 rfl) ?_
                    refine lv_iadd hx hb dX8_walkSubpath_83 ?_
                    obtain ⟨u_15, hu_15, hF⟩ := obd_some hF
                    have hPc := hP.sub (ws' := (wd_X8_addRun cI a0 a1 s36.2.2.1 s36.2.2.2.1 s36.2.2.2.2.1 s36.2.2.2.2.2.1 s36.2.2.2.2.2.2.1 s36.2.2.2.2.2.2.2.1 s36.2.2.2.2.2.2.2.2.1)) [0, 1, 2, 3, 4, 5] rfl
                    have hDc := hD.sub (ws' := (wd_X8_addRun cI a0 a1 s36.2.2.1 s36.2.2.2.1 s36.2.2.2.2.1 s36.2.2.2.2.2.1 s36.2.2.2.2.2.2.1 s36.2.2.2.2.2.2.2.1 s36.2.2.2.2.2.2.2.2.1)) [0, 1, 2, 3, 4, 5] rfl rfl
                    refine q_callv (wc := (wd_X8_addRun cI a0 a1 s36.2.2.1 s36.2.2.2.1 s36.2.2.2.2.1 s36.2.2.2.2.2.1 s36.2.2.2.2.2.2.1 s36.2.2.2.2.2.2.2.1 s36.2.2.2.2.2.2.2.2.1)) (w1 := (wd_X8_addRun cI a0 a1 u_15.1 s36.2.2.2.1 u_15.2.1 u_15.2.2.1 u_15.2.2.2.1 u_15.2.2.2.2.1 u_15.2.2.2.2.2)) (ws' := (wd_X8_walkSubpath cI a0 a1 a2 u_15.1 s36.2.2.2.1 u_15.2.1 u_15.2.2.1 u_15.2.2.2.1 u_15.2.2.2.2.1 u_15.2.2.2.2.2 s36.2.2.2.2.2.2.2.2.2.1 s36.2.2.2.2.2.2.2.2.2.2.1 s36.2.2.2.2.2.2.2.2.2.2.2.1 v1_1 v1_2 s36.2.2.2.2.2.2.2.2.2.2.2.2.1 s36.2.2.2.2.2.2.2.2.2.2.2.2.2 v1_0 v2_10 v2_0 v2_5)) hP hD hS hA [0, 1, 2, 3, 4, 5] [6, 7, 8, 9, 10, 11, 12, 13] [8, 9, 10, 11, 12, 13, 0, 1, 2, 3, 4, 5, 6, 7] rfl rfl rfl (by decide) rfl rfl (va_runV (As := [.int (x4 + s36.2.1)]) (rest := []) ⟨hx, hb, hml, hown, hta⟩ (c_X8_addRun l dC dI cI H.size a0 a1 s36.2.2.1 s36.2.2.2.1 s36.2.2.2.2.1 s36.2.2.2.2.2.1 s36.2.2.2.2.2.2.1 s36.2.2.2.2.2.2.2.1 s36.2.2.2.2.2.2.2.2.1 (x4 + s36.2.1) u_15 hu_15) (cwV 1 hta (ga_V mA397 mA398 mA399 mA56 mA400) rfl rfl rfl (by decide +kernel) ⟨Nat.le_of_ble_eq_true rfl, Nat.le_of_ble_eq_true rfl⟩) ⟨q_fb, va_recv hK hP (ci := 7) (q0 := 0) rfl rfl, q_ps hPc hK hDc⟩ rfl rfl hl.1 rfl (lv_room (Nat.le_of_ble_eq_true rfl)) dX8_walkSubpath_84 ⟨Nat.zero_le _, Nat.zero_le _⟩) (fun H locs hP hD hS => ?_)
                    exact j87 u_15.1 s36.2.2.2.1 u_15.2.1 u_15.2.2.1 u_15.2.2.2.1 u_15.2.2.2.2.1 u_15.2.2.2.2.2 s36.2.2.2.2.2.2.2.2.2.1 s36.2.2.2.2.2.2.2.2.2.2.1 s36.2.2.2.2.2.2.2.2.2.2.2.1 s36.2.2.2.2.2.2.2.2.2.2.2.2.1 s36.2.2.2.2.2.2.2.2.2.2.2.2.2 y_11 s36.2.1 hF _ _ _ hP hD hS (lv_sub hl [1, 2, 3, 5, 6, 7, 0, 8] rfl)
          exact kl_36 n _ hL_36 _ _ _ hP hD hS hl
        refine lv_iload hx hb dX8_walkSubpath_12 (lv_at hl 5 rfl) ?_
        refine lv_aload_n hx hb dX8_walkSubpath_14 rfl (lv_at hl 1 rfl) ?_
        refine lv_iload_n hx hb dX8_walkSubpath_15 rfl (lv_at hl 2 rfl) ?_
        obtain ⟨u_16, hu_16, hF⟩ := obd_some hF
        have hPc := hP.sub (ws' := (wd_X9_endOf cI a2 v2_10 v2_0)) [11, 12] rfl
        have hDc := hD.sub (ws' := (wd_X9_endOf cI a2 v2_10 v2_0)) [11, 12] rfl rfl
        refine q_calli (wc := (wd_X9_endOf cI a2 v2_10 v2_0)) (w1 := (wd_X9_endOf cI a2 v2_10 v2_0)) (ws' := (wd_X8_walkSubpath cI a0 a1 a2 s12.2.2.2.1 s12.2.2.2.2.1 s12.2.2.2.2.2.1 s12.2.2.2.2.2.2.1 s12.2.2.2.2.2.2.2.1 s12.2.2.2.2.2.2.2.2.1 s12.2.2.2.2.2.2.2.2.2.1 s12.2.2.2.2.2.2.2.2.2.2.1 s12.2.2.2.2.2.2.2.2.2.2.2.1 s12.2.2.2.2.2.2.2.2.2.2.2.2.1 v1_1 v1_2 s12.2.2.2.2.2.2.2.2.2.2.2.2.2.1 s12.2.2.2.2.2.2.2.2.2.2.2.2.2.2 v1_0 v2_10 v2_0 v2_5)) hP hD hS hA [11, 12] [0, 1, 2, 3, 4, 5, 6, 7, 8, 9, 10, 13] [0, 1, 2, 3, 4, 5, 6, 7, 8, 9, 10, 12, 13, 11] rfl rfl rfl (by decide) rfl rfl (va_runV (As := [.int x2]) (rest := [.int s12.2.2.1]) ⟨hx, hb, hml, hown, hta⟩ (c_X9_endOf l dC dI cI H.size a2 v2_10 v2_0 x2 u_16 hu_16) (cwV 1 hta (ga_V mA387 mA233 mA234 mA52 mA235) rfl rfl rfl (by decide +kernel) ⟨Nat.le_of_ble_eq_true rfl, Nat.le_of_ble_eq_true rfl⟩) ⟨q_fb, va_recv hK hP (ci := 8) (q0 := 11) rfl rfl, q_ps hPc hK hDc⟩ rfl rfl hl.1 rfl (lv_room (Nat.le_of_ble_eq_true rfl)) dX8_walkSubpath_16 ⟨Nat.zero_le _, Nat.zero_le _⟩) (fun H locs hP hD hS => ?_)
        refine lv_icmp_ge (tgt := 139) hx hb dX8_walkSubpath_19 (by decide) (fun c_17 => ?_) (fun c_17 => ?_)
        · have hF := it_t hF c_17
          obtain rfl := Option.some.inj hF
          obtain rfl := lpq_x hO_12
          have hF := hE_12
          obtain rfl := Option.some.inj hF
          exact W.vret hx hb hr (fun t ht hW => ⟨⟨(), rfl, trivial, by rw [ht]; exact hP, va_K.moved hW.alike hK, hD⟩, hS.F ht⟩) hS.2.2 dX8_walkSubpath_139
        · have hF := it_f hF c_17
          refine lv_aload_n hx hb dX8_walkSubpath_22 rfl (lv_at hl 1 rfl) ?_
          refine lv_iload hx hb dX8_walkSubpath_23 (lv_at hl 5 rfl) ?_
          obtain ⟨u_18, hu_18, hF⟩ := obd_some hF
          have hPc := hP.sub (ws' := (wd_X9_size cI a2 v2_10 v2_5)) [11, 13] rfl
          have hDc := hD.sub (ws' := (wd_X9_size cI a2 v2_10 v2_5)) [11, 13] rfl rfl
          refine q_calli (wc := (wd_X9_size cI a2 v2_10 v2_5)) (w1 := (wd_X9_size cI a2 v2_10 v2_5)) (ws' := (wd_X8_walkSubpath cI a0 a1 a2 s12.2.2.2.1 s12.2.2.2.2.1 s12.2.2.2.2.2.1 s12.2.2.2.2.2.2.1 s12.2.2.2.2.2.2.2.1 s12.2.2.2.2.2.2.2.2.1 s12.2.2.2.2.2.2.2.2.2.1 s12.2.2.2.2.2.2.2.2.2.2.1 s12.2.2.2.2.2.2.2.2.2.2.2.1 s12.2.2.2.2.2.2.2.2.2.2.2.2.1 v1_1 v1_2 s12.2.2.2.2.2.2.2.2.2.2.2.2.2.1 s12.2.2.2.2.2.2.2.2.2.2.2.2.2.2 v1_0 v2_10 v2_0 v2_5)) hP hD hS hA [11, 13] [0, 1, 2, 3, 4, 5, 6, 7, 8, 9, 10, 12] [0, 1, 2, 3, 4, 5, 6, 7, 8, 9, 10, 12, 11, 13] rfl rfl rfl (by decide) rfl rfl (va_runV (As := [.int s12.2.2.1]) (rest := []) ⟨hx, hb, hml, hown, hta⟩ (c_X9_size l dC dI cI H.size a2 v2_10 v2_5 s12.2.2.1 u_18 hu_18) (cwV 1 hta (ga_V mA388 mA330 mA331 mA52 mA332) rfl rfl rfl (by decide +kernel) ⟨Nat.le_of_ble_eq_true rfl, Nat.le_of_ble_eq_true rfl⟩) ⟨q_fb, va_recv hK hP (ci := 8) (q0 := 11) rfl rfl, q_ps hPc hK hDc⟩ rfl rfl hl.1 rfl (lv_room (Nat.le_of_ble_eq_true rfl)) dX8_walkSubpath_25 ⟨Nat.zero_le _, Nat.zero_le _⟩) (fun H locs hP hD hS => ?_)
          refine lv_istore (lv' := [(6, .int u_18), (0, .ref (a0 0)), (1, .ref (a2 0)), (2, .int x2), (3, .int s12.1), (4, .int s12.2.1), (5, .int s12.2.2.1)]) hx hb dX8_walkSubpath_28 hl (by decide) rfl (fun ls hl => ?_)
          refine lv_iconst (v := 1) hx hb dX8_walkSubpath_30 (by decide) ?_
          refine lv_istore (lv' := [(7, .int 1), (6, .int u_18), (0, .ref (a0 0)), (1, .ref (a2 0)), (2, .int x2), (3, .int s12.1), (4, .int s12.2.1), (5, .int s12.2.2.1)]) hx hb dX8_walkSubpath_31 hl (by decide) rfl (fun ls hl => ?_)
          refine lv_iconst (v := 0) hx hb dX8_walkSubpath_33 (by decide) ?_
          refine lv_istore (lv' := [(8, .int 0), (7, .int 1), (6, .int u_18), (0, .ref (a0 0)), (1, .ref (a2 0)), (2, .int x2), (3, .int s12.1), (4, .int s12.2.1), (5, .int s12.2.2.1)]) hx hb dX8_walkSubpath_34 hl (by decide) rfl (fun ls hl => ?_)
          exact j36 s12.2.2.2.1 s12.2.2.2.2.1 s12.2.2.2.2.2.1 s12.2.2.2.2.2.2.1 s12.2.2.2.2.2.2.2.1 s12.2.2.2.2.2.2.2.2.1 s12.2.2.2.2.2.2.2.2.2.1 s12.2.2.2.2.2.2.2.2.2.2.1 s12.2.2.2.2.2.2.2.2.2.2.2.1 s12.2.2.2.2.2.2.2.2.2.2.2.2.1 s12.2.2.2.2.2.2.2.2.2.2.2.2.2.1 s12.2.2.2.2.2.2.2.2.2.2.2.2.2.2 s12.1 s12.2.1 s12.2.2.1 u_18 0 hF _ _ _ hP hD hS (lv_sub hl [3, 4, 5, 6, 7, 8, 2, 0] rfl)
    exact kl_12 n _ hL_12 _ _ _ hP hD hS hl
  refine lv_iconst (v := 0) hx hb dX8_walkSubpath_0 (by decide) ?_
  refine lv_istore_n (lv' := [(3, .int 0), (0, .ref (a0 0)), (1, .ref (a2 0)), (2, .int p2)]) hx hb dX8_walkSubpath_1 rfl hl (by decide) rfl (fun ls hl => ?_)
  refine lv_iconst (v := 0) hx hb dX8_walkSubpath_2 (by decide) ?_
  refine lv_istore (lv' := [(4, .int 0), (3, .int 0), (0, .ref (a0 0)), (1, .ref (a2 0)), (2, .int p2)]) hx hb dX8_walkSubpath_3 hl (by decide) rfl (fun ls hl => ?_)
  refine lv_aload_n hx hb dX8_walkSubpath_5 rfl (lv_at hl 3 rfl) ?_
  refine lv_iload_n hx hb dX8_walkSubpath_6 rfl (lv_at hl 4 rfl) ?_
  obtain ⟨u_19, hu_19, hF⟩ := obd_some hF
  have hPc := hP.sub (ws' := (wd_X9_firstOf cI a2 v2_10 v2_0)) [11, 12] rfl
  have hDc := hD.sub (ws' := (wd_X9_firstOf cI a2 v2_10 v2_0)) [11, 12] rfl rfl
  refine q_calli (wc := (wd_X9_firstOf cI a2 v2_10 v2_0)) (w1 := (wd_X9_firstOf cI a2 v2_10 v2_0)) (ws' := (wd_X8_walkSubpath cI a0 a1 a2 v0_10 v0_11 v0_2 v0_3 v0_4 v0_5 v0_6 v0_7 v0_8 v0_9 v1_1 v1_2 v1_3 v1_4 v1_0 v2_10 v2_0 v2_5)) hP hD hS hA [11, 12] [0, 1, 2, 3, 4, 5, 6, 7, 8, 9, 10, 13] [0, 1, 2, 3, 4, 5, 6, 7, 8, 9, 10, 12, 13, 11] rfl rfl rfl (by decide) rfl rfl (va_runV (As := [.int p2]) (rest := []) ⟨hx, hb, hml, hown, hta⟩ (c_X9_firstOf l dC dI cI H.size a2 v2_10 v2_0 p2 u_19 hu_19) (cwV 1 hta (ga_V mA386 mA240 mA241 mA52 mA242) rfl rfl rfl (by decide +kernel) ⟨Nat.le_of_ble_eq_true rfl, Nat.le_of_ble_eq_true rfl⟩) ⟨q_fb, va_recv hK hP (ci := 8) (q0 := 11) rfl rfl, q_ps hPc hK hDc⟩ rfl rfl hl.1 rfl (lv_room (Nat.le_of_ble_eq_true rfl)) dX8_walkSubpath_7 ⟨Nat.zero_le _, Nat.zero_le _⟩) (fun H locs hP hD hS => ?_)
  refine lv_istore (lv' := [(5, .int u_19), (4, .int 0), (3, .int 0), (0, .ref (a0 0)), (1, .ref (a2 0)), (2, .int p2)]) hx hb dX8_walkSubpath_10 hl (by decide) rfl (fun ls hl => ?_)
  exact j12 v0_10 v0_11 v0_2 v0_3 v0_4 v0_5 v0_6 v0_7 v0_8 v0_9 v1_3 v1_4 p2 0 0 u_19 hF _ _ _ hP hD hS (lv_sub hl [3, 4, 5, 2, 1, 0] rfl)

-- StrokeOutliner$Runs.firstOf(I)I
def F_X8_firstOf (v0_1 : Nat → Int32) (p1 : Int32) : Option (Int32) :=
  obd (F_X4_at 5 v0_1 p1) (fun u_1 => some u_1)
abbrev wd_X8_firstOf (cI : ClassId) (a0 : Nat → Nat) (a1 : Nat → Nat) (v0_10 : Int32) (v0_11 : Int32) (v0_1 : Nat → Int32) : va_W := [(a0 0, .inr (7, [.ref (a1 0), .ref (a0 2), .ref (a0 3), .ref (a0 4), .ref (a0 5), .ref (a0 6), .ref (a0 7), .ref (a0 8), .ref (a0 9), .ref (a0 10), .int v0_10, .int v0_11])), (a0 2, .inl (cI, 5, .inl v0_1))]
abbrev wz_X8_firstOf : List Cond := .code yX8_firstOf cX8_firstOf 2 (some .int) :: wALL
abbrev rm_X8_firstOf : Room := { frames := 1, cells := 0, slots := 0, locals := 21 }
abbrev Q_X8_firstOf (dC : Nat → ClassId) (dI : Nat → Nat → Nat) (cI : ClassId) (a0 : Nat → Nat) (a1 : Nat → Nat) (v0_10 : Int32) (v0_11 : Int32) (v0_1 : Nat → Int32) (u : (Int32)) (A : Nat → Prop) : Array Value → State → Outcome → State → Prop := va_Qi (fun (r : Int32) (_ : Unit) => r = u) (fun _ => q_at dC dI cI A (wd_X8_firstOf cI a0 a1 v0_10 v0_11 v0_1)) A
set_option maxHeartbeats 4000000 in
set_option maxRecDepth 100000 in
theorem c_X8_firstOf (l : Launch) (dC : Nat → ClassId) (dI : Nat → Nat → Nat) (cI : ClassId) (sz : Nat) (a0 : Nat → Nat) (a1 : Nat → Nat) (v0_10 : Int32) (v0_11 : Int32) (v0_1 : Nat → Int32) (p1 : Int32) (u : (Int32)) (hF : F_X8_firstOf v0_1 p1 = some u) : Met l yX8_firstOf wz_X8_firstOf rm_X8_firstOf (va_Pc [.ref (a0 0), .int p1] (q_pre dC dI cI (wd_X8_firstOf cI a0 a1 v0_10 v0_11 v0_1) sz)) (Q_X8_firstOf dC dI cI a0 a1 v0_10 v0_11 v0_1 u (va_A (wd_X8_firstOf cI a0 a1 v0_10 v0_11 v0_1) sz)) 0 0 (va_A (wd_X8_firstOf cI a0 a1 v0_10 v0_11 v0_1) sz) := by
  refine Met.ofW (cc := cX8_firstOf) (maxL := 2) (ret := (some .int)) (by decide) rfl ?_
  intro p e s m args below meth c s₁ B hml hv
  obtain ⟨rfl, hsz, hP, hK, hD0⟩ := hv
  have hx := B.exec
  have hb := B.bytes
  have hr := B.returns
  have hts := atoms_spec (ws := wz_X8_firstOf) B.pre
  have hta := wz_tl hts
  have hown : s.vm.findClass RX8 = some m.cls := findClass_of_methodNamed B.named
  have hlocks := B.notSynchronized
  subst hsz
  have hD := hD0.self (sz := s.heap.size)
  generalize hAe : va_A (wd_X8_firstOf cI a0 a1 v0_10 v0_11 v0_1) s.heap.size = A at hD ⊢
  have hA : ∀ q : Nat, s.heap.size ≤ q → A q := fun q h => by rw [← hAe]; exact Or.inr h
  have hS : va_S A s.heap s.heap [] := va_S.rf
  have hP : va_P (dC, dI) vwCl (wd_X8_firstOf cI a0 a1 v0_10 v0_11 v0_1) s.heap := hP
  have hl := lv_entry ([.ref (a0 0), .int p1]) (n := 2) (Nat.le_of_ble_eq_true rfl)
  rw [lg_entry_eq]
  generalize (lg_sl ([.ref (a0 0), .int p1]) ++ List.replicate (2 - (lg_sl ([.ref (a0 0), .int p1])).length) Slot.unset).toArray = ls at hl ⊢
  have hl : lv_has ls 2 [(0, .ref (a0 0)), (1, .int p1)] := hl
  obtain ⟨H, hHe⟩ : ∃ H, H = s.heap := ⟨_, rfl⟩
  have hS : va_S A s.heap H [] := by rw [hHe]; exact hS
  have hP : va_P (dC, dI) vwCl (wd_X8_firstOf cI a0 a1 v0_10 v0_11 v0_1) H := by rw [hHe]; exact hP
  rw [← hHe]
  unfold F_X8_firstOf at hF
  refine lv_aload_n hx hb dX8_firstOf_0 rfl (lv_at hl 0 rfl) ?_
  refine va_get (D := (dC, dI)) (ci := 7) (v := .ref (a0 2)) (C := RX8) (T := TX8) (N := 12) hx hb hta uw_X8 hown hK hP 0 rfl rfl 1 (by decide) (hta _ mA82) (fun _ h9 => h9) rfl dX8_firstOf_1 ?_
  refine lv_iload_n hx hb dX8_firstOf_4 rfl (lv_at hl 1 rfl) ?_
  obtain ⟨u_1, hu_1, hF⟩ := obd_some hF
  have hPc := hP.sub (ws' := (wd_X4_at cI (a0 2) 5 v0_1)) [1] rfl
  have hDc := hD.sub (ws' := (wd_X4_at cI (a0 2) 5 v0_1)) [1] rfl rfl
  refine q_calli (wc := (wd_X4_at cI (a0 2) 5 v0_1)) (w1 := (wd_X4_at cI (a0 2) 5 v0_1)) (ws' := (wd_X8_firstOf cI a0 a1 v0_10 v0_11 v0_1)) hP hD hS hA [1] [0] [0, 1] rfl rfl rfl (by decide) rfl rfl (va_runS (As := [.ref (a0 2), .int p1]) (rest := []) ⟨hx, hb, hml, hown, hta⟩ (c_X4_at l dC dI cI H.size (a0 2) 5 v0_1 p1 u_1 hu_1) (va_cwS 2 hta (ga_S mA419 mA237 mA221 mA238) rfl rfl rfl (by decide +kernel) ⟨Nat.le_of_ble_eq_true rfl, Nat.le_of_ble_eq_true rfl⟩) ⟨q_fb, q_ps hPc hK hDc⟩ rfl rfl hl.1 rfl (lv_room (Nat.le_of_ble_eq_true rfl)) dX8_firstOf_5 ⟨Nat.zero_le _, Nat.zero_le _⟩) (fun H locs hP hD hS => ?_)
  obtain rfl := Option.some.inj hF
  exact W.iret (v := u_1) hx hb hr (fun t ht hW => ⟨⟨u_1, (), rfl, rfl, by rw [ht]; exact hP, va_K.moved hW.alike hK, hD⟩, hS.F ht⟩) hS.2.2 dX8_firstOf_8

-- StrokeOutliner$Runs.segmentOf(I)I
def F_X8_segmentOf (v0_7 : Nat → Int32) (p1 : Int32) : Option (Int32) :=
  obd (F_X4_at 1024 v0_7 p1) (fun u_1 => some u_1)
abbrev wd_X8_segmentOf (cI : ClassId) (a0 : Nat → Nat) (a1 : Nat → Nat) (v0_10 : Int32) (v0_11 : Int32) (v0_7 : Nat → Int32) : va_W := [(a0 0, .inr (7, [.ref (a1 0), .ref (a0 2), .ref (a0 3), .ref (a0 4), .ref (a0 5), .ref (a0 6), .ref (a0 7), .ref (a0 8), .ref (a0 9), .ref (a0 10), .int v0_10, .int v0_11])), (a0 8, .inl (cI, 1024, .inl v0_7))]
abbrev wz_X8_segmentOf : List Cond := .code yX8_segmentOf cX8_segmentOf 2 (some .int) :: wALL
abbrev rm_X8_segmentOf : Room := { frames := 1, cells := 0, slots := 0, locals := 21 }
abbrev Q_X8_segmentOf (dC : Nat → ClassId) (dI : Nat → Nat → Nat) (cI : ClassId) (a0 : Nat → Nat) (a1 : Nat → Nat) (v0_10 : Int32) (v0_11 : Int32) (v0_7 : Nat → Int32) (u : (Int32)) (A : Nat → Prop) : Array Value → State → Outcome → State → Prop := va_Qi (fun (r : Int32) (_ : Unit) => r = u) (fun _ => q_at dC dI cI A (wd_X8_segmentOf cI a0 a1 v0_10 v0_11 v0_7)) A
set_option maxHeartbeats 4000000 in
set_option maxRecDepth 100000 in
theorem c_X8_segmentOf (l : Launch) (dC : Nat → ClassId) (dI : Nat → Nat → Nat) (cI : ClassId) (sz : Nat) (a0 : Nat → Nat) (a1 : Nat → Nat) (v0_10 : Int32) (v0_11 : Int32) (v0_7 : Nat → Int32) (p1 : Int32) (u : (Int32)) (hF : F_X8_segmentOf v0_7 p1 = some u) : Met l yX8_segmentOf wz_X8_segmentOf rm_X8_segmentOf (va_Pc [.ref (a0 0), .int p1] (q_pre dC dI cI (wd_X8_segmentOf cI a0 a1 v0_10 v0_11 v0_7) sz)) (Q_X8_segmentOf dC dI cI a0 a1 v0_10 v0_11 v0_7 u (va_A (wd_X8_segmentOf cI a0 a1 v0_10 v0_11 v0_7) sz)) 0 0 (va_A (wd_X8_segmentOf cI a0 a1 v0_10 v0_11 v0_7) sz) := by
  refine Met.ofW (cc := cX8_segmentOf) (maxL := 2) (ret := (some .int)) (by decide) rfl ?_
  intro p e s m args below meth c s₁ B hml hv
  obtain ⟨rfl, hsz, hP, hK, hD0⟩ := hv
  have hx := B.exec
  have hb := B.bytes
  have hr := B.returns
  have hts := atoms_spec (ws := wz_X8_segmentOf) B.pre
  have hta := wz_tl hts
  have hown : s.vm.findClass RX8 = some m.cls := findClass_of_methodNamed B.named
  have hlocks := B.notSynchronized
  subst hsz
  have hD := hD0.self (sz := s.heap.size)
  generalize hAe : va_A (wd_X8_segmentOf cI a0 a1 v0_10 v0_11 v0_7) s.heap.size = A at hD ⊢
  have hA : ∀ q : Nat, s.heap.size ≤ q → A q := fun q h => by rw [← hAe]; exact Or.inr h
  have hS : va_S A s.heap s.heap [] := va_S.rf
  have hP : va_P (dC, dI) vwCl (wd_X8_segmentOf cI a0 a1 v0_10 v0_11 v0_7) s.heap := hP
  have hl := lv_entry ([.ref (a0 0), .int p1]) (n := 2) (Nat.le_of_ble_eq_true rfl)
  rw [lg_entry_eq]
  generalize (lg_sl ([.ref (a0 0), .int p1]) ++ List.replicate (2 - (lg_sl ([.ref (a0 0), .int p1])).length) Slot.unset).toArray = ls at hl ⊢
  have hl : lv_has ls 2 [(0, .ref (a0 0)), (1, .int p1)] := hl
  obtain ⟨H, hHe⟩ : ∃ H, H = s.heap := ⟨_, rfl⟩
  have hS : va_S A s.heap H [] := by rw [hHe]; exact hS
  have hP : va_P (dC, dI) vwCl (wd_X8_segmentOf cI a0 a1 v0_10 v0_11 v0_7) H := by rw [hHe]; exact hP
  rw [← hHe]
  unfold F_X8_segmentOf at hF
  refine lv_aload_n hx hb dX8_segmentOf_0 rfl (lv_at hl 0 rfl) ?_
  refine va_get (D := (dC, dI)) (ci := 7) (v := .ref (a0 8)) (C := RX8) (T := TX8) (N := 12) hx hb hta uw_X8 hown hK hP 0 rfl rfl 7 (by decide) (hta _ mA88) (fun _ h9 => h9) rfl dX8_segmentOf_1 ?_
  refine lv_iload_n hx hb dX8_segmentOf_4 rfl (lv_at hl 1 rfl) ?_
  obtain ⟨u_1, hu_1, hF⟩ := obd_some hF
  have hPc := hP.sub (ws' := (wd_X4_at cI (a0 8) 1024 v0_7)) [1] rfl
  have hDc := hD.sub (ws' := (wd_X4_at cI (a0 8) 1024 v0_7)) [1] rfl rfl
  refine q_calli (wc := (wd_X4_at cI (a0 8) 1024 v0_7)) (w1 := (wd_X4_at cI (a0 8) 1024 v0_7)) (ws' := (wd_X8_segmentOf cI a0 a1 v0_10 v0_11 v0_7)) hP hD hS hA [1] [0] [0, 1] rfl rfl rfl (by decide) rfl rfl (va_runS (As := [.ref (a0 8), .int p1]) (rest := []) ⟨hx, hb, hml, hown, hta⟩ (c_X4_at l dC dI cI H.size (a0 8) 1024 v0_7 p1 u_1 hu_1) (va_cwS 2 hta (ga_S mA419 mA237 mA221 mA238) rfl rfl rfl (by decide +kernel) ⟨Nat.le_of_ble_eq_true rfl, Nat.le_of_ble_eq_true rfl⟩) ⟨q_fb, q_ps hPc hK hDc⟩ rfl rfl hl.1 rfl (lv_room (Nat.le_of_ble_eq_true rfl)) dX8_segmentOf_5 ⟨Nat.zero_le _, Nat.zero_le _⟩) (fun H locs hP hD hS => ?_)
  obtain rfl := Option.some.inj hF
  exact W.iret (v := u_1) hx hb hr (fun t ht hW => ⟨⟨u_1, (), rfl, rfl, by rw [ht]; exact hP, va_K.moved hW.alike hK, hD⟩, hS.F ht⟩) hS.2.2 dX8_segmentOf_8

-- StrokeOutliner$Runs.fromOf(I)I
def F_X8_fromOf (v0_8 : Nat → Int32) (p1 : Int32) : Option (Int32) :=
  obd (F_X4_at 1024 v0_8 p1) (fun u_1 => some u_1)
abbrev wd_X8_fromOf (cI : ClassId) (a0 : Nat → Nat) (a1 : Nat → Nat) (v0_10 : Int32) (v0_11 : Int32) (v0_8 : Nat → Int32) : va_W := [(a0 0, .inr (7, [.ref (a1 0), .ref (a0 2), .ref (a0 3), .ref (a0 4), .ref (a0 5), .ref (a0 6), .ref (a0 7), .ref (a0 8), .ref (a0 9), .ref (a0 10), .int v0_10, .int v0_11])), (a0 9, .inl (cI, 1024, .inl v0_8))]
abbrev wz_X8_fromOf : List Cond := .code yX8_fromOf cX8_fromOf 2 (some .int) :: wALL
abbrev rm_X8_fromOf : Room := { frames := 1, cells := 0, slots := 0, locals := 21 }
abbrev Q_X8_fromOf (dC : Nat → ClassId) (dI : Nat → Nat → Nat) (cI : ClassId) (a0 : Nat → Nat) (a1 : Nat → Nat) (v0_10 : Int32) (v0_11 : Int32) (v0_8 : Nat → Int32) (u : (Int32)) (A : Nat → Prop) : Array Value → State → Outcome → State → Prop := va_Qi (fun (r : Int32) (_ : Unit) => r = u) (fun _ => q_at dC dI cI A (wd_X8_fromOf cI a0 a1 v0_10 v0_11 v0_8)) A
set_option maxHeartbeats 4000000 in
set_option maxRecDepth 100000 in
theorem c_X8_fromOf (l : Launch) (dC : Nat → ClassId) (dI : Nat → Nat → Nat) (cI : ClassId) (sz : Nat) (a0 : Nat → Nat) (a1 : Nat → Nat) (v0_10 : Int32) (v0_11 : Int32) (v0_8 : Nat → Int32) (p1 : Int32) (u : (Int32)) (hF : F_X8_fromOf v0_8 p1 = some u) : Met l yX8_fromOf wz_X8_fromOf rm_X8_fromOf (va_Pc [.ref (a0 0), .int p1] (q_pre dC dI cI (wd_X8_fromOf cI a0 a1 v0_10 v0_11 v0_8) sz)) (Q_X8_fromOf dC dI cI a0 a1 v0_10 v0_11 v0_8 u (va_A (wd_X8_fromOf cI a0 a1 v0_10 v0_11 v0_8) sz)) 0 0 (va_A (wd_X8_fromOf cI a0 a1 v0_10 v0_11 v0_8) sz) := by
  refine Met.ofW (cc := cX8_fromOf) (maxL := 2) (ret := (some .int)) (by decide) rfl ?_
  intro p e s m args below meth c s₁ B hml hv
  obtain ⟨rfl, hsz, hP, hK, hD0⟩ := hv
  have hx := B.exec
  have hb := B.bytes
  have hr := B.returns
  have hts := atoms_spec (ws := wz_X8_fromOf) B.pre
  have hta := wz_tl hts
  have hown : s.vm.findClass RX8 = some m.cls := findClass_of_methodNamed B.named
  have hlocks := B.notSynchronized
  subst hsz
  have hD := hD0.self (sz := s.heap.size)
  generalize hAe : va_A (wd_X8_fromOf cI a0 a1 v0_10 v0_11 v0_8) s.heap.size = A at hD ⊢
  have hA : ∀ q : Nat, s.heap.size ≤ q → A q := fun q h => by rw [← hAe]; exact Or.inr h
  have hS : va_S A s.heap s.heap [] := va_S.rf
  have hP : va_P (dC, dI) vwCl (wd_X8_fromOf cI a0 a1 v0_10 v0_11 v0_8) s.heap := hP
  have hl := lv_entry ([.ref (a0 0), .int p1]) (n := 2) (Nat.le_of_ble_eq_true rfl)
  rw [lg_entry_eq]
  generalize (lg_sl ([.ref (a0 0), .int p1]) ++ List.replicate (2 - (lg_sl ([.ref (a0 0), .int p1])).length) Slot.unset).toArray = ls at hl ⊢
  have hl : lv_has ls 2 [(0, .ref (a0 0)), (1, .int p1)] := hl
  obtain ⟨H, hHe⟩ : ∃ H, H = s.heap := ⟨_, rfl⟩
  have hS : va_S A s.heap H [] := by rw [hHe]; exact hS
  have hP : va_P (dC, dI) vwCl (wd_X8_fromOf cI a0 a1 v0_10 v0_11 v0_8) H := by rw [hHe]; exact hP
  rw [← hHe]
  unfold F_X8_fromOf at hF
  refine lv_aload_n hx hb dX8_fromOf_0 rfl (lv_at hl 0 rfl) ?_
  refine va_get (D := (dC, dI)) (ci := 7) (v := .ref (a0 9)) (C := RX8) (T := TX8) (N := 12) hx hb hta uw_X8 hown hK hP 0 rfl rfl 8 (by decide) (hta _ mA89) (fun _ h9 => h9) rfl dX8_fromOf_1 ?_
  refine lv_iload_n hx hb dX8_fromOf_4 rfl (lv_at hl 1 rfl) ?_
  obtain ⟨u_1, hu_1, hF⟩ := obd_some hF
  have hPc := hP.sub (ws' := (wd_X4_at cI (a0 9) 1024 v0_8)) [1] rfl
  have hDc := hD.sub (ws' := (wd_X4_at cI (a0 9) 1024 v0_8)) [1] rfl rfl
  refine q_calli (wc := (wd_X4_at cI (a0 9) 1024 v0_8)) (w1 := (wd_X4_at cI (a0 9) 1024 v0_8)) (ws' := (wd_X8_fromOf cI a0 a1 v0_10 v0_11 v0_8)) hP hD hS hA [1] [0] [0, 1] rfl rfl rfl (by decide) rfl rfl (va_runS (As := [.ref (a0 9), .int p1]) (rest := []) ⟨hx, hb, hml, hown, hta⟩ (c_X4_at l dC dI cI H.size (a0 9) 1024 v0_8 p1 u_1 hu_1) (va_cwS 2 hta (ga_S mA419 mA237 mA221 mA238) rfl rfl rfl (by decide +kernel) ⟨Nat.le_of_ble_eq_true rfl, Nat.le_of_ble_eq_true rfl⟩) ⟨q_fb, q_ps hPc hK hDc⟩ rfl rfl hl.1 rfl (lv_room (Nat.le_of_ble_eq_true rfl)) dX8_fromOf_5 ⟨Nat.zero_le _, Nat.zero_le _⟩) (fun H locs hP hD hS => ?_)
  obtain rfl := Option.some.inj hF
  exact W.iret (v := u_1) hx hb hr (fun t ht hW => ⟨⟨u_1, (), rfl, rfl, by rw [ht]; exact hP, va_K.moved hW.alike hK, hD⟩, hS.F ht⟩) hS.2.2 dX8_fromOf_8

-- StrokeOutliner$Runs.toOf(I)I
def F_X8_toOf (v0_9 : Nat → Int32) (p1 : Int32) : Option (Int32) :=
  obd (F_X4_at 1024 v0_9 p1) (fun u_1 => some u_1)
abbrev wd_X8_toOf (cI : ClassId) (a0 : Nat → Nat) (a1 : Nat → Nat) (v0_10 : Int32) (v0_11 : Int32) (v0_9 : Nat → Int32) : va_W := [(a0 0, .inr (7, [.ref (a1 0), .ref (a0 2), .ref (a0 3), .ref (a0 4), .ref (a0 5), .ref (a0 6), .ref (a0 7), .ref (a0 8), .ref (a0 9), .ref (a0 10), .int v0_10, .int v0_11])), (a0 10, .inl (cI, 1024, .inl v0_9))]
abbrev wz_X8_toOf : List Cond := .code yX8_toOf cX8_toOf 2 (some .int) :: wALL
abbrev rm_X8_toOf : Room := { frames := 1, cells := 0, slots := 0, locals := 21 }
abbrev Q_X8_toOf (dC : Nat → ClassId) (dI : Nat → Nat → Nat) (cI : ClassId) (a0 : Nat → Nat) (a1 : Nat → Nat) (v0_10 : Int32) (v0_11 : Int32) (v0_9 : Nat → Int32) (u : (Int32)) (A : Nat → Prop) : Array Value → State → Outcome → State → Prop := va_Qi (fun (r : Int32) (_ : Unit) => r = u) (fun _ => q_at dC dI cI A (wd_X8_toOf cI a0 a1 v0_10 v0_11 v0_9)) A
set_option maxHeartbeats 4000000 in
set_option maxRecDepth 100000 in
theorem c_X8_toOf (l : Launch) (dC : Nat → ClassId) (dI : Nat → Nat → Nat) (cI : ClassId) (sz : Nat) (a0 : Nat → Nat) (a1 : Nat → Nat) (v0_10 : Int32) (v0_11 : Int32) (v0_9 : Nat → Int32) (p1 : Int32) (u : (Int32)) (hF : F_X8_toOf v0_9 p1 = some u) : Met l yX8_toOf wz_X8_toOf rm_X8_toOf (va_Pc [.ref (a0 0), .int p1] (q_pre dC dI cI (wd_X8_toOf cI a0 a1 v0_10 v0_11 v0_9) sz)) (Q_X8_toOf dC dI cI a0 a1 v0_10 v0_11 v0_9 u (va_A (wd_X8_toOf cI a0 a1 v0_10 v0_11 v0_9) sz)) 0 0 (va_A (wd_X8_toOf cI a0 a1 v0_10 v0_11 v0_9) sz) := by
  refine Met.ofW (cc := cX8_toOf) (maxL := 2) (ret := (some .int)) (by decide) rfl ?_
  intro p e s m args below meth c s₁ B hml hv
  obtain ⟨rfl, hsz, hP, hK, hD0⟩ := hv
  have hx := B.exec
  have hb := B.bytes
  have hr := B.returns
  have hts := atoms_spec (ws := wz_X8_toOf) B.pre
  have hta := wz_tl hts
  have hown : s.vm.findClass RX8 = some m.cls := findClass_of_methodNamed B.named
  have hlocks := B.notSynchronized
  subst hsz
  have hD := hD0.self (sz := s.heap.size)
  generalize hAe : va_A (wd_X8_toOf cI a0 a1 v0_10 v0_11 v0_9) s.heap.size = A at hD ⊢
  have hA : ∀ q : Nat, s.heap.size ≤ q → A q := fun q h => by rw [← hAe]; exact Or.inr h
  have hS : va_S A s.heap s.heap [] := va_S.rf
  have hP : va_P (dC, dI) vwCl (wd_X8_toOf cI a0 a1 v0_10 v0_11 v0_9) s.heap := hP
  have hl := lv_entry ([.ref (a0 0), .int p1]) (n := 2) (Nat.le_of_ble_eq_true rfl)
  rw [lg_entry_eq]
  generalize (lg_sl ([.ref (a0 0), .int p1]) ++ List.replicate (2 - (lg_sl ([.ref (a0 0), .int p1])).length) Slot.unset).toArray = ls at hl ⊢
  have hl : lv_has ls 2 [(0, .ref (a0 0)), (1, .int p1)] := hl
  obtain ⟨H, hHe⟩ : ∃ H, H = s.heap := ⟨_, rfl⟩
  have hS : va_S A s.heap H [] := by rw [hHe]; exact hS
  have hP : va_P (dC, dI) vwCl (wd_X8_toOf cI a0 a1 v0_10 v0_11 v0_9) H := by rw [hHe]; exact hP
  rw [← hHe]
  unfold F_X8_toOf at hF
  refine lv_aload_n hx hb dX8_toOf_0 rfl (lv_at hl 0 rfl) ?_
  refine va_get (D := (dC, dI)) (ci := 7) (v := .ref (a0 10)) (C := RX8) (T := TX8) (N := 12) hx hb hta uw_X8 hown hK hP 0 rfl rfl 9 (by decide) (hta _ mA90) (fun _ h9 => h9) rfl dX8_toOf_1 ?_
  refine lv_iload_n hx hb dX8_toOf_4 rfl (lv_at hl 1 rfl) ?_
  obtain ⟨u_1, hu_1, hF⟩ := obd_some hF
  have hPc := hP.sub (ws' := (wd_X4_at cI (a0 10) 1024 v0_9)) [1] rfl
  have hDc := hD.sub (ws' := (wd_X4_at cI (a0 10) 1024 v0_9)) [1] rfl rfl
  refine q_calli (wc := (wd_X4_at cI (a0 10) 1024 v0_9)) (w1 := (wd_X4_at cI (a0 10) 1024 v0_9)) (ws' := (wd_X8_toOf cI a0 a1 v0_10 v0_11 v0_9)) hP hD hS hA [1] [0] [0, 1] rfl rfl rfl (by decide) rfl rfl (va_runS (As := [.ref (a0 10), .int p1]) (rest := []) ⟨hx, hb, hml, hown, hta⟩ (c_X4_at l dC dI cI H.size (a0 10) 1024 v0_9 p1 u_1 hu_1) (va_cwS 2 hta (ga_S mA419 mA237 mA221 mA238) rfl rfl rfl (by decide +kernel) ⟨Nat.le_of_ble_eq_true rfl, Nat.le_of_ble_eq_true rfl⟩) ⟨q_fb, q_ps hPc hK hDc⟩ rfl rfl hl.1 rfl (lv_room (Nat.le_of_ble_eq_true rfl)) dX8_toOf_5 ⟨Nat.zero_le _, Nat.zero_le _⟩) (fun H locs hP hD hS => ?_)
  obtain rfl := Option.some.inj hF
  exact W.iret (v := u_1) hx hb hr (fun t ht hW => ⟨⟨u_1, (), rfl, rfl, by rw [ht]; exact hP, va_K.moved hW.alike hK, hD⟩, hS.F ht⟩) hS.2.2 dX8_toOf_8

-- StrokeOutliner$Runs.joinEnds(II)V
def F_X8_joinEnds_j133 (v0_10 : Int32) (v0_11 : Int32) (v0_2 : Nat → Int32) (v0_3 : Nat → Int32) (v0_4 : Nat → Int32) (v0_5 : Nat → Int32) (v0_6 : Nat → Int32) (v0_7 : Nat → Int32) (v0_8 : Nat → Int32) (v0_9 : Nat → Int32) (x3 : Int32) (x4 : Int32) : Option (Int32 × Int32 × (Nat → Int32) × (Nat → Int32) × (Nat → Int32) × (Nat → Int32) × (Nat → Int32) × (Nat → Int32) × (Nat → Int32) × (Nat → Int32)) :=
  gd (decide (vpi x4 928)) (lt (v0_2 x4.toNatClampNeg) (fun y_2 => gd (decide (vpi x3 928)) (lt (upd v0_2 x3.toNatClampNeg y_2) (fun y_4 => gd (decide (vpi x4 928)) (lt (v0_3 x4.toNatClampNeg) (fun y_6 => gd (decide (vpi x3 928)) (lt (upd v0_3 x3.toNatClampNeg y_6) (fun y_8 => gd (decide (vpi x4 928)) (lt (v0_5 x4.toNatClampNeg) (fun y_10 => gd (decide (vpi x3 928)) (lt (upd v0_5 x3.toNatClampNeg y_10) (fun y_12 => gd (decide (vpi x4 928)) (lt (v0_6 x4.toNatClampNeg) (fun y_14 => gd (decide (vpi x3 928)) (lt (upd v0_6 x3.toNatClampNeg y_14) (fun y_16 => lt (v0_10 - 1) (fun y_17 => some (y_17, v0_11, y_4, y_8, v0_4, y_12, y_16, v0_7, v0_8, v0_9))))))))))))))))))
def F_X8_joinEnds_b98 (v0_10 : Int32) (x6 : Int32) (s98 : Int32 × Int32 × (Nat → Int32) × (Nat → Int32) × (Nat → Int32) × (Nat → Int32) × (Nat → Int32)) : Option (Sum (Int32 × Int32 × (Nat → Int32) × (Nat → Int32) × (Nat → Int32) × (Nat → Int32) × (Nat → Int32)) (Int32 × (Nat → Int32) × (Nat → Int32) × (Nat → Int32) × (Nat → Int32) × (Nat → Int32))) :=
  if x6 ≤ s98.1 then some (.inr (s98.2.1, s98.2.2.1, s98.2.2.2.1, s98.2.2.2.2.1, s98.2.2.2.2.2.1, s98.2.2.2.2.2.2)) else obd (F_X8_segmentOf s98.2.2.2.2.1 s98.1) (fun u_19 => obd (F_X8_fromOf s98.2.2.2.2.2.1 s98.1) (fun u_20 => obd (F_X8_toOf s98.2.2.2.2.2.2 s98.1) (fun u_21 => obd (F_X8_addSpan v0_10 s98.2.1 s98.2.2.1 s98.2.2.2.1 s98.2.2.2.2.1 s98.2.2.2.2.2.1 s98.2.2.2.2.2.2 u_19 u_20 u_21) (fun u_22 => lt (s98.1 + 1) (fun y_23 => some (.inl (y_23, u_22.1, u_22.2.1, u_22.2.2.1, u_22.2.2.2.1, u_22.2.2.2.2.1, u_22.2.2.2.2.2)))))))
def F_X8_joinEnds_j98 (n : Nat) (v0_10 : Int32) (v0_11 : Int32) (v0_2 : Nat → Int32) (v0_3 : Nat → Int32) (v0_4 : Nat → Int32) (v0_5 : Nat → Int32) (v0_6 : Nat → Int32) (v0_7 : Nat → Int32) (v0_8 : Nat → Int32) (v0_9 : Nat → Int32) (x3 : Int32) (x4 : Int32) (x6 : Int32) (x7 : Int32) : Option (Int32 × Int32 × (Nat → Int32) × (Nat → Int32) × (Nat → Int32) × (Nat → Int32) × (Nat → Int32) × (Nat → Int32) × (Nat → Int32) × (Nat → Int32)) :=
  obd (lpq (F_X8_joinEnds_b98 v0_10 x6) n (x7, v0_11, v0_3, v0_6, v0_7, v0_8, v0_9)) (fun x_98 => F_X8_joinEnds_j133 v0_10 x_98.1 v0_2 x_98.2.1 v0_4 v0_5 x_98.2.2.1 x_98.2.2.2.1 x_98.2.2.2.2.1 x_98.2.2.2.2.2 x3 x4)
def F_X8_joinEnds (n : Nat) (v0_10 : Int32) (v0_11 : Int32) (v0_1 : Nat → Int32) (v0_2 : Nat → Int32) (v0_3 : Nat → Int32) (v0_4 : Nat → Int32) (v0_5 : Nat → Int32) (v0_6 : Nat → Int32) (v0_7 : Nat → Int32) (v0_8 : Nat → Int32) (v0_9 : Nat → Int32) (p1 : Int32) (p2 : Int32) : Option (Int32 × Int32 × (Nat → Int32) × (Nat → Int32) × (Nat → Int32) × (Nat → Int32) × (Nat → Int32) × (Nat → Int32) × (Nat → Int32) × (Nat → Int32)) :=
  obd (F_X8_firstOf v0_1 p1) (fun u_24 => lt (v0_10 - 1) (fun y_25 => if u_24 < 0 then some (v0_10, v0_11, v0_2, v0_3, v0_4, v0_5, v0_6, v0_7, v0_8, v0_9) else if y_25 < u_24 then some (v0_10, v0_11, v0_2, v0_3, v0_4, v0_5, v0_6, v0_7, v0_8, v0_9) else if 928 ≤ y_25 then some (v0_10, v0_11, v0_2, v0_3, v0_4, v0_5, v0_6, v0_7, v0_8, v0_9) else gd (decide (vpi u_24 928)) (if (v0_2 u_24.toNatClampNeg) = 0 then gd (decide (vpi y_25 928)) (gd (decide (vpi y_25 928)) (if ((v0_2 y_25.toNatClampNeg) + (v0_3 y_25.toNatClampNeg)) = p2 then if u_24 = y_25 then gd (decide (vpi u_24 928)) (lt (upd v0_4 u_24.toNatClampNeg 1) (fun y_40 => some (v0_10, v0_11, v0_2, v0_3, y_40, v0_5, v0_6, v0_7, v0_8, v0_9))) else gd (decide (vpi u_24 928)) (lt (v0_5 u_24.toNatClampNeg) (fun y_36 => gd (decide (vpi u_24 928)) (lt (y_36 + (v0_6 u_24.toNatClampNeg)) (fun y_38 => F_X8_joinEnds_j98 n v0_10 v0_11 v0_2 v0_3 v0_4 v0_5 v0_6 v0_7 v0_8 v0_9 u_24 y_25 y_38 y_36)))) else some (v0_10, v0_11, v0_2, v0_3, v0_4, v0_5, v0_6, v0_7, v0_8, v0_9))) else some (v0_10, v0_11, v0_2, v0_3, v0_4, v0_5, v0_6, v0_7, v0_8, v0_9))))
abbrev wd_X8_joinEnds (cI : ClassId) (a0 : Nat → Nat) (a1 : Nat → Nat) (v0_10 : Int32) (v0_11 : Int32) (v0_1 : Nat → Int32) (v0_2 : Nat → Int32) (v0_3 : Nat → Int32) (v0_4 : Nat → Int32) (v0_5 : Nat → Int32) (v0_6 : Nat → Int32) (v0_7 : Nat → Int32) (v0_8 : Nat → Int32) (v0_9 : Nat → Int32) : va_W := [(a0 0, .inr (7, [.ref (a1 0), .ref (a0 2), .ref (a0 3), .ref (a0 4), .ref (a0 5), .ref (a0 6), .ref (a0 7), .ref (a0 8), .ref (a0 9), .ref (a0 10), .int v0_10, .int v0_11])), (a0 2, .inl (cI, 5, .inl v0_1)), (a0 3, .inl (cI, 928, .inl v0_2)), (a0 4, .inl (cI, 928, .inl v0_3)), (a0 5, .inl (cI, 928, .inl v0_4)), (a0 6, .inl (cI, 928, .inl v0_5)), (a0 7, .inl (cI, 928, .inl v0_6)), (a0 8, .inl (cI, 1024, .inl v0_7)), (a0 9, .inl (cI, 1024, .inl v0_8)), (a0 10, .inl (cI, 1024, .inl v0_9))]
abbrev wz_X8_joinEnds : List Cond := .code yX8_joinEnds cX8_joinEnds 8 none :: wALL
abbrev rm_X8_joinEnds : Room := { frames := 2, cells := 0, slots := 0, locals := 42 }
abbrev Q_X8_joinEnds (dC : Nat → ClassId) (dI : Nat → Nat → Nat) (cI : ClassId) (a0 : Nat → Nat) (a1 : Nat → Nat) (v0_1 : Nat → Int32) (u : (Int32 × Int32 × (Nat → Int32) × (Nat → Int32) × (Nat → Int32) × (Nat → Int32) × (Nat → Int32) × (Nat → Int32) × (Nat → Int32) × (Nat → Int32))) (A : Nat → Prop) : Array Value → State → Outcome → State → Prop := va_Qv (fun (_ : Unit) => True) (fun _ => q_at dC dI cI A (wd_X8_joinEnds cI a0 a1 u.1 u.2.1 v0_1 u.2.2.1 u.2.2.2.1 u.2.2.2.2.1 u.2.2.2.2.2.1 u.2.2.2.2.2.2.1 u.2.2.2.2.2.2.2.1 u.2.2.2.2.2.2.2.2.1 u.2.2.2.2.2.2.2.2.2)) A
set_option maxHeartbeats 4000000 in
set_option maxRecDepth 100000 in
theorem c_X8_joinEnds (l : Launch) (dC : Nat → ClassId) (dI : Nat → Nat → Nat) (cI : ClassId) (sz : Nat) (a0 : Nat → Nat) (a1 : Nat → Nat) (v0_10 : Int32) (v0_11 : Int32) (v0_1 : Nat → Int32) (v0_2 : Nat → Int32) (v0_3 : Nat → Int32) (v0_4 : Nat → Int32) (v0_5 : Nat → Int32) (v0_6 : Nat → Int32) (v0_7 : Nat → Int32) (v0_8 : Nat → Int32) (v0_9 : Nat → Int32) (p1 : Int32) (p2 : Int32) (n : Nat) (u : (Int32 × Int32 × (Nat → Int32) × (Nat → Int32) × (Nat → Int32) × (Nat → Int32) × (Nat → Int32) × (Nat → Int32) × (Nat → Int32) × (Nat → Int32))) (hF : F_X8_joinEnds n v0_10 v0_11 v0_1 v0_2 v0_3 v0_4 v0_5 v0_6 v0_7 v0_8 v0_9 p1 p2 = some u) : Met l yX8_joinEnds wz_X8_joinEnds rm_X8_joinEnds (va_Pc [.ref (a0 0), .int p1, .int p2] (q_pre dC dI cI (wd_X8_joinEnds cI a0 a1 v0_10 v0_11 v0_1 v0_2 v0_3 v0_4 v0_5 v0_6 v0_7 v0_8 v0_9) sz)) (Q_X8_joinEnds dC dI cI a0 a1 v0_1 u (va_A (wd_X8_joinEnds cI a0 a1 v0_10 v0_11 v0_1 v0_2 v0_3 v0_4 v0_5 v0_6 v0_7 v0_8 v0_9) sz)) 0 0 (va_A (wd_X8_joinEnds cI a0 a1 v0_10 v0_11 v0_1 v0_2 v0_3 v0_4 v0_5 v0_6 v0_7 v0_8 v0_9) sz) := by
  refine Met.ofW (cc := cX8_joinEnds) (maxL := 8) (ret := none) (by decide) rfl ?_
  intro p e s m args below meth c s₁ B hml hv
  obtain ⟨rfl, hsz, hP, hK, hD0⟩ := hv
  have hx := B.exec
  have hb := B.bytes
  have hr := B.returns
  have hts := atoms_spec (ws := wz_X8_joinEnds) B.pre
  have hta := wz_tl hts
  have hown : s.vm.findClass RX8 = some m.cls := findClass_of_methodNamed B.named
  have hlocks := B.notSynchronized
  subst hsz
  have hD := hD0.self (sz := s.heap.size)
  generalize hAe : va_A (wd_X8_joinEnds cI a0 a1 v0_10 v0_11 v0_1 v0_2 v0_3 v0_4 v0_5 v0_6 v0_7 v0_8 v0_9) s.heap.size = A at hD ⊢
  have hA : ∀ q : Nat, s.heap.size ≤ q → A q := fun q h => by rw [← hAe]; exact Or.inr h
  have hS : va_S A s.heap s.heap [] := va_S.rf
  have hP : va_P (dC, dI) vwCl (wd_X8_joinEnds cI a0 a1 v0_10 v0_11 v0_1 v0_2 v0_3 v0_4 v0_5 v0_6 v0_7 v0_8 v0_9) s.heap := hP
  have hl := lv_entry ([.ref (a0 0), .int p1, .int p2]) (n := 8) (Nat.le_of_ble_eq_true rfl)
  rw [lg_entry_eq]
  generalize (lg_sl ([.ref (a0 0), .int p1, .int p2]) ++ List.replicate (8 - (lg_sl ([.ref (a0 0), .int p1, .int p2])).length) Slot.unset).toArray = ls at hl ⊢
  have hl : lv_has ls 8 [(0, .ref (a0 0)), (1, .int p1), (2, .int p2)] := hl
  obtain ⟨H, hHe⟩ : ∃ H, H = s.heap := ⟨_, rfl⟩
  have hS : va_S A s.heap H [] := by rw [hHe]; exact hS
  have hP : va_P (dC, dI) vwCl (wd_X8_joinEnds cI a0 a1 v0_10 v0_11 v0_1 v0_2 v0_3 v0_4 v0_5 v0_6 v0_7 v0_8 v0_9) H := by rw [hHe]; exact hP
  rw [← hHe]
  unfold F_X8_joinEnds at hF
  have j133 : ∀ (v0_10 : Int32) (v0_11 : Int32) (v0_2 : Nat → Int32) (v0_3 : Nat → Int32) (v0_4 : Nat → Int32) (v0_5 : Nat → Int32) (v0_6 : Nat → Int32) (v0_7 : Nat → Int32) (v0_8 : Nat → Int32) (v0_9 : Nat → Int32) (x3 : Int32) (x4 : Int32), F_X8_joinEnds_j133 v0_10 v0_11 v0_2 v0_3 v0_4 v0_5 v0_6 v0_7 v0_8 v0_9 x3 x4 = some u → ∀ (H : Heap) (locs : List Loc) (ls : Array Slot), va_P (dC, dI) vwCl (wd_X8_joinEnds cI a0 a1 v0_10 v0_11 v0_1 v0_2 v0_3 v0_4 v0_5 v0_6 v0_7 v0_8 v0_9) H → va_D A (wd_X8_joinEnds cI a0 a1 v0_10 v0_11 v0_1 v0_2 v0_3 v0_4 v0_5 v0_6 v0_7 v0_8 v0_9) → va_S A s.heap H locs → lv_has ls 8 [(0, .ref (a0 0)), (3, .int x3), (4, .int x4)] → W p l e (headSpec wz_X8_joinEnds rm_X8_joinEnds).room s m [.ref (a0 0), .int p1, .int p2].toArray below meth c H locs 0 0 (MQ below (Q_X8_joinEnds dC dI cI a0 a1 v0_1 u A) [.ref (a0 0), .int p1, .int p2].toArray s 0 0 A) (F0 m 133 ls []) := by
    intro v0_10 v0_11 v0_2 v0_3 v0_4 v0_5 v0_6 v0_7 v0_8 v0_9 x3 x4 hF H locs ls hP hD hS hl
    unfold F_X8_joinEnds_j133 at hF
    refine lv_aload_n hx hb dX8_joinEnds_133 rfl (lv_at hl 0 rfl) ?_
    refine va_get (D := (dC, dI)) (ci := 7) (v := .ref (a0 3)) (C := RX8) (T := TX8) (N := 12) hx hb hta uw_X8 hown hK hP 0 rfl rfl 2 (by decide) (hta _ mA83) (fun _ h9 => h9) rfl dX8_joinEnds_134 ?_
    refine lv_iload_n hx hb dX8_joinEnds_137 rfl (lv_at hl 1 rfl) ?_
    refine lv_aload_n hx hb dX8_joinEnds_138 rfl (lv_at hl 0 rfl) ?_
    refine va_get (D := (dC, dI)) (ci := 7) (v := .ref (a0 3)) (C := RX8) (T := TX8) (N := 12) hx hb hta uw_X8 hown hK hP 0 rfl rfl 2 (by decide) (hta _ mA83) (fun _ h9 => h9) rfl dX8_joinEnds_139 ?_
    refine lv_iload hx hb dX8_joinEnds_142 (lv_at hl 2 rfl) ?_
    obtain ⟨g_1, hF⟩ := gd_some hF
    refine va_iald hx hb hK hP 2 0 rfl rfl (vpi_in g_1) dX8_joinEnds_144 ?_
    obtain ⟨y_2, ey_2, hF⟩ := lt_some hF
    refine lv_eqi ey_2 ?_
    obtain ⟨g_3, hF⟩ := gd_some hF
    refine va_iast hx hb hK hP hD hS 2 0 rfl rfl (vpi_in g_3) dX8_joinEnds_145 (fun H locs hP hD hS => ?_)
    obtain ⟨y_4, ey_4, hF⟩ := lt_some hF
    have hP : va_P (dC, dI) vwCl (wd_X8_joinEnds cI a0 a1 v0_10 v0_11 v0_1 y_4 v0_3 v0_4 v0_5 v0_6 v0_7 v0_8 v0_9) H := by rw [ey_4]; exact hP
    have hD : va_D A (wd_X8_joinEnds cI a0 a1 v0_10 v0_11 v0_1 y_4 v0_3 v0_4 v0_5 v0_6 v0_7 v0_8 v0_9) := by rw [ey_4]; exact hD
    refine lv_aload_n hx hb dX8_joinEnds_146 rfl (lv_at hl 0 rfl) ?_
    refine va_get (D := (dC, dI)) (ci := 7) (v := .ref (a0 4)) (C := RX8) (T := TX8) (N := 12) hx hb hta uw_X8 hown hK hP 0 rfl rfl 3 (by decide) (hta _ mA84) (fun _ h9 => h9) rfl dX8_joinEnds_147 ?_
    refine lv_iload_n hx hb dX8_joinEnds_150 rfl (lv_at hl 1 rfl) ?_
    refine lv_aload_n hx hb dX8_joinEnds_151 rfl (lv_at hl 0 rfl) ?_
    refine va_get (D := (dC, dI)) (ci := 7) (v := .ref (a0 4)) (C := RX8) (T := TX8) (N := 12) hx hb hta uw_X8 hown hK hP 0 rfl rfl 3 (by decide) (hta _ mA84) (fun _ h9 => h9) rfl dX8_joinEnds_152 ?_
    refine lv_iload hx hb dX8_joinEnds_155 (lv_at hl 2 rfl) ?_
    obtain ⟨g_5, hF⟩ := gd_some hF
    refine va_iald hx hb hK hP 3 0 rfl rfl (vpi_in g_5) dX8_joinEnds_157 ?_
    obtain ⟨y_6, ey_6, hF⟩ := lt_some hF
    refine lv_eqi ey_6 ?_
    obtain ⟨g_7, hF⟩ := gd_some hF
    refine va_iast hx hb hK hP hD hS 3 0 rfl rfl (vpi_in g_7) dX8_joinEnds_158 (fun H locs hP hD hS => ?_)
    obtain ⟨y_8, ey_8, hF⟩ := lt_some hF
    have hP : va_P (dC, dI) vwCl (wd_X8_joinEnds cI a0 a1 v0_10 v0_11 v0_1 y_4 y_8 v0_4 v0_5 v0_6 v0_7 v0_8 v0_9) H := by rw [ey_8]; exact hP
    have hD : va_D A (wd_X8_joinEnds cI a0 a1 v0_10 v0_11 v0_1 y_4 y_8 v0_4 v0_5 v0_6 v0_7 v0_8 v0_9) := by rw [ey_8]; exact hD
    refine lv_aload_n hx hb dX8_joinEnds_159 rfl (lv_at hl 0 rfl) ?_
    refine va_get (D := (dC, dI)) (ci := 7) (v := .ref (a0 6)) (C := RX8) (T := TX8) (N := 12) hx hb hta uw_X8 hown hK hP 0 rfl rfl 5 (by decide) (hta _ mA86) (fun _ h9 => h9) rfl dX8_joinEnds_160 ?_
    refine lv_iload_n hx hb dX8_joinEnds_163 rfl (lv_at hl 1 rfl) ?_
    refine lv_aload_n hx hb dX8_joinEnds_164 rfl (lv_at hl 0 rfl) ?_
    refine va_get (D := (dC, dI)) (ci := 7) (v := .ref (a0 6)) (C := RX8) (T := TX8) (N := 12) hx hb hta uw_X8 hown hK hP 0 rfl rfl 5 (by decide) (hta _ mA86) (fun _ h9 => h9) rfl dX8_joinEnds_165 ?_
    refine lv_iload hx hb dX8_joinEnds_168 (lv_at hl 2 rfl) ?_
    obtain ⟨g_9, hF⟩ := gd_some hF
    refine va_iald hx hb hK hP 5 0 rfl rfl (vpi_in g_9) dX8_joinEnds_170 ?_
    obtain ⟨y_10, ey_10, hF⟩ := lt_some hF
    refine lv_eqi ey_10 ?_
    obtain ⟨g_11, hF⟩ := gd_some hF
    refine va_iast hx hb hK hP hD hS 5 0 rfl rfl (vpi_in g_11) dX8_joinEnds_171 (fun H locs hP hD hS => ?_)
    obtain ⟨y_12, ey_12, hF⟩ := lt_some hF
    have hP : va_P (dC, dI) vwCl (wd_X8_joinEnds cI a0 a1 v0_10 v0_11 v0_1 y_4 y_8 v0_4 y_12 v0_6 v0_7 v0_8 v0_9) H := by rw [ey_12]; exact hP
    have hD : va_D A (wd_X8_joinEnds cI a0 a1 v0_10 v0_11 v0_1 y_4 y_8 v0_4 y_12 v0_6 v0_7 v0_8 v0_9) := by rw [ey_12]; exact hD
    refine lv_aload_n hx hb dX8_joinEnds_172 rfl (lv_at hl 0 rfl) ?_
    refine va_get (D := (dC, dI)) (ci := 7) (v := .ref (a0 7)) (C := RX8) (T := TX8) (N := 12) hx hb hta uw_X8 hown hK hP 0 rfl rfl 6 (by decide) (hta _ mA87) (fun _ h9 => h9) rfl dX8_joinEnds_173 ?_
    refine lv_iload_n hx hb dX8_joinEnds_176 rfl (lv_at hl 1 rfl) ?_
    refine lv_aload_n hx hb dX8_joinEnds_177 rfl (lv_at hl 0 rfl) ?_
    refine va_get (D := (dC, dI)) (ci := 7) (v := .ref (a0 7)) (C := RX8) (T := TX8) (N := 12) hx hb hta uw_X8 hown hK hP 0 rfl rfl 6 (by decide) (hta _ mA87) (fun _ h9 => h9) rfl dX8_joinEnds_178 ?_
    refine lv_iload hx hb dX8_joinEnds_181 (lv_at hl 2 rfl) ?_
    obtain ⟨g_13, hF⟩ := gd_some hF
    refine va_iald hx hb hK hP 6 0 rfl rfl (vpi_in g_13) dX8_joinEnds_183 ?_
    obtain ⟨y_14, ey_14, hF⟩ := lt_some hF
    refine lv_eqi ey_14 ?_
    obtain ⟨g_15, hF⟩ := gd_some hF
    refine va_iast hx hb hK hP hD hS 6 0 rfl rfl (vpi_in g_15) dX8_joinEnds_184 (fun H locs hP hD hS => ?_)
    obtain ⟨y_16, ey_16, hF⟩ := lt_some hF
    have hP : va_P (dC, dI) vwCl (wd_X8_joinEnds cI a0 a1 v0_10 v0_11 v0_1 y_4 y_8 v0_4 y_12 y_16 v0_7 v0_8 v0_9) H := by rw [ey_16]; exact hP
    have hD : va_D A (wd_X8_joinEnds cI a0 a1 v0_10 v0_11 v0_1 y_4 y_8 v0_4 y_12 y_16 v0_7 v0_8 v0_9) := by rw [ey_16]; exact hD
    refine lv_aload_n hx hb dX8_joinEnds_185 rfl (lv_at hl 0 rfl) ?_
    refine lv_dup hx hb dX8_joinEnds_186 rfl ?_
    refine va_get (D := (dC, dI)) (ci := 7) (v := .int v0_10) (C := RX8) (T := TX8) (N := 12) hx hb hta uw_X8 hown hK hP 0 rfl rfl 10 (by decide) (hta _ mA358) (fun _ h9 => h9) rfl dX8_joinEnds_187 ?_
    refine lv_iconst (v := 1) hx hb dX8_joinEnds_190 (by decide) ?_
    refine lv_isub hx hb dX8_joinEnds_191 ?_
    obtain ⟨y_17, ey_17, hF⟩ := lt_some hF
    refine lv_eqi ey_17 ?_
    refine va_put (D := (dC, dI)) (ci := 7) (v := .int y_17) (ty := .int) (C := RX8) (T := TX8) (N := 12) hx hb hta uw_X8 tyX8 tyX8_ok nmX8 hown hK hP hD hS 0 rfl rfl 10 (by decide) (hta _ mA358) (fun _ h9 => h9) rfl (by decide +kernel) rfl rfl (Nat.le_of_ble_eq_true rfl) dX8_joinEnds_192 (fun H locs hP hD hS => ?_)
    have hP : va_P (dC, dI) vwCl (wd_X8_joinEnds cI a0 a1 y_17 v0_11 v0_1 y_4 y_8 v0_4 y_12 y_16 v0_7 v0_8 v0_9) H := hP
    have hD : va_D A (wd_X8_joinEnds cI a0 a1 y_17 v0_11 v0_1 y_4 y_8 v0_4 y_12 y_16 v0_7 v0_8 v0_9) := hD
    obtain rfl := Option.some.inj hF
    exact W.vret hx hb hr (fun t ht hW => ⟨⟨(), rfl, trivial, by rw [ht]; exact hP, va_K.moved hW.alike hK, hD⟩, hS.F ht⟩) hS.2.2 dX8_joinEnds_195
  have j98 : ∀ (v0_10 : Int32) (v0_11 : Int32) (v0_2 : Nat → Int32) (v0_3 : Nat → Int32) (v0_4 : Nat → Int32) (v0_5 : Nat → Int32) (v0_6 : Nat → Int32) (v0_7 : Nat → Int32) (v0_8 : Nat → Int32) (v0_9 : Nat → Int32) (x3 : Int32) (x4 : Int32) (x6 : Int32) (x7 : Int32), F_X8_joinEnds_j98 n v0_10 v0_11 v0_2 v0_3 v0_4 v0_5 v0_6 v0_7 v0_8 v0_9 x3 x4 x6 x7 = some u → ∀ (H : Heap) (locs : List Loc) (ls : Array Slot), va_P (dC, dI) vwCl (wd_X8_joinEnds cI a0 a1 v0_10 v0_11 v0_1 v0_2 v0_3 v0_4 v0_5 v0_6 v0_7 v0_8 v0_9) H → va_D A (wd_X8_joinEnds cI a0 a1 v0_10 v0_11 v0_1 v0_2 v0_3 v0_4 v0_5 v0_6 v0_7 v0_8 v0_9) → va_S A s.heap H locs → lv_has ls 8 [(0, .ref (a0 0)), (3, .int x3), (4, .int x4), (6, .int x6), (7, .int x7)] → W p l e (headSpec wz_X8_joinEnds rm_X8_joinEnds).room s m [.ref (a0 0), .int p1, .int p2].toArray below meth c H locs 0 0 (MQ below (Q_X8_joinEnds dC dI cI a0 a1 v0_1 u A) [.ref (a0 0), .int p1, .int p2].toArray s 0 0 A) (F0 m 98 ls []) := by
    intro v0_10 v0_11 v0_2 v0_3 v0_4 v0_5 v0_6 v0_7 v0_8 v0_9 x3 x4 x6 x7 hF H locs ls hP hD hS hl
    unfold F_X8_joinEnds_j98 at hF
    obtain ⟨x_98, hL_98, hE_98⟩ := obd_some hF
    have kl_98 : ∀ (k : Nat) (s98 : Int32 × Int32 × (Nat → Int32) × (Nat → Int32) × (Nat → Int32) × (Nat → Int32) × (Nat → Int32)), lpq (F_X8_joinEnds_b98 v0_10 x6) k s98 = some x_98 → ∀ (H : Heap) (locs : List Loc) (ls : Array Slot), va_P (dC, dI) vwCl (wd_X8_joinEnds cI a0 a1 v0_10 s98.2.1 v0_1 v0_2 s98.2.2.1 v0_4 v0_5 s98.2.2.2.1 s98.2.2.2.2.1 s98.2.2.2.2.2.1 s98.2.2.2.2.2.2) H → va_D A (wd_X8_joinEnds cI a0 a1 v0_10 s98.2.1 v0_1 v0_2 s98.2.2.1 v0_4 v0_5 s98.2.2.2.1 s98.2.2.2.2.1 s98.2.2.2.2.2.1 s98.2.2.2.2.2.2) → va_S A s.heap H locs → lv_has ls 8 [(0, .ref (a0 0)), (3, .int x3), (4, .int x4), (6, .int x6), (7, .int s98.1)] → W p l e (headSpec wz_X8_joinEnds rm_X8_joinEnds).room s m [.ref (a0 0), .int p1, .int p2].toArray below meth c H locs 0 0 (MQ below (Q_X8_joinEnds dC dI cI a0 a1 v0_1 u A) [.ref (a0 0), .int p1, .int p2].toArray s 0 0 A) (F0 m 98 ls []) := by
      intro k
      induction k with
      | zero => intro s98 h; exact absurd h lpq_zero
      | succ k ih_98 =>
        intro s98 h H locs ls hP hD hS hl
        obtain ⟨o_98, hF, hO_98⟩ := lpq_succ h
        unfold F_X8_joinEnds_b98 at hF
        refine lv_iload hx hb dX8_joinEnds_98 (lv_at hl 4 rfl) ?_
        refine lv_iload hx hb dX8_joinEnds_100 (lv_at hl 3 rfl) ?_
        refine lv_icmp_ge (tgt := 133) hx hb dX8_joinEnds_102 (by decide) (fun c_18 => ?_) (fun c_18 => ?_)
        · have hF := it_t hF c_18
          obtain rfl := Option.some.inj hF
          obtain rfl := lpq_x hO_98
          have hF := hE_98
          exact j133 v0_10 s98.2.1 v0_2 s98.2.2.1 v0_4 v0_5 s98.2.2.2.1 s98.2.2.2.2.1 s98.2.2.2.2.2.1 s98.2.2.2.2.2.2 x3 x4 hF _ _ _ hP hD hS (lv_sub hl [0, 1, 2] rfl)
        · have hF := it_f hF c_18
          refine lv_aload_n hx hb dX8_joinEnds_105 rfl (lv_at hl 0 rfl) ?_
          refine lv_aload_n hx hb dX8_joinEnds_106 rfl (lv_at hl 0 rfl) ?_
          refine lv_iload hx hb dX8_joinEnds_107 (lv_at hl 4 rfl) ?_
          obtain ⟨u_19, hu_19, hF⟩ := obd_some hF
          have hPc := hP.sub (ws' := (wd_X8_segmentOf cI a0 a1 v0_10 s98.2.1 s98.2.2.2.2.1)) [0, 7] rfl
          have hDc := hD.sub (ws' := (wd_X8_segmentOf cI a0 a1 v0_10 s98.2.1 s98.2.2.2.2.1)) [0, 7] rfl rfl
          refine q_calli (wc := (wd_X8_segmentOf cI a0 a1 v0_10 s98.2.1 s98.2.2.2.2.1)) (w1 := (wd_X8_segmentOf cI a0 a1 v0_10 s98.2.1 s98.2.2.2.2.1)) (ws' := (wd_X8_joinEnds cI a0 a1 v0_10 s98.2.1 v0_1 v0_2 s98.2.2.1 v0_4 v0_5 s98.2.2.2.1 s98.2.2.2.2.1 s98.2.2.2.2.2.1 s98.2.2.2.2.2.2)) hP hD hS hA [0, 7] [1, 2, 3, 4, 5, 6, 8, 9] [8, 0, 1, 2, 3, 4, 5, 9, 6, 7] rfl rfl rfl (by decide) rfl rfl (va_runV (As := [.int s98.1]) (rest := [.ref (a0 0)]) ⟨hx, hb, hml, hown, hta⟩ (c_X8_segmentOf l dC dI cI H.size a0 a1 v0_10 s98.2.1 s98.2.2.2.2.1 s98.1 u_19 hu_19) (cwV 1 hta (ga_V mA420 mA421 mA422 mA56 mA423) rfl rfl rfl (by decide +kernel) ⟨Nat.le_of_ble_eq_true rfl, Nat.le_of_ble_eq_true rfl⟩) ⟨q_fb, va_recv hK hP (ci := 7) (q0 := 0) rfl rfl, q_ps hPc hK hDc⟩ rfl rfl hl.1 rfl (lv_room (Nat.le_of_ble_eq_true rfl)) dX8_joinEnds_109 ⟨Nat.zero_le _, Nat.zero_le _⟩) (fun H locs hP hD hS => ?_)
          refine lv_aload_n hx hb dX8_joinEnds_112 rfl (lv_at hl 0 rfl) ?_
          refine lv_iload hx hb dX8_joinEnds_113 (lv_at hl 4 rfl) ?_
          obtain ⟨u_20, hu_20, hF⟩ := obd_some hF
          have hPc := hP.sub (ws' := (wd_X8_fromOf cI a0 a1 v0_10 s98.2.1 s98.2.2.2.2.2.1)) [0, 8] rfl
          have hDc := hD.sub (ws' := (wd_X8_fromOf cI a0 a1 v0_10 s98.2.1 s98.2.2.2.2.2.1)) [0, 8] rfl rfl
          refine q_calli (wc := (wd_X8_fromOf cI a0 a1 v0_10 s98.2.1 s98.2.2.2.2.2.1)) (w1 := (wd_X8_fromOf cI a0 a1 v0_10 s98.2.1 s98.2.2.2.2.2.1)) (ws' := (wd_X8_joinEnds cI a0 a1 v0_10 s98.2.1 v0_1 v0_2 s98.2.2.1 v0_4 v0_5 s98.2.2.2.1 s98.2.2.2.2.1 s98.2.2.2.2.2.1 s98.2.2.2.2.2.2)) hP hD hS hA [0, 8] [1, 2, 3, 4, 5, 6, 7, 9] [8, 0, 1, 2, 3, 4, 5, 6, 9, 7] rfl rfl rfl (by decide) rfl rfl (va_runV (As := [.int s98.1]) (rest := [.int u_19, .ref (a0 0)]) ⟨hx, hb, hml, hown, hta⟩ (c_X8_fromOf l dC dI cI H.size a0 a1 v0_10 s98.2.1 s98.2.2.2.2.2.1 s98.1 u_20 hu_20) (cwV 1 hta (ga_V mA424 mA425 mA426 mA56 mA427) rfl rfl rfl (by decide +kernel) ⟨Nat.le_of_ble_eq_true rfl, Nat.le_of_ble_eq_true rfl⟩) ⟨q_fb, va_recv hK hP (ci := 7) (q0 := 0) rfl rfl, q_ps hPc hK hDc⟩ rfl rfl hl.1 rfl (lv_room (Nat.le_of_ble_eq_true rfl)) dX8_joinEnds_115 ⟨Nat.zero_le _, Nat.zero_le _⟩) (fun H locs hP hD hS => ?_)
          refine lv_aload_n hx hb dX8_joinEnds_118 rfl (lv_at hl 0 rfl) ?_
          refine lv_iload hx hb dX8_joinEnds_119 (lv_at hl 4 rfl) ?_
          obtain ⟨u_21, hu_21, hF⟩ := obd_some hF
          have hPc := hP.sub (ws' := (wd_X8_toOf cI a0 a1 v0_10 s98.2.1 s98.2.2.2.2.2.2)) [0, 9] rfl
          have hDc := hD.sub (ws' := (wd_X8_toOf cI a0 a1 v0_10 s98.2.1 s98.2.2.2.2.2.2)) [0, 9] rfl rfl
          refine q_calli (wc := (wd_X8_toOf cI a0 a1 v0_10 s98.2.1 s98.2.2.2.2.2.2)) (w1 := (wd_X8_toOf cI a0 a1 v0_10 s98.2.1 s98.2.2.2.2.2.2)) (ws' := (wd_X8_joinEnds cI a0 a1 v0_10 s98.2.1 v0_1 v0_2 s98.2.2.1 v0_4 v0_5 s98.2.2.2.1 s98.2.2.2.2.1 s98.2.2.2.2.2.1 s98.2.2.2.2.2.2)) hP hD hS hA [0, 9] [1, 2, 3, 4, 5, 6, 7, 8] [8, 0, 1, 2, 3, 4, 5, 6, 7, 9] rfl rfl rfl (by decide) rfl rfl (va_runV (As := [.int s98.1]) (rest := [.int u_20, .int u_19, .ref (a0 0)]) ⟨hx, hb, hml, hown, hta⟩ (c_X8_toOf l dC dI cI H.size a0 a1 v0_10 s98.2.1 s98.2.2.2.2.2.2 s98.1 u_21 hu_21) (cwV 1 hta (ga_V mA428 mA429 mA430 mA56 mA431) rfl rfl rfl (by decide +kernel) ⟨Nat.le_of_ble_eq_true rfl, Nat.le_of_ble_eq_true rfl⟩) ⟨q_fb, va_recv hK hP (ci := 7) (q0 := 0) rfl rfl, q_ps hPc hK hDc⟩ rfl rfl hl.1 rfl (lv_room (Nat.le_of_ble_eq_true rfl)) dX8_joinEnds_121 ⟨Nat.zero_le _, Nat.zero_le _⟩) (fun H locs hP hD hS => ?_)
          obtain ⟨u_22, hu_22, hF⟩ := obd_some hF
          have hPc := hP.sub (ws' := (wd_X8_addSpan cI a0 a1 v0_10 s98.2.1 s98.2.2.1 s98.2.2.2.1 s98.2.2.2.2.1 s98.2.2.2.2.2.1 s98.2.2.2.2.2.2)) [0, 3, 6, 7, 8, 9] rfl
          have hDc := hD.sub (ws' := (wd_X8_addSpan cI a0 a1 v0_10 s98.2.1 s98.2.2.1 s98.2.2.2.1 s98.2.2.2.2.1 s98.2.2.2.2.2.1 s98.2.2.2.2.2.2)) [0, 3, 6, 7, 8, 9] rfl rfl
          refine q_callv (wc := (wd_X8_addSpan cI a0 a1 v0_10 s98.2.1 s98.2.2.1 s98.2.2.2.1 s98.2.2.2.2.1 s98.2.2.2.2.2.1 s98.2.2.2.2.2.2)) (w1 := (wd_X8_addSpan cI a0 a1 v0_10 u_22.1 u_22.2.1 u_22.2.2.1 u_22.2.2.2.1 u_22.2.2.2.2.1 u_22.2.2.2.2.2)) (ws' := (wd_X8_joinEnds cI a0 a1 v0_10 u_22.1 v0_1 v0_2 u_22.2.1 v0_4 v0_5 u_22.2.2.1 u_22.2.2.2.1 u_22.2.2.2.2.1 u_22.2.2.2.2.2)) hP hD hS hA [0, 3, 6, 7, 8, 9] [1, 2, 4, 5] [4, 0, 1, 5, 2, 3, 6, 7, 8, 9] rfl rfl rfl (by decide) rfl rfl (va_runV (As := [.int u_19, .int u_20, .int u_21]) (rest := []) ⟨hx, hb, hml, hown, hta⟩ (c_X8_addSpan l dC dI cI H.size a0 a1 v0_10 s98.2.1 s98.2.2.1 s98.2.2.2.1 s98.2.2.2.2.1 s98.2.2.2.2.2.1 s98.2.2.2.2.2.2 u_19 u_20 u_21 u_22 hu_22) (cwV 3 hta (ga_V mA401 mA402 mA403 mA56 mA404) rfl rfl rfl (by decide +kernel) ⟨Nat.le_of_ble_eq_true rfl, Nat.le_of_ble_eq_true rfl⟩) ⟨q_fb, va_recv hK hP (ci := 7) (q0 := 0) rfl rfl, q_ps hPc hK hDc⟩ rfl rfl hl.1 rfl (lv_room (Nat.le_of_ble_eq_true rfl)) dX8_joinEnds_124 ⟨Nat.zero_le _, Nat.zero_le _⟩) (fun H locs hP hD hS => ?_)
          obtain ⟨y_23, ey_23, hF⟩ := lt_some hF
          refine lv_iinc (v := y_23) (lv' := [(7, .int y_23), (0, .ref (a0 0)), (3, .int x3), (4, .int x4), (6, .int x6)]) hx hb dX8_joinEnds_127 hl (k := 4) rfl (by rw [ey_23]; rfl) (by decide) rfl (fun ls hl => ?_)
          refine lv_goto (tgt := 98) hx hb dX8_joinEnds_130 (by decide) ?_
          obtain rfl := Option.some.inj hF
          exact ih_98 _ hO_98 _ _ _ hP hD hS (lv_sub hl [1, 2, 3, 4, 0] rfl)
    exact kl_98 n _ hL_98 _ _ _ hP hD hS hl
  refine lv_aload_n hx hb dX8_joinEnds_0 rfl (lv_at hl 0 rfl) ?_
  refine lv_iload_n hx hb dX8_joinEnds_1 rfl (lv_at hl 1 rfl) ?_
  obtain ⟨u_24, hu_24, hF⟩ := obd_some hF
  have hPc := hP.sub (ws' := (wd_X8_firstOf cI a0 a1 v0_10 v0_11 v0_1)) [0, 1] rfl
  have hDc := hD.sub (ws' := (wd_X8_firstOf cI a0 a1 v0_10 v0_11 v0_1)) [0, 1] rfl rfl
  refine q_calli (wc := (wd_X8_firstOf cI a0 a1 v0_10 v0_11 v0_1)) (w1 := (wd_X8_firstOf cI a0 a1 v0_10 v0_11 v0_1)) (ws' := (wd_X8_joinEnds cI a0 a1 v0_10 v0_11 v0_1 v0_2 v0_3 v0_4 v0_5 v0_6 v0_7 v0_8 v0_9)) hP hD hS hA [0, 1] [2, 3, 4, 5, 6, 7, 8, 9] [8, 9, 0, 1, 2, 3, 4, 5, 6, 7] rfl rfl rfl (by decide) rfl rfl (va_runV (As := [.int p1]) (rest := []) ⟨hx, hb, hml, hown, hta⟩ (c_X8_firstOf l dC dI cI H.size a0 a1 v0_10 v0_11 v0_1 p1 u_24 hu_24) (cwV 1 hta (ga_V mA415 mA416 mA417 mA56 mA418) rfl rfl rfl (by decide +kernel) ⟨Nat.le_of_ble_eq_true rfl, Nat.le_of_ble_eq_true rfl⟩) ⟨q_fb, va_recv hK hP (ci := 7) (q0 := 0) rfl rfl, q_ps hPc hK hDc⟩ rfl rfl hl.1 rfl (lv_room (Nat.le_of_ble_eq_true rfl)) dX8_joinEnds_2 ⟨Nat.zero_le _, Nat.zero_le _⟩) (fun H locs hP hD hS => ?_)
  refine lv_istore_n (lv' := [(3, .int u_24), (0, .ref (a0 0)), (1, .int p1), (2, .int p2)]) hx hb dX8_joinEnds_5 rfl hl (by decide) rfl (fun ls hl => ?_)
  refine lv_aload_n hx hb dX8_joinEnds_6 rfl (lv_at hl 1 rfl) ?_
  refine va_get (D := (dC, dI)) (ci := 7) (v := .int v0_10) (C := RX8) (T := TX8) (N := 12) hx hb hta uw_X8 hown hK hP 0 rfl rfl 10 (by decide) (hta _ mA358) (fun _ h9 => h9) rfl dX8_joinEnds_7 ?_
  refine lv_iconst (v := 1) hx hb dX8_joinEnds_10 (by decide) ?_
  refine lv_isub hx hb dX8_joinEnds_11 ?_
  obtain ⟨y_25, ey_25, hF⟩ := lt_some hF
  refine lv_eqi ey_25 ?_
  refine lv_istore (lv' := [(4, .int y_25), (3, .int u_24), (0, .ref (a0 0)), (1, .int p1), (2, .int p2)]) hx hb dX8_joinEnds_12 hl (by decide) rfl (fun ls hl => ?_)
  refine lv_iload_n hx hb dX8_joinEnds_14 rfl (lv_at hl 1 rfl) ?_
  refine lv_if_lt (tgt := 60) hx hb dX8_joinEnds_15 (by decide) (fun c_26 => ?_) (fun c_26 => ?_)
  · have hF := it_t hF c_26
    obtain rfl := Option.some.inj hF
    exact W.vret hx hb hr (fun t ht hW => ⟨⟨(), rfl, trivial, by rw [ht]; exact hP, va_K.moved hW.alike hK, hD⟩, hS.F ht⟩) hS.2.2 dX8_joinEnds_60
  · have hF := it_f hF c_26
    refine lv_iload hx hb dX8_joinEnds_18 (lv_at hl 0 rfl) ?_
    refine lv_iload_n hx hb dX8_joinEnds_20 rfl (lv_at hl 1 rfl) ?_
    refine lv_icmp_lt (tgt := 60) hx hb dX8_joinEnds_21 (by decide) (fun c_27 => ?_) (fun c_27 => ?_)
    · have hF := it_t hF c_27
      obtain rfl := Option.some.inj hF
      exact W.vret hx hb hr (fun t ht hW => ⟨⟨(), rfl, trivial, by rw [ht]; exact hP, va_K.moved hW.alike hK, hD⟩, hS.F ht⟩) hS.2.2 dX8_joinEnds_60
    · have hF := it_f hF c_27
      refine lv_iload hx hb dX8_joinEnds_24 (lv_at hl 0 rfl) ?_
      refine lv_sipush (v := 928) hx hb dX8_joinEnds_26 (by decide) ?_
      refine lv_icmp_ge (tgt := 60) hx hb dX8_joinEnds_29 (by decide) (fun c_28 => ?_) (fun c_28 => ?_)
      · have hF := it_t hF c_28
        obtain rfl := Option.some.inj hF
        exact W.vret hx hb hr (fun t ht hW => ⟨⟨(), rfl, trivial, by rw [ht]; exact hP, va_K.moved hW.alike hK, hD⟩, hS.F ht⟩) hS.2.2 dX8_joinEnds_60
      · have hF := it_f hF c_28
        refine lv_aload_n hx hb dX8_joinEnds_32 rfl (lv_at hl 2 rfl) ?_
        refine va_get (D := (dC, dI)) (ci := 7) (v := .ref (a0 3)) (C := RX8) (T := TX8) (N := 12) hx hb hta uw_X8 hown hK hP 0 rfl rfl 2 (by decide) (hta _ mA83) (fun _ h9 => h9) rfl dX8_joinEnds_33 ?_
        refine lv_iload_n hx hb dX8_joinEnds_36 rfl (lv_at hl 1 rfl) ?_
        obtain ⟨g_29, hF⟩ := gd_some hF
        refine va_iald hx hb hK hP 2 0 rfl rfl (vpi_in g_29) dX8_joinEnds_37 ?_
        refine lv_if_ne (tgt := 60) hx hb dX8_joinEnds_38 (by decide) (fun c_30 => ?_) (fun c_30 => ?_)
        · have hF := it_f hF c_30
          obtain rfl := Option.some.inj hF
          exact W.vret hx hb hr (fun t ht hW => ⟨⟨(), rfl, trivial, by rw [ht]; exact hP, va_K.moved hW.alike hK, hD⟩, hS.F ht⟩) hS.2.2 dX8_joinEnds_60
        · have hF := it_t hF c_30
          refine lv_aload_n hx hb dX8_joinEnds_41 rfl (lv_at hl 2 rfl) ?_
          refine va_get (D := (dC, dI)) (ci := 7) (v := .ref (a0 3)) (C := RX8) (T := TX8) (N := 12) hx hb hta uw_X8 hown hK hP 0 rfl rfl 2 (by decide) (hta _ mA83) (fun _ h9 => h9) rfl dX8_joinEnds_42 ?_
          refine lv_iload hx hb dX8_joinEnds_45 (lv_at hl 0 rfl) ?_
          obtain ⟨g_31, hF⟩ := gd_some hF
          refine va_iald hx hb hK hP 2 0 rfl rfl (vpi_in g_31) dX8_joinEnds_47 ?_
          refine lv_aload_n hx hb dX8_joinEnds_48 rfl (lv_at hl 2 rfl) ?_
          refine va_get (D := (dC, dI)) (ci := 7) (v := .ref (a0 4)) (C := RX8) (T := TX8) (N := 12) hx hb hta uw_X8 hown hK hP 0 rfl rfl 3 (by decide) (hta _ mA84) (fun _ h9 => h9) rfl dX8_joinEnds_49 ?_
          refine lv_iload hx hb dX8_joinEnds_52 (lv_at hl 0 rfl) ?_
          obtain ⟨g_32, hF⟩ := gd_some hF
          refine va_iald hx hb hK hP 3 0 rfl rfl (vpi_in g_32) dX8_joinEnds_54 ?_
          refine lv_iadd hx hb dX8_joinEnds_55 ?_
          refine lv_iload_n hx hb dX8_joinEnds_56 rfl (lv_at hl 4 rfl) ?_
          refine lv_icmp_eq (tgt := 61) hx hb dX8_joinEnds_57 (by decide) (fun c_33 => ?_) (fun c_33 => ?_)
          · have hF := it_t hF c_33
            refine lv_iload_n hx hb dX8_joinEnds_61 rfl (lv_at hl 1 rfl) ?_
            refine lv_iload hx hb dX8_joinEnds_62 (lv_at hl 0 rfl) ?_
            refine lv_icmp_ne (tgt := 75) hx hb dX8_joinEnds_64 (by decide) (fun c_34 => ?_) (fun c_34 => ?_)
            · have hF := it_f hF c_34
              refine lv_aload_n hx hb dX8_joinEnds_75 rfl (lv_at hl 2 rfl) ?_
              refine va_get (D := (dC, dI)) (ci := 7) (v := .ref (a0 6)) (C := RX8) (T := TX8) (N := 12) hx hb hta uw_X8 hown hK hP 0 rfl rfl 5 (by decide) (hta _ mA86) (fun _ h9 => h9) rfl dX8_joinEnds_76 ?_
              refine lv_iload_n hx hb dX8_joinEnds_79 rfl (lv_at hl 1 rfl) ?_
              obtain ⟨g_35, hF⟩ := gd_some hF
              refine va_iald hx hb hK hP 5 0 rfl rfl (vpi_in g_35) dX8_joinEnds_80 ?_
              obtain ⟨y_36, ey_36, hF⟩ := lt_some hF
              refine lv_eqi ey_36 ?_
              refine lv_istore (lv' := [(5, .int y_36), (4, .int y_25), (3, .int u_24), (0, .ref (a0 0)), (1, .int p1), (2, .int p2)]) hx hb dX8_joinEnds_81 hl (by decide) rfl (fun ls hl => ?_)
              refine lv_iload hx hb dX8_joinEnds_83 (lv_at hl 0 rfl) ?_
              refine lv_aload_n hx hb dX8_joinEnds_85 rfl (lv_at hl 3 rfl) ?_
              refine va_get (D := (dC, dI)) (ci := 7) (v := .ref (a0 7)) (C := RX8) (T := TX8) (N := 12) hx hb hta uw_X8 hown hK hP 0 rfl rfl 6 (by decide) (hta _ mA87) (fun _ h9 => h9) rfl dX8_joinEnds_86 ?_
              refine lv_iload_n hx hb dX8_joinEnds_89 rfl (lv_at hl 2 rfl) ?_
              obtain ⟨g_37, hF⟩ := gd_some hF
              refine va_iald hx hb hK hP 6 0 rfl rfl (vpi_in g_37) dX8_joinEnds_90 ?_
              refine lv_iadd hx hb dX8_joinEnds_91 ?_
              obtain ⟨y_38, ey_38, hF⟩ := lt_some hF
              refine lv_eqi ey_38 ?_
              refine lv_istore (lv' := [(6, .int y_38), (5, .int y_36), (4, .int y_25), (3, .int u_24), (0, .ref (a0 0)), (1, .int p1), (2, .int p2)]) hx hb dX8_joinEnds_92 hl (by decide) rfl (fun ls hl => ?_)
              refine lv_iload hx hb dX8_joinEnds_94 (lv_at hl 1 rfl) ?_
              refine lv_istore (lv' := [(7, .int y_36), (6, .int y_38), (5, .int y_36), (4, .int y_25), (3, .int u_24), (0, .ref (a0 0)), (1, .int p1), (2, .int p2)]) hx hb dX8_joinEnds_96 hl (by decide) rfl (fun ls hl => ?_)
              exact j98 v0_10 v0_11 v0_2 v0_3 v0_4 v0_5 v0_6 v0_7 v0_8 v0_9 u_24 y_25 y_38 y_36 hF _ _ _ hP hD hS (lv_sub hl [5, 4, 3, 1, 0] rfl)
            · have hF := it_t hF c_34
              refine lv_aload_n hx hb dX8_joinEnds_67 rfl (lv_at hl 2 rfl) ?_
              refine va_get (D := (dC, dI)) (ci := 7) (v := .ref (a0 5)) (C := RX8) (T := TX8) (N := 12) hx hb hta uw_X8 hown hK hP 0 rfl rfl 4 (by decide) (hta _ mA85) (fun _ h9 => h9) rfl dX8_joinEnds_68 ?_
              refine lv_iload_n hx hb dX8_joinEnds_71 rfl (lv_at hl 1 rfl) ?_
              refine lv_iconst (v := 1) hx hb dX8_joinEnds_72 (by decide) ?_
              obtain ⟨g_39, hF⟩ := gd_some hF
              refine va_iast hx hb hK hP hD hS 4 0 rfl rfl (vpi_in g_39) dX8_joinEnds_73 (fun H locs hP hD hS => ?_)
              obtain ⟨y_40, ey_40, hF⟩ := lt_some hF
              have hP : va_P (dC, dI) vwCl (wd_X8_joinEnds cI a0 a1 v0_10 v0_11 v0_1 v0_2 v0_3 y_40 v0_5 v0_6 v0_7 v0_8 v0_9) H := by rw [ey_40]; exact hP
              have hD : va_D A (wd_X8_joinEnds cI a0 a1 v0_10 v0_11 v0_1 v0_2 v0_3 y_40 v0_5 v0_6 v0_7 v0_8 v0_9) := by rw [ey_40]; exact hD
              obtain rfl := Option.some.inj hF
              exact W.vret hx hb hr (fun t ht hW => ⟨⟨(), rfl, trivial, by rw [ht]; exact hP, va_K.moved hW.alike hK, hD⟩, hS.F ht⟩) hS.2.2 dX8_joinEnds_74
          · have hF := it_f hF c_33
            obtain rfl := Option.some.inj hF
            exact W.vret hx hb hr (fun t ht hW => ⟨⟨(), rfl, trivial, by rw [ht]; exact hP, va_K.moved hW.alike hK, hD⟩, hS.F ht⟩) hS.2.2 dX8_joinEnds_60

-- StrokeOutliner$Runs.walk(LStrokeOutliner$Drawing;LStrokeOutliner$Segments;)V
def F_X8_walk_j84 (v0_10 : Int32) (v0_11 : Int32) (v0_1 : Nat → Int32) (v0_2 : Nat → Int32) (v0_3 : Nat → Int32) (v0_4 : Nat → Int32) (v0_5 : Nat → Int32) (v0_6 : Nat → Int32) (v0_7 : Nat → Int32) (v0_8 : Nat → Int32) (v0_9 : Nat → Int32) (v1_1 : Int32) (v1_2 : Int32) (v1_3 : Int32) (v1_4 : Int32) (v1_0 : Nat → Int32) : Option (Int32 × Int32 × (Nat → Int32) × (Nat → Int32) × (Nat → Int32) × (Nat → Int32) × (Nat → Int32) × (Nat → Int32) × (Nat → Int32) × (Nat → Int32) × (Nat → Int32) × Int32 × Int32 × Int32 × Int32 × (Nat → Int32)) :=
  gd (decide (vpi 4 5)) (lt (upd v0_1 (4 : Int32).toNatClampNeg v0_10) (fun y_2 => some (v0_10, v0_11, y_2, v0_2, v0_3, v0_4, v0_5, v0_6, v0_7, v0_8, v0_9, v1_1, v1_2, v1_3, v1_4, v1_0)))
def F_X8_walk_j78 (v0_10 : Int32) (v0_11 : Int32) (v0_1 : Nat → Int32) (v0_2 : Nat → Int32) (v0_3 : Nat → Int32) (v0_4 : Nat → Int32) (v0_5 : Nat → Int32) (v0_6 : Nat → Int32) (v0_7 : Nat → Int32) (v0_8 : Nat → Int32) (v0_9 : Nat → Int32) (v1_3 : Int32) (v1_4 : Int32) (x3 : Int32) : Option (Sum (Int32 × Int32 × Int32 × (Nat → Int32) × (Nat → Int32) × (Nat → Int32) × (Nat → Int32) × (Nat → Int32) × (Nat → Int32) × (Nat → Int32) × (Nat → Int32) × (Nat → Int32) × Int32 × Int32) (Int32 × Int32 × (Nat → Int32) × (Nat → Int32) × (Nat → Int32) × (Nat → Int32) × (Nat → Int32) × (Nat → Int32) × (Nat → Int32) × (Nat → Int32) × (Nat → Int32) × Int32 × Int32)) :=
  lt (x3 + 1) (fun y_3 => some (.inl (y_3, v0_10, v0_11, v0_1, v0_2, v0_3, v0_4, v0_5, v0_6, v0_7, v0_8, v0_9, v1_3, v1_4)))
def F_X8_walk_j54 (n : Nat) (v0_10 : Int32) (v0_11 : Int32) (v0_1 : Nat → Int32) (v0_2 : Nat → Int32) (v0_3 : Nat → Int32) (v0_4 : Nat → Int32) (v0_5 : Nat → Int32) (v0_6 : Nat → Int32) (v0_7 : Nat → Int32) (v0_8 : Nat → Int32) (v0_9 : Nat → Int32) (v1_1 : Int32) (v1_3 : Int32) (v1_4 : Int32) (v1_0 : Nat → Int32) (v2_0 : Nat → Int32) (v3_0 : Nat → Int32) (v3_5 : Nat → Int32) (x3 : Int32) : Option (Sum (Int32 × Int32 × Int32 × (Nat → Int32) × (Nat → Int32) × (Nat → Int32) × (Nat → Int32) × (Nat → Int32) × (Nat → Int32) × (Nat → Int32) × (Nat → Int32) × (Nat → Int32) × Int32 × Int32) (Int32 × Int32 × (Nat → Int32) × (Nat → Int32) × (Nat → Int32) × (Nat → Int32) × (Nat → Int32) × (Nat → Int32) × (Nat → Int32) × (Nat → Int32) × (Nat → Int32) × Int32 × Int32)) :=
  obd (F_X8_walkSubpath n v0_10 v0_11 v0_2 v0_3 v0_4 v0_5 v0_6 v0_7 v0_8 v0_9 v1_1 v1_3 v1_4 v1_0 v3_0 v3_5 x3) (fun u_4 => obd (F_X1_isClosed v2_0 x3) (fun u_5 => if u_5 = 0 then F_X8_walk_j78 u_4.1 u_4.2.1 v0_1 u_4.2.2.1 u_4.2.2.2.1 u_4.2.2.2.2.1 u_4.2.2.2.2.2.1 u_4.2.2.2.2.2.2.1 u_4.2.2.2.2.2.2.2.1 u_4.2.2.2.2.2.2.2.2.1 u_4.2.2.2.2.2.2.2.2.2.1 u_4.2.2.2.2.2.2.2.2.2.2.1 u_4.2.2.2.2.2.2.2.2.2.2.2 x3 else obd (F_X9_lengthOf n v3_0 v3_5 x3) (fun u_7 => obd (F_X8_joinEnds n u_4.1 u_4.2.1 v0_1 u_4.2.2.1 u_4.2.2.2.1 u_4.2.2.2.2.1 u_4.2.2.2.2.2.1 u_4.2.2.2.2.2.2.1 u_4.2.2.2.2.2.2.2.1 u_4.2.2.2.2.2.2.2.2.1 u_4.2.2.2.2.2.2.2.2.2.1 x3 u_7) (fun u_8 => F_X8_walk_j78 u_8.1 u_8.2.1 v0_1 u_8.2.2.1 u_8.2.2.2.1 u_8.2.2.2.2.1 u_8.2.2.2.2.2.1 u_8.2.2.2.2.2.2.1 u_8.2.2.2.2.2.2.2.1 u_8.2.2.2.2.2.2.2.2.1 u_8.2.2.2.2.2.2.2.2.2 u_4.2.2.2.2.2.2.2.2.2.2.1 u_4.2.2.2.2.2.2.2.2.2.2.2 x3))))
def F_X8_walk_j47 (n : Nat) (v0_10 : Int32) (v0_11 : Int32) (v0_1 : Nat → Int32) (v0_2 : Nat → Int32) (v0_3 : Nat → Int32) (v0_4 : Nat → Int32) (v0_5 : Nat → Int32) (v0_6 : Nat → Int32) (v0_7 : Nat → Int32) (v0_8 : Nat → Int32) (v0_9 : Nat → Int32) (v1_1 : Int32) (v1_2 : Int32) (v1_0 : Nat → Int32) (v2_0 : Nat → Int32) (v3_0 : Nat → Int32) (v3_5 : Nat → Int32) (x3 : Int32) : Option (Sum (Int32 × Int32 × Int32 × (Nat → Int32) × (Nat → Int32) × (Nat → Int32) × (Nat → Int32) × (Nat → Int32) × (Nat → Int32) × (Nat → Int32) × (Nat → Int32) × (Nat → Int32) × Int32 × Int32) (Int32 × Int32 × (Nat → Int32) × (Nat → Int32) × (Nat → Int32) × (Nat → Int32) × (Nat → Int32) × (Nat → Int32) × (Nat → Int32) × (Nat → Int32) × (Nat → Int32) × Int32 × Int32)) :=
  obd (F_X0_goToPhase n v1_1 v1_2 v1_0) (fun u_9 => F_X8_walk_j54 n v0_10 v0_11 v0_1 v0_2 v0_3 v0_4 v0_5 v0_6 v0_7 v0_8 v0_9 v1_1 u_9.1 u_9.2 v1_0 v2_0 v3_0 v3_5 x3)
def F_X8_walk_b20 (n : Nat) (v1_1 : Int32) (v1_2 : Int32) (v1_0 : Nat → Int32) (v2_0 : Nat → Int32) (v3_0 : Nat → Int32) (v3_5 : Nat → Int32) (s20 : Int32 × Int32 × Int32 × (Nat → Int32) × (Nat → Int32) × (Nat → Int32) × (Nat → Int32) × (Nat → Int32) × (Nat → Int32) × (Nat → Int32) × (Nat → Int32) × (Nat → Int32) × Int32 × Int32) : Option (Sum (Int32 × Int32 × Int32 × (Nat → Int32) × (Nat → Int32) × (Nat → Int32) × (Nat → Int32) × (Nat → Int32) × (Nat → Int32) × (Nat → Int32) × (Nat → Int32) × (Nat → Int32) × Int32 × Int32) (Int32 × Int32 × (Nat → Int32) × (Nat → Int32) × (Nat → Int32) × (Nat → Int32) × (Nat → Int32) × (Nat → Int32) × (Nat → Int32) × (Nat → Int32) × (Nat → Int32) × Int32 × Int32)) :=
  if 4 ≤ s20.1 then some (.inr (s20.2.1, s20.2.2.1, s20.2.2.2.1, s20.2.2.2.2.1, s20.2.2.2.2.2.1, s20.2.2.2.2.2.2.1, s20.2.2.2.2.2.2.2.1, s20.2.2.2.2.2.2.2.2.1, s20.2.2.2.2.2.2.2.2.2.1, s20.2.2.2.2.2.2.2.2.2.2.1, s20.2.2.2.2.2.2.2.2.2.2.2.1, s20.2.2.2.2.2.2.2.2.2.2.2.2.1, s20.2.2.2.2.2.2.2.2.2.2.2.2.2)) else gd (decide (vpi s20.1 5)) (lt (upd s20.2.2.2.1 s20.1.toNatClampNeg s20.2.1) (fun y_12 => if s20.1 = 0 then F_X8_walk_j47 n s20.2.1 s20.2.2.1 y_12 s20.2.2.2.2.1 s20.2.2.2.2.2.1 s20.2.2.2.2.2.2.1 s20.2.2.2.2.2.2.2.1 s20.2.2.2.2.2.2.2.2.1 s20.2.2.2.2.2.2.2.2.2.1 s20.2.2.2.2.2.2.2.2.2.2.1 s20.2.2.2.2.2.2.2.2.2.2.2.1 v1_1 v1_2 v1_0 v2_0 v3_0 v3_5 s20.1 else obd (F_X1_cell v2_0 5) (fun u_14 => if u_14 = 0 then F_X8_walk_j47 n s20.2.1 s20.2.2.1 y_12 s20.2.2.2.2.1 s20.2.2.2.2.2.1 s20.2.2.2.2.2.2.1 s20.2.2.2.2.2.2.2.1 s20.2.2.2.2.2.2.2.2.1 s20.2.2.2.2.2.2.2.2.2.1 s20.2.2.2.2.2.2.2.2.2.2.1 s20.2.2.2.2.2.2.2.2.2.2.2.1 v1_1 v1_2 v1_0 v2_0 v3_0 v3_5 s20.1 else F_X8_walk_j54 n s20.2.1 s20.2.2.1 y_12 s20.2.2.2.2.1 s20.2.2.2.2.2.1 s20.2.2.2.2.2.2.1 s20.2.2.2.2.2.2.2.1 s20.2.2.2.2.2.2.2.2.1 s20.2.2.2.2.2.2.2.2.2.1 s20.2.2.2.2.2.2.2.2.2.2.1 s20.2.2.2.2.2.2.2.2.2.2.2.1 v1_1 s20.2.2.2.2.2.2.2.2.2.2.2.2.1 s20.2.2.2.2.2.2.2.2.2.2.2.2.2 v1_0 v2_0 v3_0 v3_5 s20.1)))
def F_X8_walk_j20 (n : Nat) (v0_10 : Int32) (v0_11 : Int32) (v0_1 : Nat → Int32) (v0_2 : Nat → Int32) (v0_3 : Nat → Int32) (v0_4 : Nat → Int32) (v0_5 : Nat → Int32) (v0_6 : Nat → Int32) (v0_7 : Nat → Int32) (v0_8 : Nat → Int32) (v0_9 : Nat → Int32) (v1_1 : Int32) (v1_2 : Int32) (v1_3 : Int32) (v1_4 : Int32) (v1_0 : Nat → Int32) (v2_0 : Nat → Int32) (v3_0 : Nat → Int32) (v3_5 : Nat → Int32) (x3 : Int32) : Option (Int32 × Int32 × (Nat → Int32) × (Nat → Int32) × (Nat → Int32) × (Nat → Int32) × (Nat → Int32) × (Nat → Int32) × (Nat → Int32) × (Nat → Int32) × (Nat → Int32) × Int32 × Int32 × Int32 × Int32 × (Nat → Int32)) :=
  obd (lpq (F_X8_walk_b20 n v1_1 v1_2 v1_0 v2_0 v3_0 v3_5) n (x3, v0_10, v0_11, v0_1, v0_2, v0_3, v0_4, v0_5, v0_6, v0_7, v0_8, v0_9, v1_3, v1_4)) (fun x_20 => F_X8_walk_j84 x_20.1 x_20.2.1 x_20.2.2.1 x_20.2.2.2.1 x_20.2.2.2.2.1 x_20.2.2.2.2.2.1 x_20.2.2.2.2.2.2.1 x_20.2.2.2.2.2.2.2.1 x_20.2.2.2.2.2.2.2.2.1 x_20.2.2.2.2.2.2.2.2.2.1 x_20.2.2.2.2.2.2.2.2.2.2.1 v1_1 v1_2 x_20.2.2.2.2.2.2.2.2.2.2.2.1 x_20.2.2.2.2.2.2.2.2.2.2.2.2 v1_0)
def F_X8_walk (n : Nat) (v0_1 : Nat → Int32) (v0_2 : Nat → Int32) (v0_3 : Nat → Int32) (v0_4 : Nat → Int32) (v0_5 : Nat → Int32) (v0_6 : Nat → Int32) (v0_7 : Nat → Int32) (v0_8 : Nat → Int32) (v0_9 : Nat → Int32) (v1_3 : Int32) (v1_4 : Int32) (v1_0 : Nat → Int32) (v2_0 : Nat → Int32) (v3_0 : Nat → Int32) (v3_5 : Nat → Int32) : Option (Int32 × Int32 × (Nat → Int32) × (Nat → Int32) × (Nat → Int32) × (Nat → Int32) × (Nat → Int32) × (Nat → Int32) × (Nat → Int32) × (Nat → Int32) × (Nat → Int32) × Int32 × Int32 × Int32 × Int32 × (Nat → Int32)) :=
  obd (F_X0_take n v1_0 v2_0) (fun u_16 => F_X8_walk_j20 n 0 0 v0_1 v0_2 v0_3 v0_4 v0_5 v0_6 v0_7 v0_8 v0_9 u_16.1 u_16.2.1 v1_3 v1_4 u_16.2.2 v2_0 v3_0 v3_5 0)
abbrev wd_X8_walk (cI : ClassId) (a0 : Nat → Nat) (a1 : Nat → Nat) (a2 : Nat → Nat) (a3 : Nat → Nat) (v0_10 : Int32) (v0_11 : Int32) (v0_1 : Nat → Int32) (v0_2 : Nat → Int32) (v0_3 : Nat → Int32) (v0_4 : Nat → Int32) (v0_5 : Nat → Int32) (v0_6 : Nat → Int32) (v0_7 : Nat → Int32) (v0_8 : Nat → Int32) (v0_9 : Nat → Int32) (v1_1 : Int32) (v1_2 : Int32) (v1_3 : Int32) (v1_4 : Int32) (v1_0 : Nat → Int32) (v2_0 : Nat → Int32) (v3_10 : Int32) (v3_0 : Nat → Int32) (v3_5 : Nat → Int32) : va_W := [(a0 0, .inr (7, [.ref (a1 0), .ref (a0 2), .ref (a0 3), .ref (a0 4), .ref (a0 5), .ref (a0 6), .ref (a0 7), .ref (a0 8), .ref (a0 9), .ref (a0 10), .int v0_10, .int v0_11])), (a0 2, .inl (cI, 5, .inl v0_1)), (a0 3, .inl (cI, 928, .inl v0_2)), (a0 4, .inl (cI, 928, .inl v0_3)), (a0 5, .inl (cI, 928, .inl v0_4)), (a0 6, .inl (cI, 928, .inl v0_5)), (a0 7, .inl (cI, 928, .inl v0_6)), (a0 8, .inl (cI, 1024, .inl v0_7)), (a0 9, .inl (cI, 1024, .inl v0_8)), (a0 10, .inl (cI, 1024, .inl v0_9)), (a1 0, .inr (0, [.ref (a1 1), .int v1_1, .int v1_2, .int v1_3, .int v1_4])), (a1 1, .inl (cI, 6, .inl v1_0)), (a2 0, .inr (1, [.ref (a2 1)])), (a2 1, .inl (cI, 86, .inl v2_0)), (a3 0, .inr (8, [.ref (a3 1), .ref (a3 2), .ref (a3 3), .ref (a3 4), .ref (a3 5), .ref (a3 6), .ref (a3 7), .ref (a3 8), .ref (a3 9), .ref (a3 10), .int v3_10])), (a3 1, .inl (cI, 5, .inl v3_0)), (a3 6, .inl (cI, 32, .inl v3_5))]
abbrev wz_X8_walk : List Cond := .code yX8_walk cX8_walk 4 none :: wALL
abbrev rm_X8_walk : Room := { frames := 3, cells := 0, slots := 0, locals := 70 }
abbrev Q_X8_walk (dC : Nat → ClassId) (dI : Nat → Nat → Nat) (cI : ClassId) (a0 : Nat → Nat) (a1 : Nat → Nat) (a2 : Nat → Nat) (a3 : Nat → Nat) (v2_0 : Nat → Int32) (v3_10 : Int32) (v3_0 : Nat → Int32) (v3_5 : Nat → Int32) (u : (Int32 × Int32 × (Nat → Int32) × (Nat → Int32) × (Nat → Int32) × (Nat → Int32) × (Nat → Int32) × (Nat → Int32) × (Nat → Int32) × (Nat → Int32) × (Nat → Int32) × Int32 × Int32 × Int32 × Int32 × (Nat → Int32))) (A : Nat → Prop) : Array Value → State → Outcome → State → Prop := va_Qv (fun (_ : Unit) => True) (fun _ => q_at dC dI cI A (wd_X8_walk cI a0 a1 a2 a3 u.1 u.2.1 u.2.2.1 u.2.2.2.1 u.2.2.2.2.1 u.2.2.2.2.2.1 u.2.2.2.2.2.2.1 u.2.2.2.2.2.2.2.1 u.2.2.2.2.2.2.2.2.1 u.2.2.2.2.2.2.2.2.2.1 u.2.2.2.2.2.2.2.2.2.2.1 u.2.2.2.2.2.2.2.2.2.2.2.1 u.2.2.2.2.2.2.2.2.2.2.2.2.1 u.2.2.2.2.2.2.2.2.2.2.2.2.2.1 u.2.2.2.2.2.2.2.2.2.2.2.2.2.2.1 u.2.2.2.2.2.2.2.2.2.2.2.2.2.2.2 v2_0 v3_10 v3_0 v3_5)) A
set_option maxHeartbeats 4000000 in
set_option maxRecDepth 100000 in
theorem c_X8_walk (l : Launch) (dC : Nat → ClassId) (dI : Nat → Nat → Nat) (cI : ClassId) (sz : Nat) (a0 : Nat → Nat) (a1 : Nat → Nat) (a2 : Nat → Nat) (a3 : Nat → Nat) (v0_10 : Int32) (v0_11 : Int32) (v0_1 : Nat → Int32) (v0_2 : Nat → Int32) (v0_3 : Nat → Int32) (v0_4 : Nat → Int32) (v0_5 : Nat → Int32) (v0_6 : Nat → Int32) (v0_7 : Nat → Int32) (v0_8 : Nat → Int32) (v0_9 : Nat → Int32) (v1_1 : Int32) (v1_2 : Int32) (v1_3 : Int32) (v1_4 : Int32) (v1_0 : Nat → Int32) (v2_0 : Nat → Int32) (v3_10 : Int32) (v3_0 : Nat → Int32) (v3_5 : Nat → Int32) (n : Nat) (u : (Int32 × Int32 × (Nat → Int32) × (Nat → Int32) × (Nat → Int32) × (Nat → Int32) × (Nat → Int32) × (Nat → Int32) × (Nat → Int32) × (Nat → Int32) × (Nat → Int32) × Int32 × Int32 × Int32 × Int32 × (Nat → Int32))) (hF : F_X8_walk n v0_1 v0_2 v0_3 v0_4 v0_5 v0_6 v0_7 v0_8 v0_9 v1_3 v1_4 v1_0 v2_0 v3_0 v3_5 = some u) : Met l yX8_walk wz_X8_walk rm_X8_walk (va_Pc [.ref (a0 0), .ref (a2 0), .ref (a3 0)] (q_pre dC dI cI (wd_X8_walk cI a0 a1 a2 a3 v0_10 v0_11 v0_1 v0_2 v0_3 v0_4 v0_5 v0_6 v0_7 v0_8 v0_9 v1_1 v1_2 v1_3 v1_4 v1_0 v2_0 v3_10 v3_0 v3_5) sz)) (Q_X8_walk dC dI cI a0 a1 a2 a3 v2_0 v3_10 v3_0 v3_5 u (va_A (wd_X8_walk cI a0 a1 a2 a3 v0_10 v0_11 v0_1 v0_2 v0_3 v0_4 v0_5 v0_6 v0_7 v0_8 v0_9 v1_1 v1_2 v1_3 v1_4 v1_0 v2_0 v3_10 v3_0 v3_5) sz)) 0 0 (va_A (wd_X8_walk cI a0 a1 a2 a3 v0_10 v0_11 v0_1 v0_2 v0_3 v0_4 v0_5 v0_6 v0_7 v0_8 v0_9 v1_1 v1_2 v1_3 v1_4 v1_0 v2_0 v3_10 v3_0 v3_5) sz) := by
  refine Met.ofW (cc := cX8_walk) (maxL := 4) (ret := none) (by decide) rfl ?_
  intro p e s m args below meth c s₁ B hml hv
  obtain ⟨rfl, hsz, hP, hK, hD0⟩ := hv
  have hx := B.exec
  have hb := B.bytes
  have hr := B.returns
  have hts := atoms_spec (ws := wz_X8_walk) B.pre
  have hta := wz_tl hts
  have hown : s.vm.findClass RX8 = some m.cls := findClass_of_methodNamed B.named
  have hlocks := B.notSynchronized
  subst hsz
  have hD := hD0.self (sz := s.heap.size)
  generalize hAe : va_A (wd_X8_walk cI a0 a1 a2 a3 v0_10 v0_11 v0_1 v0_2 v0_3 v0_4 v0_5 v0_6 v0_7 v0_8 v0_9 v1_1 v1_2 v1_3 v1_4 v1_0 v2_0 v3_10 v3_0 v3_5) s.heap.size = A at hD ⊢
  have hA : ∀ q : Nat, s.heap.size ≤ q → A q := fun q h => by rw [← hAe]; exact Or.inr h
  have hS : va_S A s.heap s.heap [] := va_S.rf
  have hP : va_P (dC, dI) vwCl (wd_X8_walk cI a0 a1 a2 a3 v0_10 v0_11 v0_1 v0_2 v0_3 v0_4 v0_5 v0_6 v0_7 v0_8 v0_9 v1_1 v1_2 v1_3 v1_4 v1_0 v2_0 v3_10 v3_0 v3_5) s.heap := hP
  have hl := lv_entry ([.ref (a0 0), .ref (a2 0), .ref (a3 0)]) (n := 4) (Nat.le_of_ble_eq_true rfl)
  rw [lg_entry_eq]
  generalize (lg_sl ([.ref (a0 0), .ref (a2 0), .ref (a3 0)]) ++ List.replicate (4 - (lg_sl ([.ref (a0 0), .ref (a2 0), .ref (a3 0)])).length) Slot.unset).toArray = ls at hl ⊢
  have hl : lv_has ls 4 [(0, .ref (a0 0)), (1, .ref (a2 0)), (2, .ref (a3 0))] := hl
  obtain ⟨H, hHe⟩ : ∃ H, H = s.heap := ⟨_, rfl⟩
  have hS : va_S A s.heap H [] := by rw [hHe]; exact hS
  have hP : va_P (dC, dI) vwCl (wd_X8_walk cI a0 a1 a2 a3 v0_10 v0_11 v0_1 v0_2 v0_3 v0_4 v0_5 v0_6 v0_7 v0_8 v0_9 v1_1 v1_2 v1_3 v1_4 v1_0 v2_0 v3_10 v3_0 v3_5) H := by rw [hHe]; exact hP
  rw [← hHe]
  unfold F_X8_walk at hF
  have j84 : ∀ (v0_10 : Int32) (v0_11 : Int32) (v0_1 : Nat → Int32) (v0_2 : Nat → Int32) (v0_3 : Nat → Int32) (v0_4 : Nat → Int32) (v0_5 : Nat → Int32) (v0_6 : Nat → Int32) (v0_7 : Nat → Int32) (v0_8 : Nat → Int32) (v0_9 : Nat → Int32) (v1_1 : Int32) (v1_2 : Int32) (v1_3 : Int32) (v1_4 : Int32) (v1_0 : Nat → Int32), F_X8_walk_j84 v0_10 v0_11 v0_1 v0_2 v0_3 v0_4 v0_5 v0_6 v0_7 v0_8 v0_9 v1_1 v1_2 v1_3 v1_4 v1_0 = some u → ∀ (H : Heap) (locs : List Loc) (ls : Array Slot), va_P (dC, dI) vwCl (wd_X8_walk cI a0 a1 a2 a3 v0_10 v0_11 v0_1 v0_2 v0_3 v0_4 v0_5 v0_6 v0_7 v0_8 v0_9 v1_1 v1_2 v1_3 v1_4 v1_0 v2_0 v3_10 v3_0 v3_5) H → va_D A (wd_X8_walk cI a0 a1 a2 a3 v0_10 v0_11 v0_1 v0_2 v0_3 v0_4 v0_5 v0_6 v0_7 v0_8 v0_9 v1_1 v1_2 v1_3 v1_4 v1_0 v2_0 v3_10 v3_0 v3_5) → va_S A s.heap H locs → lv_has ls 4 [(0, .ref (a0 0))] → W p l e (headSpec wz_X8_walk rm_X8_walk).room s m [.ref (a0 0), .ref (a2 0), .ref (a3 0)].toArray below meth c H locs 0 0 (MQ below (Q_X8_walk dC dI cI a0 a1 a2 a3 v2_0 v3_10 v3_0 v3_5 u A) [.ref (a0 0), .ref (a2 0), .ref (a3 0)].toArray s 0 0 A) (F0 m 84 ls []) := by
    intro v0_10 v0_11 v0_1 v0_2 v0_3 v0_4 v0_5 v0_6 v0_7 v0_8 v0_9 v1_1 v1_2 v1_3 v1_4 v1_0 hF H locs ls hP hD hS hl
    unfold F_X8_walk_j84 at hF
    refine lv_aload_n hx hb dX8_walk_84 rfl (lv_at hl 0 rfl) ?_
    refine va_get (D := (dC, dI)) (ci := 7) (v := .ref (a0 2)) (C := RX8) (T := TX8) (N := 12) hx hb hta uw_X8 hown hK hP 0 rfl rfl 1 (by decide) (hta _ mA82) (fun _ h9 => h9) rfl dX8_walk_85 ?_
    refine lv_iconst (v := 4) hx hb dX8_walk_88 (by decide) ?_
    refine lv_aload_n hx hb dX8_walk_89 rfl (lv_at hl 0 rfl) ?_
    refine va_get (D := (dC, dI)) (ci := 7) (v := .int v0_10) (C := RX8) (T := TX8) (N := 12) hx hb hta uw_X8 hown hK hP 0 rfl rfl 10 (by decide) (hta _ mA358) (fun _ h9 => h9) rfl dX8_walk_90 ?_
    obtain ⟨g_1, hF⟩ := gd_some hF
    refine va_iast hx hb hK hP hD hS 1 0 rfl rfl (vpi_in g_1) dX8_walk_93 (fun H locs hP hD hS => ?_)
    obtain ⟨y_2, ey_2, hF⟩ := lt_some hF
    have hP : va_P (dC, dI) vwCl (wd_X8_walk cI a0 a1 a2 a3 v0_10 v0_11 y_2 v0_2 v0_3 v0_4 v0_5 v0_6 v0_7 v0_8 v0_9 v1_1 v1_2 v1_3 v1_4 v1_0 v2_0 v3_10 v3_0 v3_5) H := by rw [ey_2]; exact hP
    have hD : va_D A (wd_X8_walk cI a0 a1 a2 a3 v0_10 v0_11 y_2 v0_2 v0_3 v0_4 v0_5 v0_6 v0_7 v0_8 v0_9 v1_1 v1_2 v1_3 v1_4 v1_0 v2_0 v3_10 v3_0 v3_5) := by rw [ey_2]; exact hD
    obtain rfl := Option.some.inj hF
    exact W.vret hx hb hr (fun t ht hW => ⟨⟨(), rfl, trivial, by rw [ht]; exact hP, va_K.moved hW.alike hK, hD⟩, hS.F ht⟩) hS.2.2 dX8_walk_94
  have j20 : ∀ (v0_10 : Int32) (v0_11 : Int32) (v0_1 : Nat → Int32) (v0_2 : Nat → Int32) (v0_3 : Nat → Int32) (v0_4 : Nat → Int32) (v0_5 : Nat → Int32) (v0_6 : Nat → Int32) (v0_7 : Nat → Int32) (v0_8 : Nat → Int32) (v0_9 : Nat → Int32) (v1_1 : Int32) (v1_2 : Int32) (v1_3 : Int32) (v1_4 : Int32) (v1_0 : Nat → Int32) (x3 : Int32), F_X8_walk_j20 n v0_10 v0_11 v0_1 v0_2 v0_3 v0_4 v0_5 v0_6 v0_7 v0_8 v0_9 v1_1 v1_2 v1_3 v1_4 v1_0 v2_0 v3_0 v3_5 x3 = some u → ∀ (H : Heap) (locs : List Loc) (ls : Array Slot), va_P (dC, dI) vwCl (wd_X8_walk cI a0 a1 a2 a3 v0_10 v0_11 v0_1 v0_2 v0_3 v0_4 v0_5 v0_6 v0_7 v0_8 v0_9 v1_1 v1_2 v1_3 v1_4 v1_0 v2_0 v3_10 v3_0 v3_5) H → va_D A (wd_X8_walk cI a0 a1 a2 a3 v0_10 v0_11 v0_1 v0_2 v0_3 v0_4 v0_5 v0_6 v0_7 v0_8 v0_9 v1_1 v1_2 v1_3 v1_4 v1_0 v2_0 v3_10 v3_0 v3_5) → va_S A s.heap H locs → lv_has ls 4 [(0, .ref (a0 0)), (1, .ref (a2 0)), (2, .ref (a3 0)), (3, .int x3)] → W p l e (headSpec wz_X8_walk rm_X8_walk).room s m [.ref (a0 0), .ref (a2 0), .ref (a3 0)].toArray below meth c H locs 0 0 (MQ below (Q_X8_walk dC dI cI a0 a1 a2 a3 v2_0 v3_10 v3_0 v3_5 u A) [.ref (a0 0), .ref (a2 0), .ref (a3 0)].toArray s 0 0 A) (F0 m 20 ls []) := by
    intro v0_10 v0_11 v0_1 v0_2 v0_3 v0_4 v0_5 v0_6 v0_7 v0_8 v0_9 v1_1 v1_2 v1_3 v1_4 v1_0 x3 hF H locs ls hP hD hS hl
    unfold F_X8_walk_j20 at hF
    obtain ⟨x_20, hL_20, hE_20⟩ := obd_some hF
    have kl_20 : ∀ (k : Nat) (s20 : Int32 × Int32 × Int32 × (Nat → Int32) × (Nat → Int32) × (Nat → Int32) × (Nat → Int32) × (Nat → Int32) × (Nat → Int32) × (Nat → Int32) × (Nat → Int32) × (Nat → Int32) × Int32 × Int32), lpq (F_X8_walk_b20 n v1_1 v1_2 v1_0 v2_0 v3_0 v3_5) k s20 = some x_20 → ∀ (H : Heap) (locs : List Loc) (ls : Array Slot), va_P (dC, dI) vwCl (wd_X8_walk cI a0 a1 a2 a3 s20.2.1 s20.2.2.1 s20.2.2.2.1 s20.2.2.2.2.1 s20.2.2.2.2.2.1 s20.2.2.2.2.2.2.1 s20.2.2.2.2.2.2.2.1 s20.2.2.2.2.2.2.2.2.1 s20.2.2.2.2.2.2.2.2.2.1 s20.2.2.2.2.2.2.2.2.2.2.1 s20.2.2.2.2.2.2.2.2.2.2.2.1 v1_1 v1_2 s20.2.2.2.2.2.2.2.2.2.2.2.2.1 s20.2.2.2.2.2.2.2.2.2.2.2.2.2 v1_0 v2_0 v3_10 v3_0 v3_5) H → va_D A (wd_X8_walk cI a0 a1 a2 a3 s20.2.1 s20.2.2.1 s20.2.2.2.1 s20.2.2.2.2.1 s20.2.2.2.2.2.1 s20.2.2.2.2.2.2.1 s20.2.2.2.2.2.2.2.1 s20.2.2.2.2.2.2.2.2.1 s20.2.2.2.2.2.2.2.2.2.1 s20.2.2.2.2.2.2.2.2.2.2.1 s20.2.2.2.2.2.2.2.2.2.2.2.1 v1_1 v1_2 s20.2.2.2.2.2.2.2.2.2.2.2.2.1 s20.2.2.2.2.2.2.2.2.2.2.2.2.2 v1_0 v2_0 v3_10 v3_0 v3_5) → va_S A s.heap H locs → lv_has ls 4 [(0, .ref (a0 0)), (1, .ref (a2 0)), (2, .ref (a3 0)), (3, .int s20.1)] → W p l e (headSpec wz_X8_walk rm_X8_walk).room s m [.ref (a0 0), .ref (a2 0), .ref (a3 0)].toArray below meth c H locs 0 0 (MQ below (Q_X8_walk dC dI cI a0 a1 a2 a3 v2_0 v3_10 v3_0 v3_5 u A) [.ref (a0 0), .ref (a2 0), .ref (a3 0)].toArray s 0 0 A) (F0 m 20 ls []) := by
      intro k
      induction k with
      | zero => intro s20 h; exact absurd h lpq_zero
      | succ k ih_20 =>
        intro s20 h H locs ls hP hD hS hl
        obtain ⟨o_20, hF, hO_20⟩ := lpq_succ h
        unfold F_X8_walk_b20 at hF
        have j78 : ∀ (v0_10 : Int32) (v0_11 : Int32) (v0_1 : Nat → Int32) (v0_2 : Nat → Int32) (v0_3 : Nat → Int32) (v0_4 : Nat → Int32) (v0_5 : Nat → Int32) (v0_6 : Nat → Int32) (v0_7 : Nat → Int32) (v0_8 : Nat → Int32) (v0_9 : Nat → Int32) (v1_3 : Int32) (v1_4 : Int32) (x3 : Int32), F_X8_walk_j78 v0_10 v0_11 v0_1 v0_2 v0_3 v0_4 v0_5 v0_6 v0_7 v0_8 v0_9 v1_3 v1_4 x3 = some o_20 → ∀ (H : Heap) (locs : List Loc) (ls : Array Slot), va_P (dC, dI) vwCl (wd_X8_walk cI a0 a1 a2 a3 v0_10 v0_11 v0_1 v0_2 v0_3 v0_4 v0_5 v0_6 v0_7 v0_8 v0_9 v1_1 v1_2 v1_3 v1_4 v1_0 v2_0 v3_10 v3_0 v3_5) H → va_D A (wd_X8_walk cI a0 a1 a2 a3 v0_10 v0_11 v0_1 v0_2 v0_3 v0_4 v0_5 v0_6 v0_7 v0_8 v0_9 v1_1 v1_2 v1_3 v1_4 v1_0 v2_0 v3_10 v3_0 v3_5) → va_S A s.heap H locs → lv_has ls 4 [(0, .ref (a0 0)), (1, .ref (a2 0)), (2, .ref (a3 0)), (3, .int x3)] → W p l e (headSpec wz_X8_walk rm_X8_walk).room s m [.ref (a0 0), .ref (a2 0), .ref (a3 0)].toArray below meth c H locs 0 0 (MQ below (Q_X8_walk dC dI cI a0 a1 a2 a3 v2_0 v3_10 v3_0 v3_5 u A) [.ref (a0 0), .ref (a2 0), .ref (a3 0)].toArray s 0 0 A) (F0 m 78 ls []) := by
          intro v0_10 v0_11 v0_1 v0_2 v0_3 v0_4 v0_5 v0_6 v0_7 v0_8 v0_9 v1_3 v1_4 x3 hF H locs ls hP hD hS hl
          unfold F_X8_walk_j78 at hF
          obtain ⟨y_3, ey_3, hF⟩ := lt_some hF
          refine lv_iinc (v := y_3) (lv' := [(3, .int y_3), (0, .ref (a0 0)), (1, .ref (a2 0)), (2, .ref (a3 0))]) hx hb dX8_walk_78 hl (k := 3) rfl (by rw [ey_3]; rfl) (by decide) rfl (fun ls hl => ?_)
          refine lv_goto (tgt := 20) hx hb dX8_walk_81 (by decide) ?_
          obtain rfl := Option.some.inj hF
          exact ih_20 _ hO_20 _ _ _ hP hD hS (lv_sub hl [1, 2, 3, 0] rfl)
        have j54 : ∀ (v0_10 : Int32) (v0_11 : Int32) (v0_1 : Nat → Int32) (v0_2 : Nat → Int32) (v0_3 : Nat → Int32) (v0_4 : Nat → Int32) (v0_5 : Nat → Int32) (v0_6 : Nat → Int32) (v0_7 : Nat → Int32) (v0_8 : Nat → Int32) (v0_9 : Nat → Int32) (v1_3 : Int32) (v1_4 : Int32) (x3 : Int32), F_X8_walk_j54 n v0_10 v0_11 v0_1 v0_2 v0_3 v0_4 v0_5 v0_6 v0_7 v0_8 v0_9 v1_1 v1_3 v1_4 v1_0 v2_0 v3_0 v3_5 x3 = some o_20 → ∀ (H : Heap) (locs : List Loc) (ls : Array Slot), va_P (dC, dI) vwCl (wd_X8_walk cI a0 a1 a2 a3 v0_10 v0_11 v0_1 v0_2 v0_3 v0_4 v0_5 v0_6 v0_7 v0_8 v0_9 v1_1 v1_2 v1_3 v1_4 v1_0 v2_0 v3_10 v3_0 v3_5) H → va_D A (wd_X8_walk cI a0 a1 a2 a3 v0_10 v0_11 v0_1 v0_2 v0_3 v0_4 v0_5 v0_6 v0_7 v0_8 v0_9 v1_1 v1_2 v1_3 v1_4 v1_0 v2_0 v3_10 v3_0 v3_5) → va_S A s.heap H locs → lv_has ls 4 [(0, .ref (a0 0)), (1, .ref (a2 0)), (2, .ref (a3 0)), (3, .int x3)] → W p l e (headSpec wz_X8_walk rm_X8_walk).room s m [.ref (a0 0), .ref (a2 0), .ref (a3 0)].toArray below meth c H locs 0 0 (MQ below (Q_X8_walk dC dI cI a0 a1 a2 a3 v2_0 v3_10 v3_0 v3_5 u A) [.ref (a0 0), .ref (a2 0), .ref (a3 0)].toArray s 0 0 A) (F0 m 54 ls []) := by
          intro v0_10 v0_11 v0_1 v0_2 v0_3 v0_4 v0_5 v0_6 v0_7 v0_8 v0_9 v1_3 v1_4 x3 hF H locs ls hP hD hS hl
          unfold F_X8_walk_j54 at hF
          refine lv_aload_n hx hb dX8_walk_54 rfl (lv_at hl 0 rfl) ?_
          refine lv_aload_n hx hb dX8_walk_55 rfl (lv_at hl 2 rfl) ?_
          refine lv_iload_n hx hb dX8_walk_56 rfl (lv_at hl 3 rfl) ?_
          obtain ⟨u_4, hu_4, hF⟩ := obd_some hF
          have hPc := hP.sub (ws' := (wd_X8_walkSubpath cI a0 a1 a3 v0_10 v0_11 v0_2 v0_3 v0_4 v0_5 v0_6 v0_7 v0_8 v0_9 v1_1 v1_2 v1_3 v1_4 v1_0 v3_10 v3_0 v3_5)) [0, 2, 3, 4, 5, 6, 7, 8, 9, 10, 11, 14, 15, 16] rfl
          have hDc := hD.sub (ws' := (wd_X8_walkSubpath cI a0 a1 a3 v0_10 v0_11 v0_2 v0_3 v0_4 v0_5 v0_6 v0_7 v0_8 v0_9 v1_1 v1_2 v1_3 v1_4 v1_0 v3_10 v3_0 v3_5)) [0, 2, 3, 4, 5, 6, 7, 8, 9, 10, 11, 14, 15, 16] rfl rfl
          refine q_callv (wc := (wd_X8_walkSubpath cI a0 a1 a3 v0_10 v0_11 v0_2 v0_3 v0_4 v0_5 v0_6 v0_7 v0_8 v0_9 v1_1 v1_2 v1_3 v1_4 v1_0 v3_10 v3_0 v3_5)) (w1 := (wd_X8_walkSubpath cI a0 a1 a3 u_4.1 u_4.2.1 u_4.2.2.1 u_4.2.2.2.1 u_4.2.2.2.2.1 u_4.2.2.2.2.2.1 u_4.2.2.2.2.2.2.1 u_4.2.2.2.2.2.2.2.1 u_4.2.2.2.2.2.2.2.2.1 u_4.2.2.2.2.2.2.2.2.2.1 v1_1 v1_2 u_4.2.2.2.2.2.2.2.2.2.2.1 u_4.2.2.2.2.2.2.2.2.2.2.2 v1_0 v3_10 v3_0 v3_5)) (ws' := (wd_X8_walk cI a0 a1 a2 a3 u_4.1 u_4.2.1 v0_1 u_4.2.2.1 u_4.2.2.2.1 u_4.2.2.2.2.1 u_4.2.2.2.2.2.1 u_4.2.2.2.2.2.2.1 u_4.2.2.2.2.2.2.2.1 u_4.2.2.2.2.2.2.2.2.1 u_4.2.2.2.2.2.2.2.2.2.1 v1_1 v1_2 u_4.2.2.2.2.2.2.2.2.2.2.1 u_4.2.2.2.2.2.2.2.2.2.2.2 v1_0 v2_0 v3_10 v3_0 v3_5)) hP hD hS hA [0, 2, 3, 4, 5, 6, 7, 8, 9, 10, 11, 14, 15, 16] [1, 12, 13] [3, 0, 4, 5, 6, 7, 8, 9, 10, 11, 12, 13, 1, 2, 14, 15, 16] rfl rfl rfl (by decide) rfl rfl (va_runV (As := [.ref (a3 0), .int x3]) (rest := []) ⟨hx, hb, hml, hown, hta⟩ (c_X8_walkSubpath l dC dI cI H.size a0 a1 a3 v0_10 v0_11 v0_2 v0_3 v0_4 v0_5 v0_6 v0_7 v0_8 v0_9 v1_1 v1_2 v1_3 v1_4 v1_0 v3_10 v3_0 v3_5 x3 n u_4 hu_4) (cwV 2 hta (ga_V mA380 mA381 mA382 mA56 mA383) rfl rfl rfl (by decide +kernel) ⟨Nat.le_of_ble_eq_true rfl, Nat.le_of_ble_eq_true rfl⟩) ⟨q_fb, va_recv hK hP (ci := 7) (q0 := 0) rfl rfl, q_ps hPc hK hDc⟩ rfl rfl hl.1 rfl (lv_room (Nat.le_of_ble_eq_true rfl)) dX8_walk_57 ⟨Nat.zero_le _, Nat.zero_le _⟩) (fun H locs hP hD hS => ?_)
          refine lv_aload_n hx hb dX8_walk_60 rfl (lv_at hl 1 rfl) ?_
          refine lv_iload_n hx hb dX8_walk_61 rfl (lv_at hl 3 rfl) ?_
          obtain ⟨u_5, hu_5, hF⟩ := obd_some hF
          have hPc := hP.sub (ws' := (wd_X1_isClosed cI a2 v2_0)) [12, 13] rfl
          have hDc := hD.sub (ws' := (wd_X1_isClosed cI a2 v2_0)) [12, 13] rfl rfl
          refine q_callz (wc := (wd_X1_isClosed cI a2 v2_0)) (w1 := (wd_X1_isClosed cI a2 v2_0)) (ws' := (wd_X8_walk cI a0 a1 a2 a3 u_4.1 u_4.2.1 v0_1 u_4.2.2.1 u_4.2.2.2.1 u_4.2.2.2.2.1 u_4.2.2.2.2.2.1 u_4.2.2.2.2.2.2.1 u_4.2.2.2.2.2.2.2.1 u_4.2.2.2.2.2.2.2.2.1 u_4.2.2.2.2.2.2.2.2.2.1 v1_1 v1_2 u_4.2.2.2.2.2.2.2.2.2.2.1 u_4.2.2.2.2.2.2.2.2.2.2.2 v1_0 v2_0 v3_10 v3_0 v3_5)) hP hD hS hA [12, 13] [0, 1, 2, 3, 4, 5, 6, 7, 8, 9, 10, 11, 14, 15, 16] [0, 1, 2, 3, 4, 5, 6, 7, 8, 9, 10, 11, 15, 16, 12, 13, 14] rfl rfl rfl (by decide) rfl rfl (va_runV (As := [.int x3]) (rest := []) ⟨hx, hb, hml, hown, hta⟩ (c_X1_isClosed l dC dI cI H.size a2 v2_0 x3 u_5 hu_5) (cwV 1 hta (ga_V mA409 mA182 mA183 mA6 mA184) rfl rfl rfl (by decide +kernel) ⟨Nat.le_of_ble_eq_true rfl, Nat.le_of_ble_eq_true rfl⟩) ⟨q_fb, va_recv hK hP (ci := 1) (q0 := 12) rfl rfl, q_ps hPc hK hDc⟩ rfl rfl hl.1 rfl (lv_room (Nat.le_of_ble_eq_true rfl)) dX8_walk_62 ⟨Nat.zero_le _, Nat.zero_le _⟩) (fun hzu_5 H locs hP hD hS => ?_)
          refine lv_if_eq (tgt := 78) hx hb dX8_walk_65 (by decide) (fun c_6 => ?_) (fun c_6 => ?_)
          · have hF := it_t hF c_6
            exact j78 u_4.1 u_4.2.1 v0_1 u_4.2.2.1 u_4.2.2.2.1 u_4.2.2.2.2.1 u_4.2.2.2.2.2.1 u_4.2.2.2.2.2.2.1 u_4.2.2.2.2.2.2.2.1 u_4.2.2.2.2.2.2.2.2.1 u_4.2.2.2.2.2.2.2.2.2.1 u_4.2.2.2.2.2.2.2.2.2.2.1 u_4.2.2.2.2.2.2.2.2.2.2.2 x3 hF _ _ _ hP hD hS (lv_sub hl [0, 1, 2, 3] rfl)
          · have hF := it_f hF c_6
            refine lv_aload_n hx hb dX8_walk_68 rfl (lv_at hl 0 rfl) ?_
            refine lv_iload_n hx hb dX8_walk_69 rfl (lv_at hl 3 rfl) ?_
            refine lv_aload_n hx hb dX8_walk_70 rfl (lv_at hl 2 rfl) ?_
            refine lv_iload_n hx hb dX8_walk_71 rfl (lv_at hl 3 rfl) ?_
            obtain ⟨u_7, hu_7, hF⟩ := obd_some hF
            have hPc := hP.sub (ws' := (wd_X9_lengthOf cI a3 v3_10 v3_0 v3_5)) [14, 15, 16] rfl
            have hDc := hD.sub (ws' := (wd_X9_lengthOf cI a3 v3_10 v3_0 v3_5)) [14, 15, 16] rfl rfl
            refine q_calli (wc := (wd_X9_lengthOf cI a3 v3_10 v3_0 v3_5)) (w1 := (wd_X9_lengthOf cI a3 v3_10 v3_0 v3_5)) (ws' := (wd_X8_walk cI a0 a1 a2 a3 u_4.1 u_4.2.1 v0_1 u_4.2.2.1 u_4.2.2.2.1 u_4.2.2.2.2.1 u_4.2.2.2.2.2.1 u_4.2.2.2.2.2.2.1 u_4.2.2.2.2.2.2.2.1 u_4.2.2.2.2.2.2.2.2.1 u_4.2.2.2.2.2.2.2.2.2.1 v1_1 v1_2 u_4.2.2.2.2.2.2.2.2.2.2.1 u_4.2.2.2.2.2.2.2.2.2.2.2 v1_0 v2_0 v3_10 v3_0 v3_5)) hP hD hS hA [14, 15, 16] [0, 1, 2, 3, 4, 5, 6, 7, 8, 9, 10, 11, 12, 13] [0, 1, 2, 3, 4, 5, 6, 7, 8, 9, 10, 11, 12, 13, 14, 15, 16] rfl rfl rfl (by decide) rfl rfl (va_runV (As := [.int x3]) (rest := [.int x3, .ref (a0 0)]) ⟨hx, hb, hml, hown, hta⟩ (c_X9_lengthOf l dC dI cI H.size a3 v3_10 v3_0 v3_5 x3 n u_7 hu_7) (cwV 1 hta (ga_V mA410 mA314 mA315 mA52 mA316) rfl rfl rfl (by decide +kernel) ⟨Nat.le_of_ble_eq_true rfl, Nat.le_of_ble_eq_true rfl⟩) ⟨q_fb, va_recv hK hP (ci := 8) (q0 := 14) rfl rfl, q_ps hPc hK hDc⟩ rfl rfl hl.1 rfl (lv_room (Nat.le_of_ble_eq_true rfl)) dX8_walk_72 ⟨Nat.zero_le _, Nat.zero_le _⟩) (fun H locs hP hD hS => ?_)
            obtain ⟨u_8, hu_8, hF⟩ := obd_some hF
            have hPc := hP.sub (ws' := (wd_X8_joinEnds cI a0 a1 u_4.1 u_4.2.1 v0_1 u_4.2.2.1 u_4.2.2.2.1 u_4.2.2.2.2.1 u_4.2.2.2.2.2.1 u_4.2.2.2.2.2.2.1 u_4.2.2.2.2.2.2.2.1 u_4.2.2.2.2.2.2.2.2.1 u_4.2.2.2.2.2.2.2.2.2.1)) [0, 1, 2, 3, 4, 5, 6, 7, 8, 9] rfl
            have hDc := hD.sub (ws' := (wd_X8_joinEnds cI a0 a1 u_4.1 u_4.2.1 v0_1 u_4.2.2.1 u_4.2.2.2.1 u_4.2.2.2.2.1 u_4.2.2.2.2.2.1 u_4.2.2.2.2.2.2.1 u_4.2.2.2.2.2.2.2.1 u_4.2.2.2.2.2.2.2.2.1 u_4.2.2.2.2.2.2.2.2.2.1)) [0, 1, 2, 3, 4, 5, 6, 7, 8, 9] rfl rfl
            refine q_callv (wc := (wd_X8_joinEnds cI a0 a1 u_4.1 u_4.2.1 v0_1 u_4.2.2.1 u_4.2.2.2.1 u_4.2.2.2.2.1 u_4.2.2.2.2.2.1 u_4.2.2.2.2.2.2.1 u_4.2.2.2.2.2.2.2.1 u_4.2.2.2.2.2.2.2.2.1 u_4.2.2.2.2.2.2.2.2.2.1)) (w1 := (wd_X8_joinEnds cI a0 a1 u_8.1 u_8.2.1 v0_1 u_8.2.2.1 u_8.2.2.2.1 u_8.2.2.2.2.1 u_8.2.2.2.2.2.1 u_8.2.2.2.2.2.2.1 u_8.2.2.2.2.2.2.2.1 u_8.2.2.2.2.2.2.2.2.1 u_8.2.2.2.2.2.2.2.2.2)) (ws' := (wd_X8_walk cI a0 a1 a2 a3 u_8.1 u_8.2.1 v0_1 u_8.2.2.1 u_8.2.2.2.1 u_8.2.2.2.2.1 u_8.2.2.2.2.2.1 u_8.2.2.2.2.2.2.1 u_8.2.2.2.2.2.2.2.1 u_8.2.2.2.2.2.2.2.2.1 u_8.2.2.2.2.2.2.2.2.2 v1_1 v1_2 u_4.2.2.2.2.2.2.2.2.2.2.1 u_4.2.2.2.2.2.2.2.2.2.2.2 v1_0 v2_0 v3_10 v3_0 v3_5)) hP hD hS hA [0, 1, 2, 3, 4, 5, 6, 7, 8, 9] [10, 11, 12, 13, 14, 15, 16] [7, 8, 9, 10, 11, 12, 13, 14, 15, 16, 0, 1, 2, 3, 4, 5, 6] rfl rfl rfl (by decide) rfl rfl (va_runV (As := [.int x3, .int u_7]) (rest := []) ⟨hx, hb, hml, hown, hta⟩ (c_X8_joinEnds l dC dI cI H.size a0 a1 u_4.1 u_4.2.1 v0_1 u_4.2.2.1 u_4.2.2.2.1 u_4.2.2.2.2.1 u_4.2.2.2.2.2.1 u_4.2.2.2.2.2.2.1 u_4.2.2.2.2.2.2.2.1 u_4.2.2.2.2.2.2.2.2.1 u_4.2.2.2.2.2.2.2.2.2.1 x3 u_7 n u_8 hu_8) (cwV 2 hta (ga_V mA411 mA412 mA413 mA56 mA414) rfl rfl rfl (by decide +kernel) ⟨Nat.le_of_ble_eq_true rfl, Nat.le_of_ble_eq_true rfl⟩) ⟨q_fb, va_recv hK hP (ci := 7) (q0 := 0) rfl rfl, q_ps hPc hK hDc⟩ rfl rfl hl.1 rfl (lv_room (Nat.le_of_ble_eq_true rfl)) dX8_walk_75 ⟨Nat.zero_le _, Nat.zero_le _⟩) (fun H locs hP hD hS => ?_)
            exact j78 u_8.1 u_8.2.1 v0_1 u_8.2.2.1 u_8.2.2.2.1 u_8.2.2.2.2.1 u_8.2.2.2.2.2.1 u_8.2.2.2.2.2.2.1 u_8.2.2.2.2.2.2.2.1 u_8.2.2.2.2.2.2.2.2.1 u_8.2.2.2.2.2.2.2.2.2 u_4.2.2.2.2.2.2.2.2.2.2.1 u_4.2.2.2.2.2.2.2.2.2.2.2 x3 hF _ _ _ hP hD hS (lv_sub hl [0, 1, 2, 3] rfl)
        have j47 : ∀ (v0_10 : Int32) (v0_11 : Int32) (v0_1 : Nat → Int32) (v0_2 : Nat → Int32) (v0_3 : Nat → Int32) (v0_4 : Nat → Int32) (v0_5 : Nat → Int32) (v0_6 : Nat → Int32) (v0_7 : Nat → Int32) (v0_8 : Nat → Int32) (v0_9 : Nat → Int32) (v1_3 : Int32) (v1_4 : Int32) (x3 : Int32), F_X8_walk_j47 n v0_10 v0_11 v0_1 v0_2 v0_3 v0_4 v0_5 v0_6 v0_7 v0_8 v0_9 v1_1 v1_2 v1_0 v2_0 v3_0 v3_5 x3 = some o_20 → ∀ (H : Heap) (locs : List Loc) (ls : Array Slot), va_P (dC, dI) vwCl (wd_X8_walk cI a0 a1 a2 a3 v0_10 v0_11 v0_1 v0_2 v0_3 v0_4 v0_5 v0_6 v0_7 v0_8 v0_9 v1_1 v1_2 v1_3 v1_4 v1_0 v2_0 v3_10 v3_0 v3_5) H → va_D A (wd_X8_walk cI a0 a1 a2 a3 v0_10 v0_11 v0_1 v0_2 v0_3 v0_4 v0_5 v0_6 v0_7 v0_8 v0_9 v1_1 v1_2 v1_3 v1_4 v1_0 v2_0 v3_10 v3_0 v3_5) → va_S A s.heap H locs → lv_has ls 4 [(0, .ref (a0 0)), (1, .ref (a2 0)), (2, .ref (a3 0)), (3, .int x3)] → W p l e (headSpec wz_X8_walk rm_X8_walk).room s m [.ref (a0 0), .ref (a2 0), .ref (a3 0)].toArray below meth c H locs 0 0 (MQ below (Q_X8_walk dC dI cI a0 a1 a2 a3 v2_0 v3_10 v3_0 v3_5 u A) [.ref (a0 0), .ref (a2 0), .ref (a3 0)].toArray s 0 0 A) (F0 m 47 ls []) := by
          intro v0_10 v0_11 v0_1 v0_2 v0_3 v0_4 v0_5 v0_6 v0_7 v0_8 v0_9 v1_3 v1_4 x3 hF H locs ls hP hD hS hl
          unfold F_X8_walk_j47 at hF
          refine lv_aload_n hx hb dX8_walk_47 rfl (lv_at hl 0 rfl) ?_
          refine va_get (D := (dC, dI)) (ci := 7) (v := .ref (a1 0)) (C := RX8) (T := TX8) (N := 12) hx hb hta uw_X8 hown hK hP 0 rfl rfl 0 (by decide) (hta _ mA81) (fun _ h9 => h9) rfl dX8_walk_48 ?_
          obtain ⟨u_9, hu_9, hF⟩ := obd_some hF
          have hPc := hP.sub (ws' := (wd_X0_goToPhase cI a1 v1_1 v1_2 v1_3 v1_4 v1_0)) [10, 11] rfl
          have hDc := hD.sub (ws' := (wd_X0_goToPhase cI a1 v1_1 v1_2 v1_3 v1_4 v1_0)) [10, 11] rfl rfl
          refine q_callv (wc := (wd_X0_goToPhase cI a1 v1_1 v1_2 v1_3 v1_4 v1_0)) (w1 := (wd_X0_goToPhase cI a1 v1_1 v1_2 u_9.1 u_9.2 v1_0)) (ws' := (wd_X8_walk cI a0 a1 a2 a3 v0_10 v0_11 v0_1 v0_2 v0_3 v0_4 v0_5 v0_6 v0_7 v0_8 v0_9 v1_1 v1_2 u_9.1 u_9.2 v1_0 v2_0 v3_10 v3_0 v3_5)) hP hD hS hA [10, 11] [0, 1, 2, 3, 4, 5, 6, 7, 8, 9, 12, 13, 14, 15, 16] [0, 1, 2, 3, 4, 5, 6, 7, 8, 9, 15, 16, 10, 11, 12, 13, 14] rfl rfl rfl (by decide) rfl rfl (va_runV (As := []) (rest := []) ⟨hx, hb, hml, hown, hta⟩ (c_X0_goToPhase l dC dI cI H.size a1 v1_1 v1_2 v1_3 v1_4 v1_0 n u_9 hu_9) (cwV 0 hta (ga_V mA369 mA370 mA371 mA80 mA372) rfl rfl rfl (by decide +kernel) ⟨Nat.le_of_ble_eq_true rfl, Nat.le_of_ble_eq_true rfl⟩) ⟨q_fb, va_recv hK hP (ci := 0) (q0 := 10) rfl rfl, q_ps hPc hK hDc⟩ rfl rfl hl.1 rfl (lv_room (Nat.le_of_ble_eq_true rfl)) dX8_walk_51 ⟨Nat.zero_le _, Nat.zero_le _⟩) (fun H locs hP hD hS => ?_)
          exact j54 v0_10 v0_11 v0_1 v0_2 v0_3 v0_4 v0_5 v0_6 v0_7 v0_8 v0_9 u_9.1 u_9.2 x3 hF _ _ _ hP hD hS (lv_sub hl [0, 1, 2, 3] rfl)
        refine lv_iload_n hx hb dX8_walk_20 rfl (lv_at hl 3 rfl) ?_
        refine lv_iconst (v := 4) hx hb dX8_walk_21 (by decide) ?_
        refine lv_icmp_ge (tgt := 84) hx hb dX8_walk_22 (by decide) (fun c_10 => ?_) (fun c_10 => ?_)
        · have hF := it_t hF c_10
          obtain rfl := Option.some.inj hF
          obtain rfl := lpq_x hO_20
          have hF := hE_20
          exact j84 s20.2.1 s20.2.2.1 s20.2.2.2.1 s20.2.2.2.2.1 s20.2.2.2.2.2.1 s20.2.2.2.2.2.2.1 s20.2.2.2.2.2.2.2.1 s20.2.2.2.2.2.2.2.2.1 s20.2.2.2.2.2.2.2.2.2.1 s20.2.2.2.2.2.2.2.2.2.2.1 s20.2.2.2.2.2.2.2.2.2.2.2.1 v1_1 v1_2 s20.2.2.2.2.2.2.2.2.2.2.2.2.1 s20.2.2.2.2.2.2.2.2.2.2.2.2.2 v1_0 hF _ _ _ hP hD hS (lv_sub hl [0] rfl)
        · have hF := it_f hF c_10
          refine lv_aload_n hx hb dX8_walk_25 rfl (lv_at hl 0 rfl) ?_
          refine va_get (D := (dC, dI)) (ci := 7) (v := .ref (a0 2)) (C := RX8) (T := TX8) (N := 12) hx hb hta uw_X8 hown hK hP 0 rfl rfl 1 (by decide) (hta _ mA82) (fun _ h9 => h9) rfl dX8_walk_26 ?_
          refine lv_iload_n hx hb dX8_walk_29 rfl (lv_at hl 3 rfl) ?_
          refine lv_aload_n hx hb dX8_walk_30 rfl (lv_at hl 0 rfl) ?_
          refine va_get (D := (dC, dI)) (ci := 7) (v := .int s20.2.1) (C := RX8) (T := TX8) (N := 12) hx hb hta uw_X8 hown hK hP 0 rfl rfl 10 (by decide) (hta _ mA358) (fun _ h9 => h9) rfl dX8_walk_31 ?_
          obtain ⟨g_11, hF⟩ := gd_some hF
          refine va_iast hx hb hK hP hD hS 1 0 rfl rfl (vpi_in g_11) dX8_walk_34 (fun H locs hP hD hS => ?_)
          obtain ⟨y_12, ey_12, hF⟩ := lt_some hF
          have hP : va_P (dC, dI) vwCl (wd_X8_walk cI a0 a1 a2 a3 s20.2.1 s20.2.2.1 y_12 s20.2.2.2.2.1 s20.2.2.2.2.2.1 s20.2.2.2.2.2.2.1 s20.2.2.2.2.2.2.2.1 s20.2.2.2.2.2.2.2.2.1 s20.2.2.2.2.2.2.2.2.2.1 s20.2.2.2.2.2.2.2.2.2.2.1 s20.2.2.2.2.2.2.2.2.2.2.2.1 v1_1 v1_2 s20.2.2.2.2.2.2.2.2.2.2.2.2.1 s20.2.2.2.2.2.2.2.2.2.2.2.2.2 v1_0 v2_0 v3_10 v3_0 v3_5) H := by rw [ey_12]; exact hP
          have hD : va_D A (wd_X8_walk cI a0 a1 a2 a3 s20.2.1 s20.2.2.1 y_12 s20.2.2.2.2.1 s20.2.2.2.2.2.1 s20.2.2.2.2.2.2.1 s20.2.2.2.2.2.2.2.1 s20.2.2.2.2.2.2.2.2.1 s20.2.2.2.2.2.2.2.2.2.1 s20.2.2.2.2.2.2.2.2.2.2.1 s20.2.2.2.2.2.2.2.2.2.2.2.1 v1_1 v1_2 s20.2.2.2.2.2.2.2.2.2.2.2.2.1 s20.2.2.2.2.2.2.2.2.2.2.2.2.2 v1_0 v2_0 v3_10 v3_0 v3_5) := by rw [ey_12]; exact hD
          refine lv_iload_n hx hb dX8_walk_35 rfl (lv_at hl 3 rfl) ?_
          refine lv_if_eq (tgt := 47) hx hb dX8_walk_36 (by decide) (fun c_13 => ?_) (fun c_13 => ?_)
          · have hF := it_t hF c_13
            exact j47 s20.2.1 s20.2.2.1 y_12 s20.2.2.2.2.1 s20.2.2.2.2.2.1 s20.2.2.2.2.2.2.1 s20.2.2.2.2.2.2.2.1 s20.2.2.2.2.2.2.2.2.1 s20.2.2.2.2.2.2.2.2.2.1 s20.2.2.2.2.2.2.2.2.2.2.1 s20.2.2.2.2.2.2.2.2.2.2.2.1 s20.2.2.2.2.2.2.2.2.2.2.2.2.1 s20.2.2.2.2.2.2.2.2.2.2.2.2.2 s20.1 hF _ _ _ hP hD hS (lv_sub hl [0, 1, 2, 3] rfl)
          · have hF := it_f hF c_13
            refine lv_aload_n hx hb dX8_walk_39 rfl (lv_at hl 1 rfl) ?_
            refine lv_iconst (v := 5) hx hb dX8_walk_40 (by decide) ?_
            obtain ⟨u_14, hu_14, hF⟩ := obd_some hF
            have hPc := hP.sub (ws' := (wd_X1_cell cI a2 v2_0)) [12, 13] rfl
            have hDc := hD.sub (ws' := (wd_X1_cell cI a2 v2_0)) [12, 13] rfl rfl
            refine q_calli (wc := (wd_X1_cell cI a2 v2_0)) (w1 := (wd_X1_cell cI a2 v2_0)) (ws' := (wd_X8_walk cI a0 a1 a2 a3 s20.2.1 s20.2.2.1 y_12 s20.2.2.2.2.1 s20.2.2.2.2.2.1 s20.2.2.2.2.2.2.1 s20.2.2.2.2.2.2.2.1 s20.2.2.2.2.2.2.2.2.1 s20.2.2.2.2.2.2.2.2.2.1 s20.2.2.2.2.2.2.2.2.2.2.1 s20.2.2.2.2.2.2.2.2.2.2.2.1 v1_1 v1_2 s20.2.2.2.2.2.2.2.2.2.2.2.2.1 s20.2.2.2.2.2.2.2.2.2.2.2.2.2 v1_0 v2_0 v3_10 v3_0 v3_5)) hP hD hS hA [12, 13] [0, 1, 2, 3, 4, 5, 6, 7, 8, 9, 10, 11, 14, 15, 16] [0, 1, 2, 3, 4, 5, 6, 7, 8, 9, 10, 11, 15, 16, 12, 13, 14] rfl rfl rfl (by decide) rfl rfl (va_runV (As := [.int 5]) (rest := []) ⟨hx, hb, hml, hown, hta⟩ (c_X1_cell l dC dI cI H.size a2 v2_0 5 u_14 hu_14) (cwV 1 hta (ga_V mA368 mA117 mA118 mA6 mA119) rfl rfl rfl (by decide +kernel) ⟨Nat.le_of_ble_eq_true rfl, Nat.le_of_ble_eq_true rfl⟩) ⟨q_fb, va_recv hK hP (ci := 1) (q0 := 12) rfl rfl, q_ps hPc hK hDc⟩ rfl rfl hl.1 rfl (lv_room (Nat.le_of_ble_eq_true rfl)) dX8_walk_41 ⟨Nat.zero_le _, Nat.zero_le _⟩) (fun H locs hP hD hS => ?_)
            refine lv_if_ne (tgt := 54) hx hb dX8_walk_44 (by decide) (fun c_15 => ?_) (fun c_15 => ?_)
            · have hF := it_f hF c_15
              exact j54 s20.2.1 s20.2.2.1 y_12 s20.2.2.2.2.1 s20.2.2.2.2.2.1 s20.2.2.2.2.2.2.1 s20.2.2.2.2.2.2.2.1 s20.2.2.2.2.2.2.2.2.1 s20.2.2.2.2.2.2.2.2.2.1 s20.2.2.2.2.2.2.2.2.2.2.1 s20.2.2.2.2.2.2.2.2.2.2.2.1 s20.2.2.2.2.2.2.2.2.2.2.2.2.1 s20.2.2.2.2.2.2.2.2.2.2.2.2.2 s20.1 hF _ _ _ hP hD hS (lv_sub hl [0, 1, 2, 3] rfl)
            · have hF := it_t hF c_15
              exact j47 s20.2.1 s20.2.2.1 y_12 s20.2.2.2.2.1 s20.2.2.2.2.2.1 s20.2.2.2.2.2.2.1 s20.2.2.2.2.2.2.2.1 s20.2.2.2.2.2.2.2.2.1 s20.2.2.2.2.2.2.2.2.2.1 s20.2.2.2.2.2.2.2.2.2.2.1 s20.2.2.2.2.2.2.2.2.2.2.2.1 s20.2.2.2.2.2.2.2.2.2.2.2.2.1 s20.2.2.2.2.2.2.2.2.2.2.2.2.2 s20.1 hF _ _ _ hP hD hS (lv_sub hl [0, 1, 2, 3] rfl)
    exact kl_20 n _ hL_20 _ _ _ hP hD hS hl
  refine lv_aload_n hx hb dX8_walk_0 rfl (lv_at hl 0 rfl) ?_
  refine lv_iconst (v := 0) hx hb dX8_walk_1 (by decide) ?_
  refine va_put (D := (dC, dI)) (ci := 7) (v := .int 0) (ty := .int) (C := RX8) (T := TX8) (N := 12) hx hb hta uw_X8 tyX8 tyX8_ok nmX8 hown hK hP hD hS 0 rfl rfl 10 (by decide) (hta _ mA358) (fun _ h9 => h9) rfl (by decide +kernel) rfl rfl (Nat.le_of_ble_eq_true rfl) dX8_walk_2 (fun H locs hP hD hS => ?_)
  have hP : va_P (dC, dI) vwCl (wd_X8_walk cI a0 a1 a2 a3 0 v0_11 v0_1 v0_2 v0_3 v0_4 v0_5 v0_6 v0_7 v0_8 v0_9 v1_1 v1_2 v1_3 v1_4 v1_0 v2_0 v3_10 v3_0 v3_5) H := hP
  have hD : va_D A (wd_X8_walk cI a0 a1 a2 a3 0 v0_11 v0_1 v0_2 v0_3 v0_4 v0_5 v0_6 v0_7 v0_8 v0_9 v1_1 v1_2 v1_3 v1_4 v1_0 v2_0 v3_10 v3_0 v3_5) := hD
  refine lv_aload_n hx hb dX8_walk_5 rfl (lv_at hl 0 rfl) ?_
  refine lv_iconst (v := 0) hx hb dX8_walk_6 (by decide) ?_
  refine va_put (D := (dC, dI)) (ci := 7) (v := .int 0) (ty := .int) (C := RX8) (T := TX8) (N := 12) hx hb hta uw_X8 tyX8 tyX8_ok nmX8 hown hK hP hD hS 0 rfl rfl 11 (by decide) (hta _ mA359) (fun _ h9 => h9) rfl (by decide +kernel) rfl rfl (Nat.le_of_ble_eq_true rfl) dX8_walk_7 (fun H locs hP hD hS => ?_)
  have hP : va_P (dC, dI) vwCl (wd_X8_walk cI a0 a1 a2 a3 0 0 v0_1 v0_2 v0_3 v0_4 v0_5 v0_6 v0_7 v0_8 v0_9 v1_1 v1_2 v1_3 v1_4 v1_0 v2_0 v3_10 v3_0 v3_5) H := hP
  have hD : va_D A (wd_X8_walk cI a0 a1 a2 a3 0 0 v0_1 v0_2 v0_3 v0_4 v0_5 v0_6 v0_7 v0_8 v0_9 v1_1 v1_2 v1_3 v1_4 v1_0 v2_0 v3_10 v3_0 v3_5) := hD
  refine lv_aload_n hx hb dX8_walk_10 rfl (lv_at hl 0 rfl) ?_
  refine va_get (D := (dC, dI)) (ci := 7) (v := .ref (a1 0)) (C := RX8) (T := TX8) (N := 12) hx hb hta uw_X8 hown hK hP 0 rfl rfl 0 (by decide) (hta _ mA81) (fun _ h9 => h9) rfl dX8_walk_11 ?_
  refine lv_aload_n hx hb dX8_walk_14 rfl (lv_at hl 1 rfl) ?_
  obtain ⟨u_16, hu_16, hF⟩ := obd_some hF
  have hPc := hP.sub (ws' := (wd_X0_take cI a1 a2 v1_1 v1_2 v1_3 v1_4 v1_0 v2_0)) [10, 11, 12, 13] rfl
  have hDc := hD.sub (ws' := (wd_X0_take cI a1 a2 v1_1 v1_2 v1_3 v1_4 v1_0 v2_0)) [10, 11, 12, 13] rfl rfl
  refine q_callv (wc := (wd_X0_take cI a1 a2 v1_1 v1_2 v1_3 v1_4 v1_0 v2_0)) (w1 := (wd_X0_take cI a1 a2 u_16.1 u_16.2.1 v1_3 v1_4 u_16.2.2 v2_0)) (ws' := (wd_X8_walk cI a0 a1 a2 a3 0 0 v0_1 v0_2 v0_3 v0_4 v0_5 v0_6 v0_7 v0_8 v0_9 u_16.1 u_16.2.1 v1_3 v1_4 u_16.2.2 v2_0 v3_10 v3_0 v3_5)) hP hD hS hA [10, 11, 12, 13] [0, 1, 2, 3, 4, 5, 6, 7, 8, 9, 14, 15, 16] [0, 1, 2, 3, 4, 5, 6, 7, 8, 9, 13, 14, 15, 16, 10, 11, 12] rfl rfl rfl (by decide) rfl rfl (va_runV (As := [.ref (a2 0)]) (rest := []) ⟨hx, hb, hml, hown, hta⟩ (c_X0_take l dC dI cI H.size a1 a2 v1_1 v1_2 v1_3 v1_4 v1_0 v2_0 n u_16 hu_16) (cwV 1 hta (ga_V mA360 mA361 mA362 mA80 mA363) rfl rfl rfl (by decide +kernel) ⟨Nat.le_of_ble_eq_true rfl, Nat.le_of_ble_eq_true rfl⟩) ⟨q_fb, va_recv hK hP (ci := 0) (q0 := 10) rfl rfl, q_ps hPc hK hDc⟩ rfl rfl hl.1 rfl (lv_room (Nat.le_of_ble_eq_true rfl)) dX8_walk_15 ⟨Nat.zero_le _, Nat.zero_le _⟩) (fun H locs hP hD hS => ?_)
  refine lv_iconst (v := 0) hx hb dX8_walk_18 (by decide) ?_
  refine lv_istore_n (lv' := [(3, .int 0), (0, .ref (a0 0)), (1, .ref (a2 0)), (2, .ref (a3 0))]) hx hb dX8_walk_19 rfl hl (by decide) rfl (fun ls hl => ?_)
  exact j20 0 0 v0_1 v0_2 v0_3 v0_4 v0_5 v0_6 v0_7 v0_8 v0_9 u_16.1 u_16.2.1 v1_3 v1_4 u_16.2.2 0 hF _ _ _ hP hD hS (lv_sub hl [1, 2, 3, 0] rfl)

-- StrokeOutliner$Runs.countOf(I)I
def F_X8_countOf (v0_1 : Nat → Int32) (p1 : Int32) : Option (Int32) :=
  obd (F_X4_at 5 v0_1 (p1 + 1)) (fun u_1 => obd (F_X8_firstOf v0_1 p1) (fun u_2 => some (u_1 - u_2)))
abbrev wd_X8_countOf (cI : ClassId) (a0 : Nat → Nat) (a1 : Nat → Nat) (v0_10 : Int32) (v0_11 : Int32) (v0_1 : Nat → Int32) : va_W := [(a0 0, .inr (7, [.ref (a1 0), .ref (a0 2), .ref (a0 3), .ref (a0 4), .ref (a0 5), .ref (a0 6), .ref (a0 7), .ref (a0 8), .ref (a0 9), .ref (a0 10), .int v0_10, .int v0_11])), (a0 2, .inl (cI, 5, .inl v0_1))]
abbrev wz_X8_countOf : List Cond := .code yX8_countOf cX8_countOf 2 (some .int) :: wALL
abbrev rm_X8_countOf : Room := { frames := 2, cells := 0, slots := 0, locals := 42 }
abbrev Q_X8_countOf (dC : Nat → ClassId) (dI : Nat → Nat → Nat) (cI : ClassId) (a0 : Nat → Nat) (a1 : Nat → Nat) (v0_10 : Int32) (v0_11 : Int32) (v0_1 : Nat → Int32) (u : (Int32)) (A : Nat → Prop) : Array Value → State → Outcome → State → Prop := va_Qi (fun (r : Int32) (_ : Unit) => r = u) (fun _ => q_at dC dI cI A (wd_X8_countOf cI a0 a1 v0_10 v0_11 v0_1)) A
set_option maxHeartbeats 4000000 in
set_option maxRecDepth 100000 in
theorem c_X8_countOf (l : Launch) (dC : Nat → ClassId) (dI : Nat → Nat → Nat) (cI : ClassId) (sz : Nat) (a0 : Nat → Nat) (a1 : Nat → Nat) (v0_10 : Int32) (v0_11 : Int32) (v0_1 : Nat → Int32) (p1 : Int32) (u : (Int32)) (hF : F_X8_countOf v0_1 p1 = some u) : Met l yX8_countOf wz_X8_countOf rm_X8_countOf (va_Pc [.ref (a0 0), .int p1] (q_pre dC dI cI (wd_X8_countOf cI a0 a1 v0_10 v0_11 v0_1) sz)) (Q_X8_countOf dC dI cI a0 a1 v0_10 v0_11 v0_1 u (va_A (wd_X8_countOf cI a0 a1 v0_10 v0_11 v0_1) sz)) 0 0 (va_A (wd_X8_countOf cI a0 a1 v0_10 v0_11 v0_1) sz) := by
  refine Met.ofW (cc := cX8_countOf) (maxL := 2) (ret := (some .int)) (by decide) rfl ?_
  intro p e s m args below meth c s₁ B hml hv
  obtain ⟨rfl, hsz, hP, hK, hD0⟩ := hv
  have hx := B.exec
  have hb := B.bytes
  have hr := B.returns
  have hts := atoms_spec (ws := wz_X8_countOf) B.pre
  have hta := wz_tl hts
  have hown : s.vm.findClass RX8 = some m.cls := findClass_of_methodNamed B.named
  have hlocks := B.notSynchronized
  subst hsz
  have hD := hD0.self (sz := s.heap.size)
  generalize hAe : va_A (wd_X8_countOf cI a0 a1 v0_10 v0_11 v0_1) s.heap.size = A at hD ⊢
  have hA : ∀ q : Nat, s.heap.size ≤ q → A q := fun q h => by rw [← hAe]; exact Or.inr h
  have hS : va_S A s.heap s.heap [] := va_S.rf
  have hP : va_P (dC, dI) vwCl (wd_X8_countOf cI a0 a1 v0_10 v0_11 v0_1) s.heap := hP
  have hl := lv_entry ([.ref (a0 0), .int p1]) (n := 2) (Nat.le_of_ble_eq_true rfl)
  rw [lg_entry_eq]
  generalize (lg_sl ([.ref (a0 0), .int p1]) ++ List.replicate (2 - (lg_sl ([.ref (a0 0), .int p1])).length) Slot.unset).toArray = ls at hl ⊢
  have hl : lv_has ls 2 [(0, .ref (a0 0)), (1, .int p1)] := hl
  obtain ⟨H, hHe⟩ : ∃ H, H = s.heap := ⟨_, rfl⟩
  have hS : va_S A s.heap H [] := by rw [hHe]; exact hS
  have hP : va_P (dC, dI) vwCl (wd_X8_countOf cI a0 a1 v0_10 v0_11 v0_1) H := by rw [hHe]; exact hP
  rw [← hHe]
  unfold F_X8_countOf at hF
  refine lv_aload_n hx hb dX8_countOf_0 rfl (lv_at hl 0 rfl) ?_
  refine va_get (D := (dC, dI)) (ci := 7) (v := .ref (a0 2)) (C := RX8) (T := TX8) (N := 12) hx hb hta uw_X8 hown hK hP 0 rfl rfl 1 (by decide) (hta _ mA82) (fun _ h9 => h9) rfl dX8_countOf_1 ?_
  refine lv_iload_n hx hb dX8_countOf_4 rfl (lv_at hl 1 rfl) ?_
  refine lv_iconst (v := 1) hx hb dX8_countOf_5 (by decide) ?_
  refine lv_iadd hx hb dX8_countOf_6 ?_
  obtain ⟨u_1, hu_1, hF⟩ := obd_some hF
  have hPc := hP.sub (ws' := (wd_X4_at cI (a0 2) 5 v0_1)) [1] rfl
  have hDc := hD.sub (ws' := (wd_X4_at cI (a0 2) 5 v0_1)) [1] rfl rfl
  refine q_calli (wc := (wd_X4_at cI (a0 2) 5 v0_1)) (w1 := (wd_X4_at cI (a0 2) 5 v0_1)) (ws' := (wd_X8_countOf cI a0 a1 v0_10 v0_11 v0_1)) hP hD hS hA [1] [0] [0, 1] rfl rfl rfl (by decide) rfl rfl (va_runS (As := [.ref (a0 2), .int (p1 + 1)]) (rest := []) ⟨hx, hb, hml, hown, hta⟩ (c_X4_at l dC dI cI H.size (a0 2) 5 v0_1 (p1 + 1) u_1 hu_1) (va_cwS 2 hta (ga_S mA419 mA237 mA221 mA238) rfl rfl rfl (by decide +kernel) ⟨Nat.le_of_ble_eq_true rfl, Nat.le_of_ble_eq_true rfl⟩) ⟨q_fb, q_ps hPc hK hDc⟩ rfl rfl hl.1 rfl (lv_room (Nat.le_of_ble_eq_true rfl)) dX8_countOf_7 ⟨Nat.zero_le _, Nat.zero_le _⟩) (fun H locs hP hD hS => ?_)
  refine lv_aload_n hx hb dX8_countOf_10 rfl (lv_at hl 0 rfl) ?_
  refine lv_iload_n hx hb dX8_countOf_11 rfl (lv_at hl 1 rfl) ?_
  obtain ⟨u_2, hu_2, hF⟩ := obd_some hF
  have hPc := hP.sub (ws' := (wd_X8_firstOf cI a0 a1 v0_10 v0_11 v0_1)) [0, 1] rfl
  have hDc := hD.sub (ws' := (wd_X8_firstOf cI a0 a1 v0_10 v0_11 v0_1)) [0, 1] rfl rfl
  refine q_calli (wc := (wd_X8_firstOf cI a0 a1 v0_10 v0_11 v0_1)) (w1 := (wd_X8_firstOf cI a0 a1 v0_10 v0_11 v0_1)) (ws' := (wd_X8_countOf cI a0 a1 v0_10 v0_11 v0_1)) hP hD hS hA [0, 1] [] [0, 1] rfl rfl rfl (by decide) rfl rfl (va_runV (As := [.int p1]) (rest := [.int u_1]) ⟨hx, hb, hml, hown, hta⟩ (c_X8_firstOf l dC dI cI H.size a0 a1 v0_10 v0_11 v0_1 p1 u_2 hu_2) (cwV 1 hta (ga_V mA415 mA416 mA417 mA56 mA418) rfl rfl rfl (by decide +kernel) ⟨Nat.le_of_ble_eq_true rfl, Nat.le_of_ble_eq_true rfl⟩) ⟨q_fb, va_recv hK hP (ci := 7) (q0 := 0) rfl rfl, q_ps hPc hK hDc⟩ rfl rfl hl.1 rfl (lv_room (Nat.le_of_ble_eq_true rfl)) dX8_countOf_12 ⟨Nat.zero_le _, Nat.zero_le _⟩) (fun H locs hP hD hS => ?_)
  refine lv_isub hx hb dX8_countOf_15 ?_
  obtain rfl := Option.some.inj hF
  exact W.iret (v := (u_1 - u_2)) hx hb hr (fun t ht hW => ⟨⟨(u_1 - u_2), (), rfl, rfl, by rw [ht]; exact hP, va_K.moved hW.alike hK, hD⟩, hS.F ht⟩) hS.2.2 dX8_countOf_16

-- StrokeOutliner$Runs.spansOf(I)I
def F_X8_spansOf (v0_6 : Nat → Int32) (p1 : Int32) : Option (Int32) :=
  obd (F_X4_at 928 v0_6 p1) (fun u_1 => some u_1)
abbrev wd_X8_spansOf (cI : ClassId) (a0 : Nat → Nat) (a1 : Nat → Nat) (v0_10 : Int32) (v0_11 : Int32) (v0_6 : Nat → Int32) : va_W := [(a0 0, .inr (7, [.ref (a1 0), .ref (a0 2), .ref (a0 3), .ref (a0 4), .ref (a0 5), .ref (a0 6), .ref (a0 7), .ref (a0 8), .ref (a0 9), .ref (a0 10), .int v0_10, .int v0_11])), (a0 7, .inl (cI, 928, .inl v0_6))]
abbrev wz_X8_spansOf : List Cond := .code yX8_spansOf cX8_spansOf 2 (some .int) :: wALL
abbrev rm_X8_spansOf : Room := { frames := 1, cells := 0, slots := 0, locals := 21 }
abbrev Q_X8_spansOf (dC : Nat → ClassId) (dI : Nat → Nat → Nat) (cI : ClassId) (a0 : Nat → Nat) (a1 : Nat → Nat) (v0_10 : Int32) (v0_11 : Int32) (v0_6 : Nat → Int32) (u : (Int32)) (A : Nat → Prop) : Array Value → State → Outcome → State → Prop := va_Qi (fun (r : Int32) (_ : Unit) => r = u) (fun _ => q_at dC dI cI A (wd_X8_spansOf cI a0 a1 v0_10 v0_11 v0_6)) A
set_option maxHeartbeats 4000000 in
set_option maxRecDepth 100000 in
theorem c_X8_spansOf (l : Launch) (dC : Nat → ClassId) (dI : Nat → Nat → Nat) (cI : ClassId) (sz : Nat) (a0 : Nat → Nat) (a1 : Nat → Nat) (v0_10 : Int32) (v0_11 : Int32) (v0_6 : Nat → Int32) (p1 : Int32) (u : (Int32)) (hF : F_X8_spansOf v0_6 p1 = some u) : Met l yX8_spansOf wz_X8_spansOf rm_X8_spansOf (va_Pc [.ref (a0 0), .int p1] (q_pre dC dI cI (wd_X8_spansOf cI a0 a1 v0_10 v0_11 v0_6) sz)) (Q_X8_spansOf dC dI cI a0 a1 v0_10 v0_11 v0_6 u (va_A (wd_X8_spansOf cI a0 a1 v0_10 v0_11 v0_6) sz)) 0 0 (va_A (wd_X8_spansOf cI a0 a1 v0_10 v0_11 v0_6) sz) := by
  refine Met.ofW (cc := cX8_spansOf) (maxL := 2) (ret := (some .int)) (by decide) rfl ?_
  intro p e s m args below meth c s₁ B hml hv
  obtain ⟨rfl, hsz, hP, hK, hD0⟩ := hv
  have hx := B.exec
  have hb := B.bytes
  have hr := B.returns
  have hts := atoms_spec (ws := wz_X8_spansOf) B.pre
  have hta := wz_tl hts
  have hown : s.vm.findClass RX8 = some m.cls := findClass_of_methodNamed B.named
  have hlocks := B.notSynchronized
  subst hsz
  have hD := hD0.self (sz := s.heap.size)
  generalize hAe : va_A (wd_X8_spansOf cI a0 a1 v0_10 v0_11 v0_6) s.heap.size = A at hD ⊢
  have hA : ∀ q : Nat, s.heap.size ≤ q → A q := fun q h => by rw [← hAe]; exact Or.inr h
  have hS : va_S A s.heap s.heap [] := va_S.rf
  have hP : va_P (dC, dI) vwCl (wd_X8_spansOf cI a0 a1 v0_10 v0_11 v0_6) s.heap := hP
  have hl := lv_entry ([.ref (a0 0), .int p1]) (n := 2) (Nat.le_of_ble_eq_true rfl)
  rw [lg_entry_eq]
  generalize (lg_sl ([.ref (a0 0), .int p1]) ++ List.replicate (2 - (lg_sl ([.ref (a0 0), .int p1])).length) Slot.unset).toArray = ls at hl ⊢
  have hl : lv_has ls 2 [(0, .ref (a0 0)), (1, .int p1)] := hl
  obtain ⟨H, hHe⟩ : ∃ H, H = s.heap := ⟨_, rfl⟩
  have hS : va_S A s.heap H [] := by rw [hHe]; exact hS
  have hP : va_P (dC, dI) vwCl (wd_X8_spansOf cI a0 a1 v0_10 v0_11 v0_6) H := by rw [hHe]; exact hP
  rw [← hHe]
  unfold F_X8_spansOf at hF
  refine lv_aload_n hx hb dX8_spansOf_0 rfl (lv_at hl 0 rfl) ?_
  refine va_get (D := (dC, dI)) (ci := 7) (v := .ref (a0 7)) (C := RX8) (T := TX8) (N := 12) hx hb hta uw_X8 hown hK hP 0 rfl rfl 6 (by decide) (hta _ mA87) (fun _ h9 => h9) rfl dX8_spansOf_1 ?_
  refine lv_iload_n hx hb dX8_spansOf_4 rfl (lv_at hl 1 rfl) ?_
  obtain ⟨u_1, hu_1, hF⟩ := obd_some hF
  have hPc := hP.sub (ws' := (wd_X4_at cI (a0 7) 928 v0_6)) [1] rfl
  have hDc := hD.sub (ws' := (wd_X4_at cI (a0 7) 928 v0_6)) [1] rfl rfl
  refine q_calli (wc := (wd_X4_at cI (a0 7) 928 v0_6)) (w1 := (wd_X4_at cI (a0 7) 928 v0_6)) (ws' := (wd_X8_spansOf cI a0 a1 v0_10 v0_11 v0_6)) hP hD hS hA [1] [0] [0, 1] rfl rfl rfl (by decide) rfl rfl (va_runS (As := [.ref (a0 7), .int p1]) (rest := []) ⟨hx, hb, hml, hown, hta⟩ (c_X4_at l dC dI cI H.size (a0 7) 928 v0_6 p1 u_1 hu_1) (va_cwS 2 hta (ga_S mA419 mA237 mA221 mA238) rfl rfl rfl (by decide +kernel) ⟨Nat.le_of_ble_eq_true rfl, Nat.le_of_ble_eq_true rfl⟩) ⟨q_fb, q_ps hPc hK hDc⟩ rfl rfl hl.1 rfl (lv_room (Nat.le_of_ble_eq_true rfl)) dX8_spansOf_5 ⟨Nat.zero_le _, Nat.zero_le _⟩) (fun H locs hP hD hS => ?_)
  obtain rfl := Option.some.inj hF
  exact W.iret (v := u_1) hx hb hr (fun t ht hW => ⟨⟨u_1, (), rfl, rfl, by rw [ht]; exact hP, va_K.moved hW.alike hK, hD⟩, hS.F ht⟩) hS.2.2 dX8_spansOf_8

-- StrokeOutliner$Runs.about(II)I
def F_X8_about (v0_2 : Nat → Int32) (v0_3 : Nat → Int32) (v0_4 : Nat → Int32) (v0_6 : Nat → Int32) (p1 : Int32) (p2 : Int32) : Option (Int32) :=
  if p2 = 0 then obd (F_X4_at 928 v0_2 p1) (fun u_7 => some u_7) else if p2 = 1 then obd (F_X4_at 928 v0_3 p1) (fun u_6 => some u_6) else if p2 = 2 then obd (F_X8_spansOf v0_6 p1) (fun u_5 => some u_5) else obd (F_X4_at 928 v0_4 p1) (fun u_4 => some u_4)
abbrev wd_X8_about (cI : ClassId) (a0 : Nat → Nat) (a1 : Nat → Nat) (v0_10 : Int32) (v0_11 : Int32) (v0_2 : Nat → Int32) (v0_3 : Nat → Int32) (v0_4 : Nat → Int32) (v0_6 : Nat → Int32) : va_W := [(a0 0, .inr (7, [.ref (a1 0), .ref (a0 2), .ref (a0 3), .ref (a0 4), .ref (a0 5), .ref (a0 6), .ref (a0 7), .ref (a0 8), .ref (a0 9), .ref (a0 10), .int v0_10, .int v0_11])), (a0 3, .inl (cI, 928, .inl v0_2)), (a0 4, .inl (cI, 928, .inl v0_3)), (a0 5, .inl (cI, 928, .inl v0_4)), (a0 7, .inl (cI, 928, .inl v0_6))]
abbrev wz_X8_about : List Cond := .code yX8_about cX8_about 3 (some .int) :: wALL
abbrev rm_X8_about : Room := { frames := 2, cells := 0, slots := 0, locals := 42 }
abbrev Q_X8_about (dC : Nat → ClassId) (dI : Nat → Nat → Nat) (cI : ClassId) (a0 : Nat → Nat) (a1 : Nat → Nat) (v0_10 : Int32) (v0_11 : Int32) (v0_2 : Nat → Int32) (v0_3 : Nat → Int32) (v0_4 : Nat → Int32) (v0_6 : Nat → Int32) (u : (Int32)) (A : Nat → Prop) : Array Value → State → Outcome → State → Prop := va_Qi (fun (r : Int32) (_ : Unit) => r = u) (fun _ => q_at dC dI cI A (wd_X8_about cI a0 a1 v0_10 v0_11 v0_2 v0_3 v0_4 v0_6)) A
set_option maxHeartbeats 4000000 in
set_option maxRecDepth 100000 in
theorem c_X8_about (l : Launch) (dC : Nat → ClassId) (dI : Nat → Nat → Nat) (cI : ClassId) (sz : Nat) (a0 : Nat → Nat) (a1 : Nat → Nat) (v0_10 : Int32) (v0_11 : Int32) (v0_2 : Nat → Int32) (v0_3 : Nat → Int32) (v0_4 : Nat → Int32) (v0_6 : Nat → Int32) (p1 : Int32) (p2 : Int32) (u : (Int32)) (hF : F_X8_about v0_2 v0_3 v0_4 v0_6 p1 p2 = some u) : Met l yX8_about wz_X8_about rm_X8_about (va_Pc [.ref (a0 0), .int p1, .int p2] (q_pre dC dI cI (wd_X8_about cI a0 a1 v0_10 v0_11 v0_2 v0_3 v0_4 v0_6) sz)) (Q_X8_about dC dI cI a0 a1 v0_10 v0_11 v0_2 v0_3 v0_4 v0_6 u (va_A (wd_X8_about cI a0 a1 v0_10 v0_11 v0_2 v0_3 v0_4 v0_6) sz)) 0 0 (va_A (wd_X8_about cI a0 a1 v0_10 v0_11 v0_2 v0_3 v0_4 v0_6) sz) := by
  refine Met.ofW (cc := cX8_about) (maxL := 3) (ret := (some .int)) (by decide) rfl ?_
  intro p e s m args below meth c s₁ B hml hv
  obtain ⟨rfl, hsz, hP, hK, hD0⟩ := hv
  have hx := B.exec
  have hb := B.bytes
  have hr := B.returns
  have hts := atoms_spec (ws := wz_X8_about) B.pre
  have hta := wz_tl hts
  have hown : s.vm.findClass RX8 = some m.cls := findClass_of_methodNamed B.named
  have hlocks := B.notSynchronized
  subst hsz
  have hD := hD0.self (sz := s.heap.size)
  generalize hAe : va_A (wd_X8_about cI a0 a1 v0_10 v0_11 v0_2 v0_3 v0_4 v0_6) s.heap.size = A at hD ⊢
  have hA : ∀ q : Nat, s.heap.size ≤ q → A q := fun q h => by rw [← hAe]; exact Or.inr h
  have hS : va_S A s.heap s.heap [] := va_S.rf
  have hP : va_P (dC, dI) vwCl (wd_X8_about cI a0 a1 v0_10 v0_11 v0_2 v0_3 v0_4 v0_6) s.heap := hP
  have hl := lv_entry ([.ref (a0 0), .int p1, .int p2]) (n := 3) (Nat.le_of_ble_eq_true rfl)
  rw [lg_entry_eq]
  generalize (lg_sl ([.ref (a0 0), .int p1, .int p2]) ++ List.replicate (3 - (lg_sl ([.ref (a0 0), .int p1, .int p2])).length) Slot.unset).toArray = ls at hl ⊢
  have hl : lv_has ls 3 [(0, .ref (a0 0)), (1, .int p1), (2, .int p2)] := hl
  obtain ⟨H, hHe⟩ : ∃ H, H = s.heap := ⟨_, rfl⟩
  have hS : va_S A s.heap H [] := by rw [hHe]; exact hS
  have hP : va_P (dC, dI) vwCl (wd_X8_about cI a0 a1 v0_10 v0_11 v0_2 v0_3 v0_4 v0_6) H := by rw [hHe]; exact hP
  rw [← hHe]
  unfold F_X8_about at hF
  refine lv_iload_n hx hb dX8_about_0 rfl (lv_at hl 2 rfl) ?_
  refine lv_if_ne (tgt := 13) hx hb dX8_about_1 (by decide) (fun c_1 => ?_) (fun c_1 => ?_)
  · have hF := it_f hF c_1
    refine lv_iload_n hx hb dX8_about_13 rfl (lv_at hl 2 rfl) ?_
    refine lv_iconst (v := 1) hx hb dX8_about_14 (by decide) ?_
    refine lv_icmp_ne (tgt := 27) hx hb dX8_about_15 (by decide) (fun c_2 => ?_) (fun c_2 => ?_)
    · have hF := it_f hF c_2
      refine lv_iload_n hx hb dX8_about_27 rfl (lv_at hl 2 rfl) ?_
      refine lv_iconst (v := 2) hx hb dX8_about_28 (by decide) ?_
      refine lv_icmp_ne (tgt := 40) hx hb dX8_about_29 (by decide) (fun c_3 => ?_) (fun c_3 => ?_)
      · have hF := it_f hF c_3
        refine lv_aload_n hx hb dX8_about_40 rfl (lv_at hl 0 rfl) ?_
        refine va_get (D := (dC, dI)) (ci := 7) (v := .ref (a0 5)) (C := RX8) (T := TX8) (N := 12) hx hb hta uw_X8 hown hK hP 0 rfl rfl 4 (by decide) (hta _ mA85) (fun _ h9 => h9) rfl dX8_about_41 ?_
        refine lv_iload_n hx hb dX8_about_44 rfl (lv_at hl 1 rfl) ?_
        obtain ⟨u_4, hu_4, hF⟩ := obd_some hF
        have hPc := hP.sub (ws' := (wd_X4_at cI (a0 5) 928 v0_4)) [3] rfl
        have hDc := hD.sub (ws' := (wd_X4_at cI (a0 5) 928 v0_4)) [3] rfl rfl
        refine q_calli (wc := (wd_X4_at cI (a0 5) 928 v0_4)) (w1 := (wd_X4_at cI (a0 5) 928 v0_4)) (ws' := (wd_X8_about cI a0 a1 v0_10 v0_11 v0_2 v0_3 v0_4 v0_6)) hP hD hS hA [3] [0, 1, 2, 4] [0, 1, 2, 4, 3] rfl rfl rfl (by decide) rfl rfl (va_runS (As := [.ref (a0 5), .int p1]) (rest := []) ⟨hx, hb, hml, hown, hta⟩ (c_X4_at l dC dI cI H.size (a0 5) 928 v0_4 p1 u_4 hu_4) (va_cwS 2 hta (ga_S mA419 mA237 mA221 mA238) rfl rfl rfl (by decide +kernel) ⟨Nat.le_of_ble_eq_true rfl, Nat.le_of_ble_eq_true rfl⟩) ⟨q_fb, q_ps hPc hK hDc⟩ rfl rfl hl.1 rfl (lv_room (Nat.le_of_ble_eq_true rfl)) dX8_about_45 ⟨Nat.zero_le _, Nat.zero_le _⟩) (fun H locs hP hD hS => ?_)
        obtain rfl := Option.some.inj hF
        exact W.iret (v := u_4) hx hb hr (fun t ht hW => ⟨⟨u_4, (), rfl, rfl, by rw [ht]; exact hP, va_K.moved hW.alike hK, hD⟩, hS.F ht⟩) hS.2.2 dX8_about_48
      · have hF := it_t hF c_3
        refine lv_aload_n hx hb dX8_about_32 rfl (lv_at hl 0 rfl) ?_
        refine lv_iload_n hx hb dX8_about_33 rfl (lv_at hl 1 rfl) ?_
        obtain ⟨u_5, hu_5, hF⟩ := obd_some hF
        have hPc := hP.sub (ws' := (wd_X8_spansOf cI a0 a1 v0_10 v0_11 v0_6)) [0, 4] rfl
        have hDc := hD.sub (ws' := (wd_X8_spansOf cI a0 a1 v0_10 v0_11 v0_6)) [0, 4] rfl rfl
        refine q_calli (wc := (wd_X8_spansOf cI a0 a1 v0_10 v0_11 v0_6)) (w1 := (wd_X8_spansOf cI a0 a1 v0_10 v0_11 v0_6)) (ws' := (wd_X8_about cI a0 a1 v0_10 v0_11 v0_2 v0_3 v0_4 v0_6)) hP hD hS hA [0, 4] [1, 2, 3] [3, 0, 1, 2, 4] rfl rfl rfl (by decide) rfl rfl (va_runV (As := [.int p1]) (rest := []) ⟨hx, hb, hml, hown, hta⟩ (c_X8_spansOf l dC dI cI H.size a0 a1 v0_10 v0_11 v0_6 p1 u_5 hu_5) (cwV 1 hta (ga_V mA442 mA443 mA444 mA56 mA445) rfl rfl rfl (by decide +kernel) ⟨Nat.le_of_ble_eq_true rfl, Nat.le_of_ble_eq_true rfl⟩) ⟨q_fb, va_recv hK hP (ci := 7) (q0 := 0) rfl rfl, q_ps hPc hK hDc⟩ rfl rfl hl.1 rfl (lv_room (Nat.le_of_ble_eq_true rfl)) dX8_about_34 ⟨Nat.zero_le _, Nat.zero_le _⟩) (fun H locs hP hD hS => ?_)
        refine lv_goto (tgt := 48) hx hb dX8_about_37 (by decide) ?_
        obtain rfl := Option.some.inj hF
        exact W.iret (v := u_5) hx hb hr (fun t ht hW => ⟨⟨u_5, (), rfl, rfl, by rw [ht]; exact hP, va_K.moved hW.alike hK, hD⟩, hS.F ht⟩) hS.2.2 dX8_about_48
    · have hF := it_t hF c_2
      refine lv_aload_n hx hb dX8_about_18 rfl (lv_at hl 0 rfl) ?_
      refine va_get (D := (dC, dI)) (ci := 7) (v := .ref (a0 4)) (C := RX8) (T := TX8) (N := 12) hx hb hta uw_X8 hown hK hP 0 rfl rfl 3 (by decide) (hta _ mA84) (fun _ h9 => h9) rfl dX8_about_19 ?_
      refine lv_iload_n hx hb dX8_about_22 rfl (lv_at hl 1 rfl) ?_
      obtain ⟨u_6, hu_6, hF⟩ := obd_some hF
      have hPc := hP.sub (ws' := (wd_X4_at cI (a0 4) 928 v0_3)) [2] rfl
      have hDc := hD.sub (ws' := (wd_X4_at cI (a0 4) 928 v0_3)) [2] rfl rfl
      refine q_calli (wc := (wd_X4_at cI (a0 4) 928 v0_3)) (w1 := (wd_X4_at cI (a0 4) 928 v0_3)) (ws' := (wd_X8_about cI a0 a1 v0_10 v0_11 v0_2 v0_3 v0_4 v0_6)) hP hD hS hA [2] [0, 1, 3, 4] [0, 1, 4, 2, 3] rfl rfl rfl (by decide) rfl rfl (va_runS (As := [.ref (a0 4), .int p1]) (rest := []) ⟨hx, hb, hml, hown, hta⟩ (c_X4_at l dC dI cI H.size (a0 4) 928 v0_3 p1 u_6 hu_6) (va_cwS 2 hta (ga_S mA419 mA237 mA221 mA238) rfl rfl rfl (by decide +kernel) ⟨Nat.le_of_ble_eq_true rfl, Nat.le_of_ble_eq_true rfl⟩) ⟨q_fb, q_ps hPc hK hDc⟩ rfl rfl hl.1 rfl (lv_room (Nat.le_of_ble_eq_true rfl)) dX8_about_23 ⟨Nat.zero_le _, Nat.zero_le _⟩) (fun H locs hP hD hS => ?_)
      obtain rfl := Option.some.inj hF
      exact W.iret (v := u_6) hx hb hr (fun t ht hW => ⟨⟨u_6, (), rfl, rfl, by rw [ht]; exact hP, va_K.moved hW.alike hK, hD⟩, hS.F ht⟩) hS.2.2 dX8_about_26
  · have hF := it_t hF c_1
    refine lv_aload_n hx hb dX8_about_4 rfl (lv_at hl 0 rfl) ?_
    refine va_get (D := (dC, dI)) (ci := 7) (v := .ref (a0 3)) (C := RX8) (T := TX8) (N := 12) hx hb hta uw_X8 hown hK hP 0 rfl rfl 2 (by decide) (hta _ mA83) (fun _ h9 => h9) rfl dX8_about_5 ?_
    refine lv_iload_n hx hb dX8_about_8 rfl (lv_at hl 1 rfl) ?_
    obtain ⟨u_7, hu_7, hF⟩ := obd_some hF
    have hPc := hP.sub (ws' := (wd_X4_at cI (a0 3) 928 v0_2)) [1] rfl
    have hDc := hD.sub (ws' := (wd_X4_at cI (a0 3) 928 v0_2)) [1] rfl rfl
    refine q_calli (wc := (wd_X4_at cI (a0 3) 928 v0_2)) (w1 := (wd_X4_at cI (a0 3) 928 v0_2)) (ws' := (wd_X8_about cI a0 a1 v0_10 v0_11 v0_2 v0_3 v0_4 v0_6)) hP hD hS hA [1] [0, 2, 3, 4] [0, 4, 1, 2, 3] rfl rfl rfl (by decide) rfl rfl (va_runS (As := [.ref (a0 3), .int p1]) (rest := []) ⟨hx, hb, hml, hown, hta⟩ (c_X4_at l dC dI cI H.size (a0 3) 928 v0_2 p1 u_7 hu_7) (va_cwS 2 hta (ga_S mA419 mA237 mA221 mA238) rfl rfl rfl (by decide +kernel) ⟨Nat.le_of_ble_eq_true rfl, Nat.le_of_ble_eq_true rfl⟩) ⟨q_fb, q_ps hPc hK hDc⟩ rfl rfl hl.1 rfl (lv_room (Nat.le_of_ble_eq_true rfl)) dX8_about_9 ⟨Nat.zero_le _, Nat.zero_le _⟩) (fun H locs hP hD hS => ?_)
    obtain rfl := Option.some.inj hF
    exact W.iret (v := u_7) hx hb hr (fun t ht hW => ⟨⟨u_7, (), rfl, rfl, by rw [ht]; exact hP, va_K.moved hW.alike hK, hD⟩, hS.F ht⟩) hS.2.2 dX8_about_12

-- StrokeOutliner$Runs.totalLength()I
def F_X8_totalLength_j29 (x1 : Int32) : Option (Int32) :=
  some x1
def F_X8_totalLength_b4 (v0_10 : Int32) (v0_3 : Nat → Int32) (s4 : Int32 × Int32) : Option (Sum (Int32 × Int32) (Int32)) :=
  if v0_10 ≤ s4.2 then some (.inr s4.1) else obd (F_X4_at 928 v0_3 s4.2) (fun u_2 => lt (s4.1 + u_2) (fun y_3 => lt (s4.2 + 1) (fun y_4 => some (.inl (y_3, y_4)))))
def F_X8_totalLength_j4 (n : Nat) (v0_10 : Int32) (v0_3 : Nat → Int32) (x1 : Int32) (x2 : Int32) : Option (Int32) :=
  obd (lpq (F_X8_totalLength_b4 v0_10 v0_3) n (x1, x2)) (fun x_4 => F_X8_totalLength_j29 x_4)
def F_X8_totalLength (n : Nat) (v0_10 : Int32) (v0_3 : Nat → Int32) : Option (Int32) :=
  F_X8_totalLength_j4 n v0_10 v0_3 0 0
abbrev wd_X8_totalLength (cI : ClassId) (a0 : Nat → Nat) (a1 : Nat → Nat) (v0_10 : Int32) (v0_11 : Int32) (v0_3 : Nat → Int32) : va_W := [(a0 0, .inr (7, [.ref (a1 0), .ref (a0 2), .ref (a0 3), .ref (a0 4), .ref (a0 5), .ref (a0 6), .ref (a0 7), .ref (a0 8), .ref (a0 9), .ref (a0 10), .int v0_10, .int v0_11])), (a0 4, .inl (cI, 928, .inl v0_3))]
abbrev wz_X8_totalLength : List Cond := .code yX8_totalLength cX8_totalLength 3 (some .int) :: wALL
abbrev rm_X8_totalLength : Room := { frames := 1, cells := 0, slots := 0, locals := 21 }
abbrev Q_X8_totalLength (dC : Nat → ClassId) (dI : Nat → Nat → Nat) (cI : ClassId) (a0 : Nat → Nat) (a1 : Nat → Nat) (v0_10 : Int32) (v0_11 : Int32) (v0_3 : Nat → Int32) (u : (Int32)) (A : Nat → Prop) : Array Value → State → Outcome → State → Prop := va_Qi (fun (r : Int32) (_ : Unit) => r = u) (fun _ => q_at dC dI cI A (wd_X8_totalLength cI a0 a1 v0_10 v0_11 v0_3)) A
set_option maxHeartbeats 4000000 in
set_option maxRecDepth 100000 in
theorem c_X8_totalLength (l : Launch) (dC : Nat → ClassId) (dI : Nat → Nat → Nat) (cI : ClassId) (sz : Nat) (a0 : Nat → Nat) (a1 : Nat → Nat) (v0_10 : Int32) (v0_11 : Int32) (v0_3 : Nat → Int32) (n : Nat) (u : (Int32)) (hF : F_X8_totalLength n v0_10 v0_3 = some u) : Met l yX8_totalLength wz_X8_totalLength rm_X8_totalLength (va_Pc [.ref (a0 0)] (q_pre dC dI cI (wd_X8_totalLength cI a0 a1 v0_10 v0_11 v0_3) sz)) (Q_X8_totalLength dC dI cI a0 a1 v0_10 v0_11 v0_3 u (va_A (wd_X8_totalLength cI a0 a1 v0_10 v0_11 v0_3) sz)) 0 0 (va_A (wd_X8_totalLength cI a0 a1 v0_10 v0_11 v0_3) sz) := by
  refine Met.ofW (cc := cX8_totalLength) (maxL := 3) (ret := (some .int)) (by decide) rfl ?_
  intro p e s m args below meth c s₁ B hml hv
  obtain ⟨rfl, hsz, hP, hK, hD0⟩ := hv
  have hx := B.exec
  have hb := B.bytes
  have hr := B.returns
  have hts := atoms_spec (ws := wz_X8_totalLength) B.pre
  have hta := wz_tl hts
  have hown : s.vm.findClass RX8 = some m.cls := findClass_of_methodNamed B.named
  have hlocks := B.notSynchronized
  subst hsz
  have hD := hD0.self (sz := s.heap.size)
  generalize hAe : va_A (wd_X8_totalLength cI a0 a1 v0_10 v0_11 v0_3) s.heap.size = A at hD ⊢
  have hA : ∀ q : Nat, s.heap.size ≤ q → A q := fun q h => by rw [← hAe]; exact Or.inr h
  have hS : va_S A s.heap s.heap [] := va_S.rf
  have hP : va_P (dC, dI) vwCl (wd_X8_totalLength cI a0 a1 v0_10 v0_11 v0_3) s.heap := hP
  have hl := lv_entry ([.ref (a0 0)]) (n := 3) (Nat.le_of_ble_eq_true rfl)
  rw [lg_entry_eq]
  generalize (lg_sl ([.ref (a0 0)]) ++ List.replicate (3 - (lg_sl ([.ref (a0 0)])).length) Slot.unset).toArray = ls at hl ⊢
  have hl : lv_has ls 3 [(0, .ref (a0 0))] := hl
  obtain ⟨H, hHe⟩ : ∃ H, H = s.heap := ⟨_, rfl⟩
  have hS : va_S A s.heap H [] := by rw [hHe]; exact hS
  have hP : va_P (dC, dI) vwCl (wd_X8_totalLength cI a0 a1 v0_10 v0_11 v0_3) H := by rw [hHe]; exact hP
  rw [← hHe]
  unfold F_X8_totalLength at hF
  have j29 : ∀ (x1 : Int32), F_X8_totalLength_j29 x1 = some u → ∀ (H : Heap) (locs : List Loc) (ls : Array Slot), va_P (dC, dI) vwCl (wd_X8_totalLength cI a0 a1 v0_10 v0_11 v0_3) H → va_D A (wd_X8_totalLength cI a0 a1 v0_10 v0_11 v0_3) → va_S A s.heap H locs → lv_has ls 3 [(1, .int x1)] → W p l e (headSpec wz_X8_totalLength rm_X8_totalLength).room s m [.ref (a0 0)].toArray below meth c H locs 0 0 (MQ below (Q_X8_totalLength dC dI cI a0 a1 v0_10 v0_11 v0_3 u A) [.ref (a0 0)].toArray s 0 0 A) (F0 m 29 ls []) := by
    intro x1 hF H locs ls hP hD hS hl
    unfold F_X8_totalLength_j29 at hF
    refine lv_iload_n hx hb dX8_totalLength_29 rfl (lv_at hl 0 rfl) ?_
    obtain rfl := Option.some.inj hF
    exact W.iret (v := x1) hx hb hr (fun t ht hW => ⟨⟨x1, (), rfl, rfl, by rw [ht]; exact hP, va_K.moved hW.alike hK, hD⟩, hS.F ht⟩) hS.2.2 dX8_totalLength_30
  have j4 : ∀ (x1 : Int32) (x2 : Int32), F_X8_totalLength_j4 n v0_10 v0_3 x1 x2 = some u → ∀ (H : Heap) (locs : List Loc) (ls : Array Slot), va_P (dC, dI) vwCl (wd_X8_totalLength cI a0 a1 v0_10 v0_11 v0_3) H → va_D A (wd_X8_totalLength cI a0 a1 v0_10 v0_11 v0_3) → va_S A s.heap H locs → lv_has ls 3 [(0, .ref (a0 0)), (1, .int x1), (2, .int x2)] → W p l e (headSpec wz_X8_totalLength rm_X8_totalLength).room s m [.ref (a0 0)].toArray below meth c H locs 0 0 (MQ below (Q_X8_totalLength dC dI cI a0 a1 v0_10 v0_11 v0_3 u A) [.ref (a0 0)].toArray s 0 0 A) (F0 m 4 ls []) := by
    intro x1 x2 hF H locs ls hP hD hS hl
    unfold F_X8_totalLength_j4 at hF
    obtain ⟨x_4, hL_4, hE_4⟩ := obd_some hF
    have kl_4 : ∀ (k : Nat) (s4 : Int32 × Int32), lpq (F_X8_totalLength_b4 v0_10 v0_3) k s4 = some x_4 → ∀ (H : Heap) (locs : List Loc) (ls : Array Slot), va_P (dC, dI) vwCl (wd_X8_totalLength cI a0 a1 v0_10 v0_11 v0_3) H → va_D A (wd_X8_totalLength cI a0 a1 v0_10 v0_11 v0_3) → va_S A s.heap H locs → lv_has ls 3 [(0, .ref (a0 0)), (1, .int s4.1), (2, .int s4.2)] → W p l e (headSpec wz_X8_totalLength rm_X8_totalLength).room s m [.ref (a0 0)].toArray below meth c H locs 0 0 (MQ below (Q_X8_totalLength dC dI cI a0 a1 v0_10 v0_11 v0_3 u A) [.ref (a0 0)].toArray s 0 0 A) (F0 m 4 ls []) := by
      intro k
      induction k with
      | zero => intro s4 h; exact absurd h lpq_zero
      | succ k ih_4 =>
        intro s4 h H locs ls hP hD hS hl
        obtain ⟨o_4, hF, hO_4⟩ := lpq_succ h
        unfold F_X8_totalLength_b4 at hF
        refine lv_iload_n hx hb dX8_totalLength_4 rfl (lv_at hl 2 rfl) ?_
        refine lv_aload_n hx hb dX8_totalLength_5 rfl (lv_at hl 0 rfl) ?_
        refine va_get (D := (dC, dI)) (ci := 7) (v := .int v0_10) (C := RX8) (T := TX8) (N := 12) hx hb hta uw_X8 hown hK hP 0 rfl rfl 10 (by decide) (hta _ mA358) (fun _ h9 => h9) rfl dX8_totalLength_6 ?_
        refine lv_icmp_ge (tgt := 29) hx hb dX8_totalLength_9 (by decide) (fun c_1 => ?_) (fun c_1 => ?_)
        · have hF := it_t hF c_1
          obtain rfl := Option.some.inj hF
          obtain rfl := lpq_x hO_4
          have hF := hE_4
          exact j29 s4.1 hF _ _ _ hP hD hS (lv_sub hl [1] rfl)
        · have hF := it_f hF c_1
          refine lv_iload_n hx hb dX8_totalLength_12 rfl (lv_at hl 1 rfl) ?_
          refine lv_aload_n hx hb dX8_totalLength_13 rfl (lv_at hl 0 rfl) ?_
          refine va_get (D := (dC, dI)) (ci := 7) (v := .ref (a0 4)) (C := RX8) (T := TX8) (N := 12) hx hb hta uw_X8 hown hK hP 0 rfl rfl 3 (by decide) (hta _ mA84) (fun _ h9 => h9) rfl dX8_totalLength_14 ?_
          refine lv_iload_n hx hb dX8_totalLength_17 rfl (lv_at hl 2 rfl) ?_
          obtain ⟨u_2, hu_2, hF⟩ := obd_some hF
          have hPc := hP.sub (ws' := (wd_X4_at cI (a0 4) 928 v0_3)) [1] rfl
          have hDc := hD.sub (ws' := (wd_X4_at cI (a0 4) 928 v0_3)) [1] rfl rfl
          refine q_calli (wc := (wd_X4_at cI (a0 4) 928 v0_3)) (w1 := (wd_X4_at cI (a0 4) 928 v0_3)) (ws' := (wd_X8_totalLength cI a0 a1 v0_10 v0_11 v0_3)) hP hD hS hA [1] [0] [0, 1] rfl rfl rfl (by decide) rfl rfl (va_runS (As := [.ref (a0 4), .int s4.2]) (rest := [.int s4.1]) ⟨hx, hb, hml, hown, hta⟩ (c_X4_at l dC dI cI H.size (a0 4) 928 v0_3 s4.2 u_2 hu_2) (va_cwS 2 hta (ga_S mA419 mA237 mA221 mA238) rfl rfl rfl (by decide +kernel) ⟨Nat.le_of_ble_eq_true rfl, Nat.le_of_ble_eq_true rfl⟩) ⟨q_fb, q_ps hPc hK hDc⟩ rfl rfl hl.1 rfl (lv_room (Nat.le_of_ble_eq_true rfl)) dX8_totalLength_18 ⟨Nat.zero_le _, Nat.zero_le _⟩) (fun H locs hP hD hS => ?_)
          refine lv_iadd hx hb dX8_totalLength_21 ?_
          obtain ⟨y_3, ey_3, hF⟩ := lt_some hF
          refine lv_eqi ey_3 ?_
          refine lv_istore_n (lv' := [(1, .int y_3), (0, .ref (a0 0)), (2, .int s4.2)]) hx hb dX8_totalLength_22 rfl hl (by decide) rfl (fun ls hl => ?_)
          obtain ⟨y_4, ey_4, hF⟩ := lt_some hF
          refine lv_iinc (v := y_4) (lv' := [(2, .int y_4), (1, .int y_3), (0, .ref (a0 0))]) hx hb dX8_totalLength_23 hl (k := 2) rfl (by rw [ey_4]; rfl) (by decide) rfl (fun ls hl => ?_)
          refine lv_goto (tgt := 4) hx hb dX8_totalLength_26 (by decide) ?_
          obtain rfl := Option.some.inj hF
          exact ih_4 _ hO_4 _ _ _ hP hD hS (lv_sub hl [2, 1, 0] rfl)
    exact kl_4 n _ hL_4 _ _ _ hP hD hS hl
  refine lv_iconst (v := 0) hx hb dX8_totalLength_0 (by decide) ?_
  refine lv_istore_n (lv' := [(1, .int 0), (0, .ref (a0 0))]) hx hb dX8_totalLength_1 rfl hl (by decide) rfl (fun ls hl => ?_)
  refine lv_iconst (v := 0) hx hb dX8_totalLength_2 (by decide) ?_
  refine lv_istore_n (lv' := [(2, .int 0), (1, .int 0), (0, .ref (a0 0))]) hx hb dX8_totalLength_3 rfl hl (by decide) rfl (fun ls hl => ?_)
  exact j4 0 0 hF _ _ _ hP hD hS (lv_sub hl [2, 1, 0] rfl)

-- StrokeOutliner$Runs.firstSpanOf(I)I
def F_X8_firstSpanOf (v0_5 : Nat → Int32) (p1 : Int32) : Option (Int32) :=
  obd (F_X4_at 928 v0_5 p1) (fun u_1 => some u_1)
abbrev wd_X8_firstSpanOf (cI : ClassId) (a0 : Nat → Nat) (a1 : Nat → Nat) (v0_10 : Int32) (v0_11 : Int32) (v0_5 : Nat → Int32) : va_W := [(a0 0, .inr (7, [.ref (a1 0), .ref (a0 2), .ref (a0 3), .ref (a0 4), .ref (a0 5), .ref (a0 6), .ref (a0 7), .ref (a0 8), .ref (a0 9), .ref (a0 10), .int v0_10, .int v0_11])), (a0 6, .inl (cI, 928, .inl v0_5))]
abbrev wz_X8_firstSpanOf : List Cond := .code yX8_firstSpanOf cX8_firstSpanOf 2 (some .int) :: wALL
abbrev rm_X8_firstSpanOf : Room := { frames := 1, cells := 0, slots := 0, locals := 21 }
abbrev Q_X8_firstSpanOf (dC : Nat → ClassId) (dI : Nat → Nat → Nat) (cI : ClassId) (a0 : Nat → Nat) (a1 : Nat → Nat) (v0_10 : Int32) (v0_11 : Int32) (v0_5 : Nat → Int32) (u : (Int32)) (A : Nat → Prop) : Array Value → State → Outcome → State → Prop := va_Qi (fun (r : Int32) (_ : Unit) => r = u) (fun _ => q_at dC dI cI A (wd_X8_firstSpanOf cI a0 a1 v0_10 v0_11 v0_5)) A
set_option maxHeartbeats 4000000 in
set_option maxRecDepth 100000 in
theorem c_X8_firstSpanOf (l : Launch) (dC : Nat → ClassId) (dI : Nat → Nat → Nat) (cI : ClassId) (sz : Nat) (a0 : Nat → Nat) (a1 : Nat → Nat) (v0_10 : Int32) (v0_11 : Int32) (v0_5 : Nat → Int32) (p1 : Int32) (u : (Int32)) (hF : F_X8_firstSpanOf v0_5 p1 = some u) : Met l yX8_firstSpanOf wz_X8_firstSpanOf rm_X8_firstSpanOf (va_Pc [.ref (a0 0), .int p1] (q_pre dC dI cI (wd_X8_firstSpanOf cI a0 a1 v0_10 v0_11 v0_5) sz)) (Q_X8_firstSpanOf dC dI cI a0 a1 v0_10 v0_11 v0_5 u (va_A (wd_X8_firstSpanOf cI a0 a1 v0_10 v0_11 v0_5) sz)) 0 0 (va_A (wd_X8_firstSpanOf cI a0 a1 v0_10 v0_11 v0_5) sz) := by
  refine Met.ofW (cc := cX8_firstSpanOf) (maxL := 2) (ret := (some .int)) (by decide) rfl ?_
  intro p e s m args below meth c s₁ B hml hv
  obtain ⟨rfl, hsz, hP, hK, hD0⟩ := hv
  have hx := B.exec
  have hb := B.bytes
  have hr := B.returns
  have hts := atoms_spec (ws := wz_X8_firstSpanOf) B.pre
  have hta := wz_tl hts
  have hown : s.vm.findClass RX8 = some m.cls := findClass_of_methodNamed B.named
  have hlocks := B.notSynchronized
  subst hsz
  have hD := hD0.self (sz := s.heap.size)
  generalize hAe : va_A (wd_X8_firstSpanOf cI a0 a1 v0_10 v0_11 v0_5) s.heap.size = A at hD ⊢
  have hA : ∀ q : Nat, s.heap.size ≤ q → A q := fun q h => by rw [← hAe]; exact Or.inr h
  have hS : va_S A s.heap s.heap [] := va_S.rf
  have hP : va_P (dC, dI) vwCl (wd_X8_firstSpanOf cI a0 a1 v0_10 v0_11 v0_5) s.heap := hP
  have hl := lv_entry ([.ref (a0 0), .int p1]) (n := 2) (Nat.le_of_ble_eq_true rfl)
  rw [lg_entry_eq]
  generalize (lg_sl ([.ref (a0 0), .int p1]) ++ List.replicate (2 - (lg_sl ([.ref (a0 0), .int p1])).length) Slot.unset).toArray = ls at hl ⊢
  have hl : lv_has ls 2 [(0, .ref (a0 0)), (1, .int p1)] := hl
  obtain ⟨H, hHe⟩ : ∃ H, H = s.heap := ⟨_, rfl⟩
  have hS : va_S A s.heap H [] := by rw [hHe]; exact hS
  have hP : va_P (dC, dI) vwCl (wd_X8_firstSpanOf cI a0 a1 v0_10 v0_11 v0_5) H := by rw [hHe]; exact hP
  rw [← hHe]
  unfold F_X8_firstSpanOf at hF
  refine lv_aload_n hx hb dX8_firstSpanOf_0 rfl (lv_at hl 0 rfl) ?_
  refine va_get (D := (dC, dI)) (ci := 7) (v := .ref (a0 6)) (C := RX8) (T := TX8) (N := 12) hx hb hta uw_X8 hown hK hP 0 rfl rfl 5 (by decide) (hta _ mA86) (fun _ h9 => h9) rfl dX8_firstSpanOf_1 ?_
  refine lv_iload_n hx hb dX8_firstSpanOf_4 rfl (lv_at hl 1 rfl) ?_
  obtain ⟨u_1, hu_1, hF⟩ := obd_some hF
  have hPc := hP.sub (ws' := (wd_X4_at cI (a0 6) 928 v0_5)) [1] rfl
  have hDc := hD.sub (ws' := (wd_X4_at cI (a0 6) 928 v0_5)) [1] rfl rfl
  refine q_calli (wc := (wd_X4_at cI (a0 6) 928 v0_5)) (w1 := (wd_X4_at cI (a0 6) 928 v0_5)) (ws' := (wd_X8_firstSpanOf cI a0 a1 v0_10 v0_11 v0_5)) hP hD hS hA [1] [0] [0, 1] rfl rfl rfl (by decide) rfl rfl (va_runS (As := [.ref (a0 6), .int p1]) (rest := []) ⟨hx, hb, hml, hown, hta⟩ (c_X4_at l dC dI cI H.size (a0 6) 928 v0_5 p1 u_1 hu_1) (va_cwS 2 hta (ga_S mA419 mA237 mA221 mA238) rfl rfl rfl (by decide +kernel) ⟨Nat.le_of_ble_eq_true rfl, Nat.le_of_ble_eq_true rfl⟩) ⟨q_fb, q_ps hPc hK hDc⟩ rfl rfl hl.1 rfl (lv_room (Nat.le_of_ble_eq_true rfl)) dX8_firstSpanOf_5 ⟨Nat.zero_le _, Nat.zero_le _⟩) (fun H locs hP hD hS => ?_)
  obtain rfl := Option.some.inj hF
  exact W.iret (v := u_1) hx hb hr (fun t ht hW => ⟨⟨u_1, (), rfl, rfl, by rw [ht]; exact hP, va_K.moved hW.alike hK, hD⟩, hS.F ht⟩) hS.2.2 dX8_firstSpanOf_8

-- StrokeOutliner$Runs.isRing(I)Z
def F_X8_isRing (v0_4 : Nat → Int32) (p1 : Int32) : Option (Int32) :=
  obd (F_X4_at 928 v0_4 p1) (fun u_1 => if u_1 = 1 then some 1 else some 0)
abbrev wd_X8_isRing (cI : ClassId) (a0 : Nat → Nat) (a1 : Nat → Nat) (v0_10 : Int32) (v0_11 : Int32) (v0_4 : Nat → Int32) : va_W := [(a0 0, .inr (7, [.ref (a1 0), .ref (a0 2), .ref (a0 3), .ref (a0 4), .ref (a0 5), .ref (a0 6), .ref (a0 7), .ref (a0 8), .ref (a0 9), .ref (a0 10), .int v0_10, .int v0_11])), (a0 5, .inl (cI, 928, .inl v0_4))]
abbrev wz_X8_isRing : List Cond := .code yX8_isRing cX8_isRing 2 (some .boolean) :: wALL
abbrev rm_X8_isRing : Room := { frames := 1, cells := 0, slots := 0, locals := 21 }
abbrev Q_X8_isRing (dC : Nat → ClassId) (dI : Nat → Nat → Nat) (cI : ClassId) (a0 : Nat → Nat) (a1 : Nat → Nat) (v0_10 : Int32) (v0_11 : Int32) (v0_4 : Nat → Int32) (u : (Int32)) (A : Nat → Prop) : Array Value → State → Outcome → State → Prop := va_Qi (fun (r : Int32) (_ : Unit) => r = u ∧ (u = 0 ∨ u = 1)) (fun _ => q_at dC dI cI A (wd_X8_isRing cI a0 a1 v0_10 v0_11 v0_4)) A
set_option maxHeartbeats 4000000 in
set_option maxRecDepth 100000 in
theorem c_X8_isRing (l : Launch) (dC : Nat → ClassId) (dI : Nat → Nat → Nat) (cI : ClassId) (sz : Nat) (a0 : Nat → Nat) (a1 : Nat → Nat) (v0_10 : Int32) (v0_11 : Int32) (v0_4 : Nat → Int32) (p1 : Int32) (u : (Int32)) (hF : F_X8_isRing v0_4 p1 = some u) : Met l yX8_isRing wz_X8_isRing rm_X8_isRing (va_Pc [.ref (a0 0), .int p1] (q_pre dC dI cI (wd_X8_isRing cI a0 a1 v0_10 v0_11 v0_4) sz)) (Q_X8_isRing dC dI cI a0 a1 v0_10 v0_11 v0_4 u (va_A (wd_X8_isRing cI a0 a1 v0_10 v0_11 v0_4) sz)) 0 0 (va_A (wd_X8_isRing cI a0 a1 v0_10 v0_11 v0_4) sz) := by
  refine Met.ofW (cc := cX8_isRing) (maxL := 2) (ret := (some .boolean)) (by decide) rfl ?_
  intro p e s m args below meth c s₁ B hml hv
  obtain ⟨rfl, hsz, hP, hK, hD0⟩ := hv
  have hx := B.exec
  have hb := B.bytes
  have hr := B.returns
  have hts := atoms_spec (ws := wz_X8_isRing) B.pre
  have hta := wz_tl hts
  have hown : s.vm.findClass RX8 = some m.cls := findClass_of_methodNamed B.named
  have hlocks := B.notSynchronized
  subst hsz
  have hD := hD0.self (sz := s.heap.size)
  generalize hAe : va_A (wd_X8_isRing cI a0 a1 v0_10 v0_11 v0_4) s.heap.size = A at hD ⊢
  have hA : ∀ q : Nat, s.heap.size ≤ q → A q := fun q h => by rw [← hAe]; exact Or.inr h
  have hS : va_S A s.heap s.heap [] := va_S.rf
  have hP : va_P (dC, dI) vwCl (wd_X8_isRing cI a0 a1 v0_10 v0_11 v0_4) s.heap := hP
  have hl := lv_entry ([.ref (a0 0), .int p1]) (n := 2) (Nat.le_of_ble_eq_true rfl)
  rw [lg_entry_eq]
  generalize (lg_sl ([.ref (a0 0), .int p1]) ++ List.replicate (2 - (lg_sl ([.ref (a0 0), .int p1])).length) Slot.unset).toArray = ls at hl ⊢
  have hl : lv_has ls 2 [(0, .ref (a0 0)), (1, .int p1)] := hl
  obtain ⟨H, hHe⟩ : ∃ H, H = s.heap := ⟨_, rfl⟩
  have hS : va_S A s.heap H [] := by rw [hHe]; exact hS
  have hP : va_P (dC, dI) vwCl (wd_X8_isRing cI a0 a1 v0_10 v0_11 v0_4) H := by rw [hHe]; exact hP
  rw [← hHe]
  unfold F_X8_isRing at hF
  refine lv_aload_n hx hb dX8_isRing_0 rfl (lv_at hl 0 rfl) ?_
  refine va_get (D := (dC, dI)) (ci := 7) (v := .ref (a0 5)) (C := RX8) (T := TX8) (N := 12) hx hb hta uw_X8 hown hK hP 0 rfl rfl 4 (by decide) (hta _ mA85) (fun _ h9 => h9) rfl dX8_isRing_1 ?_
  refine lv_iload_n hx hb dX8_isRing_4 rfl (lv_at hl 1 rfl) ?_
  obtain ⟨u_1, hu_1, hF⟩ := obd_some hF
  have hPc := hP.sub (ws' := (wd_X4_at cI (a0 5) 928 v0_4)) [1] rfl
  have hDc := hD.sub (ws' := (wd_X4_at cI (a0 5) 928 v0_4)) [1] rfl rfl
  refine q_calli (wc := (wd_X4_at cI (a0 5) 928 v0_4)) (w1 := (wd_X4_at cI (a0 5) 928 v0_4)) (ws' := (wd_X8_isRing cI a0 a1 v0_10 v0_11 v0_4)) hP hD hS hA [1] [0] [0, 1] rfl rfl rfl (by decide) rfl rfl (va_runS (As := [.ref (a0 5), .int p1]) (rest := []) ⟨hx, hb, hml, hown, hta⟩ (c_X4_at l dC dI cI H.size (a0 5) 928 v0_4 p1 u_1 hu_1) (va_cwS 2 hta (ga_S mA419 mA237 mA221 mA238) rfl rfl rfl (by decide +kernel) ⟨Nat.le_of_ble_eq_true rfl, Nat.le_of_ble_eq_true rfl⟩) ⟨q_fb, q_ps hPc hK hDc⟩ rfl rfl hl.1 rfl (lv_room (Nat.le_of_ble_eq_true rfl)) dX8_isRing_5 ⟨Nat.zero_le _, Nat.zero_le _⟩) (fun H locs hP hD hS => ?_)
  refine lv_iconst (v := 1) hx hb dX8_isRing_8 (by decide) ?_
  refine lv_icmp_ne (tgt := 16) hx hb dX8_isRing_9 (by decide) (fun c_2 => ?_) (fun c_2 => ?_)
  · have hF := it_f hF c_2
    refine lv_iconst (v := 0) hx hb dX8_isRing_16 (by decide) ?_
    obtain rfl := Option.some.inj hF
    exact W.zret (v := 0) (ty := .boolean) hx hb hr (z_nar (Or.inl rfl)) (fun t ht hW => ⟨⟨0, (), rfl, ⟨rfl, (Or.inl rfl)⟩, by rw [ht]; exact hP, va_K.moved hW.alike hK, hD⟩, hS.F ht⟩) hS.2.2 dX8_isRing_17
  · have hF := it_t hF c_2
    refine lv_iconst (v := 1) hx hb dX8_isRing_12 (by decide) ?_
    refine lv_goto (tgt := 17) hx hb dX8_isRing_13 (by decide) ?_
    obtain rfl := Option.some.inj hF
    exact W.zret (v := 1) (ty := .boolean) hx hb hr (z_nar (Or.inr rfl)) (fun t ht hW => ⟨⟨1, (), rfl, ⟨rfl, (Or.inr rfl)⟩, by rw [ht]; exact hP, va_K.moved hW.alike hK, hD⟩, hS.F ht⟩) hS.2.2 dX8_isRing_17
