-- StrokeOutliner$Drawing.cell(I)I
def F_X1_cell_j22  : Option (Int32) :=
  some 0
def F_X1_cell (v0_0 : Nat → Int32) (p1 : Int32) : Option (Int32) :=
  if p1 < 0 then F_X1_cell_j22 else if 86 ≤ p1 then F_X1_cell_j22 else gd (decide (vpi p1 86)) (some (v0_0 p1.toNatClampNeg))
abbrev wd_X1_cell (cI : ClassId) (a0 : Nat → Nat) (v0_0 : Nat → Int32) : va_W := [(a0 0, .inr (1, [.ref (a0 1)])), (a0 1, .inl (cI, 86, .inl v0_0))]
abbrev wz_X1_cell : List Cond := .code yX1_cell cX1_cell 2 (some .int) :: wALL
abbrev rm_X1_cell : Room := { frames := 0, cells := 0, slots := 0, locals := 0 }
abbrev Q_X1_cell (dC : Nat → ClassId) (dI : Nat → Nat → Nat) (cI : ClassId) (a0 : Nat → Nat) (v0_0 : Nat → Int32) (u : (Int32)) (A : Nat → Prop) : Array Value → State → Outcome → State → Prop := va_Qi (fun (r : Int32) (_ : Unit) => r = u) (fun _ => q_at dC dI cI A (wd_X1_cell cI a0 v0_0)) A
set_option maxHeartbeats 4000000 in
set_option maxRecDepth 100000 in
theorem c_X1_cell (l : Launch) (dC : Nat → ClassId) (dI : Nat → Nat → Nat) (cI : ClassId) (sz : Nat) (a0 : Nat → Nat) (v0_0 : Nat → Int32) (p1 : Int32) (u : (Int32)) (hF : F_X1_cell v0_0 p1 = some u) : Met l yX1_cell wz_X1_cell rm_X1_cell (va_Pc [.ref (a0 0), .int p1] (q_pre dC dI cI (wd_X1_cell cI a0 v0_0) sz)) (Q_X1_cell dC dI cI a0 v0_0 u (va_A (wd_X1_cell cI a0 v0_0) sz)) 0 0 (va_A (wd_X1_cell cI a0 v0_0) sz) := by
  refine Met.ofW (cc := cX1_cell) (maxL := 2) (ret := (some .int)) (by decide) rfl ?_
  intro p e s m args below meth c s₁ B hml hv
  obtain ⟨rfl, hsz, hP, hK, hD0⟩ := hv
  have hx := B.exec
  have hb := B.bytes
  have hr := B.returns
  have hts := atoms_spec (ws := wz_X1_cell) B.pre
  have hta := wz_tl hts
  have hown : s.vm.findClass RX1 = some m.cls := findClass_of_methodNamed B.named
  have hlocks := B.notSynchronized
  subst hsz
  have hD := hD0.self (sz := s.heap.size)
  generalize hAe : va_A (wd_X1_cell cI a0 v0_0) s.heap.size = A at hD ⊢
  have hA : ∀ q : Nat, s.heap.size ≤ q → A q := fun q h => by rw [← hAe]; exact Or.inr h
  have hS : va_S A s.heap s.heap [] := va_S.rf
  have hP : va_P (dC, dI) vwCl (wd_X1_cell cI a0 v0_0) s.heap := hP
  have hl := lv_entry ([.ref (a0 0), .int p1]) (n := 2) (Nat.le_of_ble_eq_true rfl)
  rw [lg_entry_eq]
  generalize (lg_sl ([.ref (a0 0), .int p1]) ++ List.replicate (2 - (lg_sl ([.ref (a0 0), .int p1])).length) Slot.unset).toArray = ls at hl ⊢
  have hl : lv_has ls 2 [(0, .ref (a0 0)), (1, .int p1)] := hl
  obtain ⟨H, hHe⟩ : ∃ H, H = s.heap := ⟨_, rfl⟩
  have hS : va_S A s.heap H [] := by rw [hHe]; exact hS
  have hP : va_P (dC, dI) vwCl (wd_X1_cell cI a0 v0_0) H := by rw [hHe]; exact hP
  rw [← hHe]
  unfold F_X1_cell at hF
  have j22 : ∀ (_ : Unit), F_X1_cell_j22 = some u → ∀ (H : Heap) (locs : List Loc) (ls : Array Slot), va_P (dC, dI) vwCl (wd_X1_cell cI a0 v0_0) H → va_D A (wd_X1_cell cI a0 v0_0) → va_S A s.heap H locs → lv_has ls 2 [] → W p l e (headSpec wz_X1_cell rm_X1_cell).room s m [.ref (a0 0), .int p1].toArray below meth c H locs 0 0 (MQ below (Q_X1_cell dC dI cI a0 v0_0 u A) [.ref (a0 0), .int p1].toArray s 0 0 A) (F0 m 22 ls []) := by
    intro _ hF H locs ls hP hD hS hl
    unfold F_X1_cell_j22 at hF
    refine lv_iconst (v := 0) hx hb dX1_cell_22 (by decide) ?_
    obtain rfl := Option.some.inj hF
    exact W.iret (v := 0) hx hb hr (fun t ht hW => ⟨⟨0, (), rfl, rfl, by rw [ht]; exact hP, va_K.moved hW.alike hK, hD⟩, hS.F ht⟩) hS.2.2 dX1_cell_23
  refine lv_iload_n hx hb dX1_cell_0 rfl (lv_at hl 1 rfl) ?_
  refine lv_if_lt (tgt := 22) hx hb dX1_cell_1 (by decide) (fun c_1 => ?_) (fun c_1 => ?_)
  · have hF := it_t hF c_1
    exact j22 () hF _ _ _ hP hD hS (lv_sub hl [] rfl)
  · have hF := it_f hF c_1
    refine lv_iload_n hx hb dX1_cell_4 rfl (lv_at hl 1 rfl) ?_
    refine lv_aload_n hx hb dX1_cell_5 rfl (lv_at hl 0 rfl) ?_
    refine va_get (D := (dC, dI)) (ci := 1) (v := .ref (a0 1)) (C := RX1) (T := TX1) (N := 1) hx hb hta uw_X1 hown hK hP 0 rfl rfl 0 (by decide) (hta _ mA34) (fun _ h9 => h9) rfl dX1_cell_6 ?_
    refine va_alen (v := 86) hx hb hK hP 1 0 rfl rfl rfl dX1_cell_9 ?_
    refine lv_icmp_ge (tgt := 22) hx hb dX1_cell_10 (by decide) (fun c_2 => ?_) (fun c_2 => ?_)
    · have hF := it_t hF c_2
      exact j22 () hF _ _ _ hP hD hS (lv_sub hl [] rfl)
    · have hF := it_f hF c_2
      refine lv_aload_n hx hb dX1_cell_13 rfl (lv_at hl 0 rfl) ?_
      refine va_get (D := (dC, dI)) (ci := 1) (v := .ref (a0 1)) (C := RX1) (T := TX1) (N := 1) hx hb hta uw_X1 hown hK hP 0 rfl rfl 0 (by decide) (hta _ mA34) (fun _ h9 => h9) rfl dX1_cell_14 ?_
      refine lv_iload_n hx hb dX1_cell_17 rfl (lv_at hl 1 rfl) ?_
      obtain ⟨g_3, hF⟩ := gd_some hF
      refine va_iald hx hb hK hP 1 0 rfl rfl (vpi_in g_3) dX1_cell_18 ?_
      refine lv_goto (tgt := 23) hx hb dX1_cell_19 (by decide) ?_
      obtain rfl := Option.some.inj hF
      exact W.iret (v := (v0_0 p1.toNatClampNeg)) hx hb hr (fun t ht hW => ⟨⟨(v0_0 p1.toNatClampNeg), (), rfl, rfl, by rw [ht]; exact hP, va_K.moved hW.alike hK, hD⟩, hS.F ht⟩) hS.2.2 dX1_cell_23

-- StrokeOutliner$Drawing.subpathCount()I
def F_X1_subpathCount (v0_0 : Nat → Int32) : Option (Int32) :=
  obd (F_X1_cell v0_0 13) (fun u_1 => some u_1)
abbrev wd_X1_subpathCount (cI : ClassId) (a0 : Nat → Nat) (v0_0 : Nat → Int32) : va_W := [(a0 0, .inr (1, [.ref (a0 1)])), (a0 1, .inl (cI, 86, .inl v0_0))]
abbrev wz_X1_subpathCount : List Cond := .code yX1_subpathCount cX1_subpathCount 1 (some .int) :: wALL
abbrev rm_X1_subpathCount : Room := { frames := 1, cells := 0, slots := 0, locals := 21 }
abbrev Q_X1_subpathCount (dC : Nat → ClassId) (dI : Nat → Nat → Nat) (cI : ClassId) (a0 : Nat → Nat) (v0_0 : Nat → Int32) (u : (Int32)) (A : Nat → Prop) : Array Value → State → Outcome → State → Prop := va_Qi (fun (r : Int32) (_ : Unit) => r = u) (fun _ => q_at dC dI cI A (wd_X1_subpathCount cI a0 v0_0)) A
set_option maxHeartbeats 4000000 in
set_option maxRecDepth 100000 in
theorem c_X1_subpathCount (l : Launch) (dC : Nat → ClassId) (dI : Nat → Nat → Nat) (cI : ClassId) (sz : Nat) (a0 : Nat → Nat) (v0_0 : Nat → Int32) (u : (Int32)) (hF : F_X1_subpathCount v0_0 = some u) : Met l yX1_subpathCount wz_X1_subpathCount rm_X1_subpathCount (va_Pc [.ref (a0 0)] (q_pre dC dI cI (wd_X1_subpathCount cI a0 v0_0) sz)) (Q_X1_subpathCount dC dI cI a0 v0_0 u (va_A (wd_X1_subpathCount cI a0 v0_0) sz)) 0 0 (va_A (wd_X1_subpathCount cI a0 v0_0) sz) := by
  refine Met.ofW (cc := cX1_subpathCount) (maxL := 1) (ret := (some .int)) (by decide) rfl ?_
  intro p e s m args below meth c s₁ B hml hv
  obtain ⟨rfl, hsz, hP, hK, hD0⟩ := hv
  have hx := B.exec
  have hb := B.bytes
  have hr := B.returns
  have hts := atoms_spec (ws := wz_X1_subpathCount) B.pre
  have hta := wz_tl hts
  have hown : s.vm.findClass RX1 = some m.cls := findClass_of_methodNamed B.named
  have hlocks := B.notSynchronized
  subst hsz
  have hD := hD0.self (sz := s.heap.size)
  generalize hAe : va_A (wd_X1_subpathCount cI a0 v0_0) s.heap.size = A at hD ⊢
  have hA : ∀ q : Nat, s.heap.size ≤ q → A q := fun q h => by rw [← hAe]; exact Or.inr h
  have hS : va_S A s.heap s.heap [] := va_S.rf
  have hP : va_P (dC, dI) vwCl (wd_X1_subpathCount cI a0 v0_0) s.heap := hP
  have hl := lv_entry ([.ref (a0 0)]) (n := 1) (Nat.le_of_ble_eq_true rfl)
  rw [lg_entry_eq]
  generalize (lg_sl ([.ref (a0 0)]) ++ List.replicate (1 - (lg_sl ([.ref (a0 0)])).length) Slot.unset).toArray = ls at hl ⊢
  have hl : lv_has ls 1 [(0, .ref (a0 0))] := hl
  obtain ⟨H, hHe⟩ : ∃ H, H = s.heap := ⟨_, rfl⟩
  have hS : va_S A s.heap H [] := by rw [hHe]; exact hS
  have hP : va_P (dC, dI) vwCl (wd_X1_subpathCount cI a0 v0_0) H := by rw [hHe]; exact hP
  rw [← hHe]
  unfold F_X1_subpathCount at hF
  refine lv_aload_n hx hb dX1_subpathCount_0 rfl (lv_at hl 0 rfl) ?_
  refine lv_bipush (v := 13) hx hb dX1_subpathCount_1 (by decide) ?_
  obtain ⟨u_1, hu_1, hF⟩ := obd_some hF
  have hPc := hP.sub (ws' := (wd_X1_cell cI a0 v0_0)) [0, 1] rfl
  have hDc := hD.sub (ws' := (wd_X1_cell cI a0 v0_0)) [0, 1] rfl rfl
  refine q_calli (wc := (wd_X1_cell cI a0 v0_0)) (w1 := (wd_X1_cell cI a0 v0_0)) (ws' := (wd_X1_subpathCount cI a0 v0_0)) hP hD hS hA [0, 1] [] [0, 1] rfl rfl rfl (by decide) rfl rfl (va_runV (As := [.int 13]) (rest := []) ⟨hx, hb, hml, hown, hta⟩ (c_X1_cell l dC dI cI H.size a0 v0_0 13 u_1 hu_1) (cwV 1 hta (ga_V mA116 mA117 mA118 mA6 mA119) rfl rfl rfl (by decide +kernel) ⟨Nat.le_of_ble_eq_true rfl, Nat.le_of_ble_eq_true rfl⟩) ⟨q_fb, va_recv hK hP (ci := 1) (q0 := 0) rfl rfl, q_ps hPc hK hDc⟩ rfl rfl hl.1 rfl (lv_room (Nat.le_of_ble_eq_true rfl)) dX1_subpathCount_3 ⟨Nat.zero_le _, Nat.zero_le _⟩) (fun H locs hP hD hS => ?_)
  obtain rfl := Option.some.inj hF
  exact W.iret (v := u_1) hx hb hr (fun t ht hW => ⟨⟨u_1, (), rfl, rfl, by rw [ht]; exact hP, va_K.moved hW.alike hK, hD⟩, hS.F ht⟩) hS.2.2 dX1_subpathCount_6

-- StrokeOutliner$Drawing.copyTo([II)V
def F_X1_copyTo (n1 : Nat) (v0_0 : Nat → Int32) (w1 : Nat → Int32) (p2 : Int32) : Option ((Nat → Int32)) :=
  if p2 < 0 then some w1 else if ((Int32.ofNat n1) - 86) < p2 then some w1 else gd (decide (cpk 0 p2 86 86 n1)) (lt (va_cpy v0_0 w1 (0 : Int32).toNatClampNeg p2.toNatClampNeg (86 : Int32).toNatClampNeg) (fun y_4 => some y_4))
abbrev wd_X1_copyTo (cI : ClassId) (a0 : Nat → Nat) (b1 n1 : Nat) (v0_0 : Nat → Int32) (w1 : Nat → Int32) : va_W := [(a0 0, .inr (1, [.ref (a0 1)])), (a0 1, .inl (cI, 86, .inl v0_0)), (b1, .inl (cI, n1, .inl w1))]
abbrev wz_X1_copyTo : List Cond := .code yX1_copyTo cX1_copyTo 3 none :: wALL
abbrev rm_X1_copyTo : Room := { frames := 1, cells := 0, slots := 0, locals := 26 }
abbrev Q_X1_copyTo (dC : Nat → ClassId) (dI : Nat → Nat → Nat) (cI : ClassId) (a0 : Nat → Nat) (b1 n1 : Nat) (v0_0 : Nat → Int32) (u : ((Nat → Int32))) (A : Nat → Prop) : Array Value → State → Outcome → State → Prop := va_Qv (fun (_ : Unit) => True) (fun _ => q_at dC dI cI A (wd_X1_copyTo cI a0 b1 n1 v0_0 u)) A
set_option maxHeartbeats 4000000 in
set_option maxRecDepth 100000 in
theorem c_X1_copyTo (l : Launch) (dC : Nat → ClassId) (dI : Nat → Nat → Nat) (cI : ClassId) (sz : Nat) (a0 : Nat → Nat) (b1 n1 : Nat) (v0_0 : Nat → Int32) (w1 : Nat → Int32) (p2 : Int32) (u : ((Nat → Int32))) (hF : F_X1_copyTo n1 v0_0 w1 p2 = some u) : Met l yX1_copyTo wz_X1_copyTo rm_X1_copyTo (va_Pc [.ref (a0 0), .ref b1, .int p2] (q_pre dC dI cI (wd_X1_copyTo cI a0 b1 n1 v0_0 w1) sz)) (Q_X1_copyTo dC dI cI a0 b1 n1 v0_0 u (va_A (wd_X1_copyTo cI a0 b1 n1 v0_0 w1) sz)) 0 0 (va_A (wd_X1_copyTo cI a0 b1 n1 v0_0 w1) sz) := by
  refine Met.ofW (cc := cX1_copyTo) (maxL := 3) (ret := none) (by decide) rfl ?_
  intro p e s m args below meth c s₁ B hml hv
  obtain ⟨rfl, hsz, hP, hK, hD0⟩ := hv
  have hx := B.exec
  have hb := B.bytes
  have hr := B.returns
  have hts := atoms_spec (ws := wz_X1_copyTo) B.pre
  have hta := wz_tl hts
  have hown : s.vm.findClass RX1 = some m.cls := findClass_of_methodNamed B.named
  have hlocks := B.notSynchronized
  subst hsz
  have hD := hD0.self (sz := s.heap.size)
  generalize hAe : va_A (wd_X1_copyTo cI a0 b1 n1 v0_0 w1) s.heap.size = A at hD ⊢
  have hA : ∀ q : Nat, s.heap.size ≤ q → A q := fun q h => by rw [← hAe]; exact Or.inr h
  have hS : va_S A s.heap s.heap [] := va_S.rf
  have hP : va_P (dC, dI) vwCl (wd_X1_copyTo cI a0 b1 n1 v0_0 w1) s.heap := hP
  have hl := lv_entry ([.ref (a0 0), .ref b1, .int p2]) (n := 3) (Nat.le_of_ble_eq_true rfl)
  rw [lg_entry_eq]
  generalize (lg_sl ([.ref (a0 0), .ref b1, .int p2]) ++ List.replicate (3 - (lg_sl ([.ref (a0 0), .ref b1, .int p2])).length) Slot.unset).toArray = ls at hl ⊢
  have hl : lv_has ls 3 [(0, .ref (a0 0)), (1, .ref b1), (2, .int p2)] := hl
  obtain ⟨H, hHe⟩ : ∃ H, H = s.heap := ⟨_, rfl⟩
  have hS : va_S A s.heap H [] := by rw [hHe]; exact hS
  have hP : va_P (dC, dI) vwCl (wd_X1_copyTo cI a0 b1 n1 v0_0 w1) H := by rw [hHe]; exact hP
  rw [← hHe]
  unfold F_X1_copyTo at hF
  refine lv_iload_n hx hb dX1_copyTo_0 rfl (lv_at hl 2 rfl) ?_
  refine lv_if_lt (tgt := 25) hx hb dX1_copyTo_1 (by decide) (fun c_1 => ?_) (fun c_1 => ?_)
  · have hF := it_t hF c_1
    obtain rfl := Option.some.inj hF
    exact W.vret hx hb hr (fun t ht hW => ⟨⟨(), rfl, trivial, by rw [ht]; exact hP, va_K.moved hW.alike hK, hD⟩, hS.F ht⟩) hS.2.2 dX1_copyTo_25
  · have hF := it_f hF c_1
    refine lv_iload_n hx hb dX1_copyTo_4 rfl (lv_at hl 2 rfl) ?_
    refine lv_aload_n hx hb dX1_copyTo_5 rfl (lv_at hl 1 rfl) ?_
    refine va_alen (v := (Int32.ofNat n1)) hx hb hK hP 2 0 rfl rfl rfl dX1_copyTo_6 ?_
    refine lv_bipush (v := 86) hx hb dX1_copyTo_7 (by decide) ?_
    refine lv_isub hx hb dX1_copyTo_9 ?_
    refine lv_icmp_gt (tgt := 25) hx hb dX1_copyTo_10 (by decide) (fun c_2 => ?_) (fun c_2 => ?_)
    · have hF := it_t hF c_2
      obtain rfl := Option.some.inj hF
      exact W.vret hx hb hr (fun t ht hW => ⟨⟨(), rfl, trivial, by rw [ht]; exact hP, va_K.moved hW.alike hK, hD⟩, hS.F ht⟩) hS.2.2 dX1_copyTo_25
    · have hF := it_f hF c_2
      refine lv_aload_n hx hb dX1_copyTo_13 rfl (lv_at hl 0 rfl) ?_
      refine va_get (D := (dC, dI)) (ci := 1) (v := .ref (a0 1)) (C := RX1) (T := TX1) (N := 1) hx hb hta uw_X1 hown hK hP 0 rfl rfl 0 (by decide) (hta _ mA34) (fun _ h9 => h9) rfl dX1_copyTo_14 ?_
      refine lv_iconst (v := 0) hx hb dX1_copyTo_17 (by decide) ?_
      refine lv_aload_n hx hb dX1_copyTo_18 rfl (lv_at hl 1 rfl) ?_
      refine lv_iload_n hx hb dX1_copyTo_19 rfl (lv_at hl 2 rfl) ?_
      refine lv_bipush (v := 86) hx hb dX1_copyTo_20 (by decide) ?_
      obtain ⟨g_3, hF⟩ := gd_some hF
      refine va_copyi hx hb (hml.trans hl.1.symm) hown (hta _ mA142) (hta _ mA135) (hta _ mA136) (hta _ mA137) hK hP hD hS 1 2 0 0 rfl rfl rfl rfl rfl (cpk_1 g_3) (cpk_2 g_3) (cpk_3 g_3) (cpk_4 g_3) (cpk_5 g_3) (fun _ _ => rfl) (Nat.le_of_ble_eq_true rfl) (Nat.le_of_ble_eq_true rfl) dX1_copyTo_22 (fun H locs hP hD hS => ?_)
      obtain ⟨y_4, ey_4, hF⟩ := lt_some hF
      have hP : va_P (dC, dI) vwCl (wd_X1_copyTo cI a0 b1 n1 v0_0 y_4) H := by rw [ey_4]; exact hP
      have hD : va_D A (wd_X1_copyTo cI a0 b1 n1 v0_0 y_4) := by rw [ey_4]; exact hD
      obtain rfl := Option.some.inj hF
      exact W.vret hx hb hr (fun t ht hW => ⟨⟨(), rfl, trivial, by rw [ht]; exact hP, va_K.moved hW.alike hK, hD⟩, hS.F ht⟩) hS.2.2 dX1_copyTo_25

-- StrokeOutliner$History.keep(LStrokeOutliner$Drawing;)V
def F_X3_keep_j35 (v0_1 : Int32) (v0_0 : Nat → Int32) (v1_0 : Nat → Int32) : Option (Int32 × (Nat → Int32)) :=
  obd (F_X1_copyTo 344 v1_0 v0_0 (v0_1 * 86)) (fun u_1 => lt (v0_1 + 1) (fun y_2 => some (y_2, u_1)))
def F_X3_keep (v0_1 : Int32) (v0_0 : Nat → Int32) (v1_0 : Nat → Int32) : Option (Int32 × (Nat → Int32)) :=
  if v0_1 = 4 then gd (decide (cpk 86 0 258 344 344)) (lt (va_cpy v0_0 v0_0 (86 : Int32).toNatClampNeg (0 : Int32).toNatClampNeg (258 : Int32).toNatClampNeg) (fun y_5 => lt (v0_1 - 1) (fun y_6 => F_X3_keep_j35 y_6 y_5 v1_0))) else F_X3_keep_j35 v0_1 v0_0 v1_0
abbrev wd_X3_keep (cI : ClassId) (a0 : Nat → Nat) (a1 : Nat → Nat) (v0_1 : Int32) (v0_0 : Nat → Int32) (v1_0 : Nat → Int32) : va_W := [(a0 0, .inr (3, [.ref (a0 1), .int v0_1])), (a0 1, .inl (cI, 344, .inl v0_0)), (a1 0, .inr (1, [.ref (a1 1)])), (a1 1, .inl (cI, 86, .inl v1_0))]
abbrev wz_X3_keep : List Cond := .code yX3_keep cX3_keep 2 none :: wALL
abbrev rm_X3_keep : Room := { frames := 2, cells := 0, slots := 0, locals := 48 }
abbrev Q_X3_keep (dC : Nat → ClassId) (dI : Nat → Nat → Nat) (cI : ClassId) (a0 : Nat → Nat) (a1 : Nat → Nat) (v1_0 : Nat → Int32) (u : (Int32 × (Nat → Int32))) (A : Nat → Prop) : Array Value → State → Outcome → State → Prop := va_Qv (fun (_ : Unit) => True) (fun _ => q_at dC dI cI A (wd_X3_keep cI a0 a1 u.1 u.2 v1_0)) A
set_option maxHeartbeats 4000000 in
set_option maxRecDepth 100000 in
theorem c_X3_keep (l : Launch) (dC : Nat → ClassId) (dI : Nat → Nat → Nat) (cI : ClassId) (sz : Nat) (a0 : Nat → Nat) (a1 : Nat → Nat) (v0_1 : Int32) (v0_0 : Nat → Int32) (v1_0 : Nat → Int32) (u : (Int32 × (Nat → Int32))) (hF : F_X3_keep v0_1 v0_0 v1_0 = some u) : Met l yX3_keep wz_X3_keep rm_X3_keep (va_Pc [.ref (a0 0), .ref (a1 0)] (q_pre dC dI cI (wd_X3_keep cI a0 a1 v0_1 v0_0 v1_0) sz)) (Q_X3_keep dC dI cI a0 a1 v1_0 u (va_A (wd_X3_keep cI a0 a1 v0_1 v0_0 v1_0) sz)) 0 0 (va_A (wd_X3_keep cI a0 a1 v0_1 v0_0 v1_0) sz) := by
  refine Met.ofW (cc := cX3_keep) (maxL := 2) (ret := none) (by decide) rfl ?_
  intro p e s m args below meth c s₁ B hml hv
  obtain ⟨rfl, hsz, hP, hK, hD0⟩ := hv
  have hx := B.exec
  have hb := B.bytes
  have hr := B.returns
  have hts := atoms_spec (ws := wz_X3_keep) B.pre
  have hta := wz_tl hts
  have hown : s.vm.findClass RX3 = some m.cls := findClass_of_methodNamed B.named
  have hlocks := B.notSynchronized
  subst hsz
  have hD := hD0.self (sz := s.heap.size)
  generalize hAe : va_A (wd_X3_keep cI a0 a1 v0_1 v0_0 v1_0) s.heap.size = A at hD ⊢
  have hA : ∀ q : Nat, s.heap.size ≤ q → A q := fun q h => by rw [← hAe]; exact Or.inr h
  have hS : va_S A s.heap s.heap [] := va_S.rf
  have hP : va_P (dC, dI) vwCl (wd_X3_keep cI a0 a1 v0_1 v0_0 v1_0) s.heap := hP
  have hl := lv_entry ([.ref (a0 0), .ref (a1 0)]) (n := 2) (Nat.le_of_ble_eq_true rfl)
  rw [lg_entry_eq]
  generalize (lg_sl ([.ref (a0 0), .ref (a1 0)]) ++ List.replicate (2 - (lg_sl ([.ref (a0 0), .ref (a1 0)])).length) Slot.unset).toArray = ls at hl ⊢
  have hl : lv_has ls 2 [(0, .ref (a0 0)), (1, .ref (a1 0))] := hl
  obtain ⟨H, hHe⟩ : ∃ H, H = s.heap := ⟨_, rfl⟩
  have hS : va_S A s.heap H [] := by rw [hHe]; exact hS
  have hP : va_P (dC, dI) vwCl (wd_X3_keep cI a0 a1 v0_1 v0_0 v1_0) H := by rw [hHe]; exact hP
  rw [← hHe]
  unfold F_X3_keep at hF
  have j35 : ∀ (v0_1 : Int32) (v0_0 : Nat → Int32), F_X3_keep_j35 v0_1 v0_0 v1_0 = some u → ∀ (H : Heap) (locs : List Loc) (ls : Array Slot), va_P (dC, dI) vwCl (wd_X3_keep cI a0 a1 v0_1 v0_0 v1_0) H → va_D A (wd_X3_keep cI a0 a1 v0_1 v0_0 v1_0) → va_S A s.heap H locs → lv_has ls 2 [(0, .ref (a0 0)), (1, .ref (a1 0))] → W p l e (headSpec wz_X3_keep rm_X3_keep).room s m [.ref (a0 0), .ref (a1 0)].toArray below meth c H locs 0 0 (MQ below (Q_X3_keep dC dI cI a0 a1 v1_0 u A) [.ref (a0 0), .ref (a1 0)].toArray s 0 0 A) (F0 m 35 ls []) := by
    intro v0_1 v0_0 hF H locs ls hP hD hS hl
    unfold F_X3_keep_j35 at hF
    refine lv_aload_n hx hb dX3_keep_35 rfl (lv_at hl 1 rfl) ?_
    refine lv_aload_n hx hb dX3_keep_36 rfl (lv_at hl 0 rfl) ?_
    refine va_get (D := (dC, dI)) (ci := 3) (v := .ref (a0 1)) (C := RX3) (T := TX3) (N := 2) hx hb hta uw_X3 hown hK hP 0 rfl rfl 0 (by decide) (hta _ mA38) (fun _ h9 => h9) rfl dX3_keep_37 ?_
    refine lv_aload_n hx hb dX3_keep_40 rfl (lv_at hl 0 rfl) ?_
    refine va_get (D := (dC, dI)) (ci := 3) (v := .int v0_1) (C := RX3) (T := TX3) (N := 2) hx hb hta uw_X3 hown hK hP 0 rfl rfl 1 (by decide) (hta _ mA133) (fun _ h9 => h9) rfl dX3_keep_41 ?_
    refine lv_bipush (v := 86) hx hb dX3_keep_44 (by decide) ?_
    refine lv_imul hx hb dX3_keep_46 ?_
    obtain ⟨u_1, hu_1, hF⟩ := obd_some hF
    have hPc := hP.sub (ws' := (wd_X1_copyTo cI a1 (a0 1) 344 v1_0 v0_0)) [2, 3, 1] rfl
    have hDc := hD.sub (ws' := (wd_X1_copyTo cI a1 (a0 1) 344 v1_0 v0_0)) [2, 3, 1] rfl rfl
    refine q_callv (wc := (wd_X1_copyTo cI a1 (a0 1) 344 v1_0 v0_0)) (w1 := (wd_X1_copyTo cI a1 (a0 1) 344 v1_0 u_1)) (ws' := (wd_X3_keep cI a0 a1 v0_1 u_1 v1_0)) hP hD hS hA [2, 3, 1] [0] [0, 3, 1, 2] rfl rfl rfl (by decide) rfl rfl (va_runV (As := [.ref (a0 1), .int (v0_1 * 86)]) (rest := []) ⟨hx, hb, hml, hown, hta⟩ (c_X1_copyTo l dC dI cI H.size a1 (a0 1) 344 v1_0 v0_0 (v0_1 * 86) u_1 hu_1) (cwV 2 hta (ga_V mA138 mA139 mA140 mA6 mA141) rfl rfl rfl (by decide +kernel) ⟨Nat.le_of_ble_eq_true rfl, Nat.le_of_ble_eq_true rfl⟩) ⟨q_fb, va_recv hK hP (ci := 1) (q0 := 2) rfl rfl, q_ps hPc hK hDc⟩ rfl rfl hl.1 rfl (lv_room (Nat.le_of_ble_eq_true rfl)) dX3_keep_47 ⟨Nat.zero_le _, Nat.zero_le _⟩) (fun H locs hP hD hS => ?_)
    refine lv_aload_n hx hb dX3_keep_50 rfl (lv_at hl 0 rfl) ?_
    refine lv_dup hx hb dX3_keep_51 rfl ?_
    refine va_get (D := (dC, dI)) (ci := 3) (v := .int v0_1) (C := RX3) (T := TX3) (N := 2) hx hb hta uw_X3 hown hK hP 0 rfl rfl 1 (by decide) (hta _ mA133) (fun _ h9 => h9) rfl dX3_keep_52 ?_
    refine lv_iconst (v := 1) hx hb dX3_keep_55 (by decide) ?_
    refine lv_iadd hx hb dX3_keep_56 ?_
    obtain ⟨y_2, ey_2, hF⟩ := lt_some hF
    refine lv_eqi ey_2 ?_
    refine va_put (D := (dC, dI)) (ci := 3) (v := .int y_2) (ty := .int) (C := RX3) (T := TX3) (N := 2) hx hb hta uw_X3 tyX3 tyX3_ok nmX3 hown hK hP hD hS 0 rfl rfl 1 (by decide) (hta _ mA133) (fun _ h9 => h9) rfl (by decide +kernel) rfl rfl (Nat.le_of_ble_eq_true rfl) dX3_keep_57 (fun H locs hP hD hS => ?_)
    have hP : va_P (dC, dI) vwCl (wd_X3_keep cI a0 a1 y_2 u_1 v1_0) H := hP
    have hD : va_D A (wd_X3_keep cI a0 a1 y_2 u_1 v1_0) := hD
    obtain rfl := Option.some.inj hF
    exact W.vret hx hb hr (fun t ht hW => ⟨⟨(), rfl, trivial, by rw [ht]; exact hP, va_K.moved hW.alike hK, hD⟩, hS.F ht⟩) hS.2.2 dX3_keep_60
  refine lv_aload_n hx hb dX3_keep_0 rfl (lv_at hl 0 rfl) ?_
  refine va_get (D := (dC, dI)) (ci := 3) (v := .int v0_1) (C := RX3) (T := TX3) (N := 2) hx hb hta uw_X3 hown hK hP 0 rfl rfl 1 (by decide) (hta _ mA133) (fun _ h9 => h9) rfl dX3_keep_1 ?_
  refine lv_iconst (v := 4) hx hb dX3_keep_4 (by decide) ?_
  refine lv_icmp_ne (tgt := 35) hx hb dX3_keep_5 (by decide) (fun c_3 => ?_) (fun c_3 => ?_)
  · have hF := it_f hF c_3
    exact j35 v0_1 v0_0 hF _ _ _ hP hD hS (lv_sub hl [0, 1] rfl)
  · have hF := it_t hF c_3
    refine lv_aload_n hx hb dX3_keep_8 rfl (lv_at hl 0 rfl) ?_
    refine va_get (D := (dC, dI)) (ci := 3) (v := .ref (a0 1)) (C := RX3) (T := TX3) (N := 2) hx hb hta uw_X3 hown hK hP 0 rfl rfl 0 (by decide) (hta _ mA38) (fun _ h9 => h9) rfl dX3_keep_9 ?_
    refine lv_bipush (v := 86) hx hb dX3_keep_12 (by decide) ?_
    refine lv_aload_n hx hb dX3_keep_14 rfl (lv_at hl 0 rfl) ?_
    refine va_get (D := (dC, dI)) (ci := 3) (v := .ref (a0 1)) (C := RX3) (T := TX3) (N := 2) hx hb hta uw_X3 hown hK hP 0 rfl rfl 0 (by decide) (hta _ mA38) (fun _ h9 => h9) rfl dX3_keep_15 ?_
    refine lv_iconst (v := 0) hx hb dX3_keep_18 (by decide) ?_
    refine lv_sipush (v := 258) hx hb dX3_keep_19 (by decide) ?_
    obtain ⟨g_4, hF⟩ := gd_some hF
    refine va_copyi hx hb (hml.trans hl.1.symm) hown (hta _ mA134) (hta _ mA135) (hta _ mA136) (hta _ mA137) hK hP hD hS 1 1 0 0 rfl rfl rfl rfl rfl (cpk_1 g_4) (cpk_2 g_4) (cpk_3 g_4) (cpk_4 g_4) (cpk_5 g_4) (fun _ _ => rfl) (Nat.le_of_ble_eq_true rfl) (Nat.le_of_ble_eq_true rfl) dX3_keep_22 (fun H locs hP hD hS => ?_)
    obtain ⟨y_5, ey_5, hF⟩ := lt_some hF
    have hP : va_P (dC, dI) vwCl (wd_X3_keep cI a0 a1 v0_1 y_5 v1_0) H := by rw [ey_5]; exact hP
    have hD : va_D A (wd_X3_keep cI a0 a1 v0_1 y_5 v1_0) := by rw [ey_5]; exact hD
    refine lv_aload_n hx hb dX3_keep_25 rfl (lv_at hl 0 rfl) ?_
    refine lv_dup hx hb dX3_keep_26 rfl ?_
    refine va_get (D := (dC, dI)) (ci := 3) (v := .int v0_1) (C := RX3) (T := TX3) (N := 2) hx hb hta uw_X3 hown hK hP 0 rfl rfl 1 (by decide) (hta _ mA133) (fun _ h9 => h9) rfl dX3_keep_27 ?_
    refine lv_iconst (v := 1) hx hb dX3_keep_30 (by decide) ?_
    refine lv_isub hx hb dX3_keep_31 ?_
    obtain ⟨y_6, ey_6, hF⟩ := lt_some hF
    refine lv_eqi ey_6 ?_
    refine va_put (D := (dC, dI)) (ci := 3) (v := .int y_6) (ty := .int) (C := RX3) (T := TX3) (N := 2) hx hb hta uw_X3 tyX3 tyX3_ok nmX3 hown hK hP hD hS 0 rfl rfl 1 (by decide) (hta _ mA133) (fun _ h9 => h9) rfl (by decide +kernel) rfl rfl (Nat.le_of_ble_eq_true rfl) dX3_keep_32 (fun H locs hP hD hS => ?_)
    have hP : va_P (dC, dI) vwCl (wd_X3_keep cI a0 a1 y_6 y_5 v1_0) H := hP
    have hD : va_D A (wd_X3_keep cI a0 a1 y_6 y_5 v1_0) := hD
    exact j35 y_6 y_5 hF _ _ _ hP hD hS (lv_sub hl [0, 1] rfl)

-- StrokeOutliner$Drawing.put(II)V
def F_X1_put (v0_0 : Nat → Int32) (p1 : Int32) (p2 : Int32) : Option ((Nat → Int32)) :=
  if p1 < 0 then some v0_0 else if 86 ≤ p1 then some v0_0 else gd (decide (vpi p1 86)) (lt (upd v0_0 p1.toNatClampNeg p2) (fun y_4 => some y_4))
abbrev wd_X1_put (cI : ClassId) (a0 : Nat → Nat) (v0_0 : Nat → Int32) : va_W := [(a0 0, .inr (1, [.ref (a0 1)])), (a0 1, .inl (cI, 86, .inl v0_0))]
abbrev wz_X1_put : List Cond := .code yX1_put cX1_put 3 none :: wALL
abbrev rm_X1_put : Room := { frames := 0, cells := 0, slots := 0, locals := 0 }
abbrev Q_X1_put (dC : Nat → ClassId) (dI : Nat → Nat → Nat) (cI : ClassId) (a0 : Nat → Nat) (u : ((Nat → Int32))) (A : Nat → Prop) : Array Value → State → Outcome → State → Prop := va_Qv (fun (_ : Unit) => True) (fun _ => q_at dC dI cI A (wd_X1_put cI a0 u)) A
set_option maxHeartbeats 4000000 in
set_option maxRecDepth 100000 in
theorem c_X1_put (l : Launch) (dC : Nat → ClassId) (dI : Nat → Nat → Nat) (cI : ClassId) (sz : Nat) (a0 : Nat → Nat) (v0_0 : Nat → Int32) (p1 : Int32) (p2 : Int32) (u : ((Nat → Int32))) (hF : F_X1_put v0_0 p1 p2 = some u) : Met l yX1_put wz_X1_put rm_X1_put (va_Pc [.ref (a0 0), .int p1, .int p2] (q_pre dC dI cI (wd_X1_put cI a0 v0_0) sz)) (Q_X1_put dC dI cI a0 u (va_A (wd_X1_put cI a0 v0_0) sz)) 0 0 (va_A (wd_X1_put cI a0 v0_0) sz) := by
  refine Met.ofW (cc := cX1_put) (maxL := 3) (ret := none) (by decide) rfl ?_
  intro p e s m args below meth c s₁ B hml hv
  obtain ⟨rfl, hsz, hP, hK, hD0⟩ := hv
  have hx := B.exec
  have hb := B.bytes
  have hr := B.returns
  have hts := atoms_spec (ws := wz_X1_put) B.pre
  have hta := wz_tl hts
  have hown : s.vm.findClass RX1 = some m.cls := findClass_of_methodNamed B.named
  have hlocks := B.notSynchronized
  subst hsz
  have hD := hD0.self (sz := s.heap.size)
  generalize hAe : va_A (wd_X1_put cI a0 v0_0) s.heap.size = A at hD ⊢
  have hA : ∀ q : Nat, s.heap.size ≤ q → A q := fun q h => by rw [← hAe]; exact Or.inr h
  have hS : va_S A s.heap s.heap [] := va_S.rf
  have hP : va_P (dC, dI) vwCl (wd_X1_put cI a0 v0_0) s.heap := hP
  have hl := lv_entry ([.ref (a0 0), .int p1, .int p2]) (n := 3) (Nat.le_of_ble_eq_true rfl)
  rw [lg_entry_eq]
  generalize (lg_sl ([.ref (a0 0), .int p1, .int p2]) ++ List.replicate (3 - (lg_sl ([.ref (a0 0), .int p1, .int p2])).length) Slot.unset).toArray = ls at hl ⊢
  have hl : lv_has ls 3 [(0, .ref (a0 0)), (1, .int p1), (2, .int p2)] := hl
  obtain ⟨H, hHe⟩ : ∃ H, H = s.heap := ⟨_, rfl⟩
  have hS : va_S A s.heap H [] := by rw [hHe]; exact hS
  have hP : va_P (dC, dI) vwCl (wd_X1_put cI a0 v0_0) H := by rw [hHe]; exact hP
  rw [← hHe]
  unfold F_X1_put at hF
  refine lv_iload_n hx hb dX1_put_0 rfl (lv_at hl 1 rfl) ?_
  refine lv_if_lt (tgt := 20) hx hb dX1_put_1 (by decide) (fun c_1 => ?_) (fun c_1 => ?_)
  · have hF := it_t hF c_1
    obtain rfl := Option.some.inj hF
    exact W.vret hx hb hr (fun t ht hW => ⟨⟨(), rfl, trivial, by rw [ht]; exact hP, va_K.moved hW.alike hK, hD⟩, hS.F ht⟩) hS.2.2 dX1_put_20
  · have hF := it_f hF c_1
    refine lv_iload_n hx hb dX1_put_4 rfl (lv_at hl 1 rfl) ?_
    refine lv_aload_n hx hb dX1_put_5 rfl (lv_at hl 0 rfl) ?_
    refine va_get (D := (dC, dI)) (ci := 1) (v := .ref (a0 1)) (C := RX1) (T := TX1) (N := 1) hx hb hta uw_X1 hown hK hP 0 rfl rfl 0 (by decide) (hta _ mA34) (fun _ h9 => h9) rfl dX1_put_6 ?_
    refine va_alen (v := 86) hx hb hK hP 1 0 rfl rfl rfl dX1_put_9 ?_
    refine lv_icmp_ge (tgt := 20) hx hb dX1_put_10 (by decide) (fun c_2 => ?_) (fun c_2 => ?_)
    · have hF := it_t hF c_2
      obtain rfl := Option.some.inj hF
      exact W.vret hx hb hr (fun t ht hW => ⟨⟨(), rfl, trivial, by rw [ht]; exact hP, va_K.moved hW.alike hK, hD⟩, hS.F ht⟩) hS.2.2 dX1_put_20
    · have hF := it_f hF c_2
      refine lv_aload_n hx hb dX1_put_13 rfl (lv_at hl 0 rfl) ?_
      refine va_get (D := (dC, dI)) (ci := 1) (v := .ref (a0 1)) (C := RX1) (T := TX1) (N := 1) hx hb hta uw_X1 hown hK hP 0 rfl rfl 0 (by decide) (hta _ mA34) (fun _ h9 => h9) rfl dX1_put_14 ?_
      refine lv_iload_n hx hb dX1_put_17 rfl (lv_at hl 1 rfl) ?_
      refine lv_iload_n hx hb dX1_put_18 rfl (lv_at hl 2 rfl) ?_
      obtain ⟨g_3, hF⟩ := gd_some hF
      refine va_iast hx hb hK hP hD hS 1 0 rfl rfl (vpi_in g_3) dX1_put_19 (fun H locs hP hD hS => ?_)
      obtain ⟨y_4, ey_4, hF⟩ := lt_some hF
      have hP : va_P (dC, dI) vwCl (wd_X1_put cI a0 y_4) H := by rw [ey_4]; exact hP
      have hD : va_D A (wd_X1_put cI a0 y_4) := by rw [ey_4]; exact hD
      obtain rfl := Option.some.inj hF
      exact W.vret hx hb hr (fun t ht hW => ⟨⟨(), rfl, trivial, by rw [ht]; exact hP, va_K.moved hW.alike hK, hD⟩, hS.F ht⟩) hS.2.2 dX1_put_20

-- StrokeOutliner$Drawing.cellOf(I)I
def F_X1_cellOf (p0 : Int32) : (Int32) :=
  (14 + (p0 * 18))
abbrev wz_X1_cellOf : List Cond := .code yX1_cellOf cX1_cellOf 1 (some .int) :: wALL
abbrev rm_X1_cellOf : Room := { frames := 0, cells := 0, slots := 0, locals := 0 }
abbrev Q_X1_cellOf (dC : Nat → ClassId) (dI : Nat → Nat → Nat) (cI : ClassId) (u : (Int32)) (A : Nat → Prop) : Array Value → State → Outcome → State → Prop := va_Qi (fun (r : Int32) (_ : Unit) => r = u) (fun _ => q_at dC dI cI A ([] : va_W)) A
set_option maxHeartbeats 4000000 in
set_option maxRecDepth 100000 in
theorem c_X1_cellOf (l : Launch) (dC : Nat → ClassId) (dI : Nat → Nat → Nat) (cI : ClassId) (sz : Nat) (p0 : Int32) (u : (Int32)) (hF : F_X1_cellOf p0 = u) : Met l yX1_cellOf wz_X1_cellOf rm_X1_cellOf (va_Pc [.int p0] (q_pre dC dI cI ([] : va_W) sz)) (Q_X1_cellOf dC dI cI u (va_A ([] : va_W) sz)) 0 0 (va_A ([] : va_W) sz) := by
  refine Met.ofW (cc := cX1_cellOf) (maxL := 1) (ret := (some .int)) (by decide) rfl ?_
  intro p e s m args below meth c s₁ B hml hv
  obtain ⟨rfl, hsz, hP, hK, hD0⟩ := hv
  have hx := B.exec
  have hb := B.bytes
  have hr := B.returns
  have hts := atoms_spec (ws := wz_X1_cellOf) B.pre
  have hta := wz_tl hts
  have hown : s.vm.findClass RX1 = some m.cls := findClass_of_methodNamed B.named
  have hlocks := B.notSynchronized
  subst hsz
  have hD := hD0.self (sz := s.heap.size)
  generalize hAe : va_A ([] : va_W) s.heap.size = A at hD ⊢
  have hA : ∀ q : Nat, s.heap.size ≤ q → A q := fun q h => by rw [← hAe]; exact Or.inr h
  have hS : va_S A s.heap s.heap [] := va_S.rf
  have hP : va_P (dC, dI) vwCl ([] : va_W) s.heap := hP
  have hl := lv_entry ([.int p0]) (n := 1) (Nat.le_of_ble_eq_true rfl)
  rw [lg_entry_eq]
  generalize (lg_sl ([.int p0]) ++ List.replicate (1 - (lg_sl ([.int p0])).length) Slot.unset).toArray = ls at hl ⊢
  have hl : lv_has ls 1 [(0, .int p0)] := hl
  obtain ⟨H, hHe⟩ : ∃ H, H = s.heap := ⟨_, rfl⟩
  have hS : va_S A s.heap H [] := by rw [hHe]; exact hS
  have hP : va_P (dC, dI) vwCl ([] : va_W) H := by rw [hHe]; exact hP
  rw [← hHe]
  unfold F_X1_cellOf at hF
  refine lv_bipush (v := 14) hx hb dX1_cellOf_0 (by decide) ?_
  refine lv_iload_n hx hb dX1_cellOf_2 rfl (lv_at hl 0 rfl) ?_
  refine lv_bipush (v := 18) hx hb dX1_cellOf_3 (by decide) ?_
  refine lv_imul hx hb dX1_cellOf_5 ?_
  refine lv_iadd hx hb dX1_cellOf_6 ?_
  subst hF
  exact W.iret (v := (14 + (p0 * 18))) hx hb hr (fun t ht hW => ⟨⟨(14 + (p0 * 18)), (), rfl, rfl, by rw [ht]; exact hP, va_K.moved hW.alike hK, hD⟩, hS.F ht⟩) hS.2.2 dX1_cellOf_7

-- StrokeOutliner$Drawing.lastSubpath()I
def F_X1_lastSubpath (v0_0 : Nat → Int32) : Option (Int32) :=
  obd (F_X1_cell v0_0 13) (fun u_1 => some (u_1 - 1))
abbrev wd_X1_lastSubpath (cI : ClassId) (a0 : Nat → Nat) (v0_0 : Nat → Int32) : va_W := [(a0 0, .inr (1, [.ref (a0 1)])), (a0 1, .inl (cI, 86, .inl v0_0))]
abbrev wz_X1_lastSubpath : List Cond := .code yX1_lastSubpath cX1_lastSubpath 1 (some .int) :: wALL
abbrev rm_X1_lastSubpath : Room := { frames := 1, cells := 0, slots := 0, locals := 21 }
abbrev Q_X1_lastSubpath (dC : Nat → ClassId) (dI : Nat → Nat → Nat) (cI : ClassId) (a0 : Nat → Nat) (v0_0 : Nat → Int32) (u : (Int32)) (A : Nat → Prop) : Array Value → State → Outcome → State → Prop := va_Qi (fun (r : Int32) (_ : Unit) => r = u) (fun _ => q_at dC dI cI A (wd_X1_lastSubpath cI a0 v0_0)) A
set_option maxHeartbeats 4000000 in
set_option maxRecDepth 100000 in
theorem c_X1_lastSubpath (l : Launch) (dC : Nat → ClassId) (dI : Nat → Nat → Nat) (cI : ClassId) (sz : Nat) (a0 : Nat → Nat) (v0_0 : Nat → Int32) (u : (Int32)) (hF : F_X1_lastSubpath v0_0 = some u) : Met l yX1_lastSubpath wz_X1_lastSubpath rm_X1_lastSubpath (va_Pc [.ref (a0 0)] (q_pre dC dI cI (wd_X1_lastSubpath cI a0 v0_0) sz)) (Q_X1_lastSubpath dC dI cI a0 v0_0 u (va_A (wd_X1_lastSubpath cI a0 v0_0) sz)) 0 0 (va_A (wd_X1_lastSubpath cI a0 v0_0) sz) := by
  refine Met.ofW (cc := cX1_lastSubpath) (maxL := 1) (ret := (some .int)) (by decide) rfl ?_
  intro p e s m args below meth c s₁ B hml hv
  obtain ⟨rfl, hsz, hP, hK, hD0⟩ := hv
  have hx := B.exec
  have hb := B.bytes
  have hr := B.returns
  have hts := atoms_spec (ws := wz_X1_lastSubpath) B.pre
  have hta := wz_tl hts
  have hown : s.vm.findClass RX1 = some m.cls := findClass_of_methodNamed B.named
  have hlocks := B.notSynchronized
  subst hsz
  have hD := hD0.self (sz := s.heap.size)
  generalize hAe : va_A (wd_X1_lastSubpath cI a0 v0_0) s.heap.size = A at hD ⊢
  have hA : ∀ q : Nat, s.heap.size ≤ q → A q := fun q h => by rw [← hAe]; exact Or.inr h
  have hS : va_S A s.heap s.heap [] := va_S.rf
  have hP : va_P (dC, dI) vwCl (wd_X1_lastSubpath cI a0 v0_0) s.heap := hP
  have hl := lv_entry ([.ref (a0 0)]) (n := 1) (Nat.le_of_ble_eq_true rfl)
  rw [lg_entry_eq]
  generalize (lg_sl ([.ref (a0 0)]) ++ List.replicate (1 - (lg_sl ([.ref (a0 0)])).length) Slot.unset).toArray = ls at hl ⊢
  have hl : lv_has ls 1 [(0, .ref (a0 0))] := hl
  obtain ⟨H, hHe⟩ : ∃ H, H = s.heap := ⟨_, rfl⟩
  have hS : va_S A s.heap H [] := by rw [hHe]; exact hS
  have hP : va_P (dC, dI) vwCl (wd_X1_lastSubpath cI a0 v0_0) H := by rw [hHe]; exact hP
  rw [← hHe]
  unfold F_X1_lastSubpath at hF
  refine lv_aload_n hx hb dX1_lastSubpath_0 rfl (lv_at hl 0 rfl) ?_
  refine lv_bipush (v := 13) hx hb dX1_lastSubpath_1 (by decide) ?_
  obtain ⟨u_1, hu_1, hF⟩ := obd_some hF
  have hPc := hP.sub (ws' := (wd_X1_cell cI a0 v0_0)) [0, 1] rfl
  have hDc := hD.sub (ws' := (wd_X1_cell cI a0 v0_0)) [0, 1] rfl rfl
  refine q_calli (wc := (wd_X1_cell cI a0 v0_0)) (w1 := (wd_X1_cell cI a0 v0_0)) (ws' := (wd_X1_lastSubpath cI a0 v0_0)) hP hD hS hA [0, 1] [] [0, 1] rfl rfl rfl (by decide) rfl rfl (va_runV (As := [.int 13]) (rest := []) ⟨hx, hb, hml, hown, hta⟩ (c_X1_cell l dC dI cI H.size a0 v0_0 13 u_1 hu_1) (cwV 1 hta (ga_V mA116 mA117 mA118 mA6 mA119) rfl rfl rfl (by decide +kernel) ⟨Nat.le_of_ble_eq_true rfl, Nat.le_of_ble_eq_true rfl⟩) ⟨q_fb, va_recv hK hP (ci := 1) (q0 := 0) rfl rfl, q_ps hPc hK hDc⟩ rfl rfl hl.1 rfl (lv_room (Nat.le_of_ble_eq_true rfl)) dX1_lastSubpath_3 ⟨Nat.zero_le _, Nat.zero_le _⟩) (fun H locs hP hD hS => ?_)
  refine lv_iconst (v := 1) hx hb dX1_lastSubpath_6 (by decide) ?_
  refine lv_isub hx hb dX1_lastSubpath_7 ?_
  obtain rfl := Option.some.inj hF
  exact W.iret (v := (u_1 - 1)) hx hb hr (fun t ht hW => ⟨⟨(u_1 - 1), (), rfl, rfl, by rw [ht]; exact hP, va_K.moved hW.alike hK, hD⟩, hS.F ht⟩) hS.2.2 dX1_lastSubpath_8

-- StrokeOutliner$Drawing.pointCount(I)I
def F_X1_pointCount (v0_0 : Nat → Int32) (p1 : Int32) : Option (Int32) :=
  obd (F_X1_cell v0_0 13) (fun u_1 => if u_1 ≤ p1 then some 0 else lt (F_X1_cellOf p1) (fun u_3 => obd (F_X1_cell v0_0 (u_3 + 0)) (fun u_4 => some u_4)))
abbrev wd_X1_pointCount (cI : ClassId) (a0 : Nat → Nat) (v0_0 : Nat → Int32) : va_W := [(a0 0, .inr (1, [.ref (a0 1)])), (a0 1, .inl (cI, 86, .inl v0_0))]
abbrev wz_X1_pointCount : List Cond := .code yX1_pointCount cX1_pointCount 2 (some .int) :: wALL
abbrev rm_X1_pointCount : Room := { frames := 1, cells := 0, slots := 0, locals := 21 }
abbrev Q_X1_pointCount (dC : Nat → ClassId) (dI : Nat → Nat → Nat) (cI : ClassId) (a0 : Nat → Nat) (v0_0 : Nat → Int32) (u : (Int32)) (A : Nat → Prop) : Array Value → State → Outcome → State → Prop := va_Qi (fun (r : Int32) (_ : Unit) => r = u) (fun _ => q_at dC dI cI A (wd_X1_pointCount cI a0 v0_0)) A
set_option maxHeartbeats 4000000 in
set_option maxRecDepth 100000 in
theorem c_X1_pointCount (l : Launch) (dC : Nat → ClassId) (dI : Nat → Nat → Nat) (cI : ClassId) (sz : Nat) (a0 : Nat → Nat) (v0_0 : Nat → Int32) (p1 : Int32) (u : (Int32)) (hF : F_X1_pointCount v0_0 p1 = some u) : Met l yX1_pointCount wz_X1_pointCount rm_X1_pointCount (va_Pc [.ref (a0 0), .int p1] (q_pre dC dI cI (wd_X1_pointCount cI a0 v0_0) sz)) (Q_X1_pointCount dC dI cI a0 v0_0 u (va_A (wd_X1_pointCount cI a0 v0_0) sz)) 0 0 (va_A (wd_X1_pointCount cI a0 v0_0) sz) := by
  refine Met.ofW (cc := cX1_pointCount) (maxL := 2) (ret := (some .int)) (by decide) rfl ?_
  intro p e s m args below meth c s₁ B hml hv
  obtain ⟨rfl, hsz, hP, hK, hD0⟩ := hv
  have hx := B.exec
  have hb := B.bytes
  have hr := B.returns
  have hts := atoms_spec (ws := wz_X1_pointCount) B.pre
  have hta := wz_tl hts
  have hown : s.vm.findClass RX1 = some m.cls := findClass_of_methodNamed B.named
  have hlocks := B.notSynchronized
  subst hsz
  have hD := hD0.self (sz := s.heap.size)
  generalize hAe : va_A (wd_X1_pointCount cI a0 v0_0) s.heap.size = A at hD ⊢
  have hA : ∀ q : Nat, s.heap.size ≤ q → A q := fun q h => by rw [← hAe]; exact Or.inr h
  have hS : va_S A s.heap s.heap [] := va_S.rf
  have hP : va_P (dC, dI) vwCl (wd_X1_pointCount cI a0 v0_0) s.heap := hP
  have hl := lv_entry ([.ref (a0 0), .int p1]) (n := 2) (Nat.le_of_ble_eq_true rfl)
  rw [lg_entry_eq]
  generalize (lg_sl ([.ref (a0 0), .int p1]) ++ List.replicate (2 - (lg_sl ([.ref (a0 0), .int p1])).length) Slot.unset).toArray = ls at hl ⊢
  have hl : lv_has ls 2 [(0, .ref (a0 0)), (1, .int p1)] := hl
  obtain ⟨H, hHe⟩ : ∃ H, H = s.heap := ⟨_, rfl⟩
  have hS : va_S A s.heap H [] := by rw [hHe]; exact hS
  have hP : va_P (dC, dI) vwCl (wd_X1_pointCount cI a0 v0_0) H := by rw [hHe]; exact hP
  rw [← hHe]
  unfold F_X1_pointCount at hF
  refine lv_iload_n hx hb dX1_pointCount_0 rfl (lv_at hl 1 rfl) ?_
  refine lv_aload_n hx hb dX1_pointCount_1 rfl (lv_at hl 0 rfl) ?_
  refine lv_bipush (v := 13) hx hb dX1_pointCount_2 (by decide) ?_
  obtain ⟨u_1, hu_1, hF⟩ := obd_some hF
  have hPc := hP.sub (ws' := (wd_X1_cell cI a0 v0_0)) [0, 1] rfl
  have hDc := hD.sub (ws' := (wd_X1_cell cI a0 v0_0)) [0, 1] rfl rfl
  refine q_calli (wc := (wd_X1_cell cI a0 v0_0)) (w1 := (wd_X1_cell cI a0 v0_0)) (ws' := (wd_X1_pointCount cI a0 v0_0)) hP hD hS hA [0, 1] [] [0, 1] rfl rfl rfl (by decide) rfl rfl (va_runV (As := [.int 13]) (rest := [.int p1]) ⟨hx, hb, hml, hown, hta⟩ (c_X1_cell l dC dI cI H.size a0 v0_0 13 u_1 hu_1) (cwV 1 hta (ga_V mA116 mA117 mA118 mA6 mA119) rfl rfl rfl (by decide +kernel) ⟨Nat.le_of_ble_eq_true rfl, Nat.le_of_ble_eq_true rfl⟩) ⟨q_fb, va_recv hK hP (ci := 1) (q0 := 0) rfl rfl, q_ps hPc hK hDc⟩ rfl rfl hl.1 rfl (lv_room (Nat.le_of_ble_eq_true rfl)) dX1_pointCount_4 ⟨Nat.zero_le _, Nat.zero_le _⟩) (fun H locs hP hD hS => ?_)
  refine lv_icmp_ge (tgt := 23) hx hb dX1_pointCount_7 (by decide) (fun c_2 => ?_) (fun c_2 => ?_)
  · have hF := it_t hF c_2
    refine lv_iconst (v := 0) hx hb dX1_pointCount_23 (by decide) ?_
    obtain rfl := Option.some.inj hF
    exact W.iret (v := 0) hx hb hr (fun t ht hW => ⟨⟨0, (), rfl, rfl, by rw [ht]; exact hP, va_K.moved hW.alike hK, hD⟩, hS.F ht⟩) hS.2.2 dX1_pointCount_24
  · have hF := it_f hF c_2
    refine lv_aload_n hx hb dX1_pointCount_10 rfl (lv_at hl 0 rfl) ?_
    refine lv_iload_n hx hb dX1_pointCount_11 rfl (lv_at hl 1 rfl) ?_
    obtain ⟨u_3, hu_3, hF⟩ := lt_some hF
    have hPc := hP.sub (ws' := ([] : va_W)) [] rfl
    have hDc := hD.sub (ws' := ([] : va_W)) [] rfl rfl
    refine q_calli (wc := ([] : va_W)) (w1 := ([] : va_W)) (ws' := (wd_X1_pointCount cI a0 v0_0)) hP hD hS hA [] [0, 1] [0, 1] rfl rfl rfl (by decide) rfl rfl (va_runS (As := [.int p1]) (rest := [.ref (a0 0)]) ⟨hx, hb, hml, hown, hta⟩ (c_X1_cellOf l dC dI cI H.size p1 u_3 hu_3.symm) (va_cwS 1 hta (ga_S mA157 mA158 mA6 mA159) rfl rfl rfl (by decide +kernel) ⟨Nat.le_of_ble_eq_true rfl, Nat.le_of_ble_eq_true rfl⟩) ⟨q_fb, q_ps hPc hK hDc⟩ rfl rfl hl.1 rfl (lv_room (Nat.le_of_ble_eq_true rfl)) dX1_pointCount_12 ⟨Nat.zero_le _, Nat.zero_le _⟩) (fun H locs hP hD hS => ?_)
    refine lv_iconst (v := 0) hx hb dX1_pointCount_15 (by decide) ?_
    refine lv_iadd hx hb dX1_pointCount_16 ?_
    obtain ⟨u_4, hu_4, hF⟩ := obd_some hF
    have hPc := hP.sub (ws' := (wd_X1_cell cI a0 v0_0)) [0, 1] rfl
    have hDc := hD.sub (ws' := (wd_X1_cell cI a0 v0_0)) [0, 1] rfl rfl
    refine q_calli (wc := (wd_X1_cell cI a0 v0_0)) (w1 := (wd_X1_cell cI a0 v0_0)) (ws' := (wd_X1_pointCount cI a0 v0_0)) hP hD hS hA [0, 1] [] [0, 1] rfl rfl rfl (by decide) rfl rfl (va_runV (As := [.int (u_3 + 0)]) (rest := []) ⟨hx, hb, hml, hown, hta⟩ (c_X1_cell l dC dI cI H.size a0 v0_0 (u_3 + 0) u_4 hu_4) (cwV 1 hta (ga_V mA116 mA117 mA118 mA6 mA119) rfl rfl rfl (by decide +kernel) ⟨Nat.le_of_ble_eq_true rfl, Nat.le_of_ble_eq_true rfl⟩) ⟨q_fb, va_recv hK hP (ci := 1) (q0 := 0) rfl rfl, q_ps hPc hK hDc⟩ rfl rfl hl.1 rfl (lv_room (Nat.le_of_ble_eq_true rfl)) dX1_pointCount_17 ⟨Nat.zero_le _, Nat.zero_le _⟩) (fun H locs hP hD hS => ?_)
    refine lv_goto (tgt := 24) hx hb dX1_pointCount_20 (by decide) ?_
    obtain rfl := Option.some.inj hF
    exact W.iret (v := u_4) hx hb hr (fun t ht hW => ⟨⟨u_4, (), rfl, rfl, by rw [ht]; exact hP, va_K.moved hW.alike hK, hD⟩, hS.F ht⟩) hS.2.2 dX1_pointCount_24

-- StrokeOutliner$Drawing.pointCell(II)I
def F_X1_pointCell (p0 : Int32) (p1 : Int32) : (Int32) :=
  (((14 + (p0 * 18)) + 2) + (2 * p1))
abbrev wz_X1_pointCell : List Cond := .code yX1_pointCell cX1_pointCell 2 (some .int) :: wALL
abbrev rm_X1_pointCell : Room := { frames := 0, cells := 0, slots := 0, locals := 0 }
abbrev Q_X1_pointCell (dC : Nat → ClassId) (dI : Nat → Nat → Nat) (cI : ClassId) (u : (Int32)) (A : Nat → Prop) : Array Value → State → Outcome → State → Prop := va_Qi (fun (r : Int32) (_ : Unit) => r = u) (fun _ => q_at dC dI cI A ([] : va_W)) A
set_option maxHeartbeats 4000000 in
set_option maxRecDepth 100000 in
theorem c_X1_pointCell (l : Launch) (dC : Nat → ClassId) (dI : Nat → Nat → Nat) (cI : ClassId) (sz : Nat) (p0 : Int32) (p1 : Int32) (u : (Int32)) (hF : F_X1_pointCell p0 p1 = u) : Met l yX1_pointCell wz_X1_pointCell rm_X1_pointCell (va_Pc [.int p0, .int p1] (q_pre dC dI cI ([] : va_W) sz)) (Q_X1_pointCell dC dI cI u (va_A ([] : va_W) sz)) 0 0 (va_A ([] : va_W) sz) := by
  refine Met.ofW (cc := cX1_pointCell) (maxL := 2) (ret := (some .int)) (by decide) rfl ?_
  intro p e s m args below meth c s₁ B hml hv
  obtain ⟨rfl, hsz, hP, hK, hD0⟩ := hv
  have hx := B.exec
  have hb := B.bytes
  have hr := B.returns
  have hts := atoms_spec (ws := wz_X1_pointCell) B.pre
  have hta := wz_tl hts
  have hown : s.vm.findClass RX1 = some m.cls := findClass_of_methodNamed B.named
  have hlocks := B.notSynchronized
  subst hsz
  have hD := hD0.self (sz := s.heap.size)
  generalize hAe : va_A ([] : va_W) s.heap.size = A at hD ⊢
  have hA : ∀ q : Nat, s.heap.size ≤ q → A q := fun q h => by rw [← hAe]; exact Or.inr h
  have hS : va_S A s.heap s.heap [] := va_S.rf
  have hP : va_P (dC, dI) vwCl ([] : va_W) s.heap := hP
  have hl := lv_entry ([.int p0, .int p1]) (n := 2) (Nat.le_of_ble_eq_true rfl)
  rw [lg_entry_eq]
  generalize (lg_sl ([.int p0, .int p1]) ++ List.replicate (2 - (lg_sl ([.int p0, .int p1])).length) Slot.unset).toArray = ls at hl ⊢
  have hl : lv_has ls 2 [(0, .int p0), (1, .int p1)] := hl
  obtain ⟨H, hHe⟩ : ∃ H, H = s.heap := ⟨_, rfl⟩
  have hS : va_S A s.heap H [] := by rw [hHe]; exact hS
  have hP : va_P (dC, dI) vwCl ([] : va_W) H := by rw [hHe]; exact hP
  rw [← hHe]
  unfold F_X1_pointCell at hF
  refine lv_bipush (v := 14) hx hb dX1_pointCell_0 (by decide) ?_
  refine lv_iload_n hx hb dX1_pointCell_2 rfl (lv_at hl 0 rfl) ?_
  refine lv_bipush (v := 18) hx hb dX1_pointCell_3 (by decide) ?_
  refine lv_imul hx hb dX1_pointCell_5 ?_
  refine lv_iadd hx hb dX1_pointCell_6 ?_
  refine lv_iconst (v := 2) hx hb dX1_pointCell_7 (by decide) ?_
  refine lv_iadd hx hb dX1_pointCell_8 ?_
  refine lv_iconst (v := 2) hx hb dX1_pointCell_9 (by decide) ?_
  refine lv_iload_n hx hb dX1_pointCell_10 rfl (lv_at hl 1 rfl) ?_
  refine lv_imul hx hb dX1_pointCell_11 ?_
  refine lv_iadd hx hb dX1_pointCell_12 ?_
  subst hF
  exact W.iret (v := (((14 + (p0 * 18)) + 2) + (2 * p1))) hx hb hr (fun t ht hW => ⟨⟨(((14 + (p0 * 18)) + 2) + (2 * p1)), (), rfl, rfl, by rw [ht]; exact hP, va_K.moved hW.alike hK, hD⟩, hS.F ht⟩) hS.2.2 dX1_pointCell_13

-- StrokeOutliner$Drawing.putPoint(IIII)V
def F_X1_putPoint (v0_0 : Nat → Int32) (p1 : Int32) (p2 : Int32) (p3 : Int32) (p4 : Int32) : Option ((Nat → Int32)) :=
  lt (F_X1_pointCell p1 p2) (fun u_1 => obd (F_X1_put v0_0 u_1 p3) (fun u_2 => lt (F_X1_pointCell p1 p2) (fun u_3 => obd (F_X1_put u_2 (u_3 + 1) p4) (fun u_4 => some u_4))))
abbrev wd_X1_putPoint (cI : ClassId) (a0 : Nat → Nat) (v0_0 : Nat → Int32) : va_W := [(a0 0, .inr (1, [.ref (a0 1)])), (a0 1, .inl (cI, 86, .inl v0_0))]
abbrev wz_X1_putPoint : List Cond := .code yX1_putPoint cX1_putPoint 5 none :: wALL
abbrev rm_X1_putPoint : Room := { frames := 1, cells := 0, slots := 0, locals := 22 }
abbrev Q_X1_putPoint (dC : Nat → ClassId) (dI : Nat → Nat → Nat) (cI : ClassId) (a0 : Nat → Nat) (u : ((Nat → Int32))) (A : Nat → Prop) : Array Value → State → Outcome → State → Prop := va_Qv (fun (_ : Unit) => True) (fun _ => q_at dC dI cI A (wd_X1_putPoint cI a0 u)) A
set_option maxHeartbeats 4000000 in
set_option maxRecDepth 100000 in
theorem c_X1_putPoint (l : Launch) (dC : Nat → ClassId) (dI : Nat → Nat → Nat) (cI : ClassId) (sz : Nat) (a0 : Nat → Nat) (v0_0 : Nat → Int32) (p1 : Int32) (p2 : Int32) (p3 : Int32) (p4 : Int32) (u : ((Nat → Int32))) (hF : F_X1_putPoint v0_0 p1 p2 p3 p4 = some u) : Met l yX1_putPoint wz_X1_putPoint rm_X1_putPoint (va_Pc [.ref (a0 0), .int p1, .int p2, .int p3, .int p4] (q_pre dC dI cI (wd_X1_putPoint cI a0 v0_0) sz)) (Q_X1_putPoint dC dI cI a0 u (va_A (wd_X1_putPoint cI a0 v0_0) sz)) 0 0 (va_A (wd_X1_putPoint cI a0 v0_0) sz) := by
  refine Met.ofW (cc := cX1_putPoint) (maxL := 5) (ret := none) (by decide) rfl ?_
  intro p e s m args below meth c s₁ B hml hv
  obtain ⟨rfl, hsz, hP, hK, hD0⟩ := hv
  have hx := B.exec
  have hb := B.bytes
  have hr := B.returns
  have hts := atoms_spec (ws := wz_X1_putPoint) B.pre
  have hta := wz_tl hts
  have hown : s.vm.findClass RX1 = some m.cls := findClass_of_methodNamed B.named
  have hlocks := B.notSynchronized
  subst hsz
  have hD := hD0.self (sz := s.heap.size)
  generalize hAe : va_A (wd_X1_putPoint cI a0 v0_0) s.heap.size = A at hD ⊢
  have hA : ∀ q : Nat, s.heap.size ≤ q → A q := fun q h => by rw [← hAe]; exact Or.inr h
  have hS : va_S A s.heap s.heap [] := va_S.rf
  have hP : va_P (dC, dI) vwCl (wd_X1_putPoint cI a0 v0_0) s.heap := hP
  have hl := lv_entry ([.ref (a0 0), .int p1, .int p2, .int p3, .int p4]) (n := 5) (Nat.le_of_ble_eq_true rfl)
  rw [lg_entry_eq]
  generalize (lg_sl ([.ref (a0 0), .int p1, .int p2, .int p3, .int p4]) ++ List.replicate (5 - (lg_sl ([.ref (a0 0), .int p1, .int p2, .int p3, .int p4])).length) Slot.unset).toArray = ls at hl ⊢
  have hl : lv_has ls 5 [(0, .ref (a0 0)), (1, .int p1), (2, .int p2), (3, .int p3), (4, .int p4)] := hl
  obtain ⟨H, hHe⟩ : ∃ H, H = s.heap := ⟨_, rfl⟩
  have hS : va_S A s.heap H [] := by rw [hHe]; exact hS
  have hP : va_P (dC, dI) vwCl (wd_X1_putPoint cI a0 v0_0) H := by rw [hHe]; exact hP
  rw [← hHe]
  unfold F_X1_putPoint at hF
  refine lv_aload_n hx hb dX1_putPoint_0 rfl (lv_at hl 0 rfl) ?_
  refine lv_iload_n hx hb dX1_putPoint_1 rfl (lv_at hl 1 rfl) ?_
  refine lv_iload_n hx hb dX1_putPoint_2 rfl (lv_at hl 2 rfl) ?_
  obtain ⟨u_1, hu_1, hF⟩ := lt_some hF
  have hPc := hP.sub (ws' := ([] : va_W)) [] rfl
  have hDc := hD.sub (ws' := ([] : va_W)) [] rfl rfl
  refine q_calli (wc := ([] : va_W)) (w1 := ([] : va_W)) (ws' := (wd_X1_putPoint cI a0 v0_0)) hP hD hS hA [] [0, 1] [0, 1] rfl rfl rfl (by decide) rfl rfl (va_runS (As := [.int p1, .int p2]) (rest := [.ref (a0 0)]) ⟨hx, hb, hml, hown, hta⟩ (c_X1_pointCell l dC dI cI H.size p1 p2 u_1 hu_1.symm) (va_cwS 2 hta (ga_S mA176 mA177 mA6 mA178) rfl rfl rfl (by decide +kernel) ⟨Nat.le_of_ble_eq_true rfl, Nat.le_of_ble_eq_true rfl⟩) ⟨q_fb, q_ps hPc hK hDc⟩ rfl rfl hl.1 rfl (lv_room (Nat.le_of_ble_eq_true rfl)) dX1_putPoint_3 ⟨Nat.zero_le _, Nat.zero_le _⟩) (fun H locs hP hD hS => ?_)
  refine lv_iload_n hx hb dX1_putPoint_6 rfl (lv_at hl 3 rfl) ?_
  obtain ⟨u_2, hu_2, hF⟩ := obd_some hF
  have hPc := hP.sub (ws' := (wd_X1_put cI a0 v0_0)) [0, 1] rfl
  have hDc := hD.sub (ws' := (wd_X1_put cI a0 v0_0)) [0, 1] rfl rfl
  refine q_callv (wc := (wd_X1_put cI a0 v0_0)) (w1 := (wd_X1_put cI a0 u_2)) (ws' := (wd_X1_putPoint cI a0 u_2)) hP hD hS hA [0, 1] [] [0, 1] rfl rfl rfl (by decide) rfl rfl (va_runV (As := [.int u_1, .int p3]) (rest := []) ⟨hx, hb, hml, hown, hta⟩ (c_X1_put l dC dI cI H.size a0 v0_0 u_1 p3 u_2 hu_2) (cwV 2 hta (ga_V mA153 mA154 mA155 mA6 mA156) rfl rfl rfl (by decide +kernel) ⟨Nat.le_of_ble_eq_true rfl, Nat.le_of_ble_eq_true rfl⟩) ⟨q_fb, va_recv hK hP (ci := 1) (q0 := 0) rfl rfl, q_ps hPc hK hDc⟩ rfl rfl hl.1 rfl (lv_room (Nat.le_of_ble_eq_true rfl)) dX1_putPoint_7 ⟨Nat.zero_le _, Nat.zero_le _⟩) (fun H locs hP hD hS => ?_)
  refine lv_aload_n hx hb dX1_putPoint_10 rfl (lv_at hl 0 rfl) ?_
  refine lv_iload_n hx hb dX1_putPoint_11 rfl (lv_at hl 1 rfl) ?_
  refine lv_iload_n hx hb dX1_putPoint_12 rfl (lv_at hl 2 rfl) ?_
  obtain ⟨u_3, hu_3, hF⟩ := lt_some hF
  have hPc := hP.sub (ws' := ([] : va_W)) [] rfl
  have hDc := hD.sub (ws' := ([] : va_W)) [] rfl rfl
  refine q_calli (wc := ([] : va_W)) (w1 := ([] : va_W)) (ws' := (wd_X1_putPoint cI a0 u_2)) hP hD hS hA [] [0, 1] [0, 1] rfl rfl rfl (by decide) rfl rfl (va_runS (As := [.int p1, .int p2]) (rest := [.ref (a0 0)]) ⟨hx, hb, hml, hown, hta⟩ (c_X1_pointCell l dC dI cI H.size p1 p2 u_3 hu_3.symm) (va_cwS 2 hta (ga_S mA176 mA177 mA6 mA178) rfl rfl rfl (by decide +kernel) ⟨Nat.le_of_ble_eq_true rfl, Nat.le_of_ble_eq_true rfl⟩) ⟨q_fb, q_ps hPc hK hDc⟩ rfl rfl hl.1 rfl (lv_room (Nat.le_of_ble_eq_true rfl)) dX1_putPoint_13 ⟨Nat.zero_le _, Nat.zero_le _⟩) (fun H locs hP hD hS => ?_)
  refine lv_iconst (v := 1) hx hb dX1_putPoint_16 (by decide) ?_
  refine lv_iadd hx hb dX1_putPoint_17 ?_
  refine lv_iload hx hb dX1_putPoint_18 (lv_at hl 4 rfl) ?_
  obtain ⟨u_4, hu_4, hF⟩ := obd_some hF
  have hPc := hP.sub (ws' := (wd_X1_put cI a0 u_2)) [0, 1] rfl
  have hDc := hD.sub (ws' := (wd_X1_put cI a0 u_2)) [0, 1] rfl rfl
  refine q_callv (wc := (wd_X1_put cI a0 u_2)) (w1 := (wd_X1_put cI a0 u_4)) (ws' := (wd_X1_putPoint cI a0 u_4)) hP hD hS hA [0, 1] [] [0, 1] rfl rfl rfl (by decide) rfl rfl (va_runV (As := [.int (u_3 + 1), .int p4]) (rest := []) ⟨hx, hb, hml, hown, hta⟩ (c_X1_put l dC dI cI H.size a0 u_2 (u_3 + 1) p4 u_4 hu_4) (cwV 2 hta (ga_V mA153 mA154 mA155 mA6 mA156) rfl rfl rfl (by decide +kernel) ⟨Nat.le_of_ble_eq_true rfl, Nat.le_of_ble_eq_true rfl⟩) ⟨q_fb, va_recv hK hP (ci := 1) (q0 := 0) rfl rfl, q_ps hPc hK hDc⟩ rfl rfl hl.1 rfl (lv_room (Nat.le_of_ble_eq_true rfl)) dX1_putPoint_20 ⟨Nat.zero_le _, Nat.zero_le _⟩) (fun H locs hP hD hS => ?_)
  obtain rfl := Option.some.inj hF
  exact W.vret hx hb hr (fun t ht hW => ⟨⟨(), rfl, trivial, by rw [ht]; exact hP, va_K.moved hW.alike hK, hD⟩, hS.F ht⟩) hS.2.2 dX1_putPoint_23

-- StrokeOutliner$Drawing.addPoint(II)V
def F_X1_addPoint (v0_0 : Nat → Int32) (p1 : Int32) (p2 : Int32) : Option ((Nat → Int32)) :=
  obd (F_X1_lastSubpath v0_0) (fun u_1 => obd (F_X1_pointCount v0_0 u_1) (fun u_2 => obd (F_X1_putPoint v0_0 u_1 u_2 p1 p2) (fun u_3 => lt (F_X1_cellOf u_1) (fun u_4 => obd (F_X1_put u_3 (u_4 + 0) (u_2 + 1)) (fun u_5 => some u_5)))))
abbrev wd_X1_addPoint (cI : ClassId) (a0 : Nat → Nat) (v0_0 : Nat → Int32) : va_W := [(a0 0, .inr (1, [.ref (a0 1)])), (a0 1, .inl (cI, 86, .inl v0_0))]
abbrev wz_X1_addPoint : List Cond := .code yX1_addPoint cX1_addPoint 5 none :: wALL
abbrev rm_X1_addPoint : Room := { frames := 2, cells := 0, slots := 0, locals := 46 }
abbrev Q_X1_addPoint (dC : Nat → ClassId) (dI : Nat → Nat → Nat) (cI : ClassId) (a0 : Nat → Nat) (u : ((Nat → Int32))) (A : Nat → Prop) : Array Value → State → Outcome → State → Prop := va_Qv (fun (_ : Unit) => True) (fun _ => q_at dC dI cI A (wd_X1_addPoint cI a0 u)) A
set_option maxHeartbeats 4000000 in
set_option maxRecDepth 100000 in
theorem c_X1_addPoint (l : Launch) (dC : Nat → ClassId) (dI : Nat → Nat → Nat) (cI : ClassId) (sz : Nat) (a0 : Nat → Nat) (v0_0 : Nat → Int32) (p1 : Int32) (p2 : Int32) (u : ((Nat → Int32))) (hF : F_X1_addPoint v0_0 p1 p2 = some u) : Met l yX1_addPoint wz_X1_addPoint rm_X1_addPoint (va_Pc [.ref (a0 0), .int p1, .int p2] (q_pre dC dI cI (wd_X1_addPoint cI a0 v0_0) sz)) (Q_X1_addPoint dC dI cI a0 u (va_A (wd_X1_addPoint cI a0 v0_0) sz)) 0 0 (va_A (wd_X1_addPoint cI a0 v0_0) sz) := by
  refine Met.ofW (cc := cX1_addPoint) (maxL := 5) (ret := none) (by decide) rfl ?_
  intro p e s m args below meth c s₁ B hml hv
  obtain ⟨rfl, hsz, hP, hK, hD0⟩ := hv
  have hx := B.exec
  have hb := B.bytes
  have hr := B.returns
  have hts := atoms_spec (ws := wz_X1_addPoint) B.pre
  have hta := wz_tl hts
  have hown : s.vm.findClass RX1 = some m.cls := findClass_of_methodNamed B.named
  have hlocks := B.notSynchronized
  subst hsz
  have hD := hD0.self (sz := s.heap.size)
  generalize hAe : va_A (wd_X1_addPoint cI a0 v0_0) s.heap.size = A at hD ⊢
  have hA : ∀ q : Nat, s.heap.size ≤ q → A q := fun q h => by rw [← hAe]; exact Or.inr h
  have hS : va_S A s.heap s.heap [] := va_S.rf
  have hP : va_P (dC, dI) vwCl (wd_X1_addPoint cI a0 v0_0) s.heap := hP
  have hl := lv_entry ([.ref (a0 0), .int p1, .int p2]) (n := 5) (Nat.le_of_ble_eq_true rfl)
  rw [lg_entry_eq]
  generalize (lg_sl ([.ref (a0 0), .int p1, .int p2]) ++ List.replicate (5 - (lg_sl ([.ref (a0 0), .int p1, .int p2])).length) Slot.unset).toArray = ls at hl ⊢
  have hl : lv_has ls 5 [(0, .ref (a0 0)), (1, .int p1), (2, .int p2)] := hl
  obtain ⟨H, hHe⟩ : ∃ H, H = s.heap := ⟨_, rfl⟩
  have hS : va_S A s.heap H [] := by rw [hHe]; exact hS
  have hP : va_P (dC, dI) vwCl (wd_X1_addPoint cI a0 v0_0) H := by rw [hHe]; exact hP
  rw [← hHe]
  unfold F_X1_addPoint at hF
  refine lv_aload_n hx hb dX1_addPoint_0 rfl (lv_at hl 0 rfl) ?_
  obtain ⟨u_1, hu_1, hF⟩ := obd_some hF
  have hPc := hP.sub (ws' := (wd_X1_lastSubpath cI a0 v0_0)) [0, 1] rfl
  have hDc := hD.sub (ws' := (wd_X1_lastSubpath cI a0 v0_0)) [0, 1] rfl rfl
  refine q_calli (wc := (wd_X1_lastSubpath cI a0 v0_0)) (w1 := (wd_X1_lastSubpath cI a0 v0_0)) (ws' := (wd_X1_addPoint cI a0 v0_0)) hP hD hS hA [0, 1] [] [0, 1] rfl rfl rfl (by decide) rfl rfl (va_runV (As := []) (rest := []) ⟨hx, hb, hml, hown, hta⟩ (c_X1_lastSubpath l dC dI cI H.size a0 v0_0 u_1 hu_1) (cwV 0 hta (ga_V mA164 mA165 mA166 mA6 mA167) rfl rfl rfl (by decide +kernel) ⟨Nat.le_of_ble_eq_true rfl, Nat.le_of_ble_eq_true rfl⟩) ⟨q_fb, va_recv hK hP (ci := 1) (q0 := 0) rfl rfl, q_ps hPc hK hDc⟩ rfl rfl hl.1 rfl (lv_room (Nat.le_of_ble_eq_true rfl)) dX1_addPoint_1 ⟨Nat.zero_le _, Nat.zero_le _⟩) (fun H locs hP hD hS => ?_)
  refine lv_istore_n (lv' := [(3, .int u_1), (0, .ref (a0 0)), (1, .int p1), (2, .int p2)]) hx hb dX1_addPoint_4 rfl hl (by decide) rfl (fun ls hl => ?_)
  refine lv_aload_n hx hb dX1_addPoint_5 rfl (lv_at hl 1 rfl) ?_
  refine lv_iload_n hx hb dX1_addPoint_6 rfl (lv_at hl 0 rfl) ?_
  obtain ⟨u_2, hu_2, hF⟩ := obd_some hF
  have hPc := hP.sub (ws' := (wd_X1_pointCount cI a0 v0_0)) [0, 1] rfl
  have hDc := hD.sub (ws' := (wd_X1_pointCount cI a0 v0_0)) [0, 1] rfl rfl
  refine q_calli (wc := (wd_X1_pointCount cI a0 v0_0)) (w1 := (wd_X1_pointCount cI a0 v0_0)) (ws' := (wd_X1_addPoint cI a0 v0_0)) hP hD hS hA [0, 1] [] [0, 1] rfl rfl rfl (by decide) rfl rfl (va_runV (As := [.int u_1]) (rest := []) ⟨hx, hb, hml, hown, hta⟩ (c_X1_pointCount l dC dI cI H.size a0 v0_0 u_1 u_2 hu_2) (cwV 1 hta (ga_V mA168 mA169 mA170 mA6 mA171) rfl rfl rfl (by decide +kernel) ⟨Nat.le_of_ble_eq_true rfl, Nat.le_of_ble_eq_true rfl⟩) ⟨q_fb, va_recv hK hP (ci := 1) (q0 := 0) rfl rfl, q_ps hPc hK hDc⟩ rfl rfl hl.1 rfl (lv_room (Nat.le_of_ble_eq_true rfl)) dX1_addPoint_7 ⟨Nat.zero_le _, Nat.zero_le _⟩) (fun H locs hP hD hS => ?_)
  refine lv_istore (lv' := [(4, .int u_2), (3, .int u_1), (0, .ref (a0 0)), (1, .int p1), (2, .int p2)]) hx hb dX1_addPoint_10 hl (by decide) rfl (fun ls hl => ?_)
  refine lv_aload_n hx hb dX1_addPoint_12 rfl (lv_at hl 2 rfl) ?_
  refine lv_iload_n hx hb dX1_addPoint_13 rfl (lv_at hl 1 rfl) ?_
  refine lv_iload hx hb dX1_addPoint_14 (lv_at hl 0 rfl) ?_
  refine lv_iload_n hx hb dX1_addPoint_16 rfl (lv_at hl 3 rfl) ?_
  refine lv_iload_n hx hb dX1_addPoint_17 rfl (lv_at hl 4 rfl) ?_
  obtain ⟨u_3, hu_3, hF⟩ := obd_some hF
  have hPc := hP.sub (ws' := (wd_X1_putPoint cI a0 v0_0)) [0, 1] rfl
  have hDc := hD.sub (ws' := (wd_X1_putPoint cI a0 v0_0)) [0, 1] rfl rfl
  refine q_callv (wc := (wd_X1_putPoint cI a0 v0_0)) (w1 := (wd_X1_putPoint cI a0 u_3)) (ws' := (wd_X1_addPoint cI a0 u_3)) hP hD hS hA [0, 1] [] [0, 1] rfl rfl rfl (by decide) rfl rfl (va_runV (As := [.int u_1, .int u_2, .int p1, .int p2]) (rest := []) ⟨hx, hb, hml, hown, hta⟩ (c_X1_putPoint l dC dI cI H.size a0 v0_0 u_1 u_2 p1 p2 u_3 hu_3) (cwV 4 hta (ga_V mA172 mA173 mA174 mA6 mA175) rfl rfl rfl (by decide +kernel) ⟨Nat.le_of_ble_eq_true rfl, Nat.le_of_ble_eq_true rfl⟩) ⟨q_fb, va_recv hK hP (ci := 1) (q0 := 0) rfl rfl, q_ps hPc hK hDc⟩ rfl rfl hl.1 rfl (lv_room (Nat.le_of_ble_eq_true rfl)) dX1_addPoint_18 ⟨Nat.zero_le _, Nat.zero_le _⟩) (fun H locs hP hD hS => ?_)
  refine lv_aload_n hx hb dX1_addPoint_21 rfl (lv_at hl 2 rfl) ?_
  refine lv_iload_n hx hb dX1_addPoint_22 rfl (lv_at hl 1 rfl) ?_
  obtain ⟨u_4, hu_4, hF⟩ := lt_some hF
  have hPc := hP.sub (ws' := ([] : va_W)) [] rfl
  have hDc := hD.sub (ws' := ([] : va_W)) [] rfl rfl
  refine q_calli (wc := ([] : va_W)) (w1 := ([] : va_W)) (ws' := (wd_X1_addPoint cI a0 u_3)) hP hD hS hA [] [0, 1] [0, 1] rfl rfl rfl (by decide) rfl rfl (va_runS (As := [.int u_1]) (rest := [.ref (a0 0)]) ⟨hx, hb, hml, hown, hta⟩ (c_X1_cellOf l dC dI cI H.size u_1 u_4 hu_4.symm) (va_cwS 1 hta (ga_S mA157 mA158 mA6 mA159) rfl rfl rfl (by decide +kernel) ⟨Nat.le_of_ble_eq_true rfl, Nat.le_of_ble_eq_true rfl⟩) ⟨q_fb, q_ps hPc hK hDc⟩ rfl rfl hl.1 rfl (lv_room (Nat.le_of_ble_eq_true rfl)) dX1_addPoint_23 ⟨Nat.zero_le _, Nat.zero_le _⟩) (fun H locs hP hD hS => ?_)
  refine lv_iconst (v := 0) hx hb dX1_addPoint_26 (by decide) ?_
  refine lv_iadd hx hb dX1_addPoint_27 ?_
  refine lv_iload hx hb dX1_addPoint_28 (lv_at hl 0 rfl) ?_
  refine lv_iconst (v := 1) hx hb dX1_addPoint_30 (by decide) ?_
  refine lv_iadd hx hb dX1_addPoint_31 ?_
  obtain ⟨u_5, hu_5, hF⟩ := obd_some hF
  have hPc := hP.sub (ws' := (wd_X1_put cI a0 u_3)) [0, 1] rfl
  have hDc := hD.sub (ws' := (wd_X1_put cI a0 u_3)) [0, 1] rfl rfl
  refine q_callv (wc := (wd_X1_put cI a0 u_3)) (w1 := (wd_X1_put cI a0 u_5)) (ws' := (wd_X1_addPoint cI a0 u_5)) hP hD hS hA [0, 1] [] [0, 1] rfl rfl rfl (by decide) rfl rfl (va_runV (As := [.int (u_4 + 0), .int (u_2 + 1)]) (rest := []) ⟨hx, hb, hml, hown, hta⟩ (c_X1_put l dC dI cI H.size a0 u_3 (u_4 + 0) (u_2 + 1) u_5 hu_5) (cwV 2 hta (ga_V mA153 mA154 mA155 mA6 mA156) rfl rfl rfl (by decide +kernel) ⟨Nat.le_of_ble_eq_true rfl, Nat.le_of_ble_eq_true rfl⟩) ⟨q_fb, va_recv hK hP (ci := 1) (q0 := 0) rfl rfl, q_ps hPc hK hDc⟩ rfl rfl hl.1 rfl (lv_room (Nat.le_of_ble_eq_true rfl)) dX1_addPoint_32 ⟨Nat.zero_le _, Nat.zero_le _⟩) (fun H locs hP hD hS => ?_)
  obtain rfl := Option.some.inj hF
  exact W.vret hx hb hr (fun t ht hW => ⟨⟨(), rfl, trivial, by rw [ht]; exact hP, va_K.moved hW.alike hK, hD⟩, hS.F ht⟩) hS.2.2 dX1_addPoint_35

-- StrokeOutliner$Drawing.startSubpath(II)V
def F_X1_startSubpath (v0_0 : Nat → Int32) (p1 : Int32) (p2 : Int32) : Option ((Nat → Int32)) :=
  obd (F_X1_subpathCount v0_0) (fun u_1 => obd (F_X1_put v0_0 13 (u_1 + 1)) (fun u_2 => lt (F_X1_cellOf u_1) (fun u_3 => obd (F_X1_put u_2 (u_3 + 0) 0) (fun u_4 => lt (F_X1_cellOf u_1) (fun u_5 => obd (F_X1_put u_4 (u_5 + 1) 0) (fun u_6 => obd (F_X1_addPoint u_6 p1 p2) (fun u_7 => some u_7)))))))
abbrev wd_X1_startSubpath (cI : ClassId) (a0 : Nat → Nat) (v0_0 : Nat → Int32) : va_W := [(a0 0, .inr (1, [.ref (a0 1)])), (a0 1, .inl (cI, 86, .inl v0_0))]
abbrev wz_X1_startSubpath : List Cond := .code yX1_startSubpath cX1_startSubpath 4 none :: wALL
abbrev rm_X1_startSubpath : Room := { frames := 3, cells := 0, slots := 0, locals := 70 }
abbrev Q_X1_startSubpath (dC : Nat → ClassId) (dI : Nat → Nat → Nat) (cI : ClassId) (a0 : Nat → Nat) (u : ((Nat → Int32))) (A : Nat → Prop) : Array Value → State → Outcome → State → Prop := va_Qv (fun (_ : Unit) => True) (fun _ => q_at dC dI cI A (wd_X1_startSubpath cI a0 u)) A
set_option maxHeartbeats 4000000 in
set_option maxRecDepth 100000 in
theorem c_X1_startSubpath (l : Launch) (dC : Nat → ClassId) (dI : Nat → Nat → Nat) (cI : ClassId) (sz : Nat) (a0 : Nat → Nat) (v0_0 : Nat → Int32) (p1 : Int32) (p2 : Int32) (u : ((Nat → Int32))) (hF : F_X1_startSubpath v0_0 p1 p2 = some u) : Met l yX1_startSubpath wz_X1_startSubpath rm_X1_startSubpath (va_Pc [.ref (a0 0), .int p1, .int p2] (q_pre dC dI cI (wd_X1_startSubpath cI a0 v0_0) sz)) (Q_X1_startSubpath dC dI cI a0 u (va_A (wd_X1_startSubpath cI a0 v0_0) sz)) 0 0 (va_A (wd_X1_startSubpath cI a0 v0_0) sz) := by
  refine Met.ofW (cc := cX1_startSubpath) (maxL := 4) (ret := none) (by decide) rfl ?_
  intro p e s m args below meth c s₁ B hml hv
  obtain ⟨rfl, hsz, hP, hK, hD0⟩ := hv
  have hx := B.exec
  have hb := B.bytes
  have hr := B.returns
  have hts := atoms_spec (ws := wz_X1_startSubpath) B.pre
  have hta := wz_tl hts
  have hown : s.vm.findClass RX1 = some m.cls := findClass_of_methodNamed B.named
  have hlocks := B.notSynchronized
  subst hsz
  have hD := hD0.self (sz := s.heap.size)
  generalize hAe : va_A (wd_X1_startSubpath cI a0 v0_0) s.heap.size = A at hD ⊢
  have hA : ∀ q : Nat, s.heap.size ≤ q → A q := fun q h => by rw [← hAe]; exact Or.inr h
  have hS : va_S A s.heap s.heap [] := va_S.rf
  have hP : va_P (dC, dI) vwCl (wd_X1_startSubpath cI a0 v0_0) s.heap := hP
  have hl := lv_entry ([.ref (a0 0), .int p1, .int p2]) (n := 4) (Nat.le_of_ble_eq_true rfl)
  rw [lg_entry_eq]
  generalize (lg_sl ([.ref (a0 0), .int p1, .int p2]) ++ List.replicate (4 - (lg_sl ([.ref (a0 0), .int p1, .int p2])).length) Slot.unset).toArray = ls at hl ⊢
  have hl : lv_has ls 4 [(0, .ref (a0 0)), (1, .int p1), (2, .int p2)] := hl
  obtain ⟨H, hHe⟩ : ∃ H, H = s.heap := ⟨_, rfl⟩
  have hS : va_S A s.heap H [] := by rw [hHe]; exact hS
  have hP : va_P (dC, dI) vwCl (wd_X1_startSubpath cI a0 v0_0) H := by rw [hHe]; exact hP
  rw [← hHe]
  unfold F_X1_startSubpath at hF
  refine lv_aload_n hx hb dX1_startSubpath_0 rfl (lv_at hl 0 rfl) ?_
  obtain ⟨u_1, hu_1, hF⟩ := obd_some hF
  have hPc := hP.sub (ws' := (wd_X1_subpathCount cI a0 v0_0)) [0, 1] rfl
  have hDc := hD.sub (ws' := (wd_X1_subpathCount cI a0 v0_0)) [0, 1] rfl rfl
  refine q_calli (wc := (wd_X1_subpathCount cI a0 v0_0)) (w1 := (wd_X1_subpathCount cI a0 v0_0)) (ws' := (wd_X1_startSubpath cI a0 v0_0)) hP hD hS hA [0, 1] [] [0, 1] rfl rfl rfl (by decide) rfl rfl (va_runV (As := []) (rest := []) ⟨hx, hb, hml, hown, hta⟩ (c_X1_subpathCount l dC dI cI H.size a0 v0_0 u_1 hu_1) (cwV 0 hta (ga_V mA152 mA113 mA114 mA6 mA115) rfl rfl rfl (by decide +kernel) ⟨Nat.le_of_ble_eq_true rfl, Nat.le_of_ble_eq_true rfl⟩) ⟨q_fb, va_recv hK hP (ci := 1) (q0 := 0) rfl rfl, q_ps hPc hK hDc⟩ rfl rfl hl.1 rfl (lv_room (Nat.le_of_ble_eq_true rfl)) dX1_startSubpath_1 ⟨Nat.zero_le _, Nat.zero_le _⟩) (fun H locs hP hD hS => ?_)
  refine lv_istore_n (lv' := [(3, .int u_1), (0, .ref (a0 0)), (1, .int p1), (2, .int p2)]) hx hb dX1_startSubpath_4 rfl hl (by decide) rfl (fun ls hl => ?_)
  refine lv_aload_n hx hb dX1_startSubpath_5 rfl (lv_at hl 1 rfl) ?_
  refine lv_bipush (v := 13) hx hb dX1_startSubpath_6 (by decide) ?_
  refine lv_iload_n hx hb dX1_startSubpath_8 rfl (lv_at hl 0 rfl) ?_
  refine lv_iconst (v := 1) hx hb dX1_startSubpath_9 (by decide) ?_
  refine lv_iadd hx hb dX1_startSubpath_10 ?_
  obtain ⟨u_2, hu_2, hF⟩ := obd_some hF
  have hPc := hP.sub (ws' := (wd_X1_put cI a0 v0_0)) [0, 1] rfl
  have hDc := hD.sub (ws' := (wd_X1_put cI a0 v0_0)) [0, 1] rfl rfl
  refine q_callv (wc := (wd_X1_put cI a0 v0_0)) (w1 := (wd_X1_put cI a0 u_2)) (ws' := (wd_X1_startSubpath cI a0 u_2)) hP hD hS hA [0, 1] [] [0, 1] rfl rfl rfl (by decide) rfl rfl (va_runV (As := [.int 13, .int (u_1 + 1)]) (rest := []) ⟨hx, hb, hml, hown, hta⟩ (c_X1_put l dC dI cI H.size a0 v0_0 13 (u_1 + 1) u_2 hu_2) (cwV 2 hta (ga_V mA153 mA154 mA155 mA6 mA156) rfl rfl rfl (by decide +kernel) ⟨Nat.le_of_ble_eq_true rfl, Nat.le_of_ble_eq_true rfl⟩) ⟨q_fb, va_recv hK hP (ci := 1) (q0 := 0) rfl rfl, q_ps hPc hK hDc⟩ rfl rfl hl.1 rfl (lv_room (Nat.le_of_ble_eq_true rfl)) dX1_startSubpath_11 ⟨Nat.zero_le _, Nat.zero_le _⟩) (fun H locs hP hD hS => ?_)
  refine lv_aload_n hx hb dX1_startSubpath_14 rfl (lv_at hl 1 rfl) ?_
  refine lv_iload_n hx hb dX1_startSubpath_15 rfl (lv_at hl 0 rfl) ?_
  obtain ⟨u_3, hu_3, hF⟩ := lt_some hF
  have hPc := hP.sub (ws' := ([] : va_W)) [] rfl
  have hDc := hD.sub (ws' := ([] : va_W)) [] rfl rfl
  refine q_calli (wc := ([] : va_W)) (w1 := ([] : va_W)) (ws' := (wd_X1_startSubpath cI a0 u_2)) hP hD hS hA [] [0, 1] [0, 1] rfl rfl rfl (by decide) rfl rfl (va_runS (As := [.int u_1]) (rest := [.ref (a0 0)]) ⟨hx, hb, hml, hown, hta⟩ (c_X1_cellOf l dC dI cI H.size u_1 u_3 hu_3.symm) (va_cwS 1 hta (ga_S mA157 mA158 mA6 mA159) rfl rfl rfl (by decide +kernel) ⟨Nat.le_of_ble_eq_true rfl, Nat.le_of_ble_eq_true rfl⟩) ⟨q_fb, q_ps hPc hK hDc⟩ rfl rfl hl.1 rfl (lv_room (Nat.le_of_ble_eq_true rfl)) dX1_startSubpath_16 ⟨Nat.zero_le _, Nat.zero_le _⟩) (fun H locs hP hD hS => ?_)
  refine lv_iconst (v := 0) hx hb dX1_startSubpath_19 (by decide) ?_
  refine lv_iadd hx hb dX1_startSubpath_20 ?_
  refine lv_iconst (v := 0) hx hb dX1_startSubpath_21 (by decide) ?_
  obtain ⟨u_4, hu_4, hF⟩ := obd_some hF
  have hPc := hP.sub (ws' := (wd_X1_put cI a0 u_2)) [0, 1] rfl
  have hDc := hD.sub (ws' := (wd_X1_put cI a0 u_2)) [0, 1] rfl rfl
  refine q_callv (wc := (wd_X1_put cI a0 u_2)) (w1 := (wd_X1_put cI a0 u_4)) (ws' := (wd_X1_startSubpath cI a0 u_4)) hP hD hS hA [0, 1] [] [0, 1] rfl rfl rfl (by decide) rfl rfl (va_runV (As := [.int (u_3 + 0), .int 0]) (rest := []) ⟨hx, hb, hml, hown, hta⟩ (c_X1_put l dC dI cI H.size a0 u_2 (u_3 + 0) 0 u_4 hu_4) (cwV 2 hta (ga_V mA153 mA154 mA155 mA6 mA156) rfl rfl rfl (by decide +kernel) ⟨Nat.le_of_ble_eq_true rfl, Nat.le_of_ble_eq_true rfl⟩) ⟨q_fb, va_recv hK hP (ci := 1) (q0 := 0) rfl rfl, q_ps hPc hK hDc⟩ rfl rfl hl.1 rfl (lv_room (Nat.le_of_ble_eq_true rfl)) dX1_startSubpath_22 ⟨Nat.zero_le _, Nat.zero_le _⟩) (fun H locs hP hD hS => ?_)
  refine lv_aload_n hx hb dX1_startSubpath_25 rfl (lv_at hl 1 rfl) ?_
  refine lv_iload_n hx hb dX1_startSubpath_26 rfl (lv_at hl 0 rfl) ?_
  obtain ⟨u_5, hu_5, hF⟩ := lt_some hF
  have hPc := hP.sub (ws' := ([] : va_W)) [] rfl
  have hDc := hD.sub (ws' := ([] : va_W)) [] rfl rfl
  refine q_calli (wc := ([] : va_W)) (w1 := ([] : va_W)) (ws' := (wd_X1_startSubpath cI a0 u_4)) hP hD hS hA [] [0, 1] [0, 1] rfl rfl rfl (by decide) rfl rfl (va_runS (As := [.int u_1]) (rest := [.ref (a0 0)]) ⟨hx, hb, hml, hown, hta⟩ (c_X1_cellOf l dC dI cI H.size u_1 u_5 hu_5.symm) (va_cwS 1 hta (ga_S mA157 mA158 mA6 mA159) rfl rfl rfl (by decide +kernel) ⟨Nat.le_of_ble_eq_true rfl, Nat.le_of_ble_eq_true rfl⟩) ⟨q_fb, q_ps hPc hK hDc⟩ rfl rfl hl.1 rfl (lv_room (Nat.le_of_ble_eq_true rfl)) dX1_startSubpath_27 ⟨Nat.zero_le _, Nat.zero_le _⟩) (fun H locs hP hD hS => ?_)
  refine lv_iconst (v := 1) hx hb dX1_startSubpath_30 (by decide) ?_
  refine lv_iadd hx hb dX1_startSubpath_31 ?_
  refine lv_iconst (v := 0) hx hb dX1_startSubpath_32 (by decide) ?_
  obtain ⟨u_6, hu_6, hF⟩ := obd_some hF
  have hPc := hP.sub (ws' := (wd_X1_put cI a0 u_4)) [0, 1] rfl
  have hDc := hD.sub (ws' := (wd_X1_put cI a0 u_4)) [0, 1] rfl rfl
  refine q_callv (wc := (wd_X1_put cI a0 u_4)) (w1 := (wd_X1_put cI a0 u_6)) (ws' := (wd_X1_startSubpath cI a0 u_6)) hP hD hS hA [0, 1] [] [0, 1] rfl rfl rfl (by decide) rfl rfl (va_runV (As := [.int (u_5 + 1), .int 0]) (rest := []) ⟨hx, hb, hml, hown, hta⟩ (c_X1_put l dC dI cI H.size a0 u_4 (u_5 + 1) 0 u_6 hu_6) (cwV 2 hta (ga_V mA153 mA154 mA155 mA6 mA156) rfl rfl rfl (by decide +kernel) ⟨Nat.le_of_ble_eq_true rfl, Nat.le_of_ble_eq_true rfl⟩) ⟨q_fb, va_recv hK hP (ci := 1) (q0 := 0) rfl rfl, q_ps hPc hK hDc⟩ rfl rfl hl.1 rfl (lv_room (Nat.le_of_ble_eq_true rfl)) dX1_startSubpath_33 ⟨Nat.zero_le _, Nat.zero_le _⟩) (fun H locs hP hD hS => ?_)
  refine lv_aload_n hx hb dX1_startSubpath_36 rfl (lv_at hl 1 rfl) ?_
  refine lv_iload_n hx hb dX1_startSubpath_37 rfl (lv_at hl 2 rfl) ?_
  refine lv_iload_n hx hb dX1_startSubpath_38 rfl (lv_at hl 3 rfl) ?_
  obtain ⟨u_7, hu_7, hF⟩ := obd_some hF
  have hPc := hP.sub (ws' := (wd_X1_addPoint cI a0 u_6)) [0, 1] rfl
  have hDc := hD.sub (ws' := (wd_X1_addPoint cI a0 u_6)) [0, 1] rfl rfl
  refine q_callv (wc := (wd_X1_addPoint cI a0 u_6)) (w1 := (wd_X1_addPoint cI a0 u_7)) (ws' := (wd_X1_startSubpath cI a0 u_7)) hP hD hS hA [0, 1] [] [0, 1] rfl rfl rfl (by decide) rfl rfl (va_runV (As := [.int p1, .int p2]) (rest := []) ⟨hx, hb, hml, hown, hta⟩ (c_X1_addPoint l dC dI cI H.size a0 u_6 p1 p2 u_7 hu_7) (cwV 2 hta (ga_V mA160 mA161 mA162 mA6 mA163) rfl rfl rfl (by decide +kernel) ⟨Nat.le_of_ble_eq_true rfl, Nat.le_of_ble_eq_true rfl⟩) ⟨q_fb, va_recv hK hP (ci := 1) (q0 := 0) rfl rfl, q_ps hPc hK hDc⟩ rfl rfl hl.1 rfl (lv_room (Nat.le_of_ble_eq_true rfl)) dX1_startSubpath_39 ⟨Nat.zero_le _, Nat.zero_le _⟩) (fun H locs hP hD hS => ?_)
  obtain rfl := Option.some.inj hF
  exact W.vret hx hb hr (fun t ht hW => ⟨⟨(), rfl, trivial, by rw [ht]; exact hP, va_K.moved hW.alike hK, hD⟩, hS.F ht⟩) hS.2.2 dX1_startSubpath_42

-- StrokeOutliner$Drawing.isClosed(I)Z
def F_X1_isClosed_j28  : Option (Int32) :=
  some 0
def F_X1_isClosed (v0_0 : Nat → Int32) (p1 : Int32) : Option (Int32) :=
  obd (F_X1_cell v0_0 13) (fun u_1 => if u_1 ≤ p1 then F_X1_isClosed_j28 else lt (F_X1_cellOf p1) (fun u_3 => obd (F_X1_cell v0_0 (u_3 + 1)) (fun u_4 => if u_4 = 1 then some 1 else F_X1_isClosed_j28)))
abbrev wd_X1_isClosed (cI : ClassId) (a0 : Nat → Nat) (v0_0 : Nat → Int32) : va_W := [(a0 0, .inr (1, [.ref (a0 1)])), (a0 1, .inl (cI, 86, .inl v0_0))]
abbrev wz_X1_isClosed : List Cond := .code yX1_isClosed cX1_isClosed 2 (some .boolean) :: wALL
abbrev rm_X1_isClosed : Room := { frames := 1, cells := 0, slots := 0, locals := 21 }
abbrev Q_X1_isClosed (dC : Nat → ClassId) (dI : Nat → Nat → Nat) (cI : ClassId) (a0 : Nat → Nat) (v0_0 : Nat → Int32) (u : (Int32)) (A : Nat → Prop) : Array Value → State → Outcome → State → Prop := va_Qi (fun (r : Int32) (_ : Unit) => r = u ∧ (u = 0 ∨ u = 1)) (fun _ => q_at dC dI cI A (wd_X1_isClosed cI a0 v0_0)) A
set_option maxHeartbeats 4000000 in
set_option maxRecDepth 100000 in
theorem c_X1_isClosed (l : Launch) (dC : Nat → ClassId) (dI : Nat → Nat → Nat) (cI : ClassId) (sz : Nat) (a0 : Nat → Nat) (v0_0 : Nat → Int32) (p1 : Int32) (u : (Int32)) (hF : F_X1_isClosed v0_0 p1 = some u) : Met l yX1_isClosed wz_X1_isClosed rm_X1_isClosed (va_Pc [.ref (a0 0), .int p1] (q_pre dC dI cI (wd_X1_isClosed cI a0 v0_0) sz)) (Q_X1_isClosed dC dI cI a0 v0_0 u (va_A (wd_X1_isClosed cI a0 v0_0) sz)) 0 0 (va_A (wd_X1_isClosed cI a0 v0_0) sz) := by
  refine Met.ofW (cc := cX1_isClosed) (maxL := 2) (ret := (some .boolean)) (by decide) rfl ?_
  intro p e s m args below meth c s₁ B hml hv
  obtain ⟨rfl, hsz, hP, hK, hD0⟩ := hv
  have hx := B.exec
  have hb := B.bytes
  have hr := B.returns
  have hts := atoms_spec (ws := wz_X1_isClosed) B.pre
  have hta := wz_tl hts
  have hown : s.vm.findClass RX1 = some m.cls := findClass_of_methodNamed B.named
  have hlocks := B.notSynchronized
  subst hsz
  have hD := hD0.self (sz := s.heap.size)
  generalize hAe : va_A (wd_X1_isClosed cI a0 v0_0) s.heap.size = A at hD ⊢
  have hA : ∀ q : Nat, s.heap.size ≤ q → A q := fun q h => by rw [← hAe]; exact Or.inr h
  have hS : va_S A s.heap s.heap [] := va_S.rf
  have hP : va_P (dC, dI) vwCl (wd_X1_isClosed cI a0 v0_0) s.heap := hP
  have hl := lv_entry ([.ref (a0 0), .int p1]) (n := 2) (Nat.le_of_ble_eq_true rfl)
  rw [lg_entry_eq]
  generalize (lg_sl ([.ref (a0 0), .int p1]) ++ List.replicate (2 - (lg_sl ([.ref (a0 0), .int p1])).length) Slot.unset).toArray = ls at hl ⊢
  have hl : lv_has ls 2 [(0, .ref (a0 0)), (1, .int p1)] := hl
  obtain ⟨H, hHe⟩ : ∃ H, H = s.heap := ⟨_, rfl⟩
  have hS : va_S A s.heap H [] := by rw [hHe]; exact hS
  have hP : va_P (dC, dI) vwCl (wd_X1_isClosed cI a0 v0_0) H := by rw [hHe]; exact hP
  rw [← hHe]
  unfold F_X1_isClosed at hF
  have j28 : ∀ (_ : Unit), F_X1_isClosed_j28 = some u → ∀ (H : Heap) (locs : List Loc) (ls : Array Slot), va_P (dC, dI) vwCl (wd_X1_isClosed cI a0 v0_0) H → va_D A (wd_X1_isClosed cI a0 v0_0) → va_S A s.heap H locs → lv_has ls 2 [] → W p l e (headSpec wz_X1_isClosed rm_X1_isClosed).room s m [.ref (a0 0), .int p1].toArray below meth c H locs 0 0 (MQ below (Q_X1_isClosed dC dI cI a0 v0_0 u A) [.ref (a0 0), .int p1].toArray s 0 0 A) (F0 m 28 ls []) := by
    intro _ hF H locs ls hP hD hS hl
    unfold F_X1_isClosed_j28 at hF
    refine lv_iconst (v := 0) hx hb dX1_isClosed_28 (by decide) ?_
    obtain rfl := Option.some.inj hF
    exact W.zret (v := 0) (ty := .boolean) hx hb hr (z_nar (Or.inl rfl)) (fun t ht hW => ⟨⟨0, (), rfl, ⟨rfl, (Or.inl rfl)⟩, by rw [ht]; exact hP, va_K.moved hW.alike hK, hD⟩, hS.F ht⟩) hS.2.2 dX1_isClosed_29
  refine lv_iload_n hx hb dX1_isClosed_0 rfl (lv_at hl 1 rfl) ?_
  refine lv_aload_n hx hb dX1_isClosed_1 rfl (lv_at hl 0 rfl) ?_
  refine lv_bipush (v := 13) hx hb dX1_isClosed_2 (by decide) ?_
  obtain ⟨u_1, hu_1, hF⟩ := obd_some hF
  have hPc := hP.sub (ws' := (wd_X1_cell cI a0 v0_0)) [0, 1] rfl
  have hDc := hD.sub (ws' := (wd_X1_cell cI a0 v0_0)) [0, 1] rfl rfl
  refine q_calli (wc := (wd_X1_cell cI a0 v0_0)) (w1 := (wd_X1_cell cI a0 v0_0)) (ws' := (wd_X1_isClosed cI a0 v0_0)) hP hD hS hA [0, 1] [] [0, 1] rfl rfl rfl (by decide) rfl rfl (va_runV (As := [.int 13]) (rest := [.int p1]) ⟨hx, hb, hml, hown, hta⟩ (c_X1_cell l dC dI cI H.size a0 v0_0 13 u_1 hu_1) (cwV 1 hta (ga_V mA116 mA117 mA118 mA6 mA119) rfl rfl rfl (by decide +kernel) ⟨Nat.le_of_ble_eq_true rfl, Nat.le_of_ble_eq_true rfl⟩) ⟨q_fb, va_recv hK hP (ci := 1) (q0 := 0) rfl rfl, q_ps hPc hK hDc⟩ rfl rfl hl.1 rfl (lv_room (Nat.le_of_ble_eq_true rfl)) dX1_isClosed_4 ⟨Nat.zero_le _, Nat.zero_le _⟩) (fun H locs hP hD hS => ?_)
  refine lv_icmp_ge (tgt := 28) hx hb dX1_isClosed_7 (by decide) (fun c_2 => ?_) (fun c_2 => ?_)
  · have hF := it_t hF c_2
    exact j28 () hF _ _ _ hP hD hS (lv_sub hl [] rfl)
  · have hF := it_f hF c_2
    refine lv_aload_n hx hb dX1_isClosed_10 rfl (lv_at hl 0 rfl) ?_
    refine lv_iload_n hx hb dX1_isClosed_11 rfl (lv_at hl 1 rfl) ?_
    obtain ⟨u_3, hu_3, hF⟩ := lt_some hF
    have hPc := hP.sub (ws' := ([] : va_W)) [] rfl
    have hDc := hD.sub (ws' := ([] : va_W)) [] rfl rfl
    refine q_calli (wc := ([] : va_W)) (w1 := ([] : va_W)) (ws' := (wd_X1_isClosed cI a0 v0_0)) hP hD hS hA [] [0, 1] [0, 1] rfl rfl rfl (by decide) rfl rfl (va_runS (As := [.int p1]) (rest := [.ref (a0 0)]) ⟨hx, hb, hml, hown, hta⟩ (c_X1_cellOf l dC dI cI H.size p1 u_3 hu_3.symm) (va_cwS 1 hta (ga_S mA157 mA158 mA6 mA159) rfl rfl rfl (by decide +kernel) ⟨Nat.le_of_ble_eq_true rfl, Nat.le_of_ble_eq_true rfl⟩) ⟨q_fb, q_ps hPc hK hDc⟩ rfl rfl hl.1 rfl (lv_room (Nat.le_of_ble_eq_true rfl)) dX1_isClosed_12 ⟨Nat.zero_le _, Nat.zero_le _⟩) (fun H locs hP hD hS => ?_)
    refine lv_iconst (v := 1) hx hb dX1_isClosed_15 (by decide) ?_
    refine lv_iadd hx hb dX1_isClosed_16 ?_
    obtain ⟨u_4, hu_4, hF⟩ := obd_some hF
    have hPc := hP.sub (ws' := (wd_X1_cell cI a0 v0_0)) [0, 1] rfl
    have hDc := hD.sub (ws' := (wd_X1_cell cI a0 v0_0)) [0, 1] rfl rfl
    refine q_calli (wc := (wd_X1_cell cI a0 v0_0)) (w1 := (wd_X1_cell cI a0 v0_0)) (ws' := (wd_X1_isClosed cI a0 v0_0)) hP hD hS hA [0, 1] [] [0, 1] rfl rfl rfl (by decide) rfl rfl (va_runV (As := [.int (u_3 + 1)]) (rest := []) ⟨hx, hb, hml, hown, hta⟩ (c_X1_cell l dC dI cI H.size a0 v0_0 (u_3 + 1) u_4 hu_4) (cwV 1 hta (ga_V mA116 mA117 mA118 mA6 mA119) rfl rfl rfl (by decide +kernel) ⟨Nat.le_of_ble_eq_true rfl, Nat.le_of_ble_eq_true rfl⟩) ⟨q_fb, va_recv hK hP (ci := 1) (q0 := 0) rfl rfl, q_ps hPc hK hDc⟩ rfl rfl hl.1 rfl (lv_room (Nat.le_of_ble_eq_true rfl)) dX1_isClosed_17 ⟨Nat.zero_le _, Nat.zero_le _⟩) (fun H locs hP hD hS => ?_)
    refine lv_iconst (v := 1) hx hb dX1_isClosed_20 (by decide) ?_
    refine lv_icmp_ne (tgt := 28) hx hb dX1_isClosed_21 (by decide) (fun c_5 => ?_) (fun c_5 => ?_)
    · have hF := it_f hF c_5
      exact j28 () hF _ _ _ hP hD hS (lv_sub hl [] rfl)
    · have hF := it_t hF c_5
      refine lv_iconst (v := 1) hx hb dX1_isClosed_24 (by decide) ?_
      refine lv_goto (tgt := 29) hx hb dX1_isClosed_25 (by decide) ?_
      obtain rfl := Option.some.inj hF
      exact W.zret (v := 1) (ty := .boolean) hx hb hr (z_nar (Or.inr rfl)) (fun t ht hW => ⟨⟨1, (), rfl, ⟨rfl, (Or.inr rfl)⟩, by rw [ht]; exact hP, va_K.moved hW.alike hK, hD⟩, hS.F ht⟩) hS.2.2 dX1_isClosed_29

-- StrokeOutliner$Drawing.closeLast()V
def F_X1_closeLast (v0_0 : Nat → Int32) : Option ((Nat → Int32)) :=
  obd (F_X1_lastSubpath v0_0) (fun u_1 => lt (F_X1_cellOf u_1) (fun u_2 => obd (F_X1_put v0_0 (u_2 + 1) 1) (fun u_3 => some u_3)))
abbrev wd_X1_closeLast (cI : ClassId) (a0 : Nat → Nat) (v0_0 : Nat → Int32) : va_W := [(a0 0, .inr (1, [.ref (a0 1)])), (a0 1, .inl (cI, 86, .inl v0_0))]
abbrev wz_X1_closeLast : List Cond := .code yX1_closeLast cX1_closeLast 1 none :: wALL
abbrev rm_X1_closeLast : Room := { frames := 2, cells := 0, slots := 0, locals := 41 }
abbrev Q_X1_closeLast (dC : Nat → ClassId) (dI : Nat → Nat → Nat) (cI : ClassId) (a0 : Nat → Nat) (u : ((Nat → Int32))) (A : Nat → Prop) : Array Value → State → Outcome → State → Prop := va_Qv (fun (_ : Unit) => True) (fun _ => q_at dC dI cI A (wd_X1_closeLast cI a0 u)) A
set_option maxHeartbeats 4000000 in
set_option maxRecDepth 100000 in
theorem c_X1_closeLast (l : Launch) (dC : Nat → ClassId) (dI : Nat → Nat → Nat) (cI : ClassId) (sz : Nat) (a0 : Nat → Nat) (v0_0 : Nat → Int32) (u : ((Nat → Int32))) (hF : F_X1_closeLast v0_0 = some u) : Met l yX1_closeLast wz_X1_closeLast rm_X1_closeLast (va_Pc [.ref (a0 0)] (q_pre dC dI cI (wd_X1_closeLast cI a0 v0_0) sz)) (Q_X1_closeLast dC dI cI a0 u (va_A (wd_X1_closeLast cI a0 v0_0) sz)) 0 0 (va_A (wd_X1_closeLast cI a0 v0_0) sz) := by
  refine Met.ofW (cc := cX1_closeLast) (maxL := 1) (ret := none) (by decide) rfl ?_
  intro p e s m args below meth c s₁ B hml hv
  obtain ⟨rfl, hsz, hP, hK, hD0⟩ := hv
  have hx := B.exec
  have hb := B.bytes
  have hr := B.returns
  have hts := atoms_spec (ws := wz_X1_closeLast) B.pre
  have hta := wz_tl hts
  have hown : s.vm.findClass RX1 = some m.cls := findClass_of_methodNamed B.named
  have hlocks := B.notSynchronized
  subst hsz
  have hD := hD0.self (sz := s.heap.size)
  generalize hAe : va_A (wd_X1_closeLast cI a0 v0_0) s.heap.size = A at hD ⊢
  have hA : ∀ q : Nat, s.heap.size ≤ q → A q := fun q h => by rw [← hAe]; exact Or.inr h
  have hS : va_S A s.heap s.heap [] := va_S.rf
  have hP : va_P (dC, dI) vwCl (wd_X1_closeLast cI a0 v0_0) s.heap := hP
  have hl := lv_entry ([.ref (a0 0)]) (n := 1) (Nat.le_of_ble_eq_true rfl)
  rw [lg_entry_eq]
  generalize (lg_sl ([.ref (a0 0)]) ++ List.replicate (1 - (lg_sl ([.ref (a0 0)])).length) Slot.unset).toArray = ls at hl ⊢
  have hl : lv_has ls 1 [(0, .ref (a0 0))] := hl
  obtain ⟨H, hHe⟩ : ∃ H, H = s.heap := ⟨_, rfl⟩
  have hS : va_S A s.heap H [] := by rw [hHe]; exact hS
  have hP : va_P (dC, dI) vwCl (wd_X1_closeLast cI a0 v0_0) H := by rw [hHe]; exact hP
  rw [← hHe]
  unfold F_X1_closeLast at hF
  refine lv_aload_n hx hb dX1_closeLast_0 rfl (lv_at hl 0 rfl) ?_
  refine lv_aload_n hx hb dX1_closeLast_1 rfl (lv_at hl 0 rfl) ?_
  obtain ⟨u_1, hu_1, hF⟩ := obd_some hF
  have hPc := hP.sub (ws' := (wd_X1_lastSubpath cI a0 v0_0)) [0, 1] rfl
  have hDc := hD.sub (ws' := (wd_X1_lastSubpath cI a0 v0_0)) [0, 1] rfl rfl
  refine q_calli (wc := (wd_X1_lastSubpath cI a0 v0_0)) (w1 := (wd_X1_lastSubpath cI a0 v0_0)) (ws' := (wd_X1_closeLast cI a0 v0_0)) hP hD hS hA [0, 1] [] [0, 1] rfl rfl rfl (by decide) rfl rfl (va_runV (As := []) (rest := [.ref (a0 0)]) ⟨hx, hb, hml, hown, hta⟩ (c_X1_lastSubpath l dC dI cI H.size a0 v0_0 u_1 hu_1) (cwV 0 hta (ga_V mA164 mA165 mA166 mA6 mA167) rfl rfl rfl (by decide +kernel) ⟨Nat.le_of_ble_eq_true rfl, Nat.le_of_ble_eq_true rfl⟩) ⟨q_fb, va_recv hK hP (ci := 1) (q0 := 0) rfl rfl, q_ps hPc hK hDc⟩ rfl rfl hl.1 rfl (lv_room (Nat.le_of_ble_eq_true rfl)) dX1_closeLast_2 ⟨Nat.zero_le _, Nat.zero_le _⟩) (fun H locs hP hD hS => ?_)
  obtain ⟨u_2, hu_2, hF⟩ := lt_some hF
  have hPc := hP.sub (ws' := ([] : va_W)) [] rfl
  have hDc := hD.sub (ws' := ([] : va_W)) [] rfl rfl
  refine q_calli (wc := ([] : va_W)) (w1 := ([] : va_W)) (ws' := (wd_X1_closeLast cI a0 v0_0)) hP hD hS hA [] [0, 1] [0, 1] rfl rfl rfl (by decide) rfl rfl (va_runS (As := [.int u_1]) (rest := [.ref (a0 0)]) ⟨hx, hb, hml, hown, hta⟩ (c_X1_cellOf l dC dI cI H.size u_1 u_2 hu_2.symm) (va_cwS 1 hta (ga_S mA157 mA158 mA6 mA159) rfl rfl rfl (by decide +kernel) ⟨Nat.le_of_ble_eq_true rfl, Nat.le_of_ble_eq_true rfl⟩) ⟨q_fb, q_ps hPc hK hDc⟩ rfl rfl hl.1 rfl (lv_room (Nat.le_of_ble_eq_true rfl)) dX1_closeLast_5 ⟨Nat.zero_le _, Nat.zero_le _⟩) (fun H locs hP hD hS => ?_)
  refine lv_iconst (v := 1) hx hb dX1_closeLast_8 (by decide) ?_
  refine lv_iadd hx hb dX1_closeLast_9 ?_
  refine lv_iconst (v := 1) hx hb dX1_closeLast_10 (by decide) ?_
  obtain ⟨u_3, hu_3, hF⟩ := obd_some hF
  have hPc := hP.sub (ws' := (wd_X1_put cI a0 v0_0)) [0, 1] rfl
  have hDc := hD.sub (ws' := (wd_X1_put cI a0 v0_0)) [0, 1] rfl rfl
  refine q_callv (wc := (wd_X1_put cI a0 v0_0)) (w1 := (wd_X1_put cI a0 u_3)) (ws' := (wd_X1_closeLast cI a0 u_3)) hP hD hS hA [0, 1] [] [0, 1] rfl rfl rfl (by decide) rfl rfl (va_runV (As := [.int (u_2 + 1), .int 1]) (rest := []) ⟨hx, hb, hml, hown, hta⟩ (c_X1_put l dC dI cI H.size a0 v0_0 (u_2 + 1) 1 u_3 hu_3) (cwV 2 hta (ga_V mA153 mA154 mA155 mA6 mA156) rfl rfl rfl (by decide +kernel) ⟨Nat.le_of_ble_eq_true rfl, Nat.le_of_ble_eq_true rfl⟩) ⟨q_fb, va_recv hK hP (ci := 1) (q0 := 0) rfl rfl, q_ps hPc hK hDc⟩ rfl rfl hl.1 rfl (lv_room (Nat.le_of_ble_eq_true rfl)) dX1_closeLast_11 ⟨Nat.zero_le _, Nat.zero_le _⟩) (fun H locs hP hD hS => ?_)
  obtain rfl := Option.some.inj hF
  exact W.vret hx hb hr (fun t ht hW => ⟨⟨(), rfl, trivial, by rw [ht]; exact hP, va_K.moved hW.alike hK, hD⟩, hS.F ht⟩) hS.2.2 dX1_closeLast_14

-- StrokeOutliner$Drawing.halfWidth()I
def F_X1_halfWidth (v0_0 : Nat → Int32) : Option (Int32) :=
  obd (F_X1_cell v0_0 0) (fun u_1 => some (32 * u_1))
abbrev wd_X1_halfWidth (cI : ClassId) (a0 : Nat → Nat) (v0_0 : Nat → Int32) : va_W := [(a0 0, .inr (1, [.ref (a0 1)])), (a0 1, .inl (cI, 86, .inl v0_0))]
abbrev wz_X1_halfWidth : List Cond := .code yX1_halfWidth cX1_halfWidth 1 (some .int) :: wALL
abbrev rm_X1_halfWidth : Room := { frames := 1, cells := 0, slots := 0, locals := 21 }
abbrev Q_X1_halfWidth (dC : Nat → ClassId) (dI : Nat → Nat → Nat) (cI : ClassId) (a0 : Nat → Nat) (v0_0 : Nat → Int32) (u : (Int32)) (A : Nat → Prop) : Array Value → State → Outcome → State → Prop := va_Qi (fun (r : Int32) (_ : Unit) => r = u) (fun _ => q_at dC dI cI A (wd_X1_halfWidth cI a0 v0_0)) A
set_option maxHeartbeats 4000000 in
set_option maxRecDepth 100000 in
theorem c_X1_halfWidth (l : Launch) (dC : Nat → ClassId) (dI : Nat → Nat → Nat) (cI : ClassId) (sz : Nat) (a0 : Nat → Nat) (v0_0 : Nat → Int32) (u : (Int32)) (hF : F_X1_halfWidth v0_0 = some u) : Met l yX1_halfWidth wz_X1_halfWidth rm_X1_halfWidth (va_Pc [.ref (a0 0)] (q_pre dC dI cI (wd_X1_halfWidth cI a0 v0_0) sz)) (Q_X1_halfWidth dC dI cI a0 v0_0 u (va_A (wd_X1_halfWidth cI a0 v0_0) sz)) 0 0 (va_A (wd_X1_halfWidth cI a0 v0_0) sz) := by
  refine Met.ofW (cc := cX1_halfWidth) (maxL := 1) (ret := (some .int)) (by decide) rfl ?_
  intro p e s m args below meth c s₁ B hml hv
  obtain ⟨rfl, hsz, hP, hK, hD0⟩ := hv
  have hx := B.exec
  have hb := B.bytes
  have hr := B.returns
  have hts := atoms_spec (ws := wz_X1_halfWidth) B.pre
  have hta := wz_tl hts
  have hown : s.vm.findClass RX1 = some m.cls := findClass_of_methodNamed B.named
  have hlocks := B.notSynchronized
  subst hsz
  have hD := hD0.self (sz := s.heap.size)
  generalize hAe : va_A (wd_X1_halfWidth cI a0 v0_0) s.heap.size = A at hD ⊢
  have hA : ∀ q : Nat, s.heap.size ≤ q → A q := fun q h => by rw [← hAe]; exact Or.inr h
  have hS : va_S A s.heap s.heap [] := va_S.rf
  have hP : va_P (dC, dI) vwCl (wd_X1_halfWidth cI a0 v0_0) s.heap := hP
  have hl := lv_entry ([.ref (a0 0)]) (n := 1) (Nat.le_of_ble_eq_true rfl)
  rw [lg_entry_eq]
  generalize (lg_sl ([.ref (a0 0)]) ++ List.replicate (1 - (lg_sl ([.ref (a0 0)])).length) Slot.unset).toArray = ls at hl ⊢
  have hl : lv_has ls 1 [(0, .ref (a0 0))] := hl
  obtain ⟨H, hHe⟩ : ∃ H, H = s.heap := ⟨_, rfl⟩
  have hS : va_S A s.heap H [] := by rw [hHe]; exact hS
  have hP : va_P (dC, dI) vwCl (wd_X1_halfWidth cI a0 v0_0) H := by rw [hHe]; exact hP
  rw [← hHe]
  unfold F_X1_halfWidth at hF
  refine lv_bipush (v := 32) hx hb dX1_halfWidth_0 (by decide) ?_
  refine lv_aload_n hx hb dX1_halfWidth_2 rfl (lv_at hl 0 rfl) ?_
  refine lv_iconst (v := 0) hx hb dX1_halfWidth_3 (by decide) ?_
  obtain ⟨u_1, hu_1, hF⟩ := obd_some hF
  have hPc := hP.sub (ws' := (wd_X1_cell cI a0 v0_0)) [0, 1] rfl
  have hDc := hD.sub (ws' := (wd_X1_cell cI a0 v0_0)) [0, 1] rfl rfl
  refine q_calli (wc := (wd_X1_cell cI a0 v0_0)) (w1 := (wd_X1_cell cI a0 v0_0)) (ws' := (wd_X1_halfWidth cI a0 v0_0)) hP hD hS hA [0, 1] [] [0, 1] rfl rfl rfl (by decide) rfl rfl (va_runV (As := [.int 0]) (rest := [.int 32]) ⟨hx, hb, hml, hown, hta⟩ (c_X1_cell l dC dI cI H.size a0 v0_0 0 u_1 hu_1) (cwV 1 hta (ga_V mA116 mA117 mA118 mA6 mA119) rfl rfl rfl (by decide +kernel) ⟨Nat.le_of_ble_eq_true rfl, Nat.le_of_ble_eq_true rfl⟩) ⟨q_fb, va_recv hK hP (ci := 1) (q0 := 0) rfl rfl, q_ps hPc hK hDc⟩ rfl rfl hl.1 rfl (lv_room (Nat.le_of_ble_eq_true rfl)) dX1_halfWidth_4 ⟨Nat.zero_le _, Nat.zero_le _⟩) (fun H locs hP hD hS => ?_)
  refine lv_imul hx hb dX1_halfWidth_7 ?_
  obtain rfl := Option.some.inj hF
  exact W.iret (v := (32 * u_1)) hx hb hr (fun t ht hW => ⟨⟨(32 * u_1), (), rfl, rfl, by rw [ht]; exact hP, va_K.moved hW.alike hK, hD⟩, hS.F ht⟩) hS.2.2 dX1_halfWidth_8

-- StrokeOutliner$Drawing.xOf(II)I
def F_X1_xOf (v0_0 : Nat → Int32) (p1 : Int32) (p2 : Int32) : Option (Int32) :=
  lt (F_X1_pointCell p1 p2) (fun u_1 => obd (F_X1_cell v0_0 u_1) (fun u_2 => some u_2))
abbrev wd_X1_xOf (cI : ClassId) (a0 : Nat → Nat) (v0_0 : Nat → Int32) : va_W := [(a0 0, .inr (1, [.ref (a0 1)])), (a0 1, .inl (cI, 86, .inl v0_0))]
abbrev wz_X1_xOf : List Cond := .code yX1_xOf cX1_xOf 3 (some .int) :: wALL
abbrev rm_X1_xOf : Room := { frames := 1, cells := 0, slots := 0, locals := 21 }
abbrev Q_X1_xOf (dC : Nat → ClassId) (dI : Nat → Nat → Nat) (cI : ClassId) (a0 : Nat → Nat) (v0_0 : Nat → Int32) (u : (Int32)) (A : Nat → Prop) : Array Value → State → Outcome → State → Prop := va_Qi (fun (r : Int32) (_ : Unit) => r = u) (fun _ => q_at dC dI cI A (wd_X1_xOf cI a0 v0_0)) A
set_option maxHeartbeats 4000000 in
set_option maxRecDepth 100000 in
theorem c_X1_xOf (l : Launch) (dC : Nat → ClassId) (dI : Nat → Nat → Nat) (cI : ClassId) (sz : Nat) (a0 : Nat → Nat) (v0_0 : Nat → Int32) (p1 : Int32) (p2 : Int32) (u : (Int32)) (hF : F_X1_xOf v0_0 p1 p2 = some u) : Met l yX1_xOf wz_X1_xOf rm_X1_xOf (va_Pc [.ref (a0 0), .int p1, .int p2] (q_pre dC dI cI (wd_X1_xOf cI a0 v0_0) sz)) (Q_X1_xOf dC dI cI a0 v0_0 u (va_A (wd_X1_xOf cI a0 v0_0) sz)) 0 0 (va_A (wd_X1_xOf cI a0 v0_0) sz) := by
  refine Met.ofW (cc := cX1_xOf) (maxL := 3) (ret := (some .int)) (by decide) rfl ?_
  intro p e s m args below meth c s₁ B hml hv
  obtain ⟨rfl, hsz, hP, hK, hD0⟩ := hv
  have hx := B.exec
  have hb := B.bytes
  have hr := B.returns
  have hts := atoms_spec (ws := wz_X1_xOf) B.pre
  have hta := wz_tl hts
  have hown : s.vm.findClass RX1 = some m.cls := findClass_of_methodNamed B.named
  have hlocks := B.notSynchronized
  subst hsz
  have hD := hD0.self (sz := s.heap.size)
  generalize hAe : va_A (wd_X1_xOf cI a0 v0_0) s.heap.size = A at hD ⊢
  have hA : ∀ q : Nat, s.heap.size ≤ q → A q := fun q h => by rw [← hAe]; exact Or.inr h
  have hS : va_S A s.heap s.heap [] := va_S.rf
  have hP : va_P (dC, dI) vwCl (wd_X1_xOf cI a0 v0_0) s.heap := hP
  have hl := lv_entry ([.ref (a0 0), .int p1, .int p2]) (n := 3) (Nat.le_of_ble_eq_true rfl)
  rw [lg_entry_eq]
  generalize (lg_sl ([.ref (a0 0), .int p1, .int p2]) ++ List.replicate (3 - (lg_sl ([.ref (a0 0), .int p1, .int p2])).length) Slot.unset).toArray = ls at hl ⊢
  have hl : lv_has ls 3 [(0, .ref (a0 0)), (1, .int p1), (2, .int p2)] := hl
  obtain ⟨H, hHe⟩ : ∃ H, H = s.heap := ⟨_, rfl⟩
  have hS : va_S A s.heap H [] := by rw [hHe]; exact hS
  have hP : va_P (dC, dI) vwCl (wd_X1_xOf cI a0 v0_0) H := by rw [hHe]; exact hP
  rw [← hHe]
  unfold F_X1_xOf at hF
  refine lv_aload_n hx hb dX1_xOf_0 rfl (lv_at hl 0 rfl) ?_
  refine lv_iload_n hx hb dX1_xOf_1 rfl (lv_at hl 1 rfl) ?_
  refine lv_iload_n hx hb dX1_xOf_2 rfl (lv_at hl 2 rfl) ?_
  obtain ⟨u_1, hu_1, hF⟩ := lt_some hF
  have hPc := hP.sub (ws' := ([] : va_W)) [] rfl
  have hDc := hD.sub (ws' := ([] : va_W)) [] rfl rfl
  refine q_calli (wc := ([] : va_W)) (w1 := ([] : va_W)) (ws' := (wd_X1_xOf cI a0 v0_0)) hP hD hS hA [] [0, 1] [0, 1] rfl rfl rfl (by decide) rfl rfl (va_runS (As := [.int p1, .int p2]) (rest := [.ref (a0 0)]) ⟨hx, hb, hml, hown, hta⟩ (c_X1_pointCell l dC dI cI H.size p1 p2 u_1 hu_1.symm) (va_cwS 2 hta (ga_S mA176 mA177 mA6 mA178) rfl rfl rfl (by decide +kernel) ⟨Nat.le_of_ble_eq_true rfl, Nat.le_of_ble_eq_true rfl⟩) ⟨q_fb, q_ps hPc hK hDc⟩ rfl rfl hl.1 rfl (lv_room (Nat.le_of_ble_eq_true rfl)) dX1_xOf_3 ⟨Nat.zero_le _, Nat.zero_le _⟩) (fun H locs hP hD hS => ?_)
  obtain ⟨u_2, hu_2, hF⟩ := obd_some hF
  have hPc := hP.sub (ws' := (wd_X1_cell cI a0 v0_0)) [0, 1] rfl
  have hDc := hD.sub (ws' := (wd_X1_cell cI a0 v0_0)) [0, 1] rfl rfl
  refine q_calli (wc := (wd_X1_cell cI a0 v0_0)) (w1 := (wd_X1_cell cI a0 v0_0)) (ws' := (wd_X1_xOf cI a0 v0_0)) hP hD hS hA [0, 1] [] [0, 1] rfl rfl rfl (by decide) rfl rfl (va_runV (As := [.int u_1]) (rest := []) ⟨hx, hb, hml, hown, hta⟩ (c_X1_cell l dC dI cI H.size a0 v0_0 u_1 u_2 hu_2) (cwV 1 hta (ga_V mA116 mA117 mA118 mA6 mA119) rfl rfl rfl (by decide +kernel) ⟨Nat.le_of_ble_eq_true rfl, Nat.le_of_ble_eq_true rfl⟩) ⟨q_fb, va_recv hK hP (ci := 1) (q0 := 0) rfl rfl, q_ps hPc hK hDc⟩ rfl rfl hl.1 rfl (lv_room (Nat.le_of_ble_eq_true rfl)) dX1_xOf_6 ⟨Nat.zero_le _, Nat.zero_le _⟩) (fun H locs hP hD hS => ?_)
  obtain rfl := Option.some.inj hF
  exact W.iret (v := u_2) hx hb hr (fun t ht hW => ⟨⟨u_2, (), rfl, rfl, by rw [ht]; exact hP, va_K.moved hW.alike hK, hD⟩, hS.F ht⟩) hS.2.2 dX1_xOf_9

-- StrokeOutliner$Drawing.yOf(II)I
def F_X1_yOf (v0_0 : Nat → Int32) (p1 : Int32) (p2 : Int32) : Option (Int32) :=
  lt (F_X1_pointCell p1 p2) (fun u_1 => obd (F_X1_cell v0_0 (u_1 + 1)) (fun u_2 => some u_2))
abbrev wd_X1_yOf (cI : ClassId) (a0 : Nat → Nat) (v0_0 : Nat → Int32) : va_W := [(a0 0, .inr (1, [.ref (a0 1)])), (a0 1, .inl (cI, 86, .inl v0_0))]
abbrev wz_X1_yOf : List Cond := .code yX1_yOf cX1_yOf 3 (some .int) :: wALL
abbrev rm_X1_yOf : Room := { frames := 1, cells := 0, slots := 0, locals := 21 }
abbrev Q_X1_yOf (dC : Nat → ClassId) (dI : Nat → Nat → Nat) (cI : ClassId) (a0 : Nat → Nat) (v0_0 : Nat → Int32) (u : (Int32)) (A : Nat → Prop) : Array Value → State → Outcome → State → Prop := va_Qi (fun (r : Int32) (_ : Unit) => r = u) (fun _ => q_at dC dI cI A (wd_X1_yOf cI a0 v0_0)) A
set_option maxHeartbeats 4000000 in
set_option maxRecDepth 100000 in
theorem c_X1_yOf (l : Launch) (dC : Nat → ClassId) (dI : Nat → Nat → Nat) (cI : ClassId) (sz : Nat) (a0 : Nat → Nat) (v0_0 : Nat → Int32) (p1 : Int32) (p2 : Int32) (u : (Int32)) (hF : F_X1_yOf v0_0 p1 p2 = some u) : Met l yX1_yOf wz_X1_yOf rm_X1_yOf (va_Pc [.ref (a0 0), .int p1, .int p2] (q_pre dC dI cI (wd_X1_yOf cI a0 v0_0) sz)) (Q_X1_yOf dC dI cI a0 v0_0 u (va_A (wd_X1_yOf cI a0 v0_0) sz)) 0 0 (va_A (wd_X1_yOf cI a0 v0_0) sz) := by
  refine Met.ofW (cc := cX1_yOf) (maxL := 3) (ret := (some .int)) (by decide) rfl ?_
  intro p e s m args below meth c s₁ B hml hv
  obtain ⟨rfl, hsz, hP, hK, hD0⟩ := hv
  have hx := B.exec
  have hb := B.bytes
  have hr := B.returns
  have hts := atoms_spec (ws := wz_X1_yOf) B.pre
  have hta := wz_tl hts
  have hown : s.vm.findClass RX1 = some m.cls := findClass_of_methodNamed B.named
  have hlocks := B.notSynchronized
  subst hsz
  have hD := hD0.self (sz := s.heap.size)
  generalize hAe : va_A (wd_X1_yOf cI a0 v0_0) s.heap.size = A at hD ⊢
  have hA : ∀ q : Nat, s.heap.size ≤ q → A q := fun q h => by rw [← hAe]; exact Or.inr h
  have hS : va_S A s.heap s.heap [] := va_S.rf
  have hP : va_P (dC, dI) vwCl (wd_X1_yOf cI a0 v0_0) s.heap := hP
  have hl := lv_entry ([.ref (a0 0), .int p1, .int p2]) (n := 3) (Nat.le_of_ble_eq_true rfl)
  rw [lg_entry_eq]
  generalize (lg_sl ([.ref (a0 0), .int p1, .int p2]) ++ List.replicate (3 - (lg_sl ([.ref (a0 0), .int p1, .int p2])).length) Slot.unset).toArray = ls at hl ⊢
  have hl : lv_has ls 3 [(0, .ref (a0 0)), (1, .int p1), (2, .int p2)] := hl
  obtain ⟨H, hHe⟩ : ∃ H, H = s.heap := ⟨_, rfl⟩
  have hS : va_S A s.heap H [] := by rw [hHe]; exact hS
  have hP : va_P (dC, dI) vwCl (wd_X1_yOf cI a0 v0_0) H := by rw [hHe]; exact hP
  rw [← hHe]
  unfold F_X1_yOf at hF
  refine lv_aload_n hx hb dX1_yOf_0 rfl (lv_at hl 0 rfl) ?_
  refine lv_iload_n hx hb dX1_yOf_1 rfl (lv_at hl 1 rfl) ?_
  refine lv_iload_n hx hb dX1_yOf_2 rfl (lv_at hl 2 rfl) ?_
  obtain ⟨u_1, hu_1, hF⟩ := lt_some hF
  have hPc := hP.sub (ws' := ([] : va_W)) [] rfl
  have hDc := hD.sub (ws' := ([] : va_W)) [] rfl rfl
  refine q_calli (wc := ([] : va_W)) (w1 := ([] : va_W)) (ws' := (wd_X1_yOf cI a0 v0_0)) hP hD hS hA [] [0, 1] [0, 1] rfl rfl rfl (by decide) rfl rfl (va_runS (As := [.int p1, .int p2]) (rest := [.ref (a0 0)]) ⟨hx, hb, hml, hown, hta⟩ (c_X1_pointCell l dC dI cI H.size p1 p2 u_1 hu_1.symm) (va_cwS 2 hta (ga_S mA176 mA177 mA6 mA178) rfl rfl rfl (by decide +kernel) ⟨Nat.le_of_ble_eq_true rfl, Nat.le_of_ble_eq_true rfl⟩) ⟨q_fb, q_ps hPc hK hDc⟩ rfl rfl hl.1 rfl (lv_room (Nat.le_of_ble_eq_true rfl)) dX1_yOf_3 ⟨Nat.zero_le _, Nat.zero_le _⟩) (fun H locs hP hD hS => ?_)
  refine lv_iconst (v := 1) hx hb dX1_yOf_6 (by decide) ?_
  refine lv_iadd hx hb dX1_yOf_7 ?_
  obtain ⟨u_2, hu_2, hF⟩ := obd_some hF
  have hPc := hP.sub (ws' := (wd_X1_cell cI a0 v0_0)) [0, 1] rfl
  have hDc := hD.sub (ws' := (wd_X1_cell cI a0 v0_0)) [0, 1] rfl rfl
  refine q_calli (wc := (wd_X1_cell cI a0 v0_0)) (w1 := (wd_X1_cell cI a0 v0_0)) (ws' := (wd_X1_yOf cI a0 v0_0)) hP hD hS hA [0, 1] [] [0, 1] rfl rfl rfl (by decide) rfl rfl (va_runV (As := [.int (u_1 + 1)]) (rest := []) ⟨hx, hb, hml, hown, hta⟩ (c_X1_cell l dC dI cI H.size a0 v0_0 (u_1 + 1) u_2 hu_2) (cwV 1 hta (ga_V mA116 mA117 mA118 mA6 mA119) rfl rfl rfl (by decide +kernel) ⟨Nat.le_of_ble_eq_true rfl, Nat.le_of_ble_eq_true rfl⟩) ⟨q_fb, va_recv hK hP (ci := 1) (q0 := 0) rfl rfl, q_ps hPc hK hDc⟩ rfl rfl hl.1 rfl (lv_room (Nat.le_of_ble_eq_true rfl)) dX1_yOf_8 ⟨Nat.zero_le _, Nat.zero_le _⟩) (fun H locs hP hD hS => ?_)
  obtain rfl := Option.some.inj hF
  exact W.iret (v := u_2) hx hb hr (fun t ht hW => ⟨⟨u_2, (), rfl, rfl, by rw [ht]; exact hP, va_K.moved hW.alike hK, hD⟩, hS.F ht⟩) hS.2.2 dX1_yOf_11

-- StrokeOutliner$Drawing.dropSubpath(I)V
def F_X1_dropSubpath_j37 (v0_0 : Nat → Int32) (x2 : Int32) : Option ((Nat → Int32)) :=
  obd (F_X1_put v0_0 13 x2) (fun u_1 => some u_1)
def F_X1_dropSubpath_b10 (x2 : Int32) (s10 : Int32 × (Nat → Int32)) : Option (Sum (Int32 × (Nat → Int32)) ((Nat → Int32))) :=
  lt (F_X1_cellOf x2) (fun u_2 => if u_2 ≤ s10.1 then some (.inr s10.2) else obd (F_X1_cell s10.2 (s10.1 + 18)) (fun u_4 => obd (F_X1_put s10.2 s10.1 u_4) (fun u_5 => lt (s10.1 + 1) (fun y_6 => some (.inl (y_6, u_5))))))
def F_X1_dropSubpath_j10 (n : Nat) (v0_0 : Nat → Int32) (x2 : Int32) (x3 : Int32) : Option ((Nat → Int32)) :=
  obd (lpq (F_X1_dropSubpath_b10 x2) n (x3, v0_0)) (fun x_10 => F_X1_dropSubpath_j37 x_10 x2)
def F_X1_dropSubpath (n : Nat) (v0_0 : Nat → Int32) (p1 : Int32) : Option ((Nat → Int32)) :=
  obd (F_X1_lastSubpath v0_0) (fun u_7 => lt (F_X1_cellOf p1) (fun u_8 => F_X1_dropSubpath_j10 n v0_0 u_7 u_8))
abbrev wd_X1_dropSubpath (cI : ClassId) (a0 : Nat → Nat) (v0_0 : Nat → Int32) : va_W := [(a0 0, .inr (1, [.ref (a0 1)])), (a0 1, .inl (cI, 86, .inl v0_0))]
abbrev wz_X1_dropSubpath : List Cond := .code yX1_dropSubpath cX1_dropSubpath 4 none :: wALL
abbrev rm_X1_dropSubpath : Room := { frames := 2, cells := 0, slots := 0, locals := 41 }
abbrev Q_X1_dropSubpath (dC : Nat → ClassId) (dI : Nat → Nat → Nat) (cI : ClassId) (a0 : Nat → Nat) (u : ((Nat → Int32))) (A : Nat → Prop) : Array Value → State → Outcome → State → Prop := va_Qv (fun (_ : Unit) => True) (fun _ => q_at dC dI cI A (wd_X1_dropSubpath cI a0 u)) A
set_option maxHeartbeats 4000000 in
set_option maxRecDepth 100000 in
theorem c_X1_dropSubpath (l : Launch) (dC : Nat → ClassId) (dI : Nat → Nat → Nat) (cI : ClassId) (sz : Nat) (a0 : Nat → Nat) (v0_0 : Nat → Int32) (p1 : Int32) (n : Nat) (u : ((Nat → Int32))) (hF : F_X1_dropSubpath n v0_0 p1 = some u) : Met l yX1_dropSubpath wz_X1_dropSubpath rm_X1_dropSubpath (va_Pc [.ref (a0 0), .int p1] (q_pre dC dI cI (wd_X1_dropSubpath cI a0 v0_0) sz)) (Q_X1_dropSubpath dC dI cI a0 u (va_A (wd_X1_dropSubpath cI a0 v0_0) sz)) 0 0 (va_A (wd_X1_dropSubpath cI a0 v0_0) sz) := by
  refine Met.ofW (cc := cX1_dropSubpath) (maxL := 4) (ret := none) (by decide) rfl ?_
  intro p e s m args below meth c s₁ B hml hv
  obtain ⟨rfl, hsz, hP, hK, hD0⟩ := hv
  have hx := B.exec
  have hb := B.bytes
  have hr := B.returns
  have hts := atoms_spec (ws := wz_X1_dropSubpath) B.pre
  have hta := wz_tl hts
  have hown : s.vm.findClass RX1 = some m.cls := findClass_of_methodNamed B.named
  have hlocks := B.notSynchronized
  subst hsz
  have hD := hD0.self (sz := s.heap.size)
  generalize hAe : va_A (wd_X1_dropSubpath cI a0 v0_0) s.heap.size = A at hD ⊢
  have hA : ∀ q : Nat, s.heap.size ≤ q → A q := fun q h => by rw [← hAe]; exact Or.inr h
  have hS : va_S A s.heap s.heap [] := va_S.rf
  have hP : va_P (dC, dI) vwCl (wd_X1_dropSubpath cI a0 v0_0) s.heap := hP
  have hl := lv_entry ([.ref (a0 0), .int p1]) (n := 4) (Nat.le_of_ble_eq_true rfl)
  rw [lg_entry_eq]
  generalize (lg_sl ([.ref (a0 0), .int p1]) ++ List.replicate (4 - (lg_sl ([.ref (a0 0), .int p1])).length) Slot.unset).toArray = ls at hl ⊢
  have hl : lv_has ls 4 [(0, .ref (a0 0)), (1, .int p1)] := hl
  obtain ⟨H, hHe⟩ : ∃ H, H = s.heap := ⟨_, rfl⟩
  have hS : va_S A s.heap H [] := by rw [hHe]; exact hS
  have hP : va_P (dC, dI) vwCl (wd_X1_dropSubpath cI a0 v0_0) H := by rw [hHe]; exact hP
  rw [← hHe]
  unfold F_X1_dropSubpath at hF
  have j37 : ∀ (v0_0 : Nat → Int32) (x2 : Int32), F_X1_dropSubpath_j37 v0_0 x2 = some u → ∀ (H : Heap) (locs : List Loc) (ls : Array Slot), va_P (dC, dI) vwCl (wd_X1_dropSubpath cI a0 v0_0) H → va_D A (wd_X1_dropSubpath cI a0 v0_0) → va_S A s.heap H locs → lv_has ls 4 [(0, .ref (a0 0)), (2, .int x2)] → W p l e (headSpec wz_X1_dropSubpath rm_X1_dropSubpath).room s m [.ref (a0 0), .int p1].toArray below meth c H locs 0 0 (MQ below (Q_X1_dropSubpath dC dI cI a0 u A) [.ref (a0 0), .int p1].toArray s 0 0 A) (F0 m 37 ls []) := by
    intro v0_0 x2 hF H locs ls hP hD hS hl
    unfold F_X1_dropSubpath_j37 at hF
    refine lv_aload_n hx hb dX1_dropSubpath_37 rfl (lv_at hl 0 rfl) ?_
    refine lv_bipush (v := 13) hx hb dX1_dropSubpath_38 (by decide) ?_
    refine lv_iload_n hx hb dX1_dropSubpath_40 rfl (lv_at hl 1 rfl) ?_
    obtain ⟨u_1, hu_1, hF⟩ := obd_some hF
    have hPc := hP.sub (ws' := (wd_X1_put cI a0 v0_0)) [0, 1] rfl
    have hDc := hD.sub (ws' := (wd_X1_put cI a0 v0_0)) [0, 1] rfl rfl
    refine q_callv (wc := (wd_X1_put cI a0 v0_0)) (w1 := (wd_X1_put cI a0 u_1)) (ws' := (wd_X1_dropSubpath cI a0 u_1)) hP hD hS hA [0, 1] [] [0, 1] rfl rfl rfl (by decide) rfl rfl (va_runV (As := [.int 13, .int x2]) (rest := []) ⟨hx, hb, hml, hown, hta⟩ (c_X1_put l dC dI cI H.size a0 v0_0 13 x2 u_1 hu_1) (cwV 2 hta (ga_V mA153 mA154 mA155 mA6 mA156) rfl rfl rfl (by decide +kernel) ⟨Nat.le_of_ble_eq_true rfl, Nat.le_of_ble_eq_true rfl⟩) ⟨q_fb, va_recv hK hP (ci := 1) (q0 := 0) rfl rfl, q_ps hPc hK hDc⟩ rfl rfl hl.1 rfl (lv_room (Nat.le_of_ble_eq_true rfl)) dX1_dropSubpath_41 ⟨Nat.zero_le _, Nat.zero_le _⟩) (fun H locs hP hD hS => ?_)
    obtain rfl := Option.some.inj hF
    exact W.vret hx hb hr (fun t ht hW => ⟨⟨(), rfl, trivial, by rw [ht]; exact hP, va_K.moved hW.alike hK, hD⟩, hS.F ht⟩) hS.2.2 dX1_dropSubpath_44
  have j10 : ∀ (v0_0 : Nat → Int32) (x2 : Int32) (x3 : Int32), F_X1_dropSubpath_j10 n v0_0 x2 x3 = some u → ∀ (H : Heap) (locs : List Loc) (ls : Array Slot), va_P (dC, dI) vwCl (wd_X1_dropSubpath cI a0 v0_0) H → va_D A (wd_X1_dropSubpath cI a0 v0_0) → va_S A s.heap H locs → lv_has ls 4 [(0, .ref (a0 0)), (2, .int x2), (3, .int x3)] → W p l e (headSpec wz_X1_dropSubpath rm_X1_dropSubpath).room s m [.ref (a0 0), .int p1].toArray below meth c H locs 0 0 (MQ below (Q_X1_dropSubpath dC dI cI a0 u A) [.ref (a0 0), .int p1].toArray s 0 0 A) (F0 m 10 ls []) := by
    intro v0_0 x2 x3 hF H locs ls hP hD hS hl
    unfold F_X1_dropSubpath_j10 at hF
    obtain ⟨x_10, hL_10, hE_10⟩ := obd_some hF
    have kl_10 : ∀ (k : Nat) (s10 : Int32 × (Nat → Int32)), lpq (F_X1_dropSubpath_b10 x2) k s10 = some x_10 → ∀ (H : Heap) (locs : List Loc) (ls : Array Slot), va_P (dC, dI) vwCl (wd_X1_dropSubpath cI a0 s10.2) H → va_D A (wd_X1_dropSubpath cI a0 s10.2) → va_S A s.heap H locs → lv_has ls 4 [(0, .ref (a0 0)), (2, .int x2), (3, .int s10.1)] → W p l e (headSpec wz_X1_dropSubpath rm_X1_dropSubpath).room s m [.ref (a0 0), .int p1].toArray below meth c H locs 0 0 (MQ below (Q_X1_dropSubpath dC dI cI a0 u A) [.ref (a0 0), .int p1].toArray s 0 0 A) (F0 m 10 ls []) := by
      intro k
      induction k with
      | zero => intro s10 h; exact absurd h lpq_zero
      | succ k ih_10 =>
        intro s10 h H locs ls hP hD hS hl
        obtain ⟨o_10, hF, hO_10⟩ := lpq_succ h
        unfold F_X1_dropSubpath_b10 at hF
        refine lv_iload_n hx hb dX1_dropSubpath_10 rfl (lv_at hl 2 rfl) ?_
        refine lv_iload_n hx hb dX1_dropSubpath_11 rfl (lv_at hl 1 rfl) ?_
        obtain ⟨u_2, hu_2, hF⟩ := lt_some hF
        have hPc := hP.sub (ws' := ([] : va_W)) [] rfl
        have hDc := hD.sub (ws' := ([] : va_W)) [] rfl rfl
        refine q_calli (wc := ([] : va_W)) (w1 := ([] : va_W)) (ws' := (wd_X1_dropSubpath cI a0 s10.2)) hP hD hS hA [] [0, 1] [0, 1] rfl rfl rfl (by decide) rfl rfl (va_runS (As := [.int x2]) (rest := [.int s10.1]) ⟨hx, hb, hml, hown, hta⟩ (c_X1_cellOf l dC dI cI H.size x2 u_2 hu_2.symm) (va_cwS 1 hta (ga_S mA157 mA158 mA6 mA159) rfl rfl rfl (by decide +kernel) ⟨Nat.le_of_ble_eq_true rfl, Nat.le_of_ble_eq_true rfl⟩) ⟨q_fb, q_ps hPc hK hDc⟩ rfl rfl hl.1 rfl (lv_room (Nat.le_of_ble_eq_true rfl)) dX1_dropSubpath_12 ⟨Nat.zero_le _, Nat.zero_le _⟩) (fun H locs hP hD hS => ?_)
        refine lv_icmp_ge (tgt := 37) hx hb dX1_dropSubpath_15 (by decide) (fun c_3 => ?_) (fun c_3 => ?_)
        · have hF := it_t hF c_3
          obtain rfl := Option.some.inj hF
          obtain rfl := lpq_x hO_10
          have hF := hE_10
          exact j37 s10.2 x2 hF _ _ _ hP hD hS (lv_sub hl [0, 1] rfl)
        · have hF := it_f hF c_3
          refine lv_aload_n hx hb dX1_dropSubpath_18 rfl (lv_at hl 0 rfl) ?_
          refine lv_iload_n hx hb dX1_dropSubpath_19 rfl (lv_at hl 2 rfl) ?_
          refine lv_aload_n hx hb dX1_dropSubpath_20 rfl (lv_at hl 0 rfl) ?_
          refine lv_iload_n hx hb dX1_dropSubpath_21 rfl (lv_at hl 2 rfl) ?_
          refine lv_bipush (v := 18) hx hb dX1_dropSubpath_22 (by decide) ?_
          refine lv_iadd hx hb dX1_dropSubpath_24 ?_
          obtain ⟨u_4, hu_4, hF⟩ := obd_some hF
          have hPc := hP.sub (ws' := (wd_X1_cell cI a0 s10.2)) [0, 1] rfl
          have hDc := hD.sub (ws' := (wd_X1_cell cI a0 s10.2)) [0, 1] rfl rfl
          refine q_calli (wc := (wd_X1_cell cI a0 s10.2)) (w1 := (wd_X1_cell cI a0 s10.2)) (ws' := (wd_X1_dropSubpath cI a0 s10.2)) hP hD hS hA [0, 1] [] [0, 1] rfl rfl rfl (by decide) rfl rfl (va_runV (As := [.int (s10.1 + 18)]) (rest := [.int s10.1, .ref (a0 0)]) ⟨hx, hb, hml, hown, hta⟩ (c_X1_cell l dC dI cI H.size a0 s10.2 (s10.1 + 18) u_4 hu_4) (cwV 1 hta (ga_V mA116 mA117 mA118 mA6 mA119) rfl rfl rfl (by decide +kernel) ⟨Nat.le_of_ble_eq_true rfl, Nat.le_of_ble_eq_true rfl⟩) ⟨q_fb, va_recv hK hP (ci := 1) (q0 := 0) rfl rfl, q_ps hPc hK hDc⟩ rfl rfl hl.1 rfl (lv_room (Nat.le_of_ble_eq_true rfl)) dX1_dropSubpath_25 ⟨Nat.zero_le _, Nat.zero_le _⟩) (fun H locs hP hD hS => ?_)
          obtain ⟨u_5, hu_5, hF⟩ := obd_some hF
          have hPc := hP.sub (ws' := (wd_X1_put cI a0 s10.2)) [0, 1] rfl
          have hDc := hD.sub (ws' := (wd_X1_put cI a0 s10.2)) [0, 1] rfl rfl
          refine q_callv (wc := (wd_X1_put cI a0 s10.2)) (w1 := (wd_X1_put cI a0 u_5)) (ws' := (wd_X1_dropSubpath cI a0 u_5)) hP hD hS hA [0, 1] [] [0, 1] rfl rfl rfl (by decide) rfl rfl (va_runV (As := [.int s10.1, .int u_4]) (rest := []) ⟨hx, hb, hml, hown, hta⟩ (c_X1_put l dC dI cI H.size a0 s10.2 s10.1 u_4 u_5 hu_5) (cwV 2 hta (ga_V mA153 mA154 mA155 mA6 mA156) rfl rfl rfl (by decide +kernel) ⟨Nat.le_of_ble_eq_true rfl, Nat.le_of_ble_eq_true rfl⟩) ⟨q_fb, va_recv hK hP (ci := 1) (q0 := 0) rfl rfl, q_ps hPc hK hDc⟩ rfl rfl hl.1 rfl (lv_room (Nat.le_of_ble_eq_true rfl)) dX1_dropSubpath_28 ⟨Nat.zero_le _, Nat.zero_le _⟩) (fun H locs hP hD hS => ?_)
          obtain ⟨y_6, ey_6, hF⟩ := lt_some hF
          refine lv_iinc (v := y_6) (lv' := [(3, .int y_6), (0, .ref (a0 0)), (2, .int x2)]) hx hb dX1_dropSubpath_31 hl (k := 2) rfl (by rw [ey_6]; rfl) (by decide) rfl (fun ls hl => ?_)
          refine lv_goto (tgt := 10) hx hb dX1_dropSubpath_34 (by decide) ?_
          obtain rfl := Option.some.inj hF
          exact ih_10 _ hO_10 _ _ _ hP hD hS (lv_sub hl [1, 2, 0] rfl)
    exact kl_10 n _ hL_10 _ _ _ hP hD hS hl
  refine lv_aload_n hx hb dX1_dropSubpath_0 rfl (lv_at hl 0 rfl) ?_
  obtain ⟨u_7, hu_7, hF⟩ := obd_some hF
  have hPc := hP.sub (ws' := (wd_X1_lastSubpath cI a0 v0_0)) [0, 1] rfl
  have hDc := hD.sub (ws' := (wd_X1_lastSubpath cI a0 v0_0)) [0, 1] rfl rfl
  refine q_calli (wc := (wd_X1_lastSubpath cI a0 v0_0)) (w1 := (wd_X1_lastSubpath cI a0 v0_0)) (ws' := (wd_X1_dropSubpath cI a0 v0_0)) hP hD hS hA [0, 1] [] [0, 1] rfl rfl rfl (by decide) rfl rfl (va_runV (As := []) (rest := []) ⟨hx, hb, hml, hown, hta⟩ (c_X1_lastSubpath l dC dI cI H.size a0 v0_0 u_7 hu_7) (cwV 0 hta (ga_V mA164 mA165 mA166 mA6 mA167) rfl rfl rfl (by decide +kernel) ⟨Nat.le_of_ble_eq_true rfl, Nat.le_of_ble_eq_true rfl⟩) ⟨q_fb, va_recv hK hP (ci := 1) (q0 := 0) rfl rfl, q_ps hPc hK hDc⟩ rfl rfl hl.1 rfl (lv_room (Nat.le_of_ble_eq_true rfl)) dX1_dropSubpath_1 ⟨Nat.zero_le _, Nat.zero_le _⟩) (fun H locs hP hD hS => ?_)
  refine lv_istore_n (lv' := [(2, .int u_7), (0, .ref (a0 0)), (1, .int p1)]) hx hb dX1_dropSubpath_4 rfl hl (by decide) rfl (fun ls hl => ?_)
  refine lv_iload_n hx hb dX1_dropSubpath_5 rfl (lv_at hl 2 rfl) ?_
  obtain ⟨u_8, hu_8, hF⟩ := lt_some hF
  have hPc := hP.sub (ws' := ([] : va_W)) [] rfl
  have hDc := hD.sub (ws' := ([] : va_W)) [] rfl rfl
  refine q_calli (wc := ([] : va_W)) (w1 := ([] : va_W)) (ws' := (wd_X1_dropSubpath cI a0 v0_0)) hP hD hS hA [] [0, 1] [0, 1] rfl rfl rfl (by decide) rfl rfl (va_runS (As := [.int p1]) (rest := []) ⟨hx, hb, hml, hown, hta⟩ (c_X1_cellOf l dC dI cI H.size p1 u_8 hu_8.symm) (va_cwS 1 hta (ga_S mA157 mA158 mA6 mA159) rfl rfl rfl (by decide +kernel) ⟨Nat.le_of_ble_eq_true rfl, Nat.le_of_ble_eq_true rfl⟩) ⟨q_fb, q_ps hPc hK hDc⟩ rfl rfl hl.1 rfl (lv_room (Nat.le_of_ble_eq_true rfl)) dX1_dropSubpath_6 ⟨Nat.zero_le _, Nat.zero_le _⟩) (fun H locs hP hD hS => ?_)
  refine lv_istore_n (lv' := [(3, .int u_8), (2, .int u_7), (0, .ref (a0 0)), (1, .int p1)]) hx hb dX1_dropSubpath_9 rfl hl (by decide) rfl (fun ls hl => ?_)
  exact j10 v0_0 u_7 u_8 hF _ _ _ hP hD hS (lv_sub hl [2, 1, 0] rfl)

-- StrokeOutliner$Drawing.turnAround(I)V
def F_X1_turnAround_b10 (x1 : Int32) (s10 : Int32 × Int32 × (Nat → Int32)) : Option (Sum (Int32 × Int32 × (Nat → Int32)) ((Nat → Int32))) :=
  if s10.2.1 ≤ s10.1 then some (.inr s10.2.2) else obd (F_X1_xOf s10.2.2 x1 s10.1) (fun u_2 => obd (F_X1_yOf s10.2.2 x1 s10.1) (fun u_3 => obd (F_X1_xOf s10.2.2 x1 s10.2.1) (fun u_4 => obd (F_X1_yOf s10.2.2 x1 s10.2.1) (fun u_5 => obd (F_X1_putPoint s10.2.2 x1 s10.1 u_4 u_5) (fun u_6 => obd (F_X1_putPoint u_6 x1 s10.2.1 u_2 u_3) (fun u_7 => lt (s10.1 + 1) (fun y_8 => lt (s10.2.1 + (-1)) (fun y_9 => some (.inl (y_8, y_9, u_7))))))))))
def F_X1_turnAround_j10 (n : Nat) (v0_0 : Nat → Int32) (x1 : Int32) (x2 : Int32) (x3 : Int32) : Option ((Nat → Int32)) :=
  obd (lpq (F_X1_turnAround_b10 x1) n (x2, x3, v0_0)) (fun x_10 => some x_10)
def F_X1_turnAround (n : Nat) (v0_0 : Nat → Int32) (p1 : Int32) : Option ((Nat → Int32)) :=
  obd (F_X1_pointCount v0_0 p1) (fun u_10 => lt (u_10 - 1) (fun y_11 => F_X1_turnAround_j10 n v0_0 p1 0 y_11))
abbrev wd_X1_turnAround (cI : ClassId) (a0 : Nat → Nat) (v0_0 : Nat → Int32) : va_W := [(a0 0, .inr (1, [.ref (a0 1)])), (a0 1, .inl (cI, 86, .inl v0_0))]
abbrev wz_X1_turnAround : List Cond := .code yX1_turnAround cX1_turnAround 6 none :: wALL
abbrev rm_X1_turnAround : Room := { frames := 2, cells := 0, slots := 0, locals := 46 }
abbrev Q_X1_turnAround (dC : Nat → ClassId) (dI : Nat → Nat → Nat) (cI : ClassId) (a0 : Nat → Nat) (u : ((Nat → Int32))) (A : Nat → Prop) : Array Value → State → Outcome → State → Prop := va_Qv (fun (_ : Unit) => True) (fun _ => q_at dC dI cI A (wd_X1_turnAround cI a0 u)) A
set_option maxHeartbeats 4000000 in
set_option maxRecDepth 100000 in
theorem c_X1_turnAround (l : Launch) (dC : Nat → ClassId) (dI : Nat → Nat → Nat) (cI : ClassId) (sz : Nat) (a0 : Nat → Nat) (v0_0 : Nat → Int32) (p1 : Int32) (n : Nat) (u : ((Nat → Int32))) (hF : F_X1_turnAround n v0_0 p1 = some u) : Met l yX1_turnAround wz_X1_turnAround rm_X1_turnAround (va_Pc [.ref (a0 0), .int p1] (q_pre dC dI cI (wd_X1_turnAround cI a0 v0_0) sz)) (Q_X1_turnAround dC dI cI a0 u (va_A (wd_X1_turnAround cI a0 v0_0) sz)) 0 0 (va_A (wd_X1_turnAround cI a0 v0_0) sz) := by
  refine Met.ofW (cc := cX1_turnAround) (maxL := 6) (ret := none) (by decide) rfl ?_
  intro p e s m args below meth c s₁ B hml hv
  obtain ⟨rfl, hsz, hP, hK, hD0⟩ := hv
  have hx := B.exec
  have hb := B.bytes
  have hr := B.returns
  have hts := atoms_spec (ws := wz_X1_turnAround) B.pre
  have hta := wz_tl hts
  have hown : s.vm.findClass RX1 = some m.cls := findClass_of_methodNamed B.named
  have hlocks := B.notSynchronized
  subst hsz
  have hD := hD0.self (sz := s.heap.size)
  generalize hAe : va_A (wd_X1_turnAround cI a0 v0_0) s.heap.size = A at hD ⊢
  have hA : ∀ q : Nat, s.heap.size ≤ q → A q := fun q h => by rw [← hAe]; exact Or.inr h
  have hS : va_S A s.heap s.heap [] := va_S.rf
  have hP : va_P (dC, dI) vwCl (wd_X1_turnAround cI a0 v0_0) s.heap := hP
  have hl := lv_entry ([.ref (a0 0), .int p1]) (n := 6) (Nat.le_of_ble_eq_true rfl)
  rw [lg_entry_eq]
  generalize (lg_sl ([.ref (a0 0), .int p1]) ++ List.replicate (6 - (lg_sl ([.ref (a0 0), .int p1])).length) Slot.unset).toArray = ls at hl ⊢
  have hl : lv_has ls 6 [(0, .ref (a0 0)), (1, .int p1)] := hl
  obtain ⟨H, hHe⟩ : ∃ H, H = s.heap := ⟨_, rfl⟩
  have hS : va_S A s.heap H [] := by rw [hHe]; exact hS
  have hP : va_P (dC, dI) vwCl (wd_X1_turnAround cI a0 v0_0) H := by rw [hHe]; exact hP
  rw [← hHe]
  unfold F_X1_turnAround at hF
  have j10 : ∀ (v0_0 : Nat → Int32) (x1 : Int32) (x2 : Int32) (x3 : Int32), F_X1_turnAround_j10 n v0_0 x1 x2 x3 = some u → ∀ (H : Heap) (locs : List Loc) (ls : Array Slot), va_P (dC, dI) vwCl (wd_X1_turnAround cI a0 v0_0) H → va_D A (wd_X1_turnAround cI a0 v0_0) → va_S A s.heap H locs → lv_has ls 6 [(0, .ref (a0 0)), (1, .int x1), (2, .int x2), (3, .int x3)] → W p l e (headSpec wz_X1_turnAround rm_X1_turnAround).room s m [.ref (a0 0), .int p1].toArray below meth c H locs 0 0 (MQ below (Q_X1_turnAround dC dI cI a0 u A) [.ref (a0 0), .int p1].toArray s 0 0 A) (F0 m 10 ls []) := by
    intro v0_0 x1 x2 x3 hF H locs ls hP hD hS hl
    unfold F_X1_turnAround_j10 at hF
    obtain ⟨x_10, hL_10, hE_10⟩ := obd_some hF
    have kl_10 : ∀ (k : Nat) (s10 : Int32 × Int32 × (Nat → Int32)), lpq (F_X1_turnAround_b10 x1) k s10 = some x_10 → ∀ (H : Heap) (locs : List Loc) (ls : Array Slot), va_P (dC, dI) vwCl (wd_X1_turnAround cI a0 s10.2.2) H → va_D A (wd_X1_turnAround cI a0 s10.2.2) → va_S A s.heap H locs → lv_has ls 6 [(0, .ref (a0 0)), (1, .int x1), (2, .int s10.1), (3, .int s10.2.1)] → W p l e (headSpec wz_X1_turnAround rm_X1_turnAround).room s m [.ref (a0 0), .int p1].toArray below meth c H locs 0 0 (MQ below (Q_X1_turnAround dC dI cI a0 u A) [.ref (a0 0), .int p1].toArray s 0 0 A) (F0 m 10 ls []) := by
      intro k
      induction k with
      | zero => intro s10 h; exact absurd h lpq_zero
      | succ k ih_10 =>
        intro s10 h H locs ls hP hD hS hl
        obtain ⟨o_10, hF, hO_10⟩ := lpq_succ h
        unfold F_X1_turnAround_b10 at hF
        refine lv_iload_n hx hb dX1_turnAround_10 rfl (lv_at hl 3 rfl) ?_
        refine lv_iload_n hx hb dX1_turnAround_11 rfl (lv_at hl 2 rfl) ?_
        refine lv_icmp_le (tgt := 68) hx hb dX1_turnAround_12 (by decide) (fun c_1 => ?_) (fun c_1 => ?_)
        · have hF := it_t hF c_1
          obtain rfl := Option.some.inj hF
          obtain rfl := lpq_x hO_10
          have hF := hE_10
          obtain rfl := Option.some.inj hF
          exact W.vret hx hb hr (fun t ht hW => ⟨⟨(), rfl, trivial, by rw [ht]; exact hP, va_K.moved hW.alike hK, hD⟩, hS.F ht⟩) hS.2.2 dX1_turnAround_68
        · have hF := it_f hF c_1
          refine lv_aload_n hx hb dX1_turnAround_15 rfl (lv_at hl 0 rfl) ?_
          refine lv_iload_n hx hb dX1_turnAround_16 rfl (lv_at hl 1 rfl) ?_
          refine lv_iload_n hx hb dX1_turnAround_17 rfl (lv_at hl 2 rfl) ?_
          obtain ⟨u_2, hu_2, hF⟩ := obd_some hF
          have hPc := hP.sub (ws' := (wd_X1_xOf cI a0 s10.2.2)) [0, 1] rfl
          have hDc := hD.sub (ws' := (wd_X1_xOf cI a0 s10.2.2)) [0, 1] rfl rfl
          refine q_calli (wc := (wd_X1_xOf cI a0 s10.2.2)) (w1 := (wd_X1_xOf cI a0 s10.2.2)) (ws' := (wd_X1_turnAround cI a0 s10.2.2)) hP hD hS hA [0, 1] [] [0, 1] rfl rfl rfl (by decide) rfl rfl (va_runV (As := [.int x1, .int s10.1]) (rest := []) ⟨hx, hb, hml, hown, hta⟩ (c_X1_xOf l dC dI cI H.size a0 s10.2.2 x1 s10.1 u_2 hu_2) (cwV 2 hta (ga_V mA258 mA208 mA209 mA6 mA210) rfl rfl rfl (by decide +kernel) ⟨Nat.le_of_ble_eq_true rfl, Nat.le_of_ble_eq_true rfl⟩) ⟨q_fb, va_recv hK hP (ci := 1) (q0 := 0) rfl rfl, q_ps hPc hK hDc⟩ rfl rfl hl.1 rfl (lv_room (Nat.le_of_ble_eq_true rfl)) dX1_turnAround_18 ⟨Nat.zero_le _, Nat.zero_le _⟩) (fun H locs hP hD hS => ?_)
          refine lv_istore (lv' := [(4, .int u_2), (0, .ref (a0 0)), (1, .int x1), (2, .int s10.1), (3, .int s10.2.1)]) hx hb dX1_turnAround_21 hl (by decide) rfl (fun ls hl => ?_)
          refine lv_aload_n hx hb dX1_turnAround_23 rfl (lv_at hl 1 rfl) ?_
          refine lv_iload_n hx hb dX1_turnAround_24 rfl (lv_at hl 2 rfl) ?_
          refine lv_iload_n hx hb dX1_turnAround_25 rfl (lv_at hl 3 rfl) ?_
          obtain ⟨u_3, hu_3, hF⟩ := obd_some hF
          have hPc := hP.sub (ws' := (wd_X1_yOf cI a0 s10.2.2)) [0, 1] rfl
          have hDc := hD.sub (ws' := (wd_X1_yOf cI a0 s10.2.2)) [0, 1] rfl rfl
          refine q_calli (wc := (wd_X1_yOf cI a0 s10.2.2)) (w1 := (wd_X1_yOf cI a0 s10.2.2)) (ws' := (wd_X1_turnAround cI a0 s10.2.2)) hP hD hS hA [0, 1] [] [0, 1] rfl rfl rfl (by decide) rfl rfl (va_runV (As := [.int x1, .int s10.1]) (rest := []) ⟨hx, hb, hml, hown, hta⟩ (c_X1_yOf l dC dI cI H.size a0 s10.2.2 x1 s10.1 u_3 hu_3) (cwV 2 hta (ga_V mA259 mA212 mA213 mA6 mA214) rfl rfl rfl (by decide +kernel) ⟨Nat.le_of_ble_eq_true rfl, Nat.le_of_ble_eq_true rfl⟩) ⟨q_fb, va_recv hK hP (ci := 1) (q0 := 0) rfl rfl, q_ps hPc hK hDc⟩ rfl rfl hl.1 rfl (lv_room (Nat.le_of_ble_eq_true rfl)) dX1_turnAround_26 ⟨Nat.zero_le _, Nat.zero_le _⟩) (fun H locs hP hD hS => ?_)
          refine lv_istore (lv' := [(5, .int u_3), (4, .int u_2), (0, .ref (a0 0)), (1, .int x1), (2, .int s10.1), (3, .int s10.2.1)]) hx hb dX1_turnAround_29 hl (by decide) rfl (fun ls hl => ?_)
          refine lv_aload_n hx hb dX1_turnAround_31 rfl (lv_at hl 2 rfl) ?_
          refine lv_iload_n hx hb dX1_turnAround_32 rfl (lv_at hl 3 rfl) ?_
          refine lv_iload_n hx hb dX1_turnAround_33 rfl (lv_at hl 4 rfl) ?_
          refine lv_aload_n hx hb dX1_turnAround_34 rfl (lv_at hl 2 rfl) ?_
          refine lv_iload_n hx hb dX1_turnAround_35 rfl (lv_at hl 3 rfl) ?_
          refine lv_iload_n hx hb dX1_turnAround_36 rfl (lv_at hl 5 rfl) ?_
          obtain ⟨u_4, hu_4, hF⟩ := obd_some hF
          have hPc := hP.sub (ws' := (wd_X1_xOf cI a0 s10.2.2)) [0, 1] rfl
          have hDc := hD.sub (ws' := (wd_X1_xOf cI a0 s10.2.2)) [0, 1] rfl rfl
          refine q_calli (wc := (wd_X1_xOf cI a0 s10.2.2)) (w1 := (wd_X1_xOf cI a0 s10.2.2)) (ws' := (wd_X1_turnAround cI a0 s10.2.2)) hP hD hS hA [0, 1] [] [0, 1] rfl rfl rfl (by decide) rfl rfl (va_runV (As := [.int x1, .int s10.2.1]) (rest := [.int s10.1, .int x1, .ref (a0 0)]) ⟨hx, hb, hml, hown, hta⟩ (c_X1_xOf l dC dI cI H.size a0 s10.2.2 x1 s10.2.1 u_4 hu_4) (cwV 2 hta (ga_V mA258 mA208 mA209 mA6 mA210) rfl rfl rfl (by decide +kernel) ⟨Nat.le_of_ble_eq_true rfl, Nat.le_of_ble_eq_true rfl⟩) ⟨q_fb, va_recv hK hP (ci := 1) (q0 := 0) rfl rfl, q_ps hPc hK hDc⟩ rfl rfl hl.1 rfl (lv_room (Nat.le_of_ble_eq_true rfl)) dX1_turnAround_37 ⟨Nat.zero_le _, Nat.zero_le _⟩) (fun H locs hP hD hS => ?_)
          refine lv_aload_n hx hb dX1_turnAround_40 rfl (lv_at hl 2 rfl) ?_
          refine lv_iload_n hx hb dX1_turnAround_41 rfl (lv_at hl 3 rfl) ?_
          refine lv_iload_n hx hb dX1_turnAround_42 rfl (lv_at hl 5 rfl) ?_
          obtain ⟨u_5, hu_5, hF⟩ := obd_some hF
          have hPc := hP.sub (ws' := (wd_X1_yOf cI a0 s10.2.2)) [0, 1] rfl
          have hDc := hD.sub (ws' := (wd_X1_yOf cI a0 s10.2.2)) [0, 1] rfl rfl
          refine q_calli (wc := (wd_X1_yOf cI a0 s10.2.2)) (w1 := (wd_X1_yOf cI a0 s10.2.2)) (ws' := (wd_X1_turnAround cI a0 s10.2.2)) hP hD hS hA [0, 1] [] [0, 1] rfl rfl rfl (by decide) rfl rfl (va_runV (As := [.int x1, .int s10.2.1]) (rest := [.int u_4, .int s10.1, .int x1, .ref (a0 0)]) ⟨hx, hb, hml, hown, hta⟩ (c_X1_yOf l dC dI cI H.size a0 s10.2.2 x1 s10.2.1 u_5 hu_5) (cwV 2 hta (ga_V mA259 mA212 mA213 mA6 mA214) rfl rfl rfl (by decide +kernel) ⟨Nat.le_of_ble_eq_true rfl, Nat.le_of_ble_eq_true rfl⟩) ⟨q_fb, va_recv hK hP (ci := 1) (q0 := 0) rfl rfl, q_ps hPc hK hDc⟩ rfl rfl hl.1 rfl (lv_room (Nat.le_of_ble_eq_true rfl)) dX1_turnAround_43 ⟨Nat.zero_le _, Nat.zero_le _⟩) (fun H locs hP hD hS => ?_)
          obtain ⟨u_6, hu_6, hF⟩ := obd_some hF
          have hPc := hP.sub (ws' := (wd_X1_putPoint cI a0 s10.2.2)) [0, 1] rfl
          have hDc := hD.sub (ws' := (wd_X1_putPoint cI a0 s10.2.2)) [0, 1] rfl rfl
          refine q_callv (wc := (wd_X1_putPoint cI a0 s10.2.2)) (w1 := (wd_X1_putPoint cI a0 u_6)) (ws' := (wd_X1_turnAround cI a0 u_6)) hP hD hS hA [0, 1] [] [0, 1] rfl rfl rfl (by decide) rfl rfl (va_runV (As := [.int x1, .int s10.1, .int u_4, .int u_5]) (rest := []) ⟨hx, hb, hml, hown, hta⟩ (c_X1_putPoint l dC dI cI H.size a0 s10.2.2 x1 s10.1 u_4 u_5 u_6 hu_6) (cwV 4 hta (ga_V mA172 mA173 mA174 mA6 mA175) rfl rfl rfl (by decide +kernel) ⟨Nat.le_of_ble_eq_true rfl, Nat.le_of_ble_eq_true rfl⟩) ⟨q_fb, va_recv hK hP (ci := 1) (q0 := 0) rfl rfl, q_ps hPc hK hDc⟩ rfl rfl hl.1 rfl (lv_room (Nat.le_of_ble_eq_true rfl)) dX1_turnAround_46 ⟨Nat.zero_le _, Nat.zero_le _⟩) (fun H locs hP hD hS => ?_)
          refine lv_aload_n hx hb dX1_turnAround_49 rfl (lv_at hl 2 rfl) ?_
          refine lv_iload_n hx hb dX1_turnAround_50 rfl (lv_at hl 3 rfl) ?_
          refine lv_iload_n hx hb dX1_turnAround_51 rfl (lv_at hl 5 rfl) ?_
          refine lv_iload hx hb dX1_turnAround_52 (lv_at hl 1 rfl) ?_
          refine lv_iload hx hb dX1_turnAround_54 (lv_at hl 0 rfl) ?_
          obtain ⟨u_7, hu_7, hF⟩ := obd_some hF
          have hPc := hP.sub (ws' := (wd_X1_putPoint cI a0 u_6)) [0, 1] rfl
          have hDc := hD.sub (ws' := (wd_X1_putPoint cI a0 u_6)) [0, 1] rfl rfl
          refine q_callv (wc := (wd_X1_putPoint cI a0 u_6)) (w1 := (wd_X1_putPoint cI a0 u_7)) (ws' := (wd_X1_turnAround cI a0 u_7)) hP hD hS hA [0, 1] [] [0, 1] rfl rfl rfl (by decide) rfl rfl (va_runV (As := [.int x1, .int s10.2.1, .int u_2, .int u_3]) (rest := []) ⟨hx, hb, hml, hown, hta⟩ (c_X1_putPoint l dC dI cI H.size a0 u_6 x1 s10.2.1 u_2 u_3 u_7 hu_7) (cwV 4 hta (ga_V mA172 mA173 mA174 mA6 mA175) rfl rfl rfl (by decide +kernel) ⟨Nat.le_of_ble_eq_true rfl, Nat.le_of_ble_eq_true rfl⟩) ⟨q_fb, va_recv hK hP (ci := 1) (q0 := 0) rfl rfl, q_ps hPc hK hDc⟩ rfl rfl hl.1 rfl (lv_room (Nat.le_of_ble_eq_true rfl)) dX1_turnAround_56 ⟨Nat.zero_le _, Nat.zero_le _⟩) (fun H locs hP hD hS => ?_)
          obtain ⟨y_8, ey_8, hF⟩ := lt_some hF
          refine lv_iinc (v := y_8) (lv' := [(2, .int y_8), (5, .int u_3), (4, .int u_2), (0, .ref (a0 0)), (1, .int x1), (3, .int s10.2.1)]) hx hb dX1_turnAround_59 hl (k := 4) rfl (by rw [ey_8]; rfl) (by decide) rfl (fun ls hl => ?_)
          obtain ⟨y_9, ey_9, hF⟩ := lt_some hF
          refine lv_iinc (v := y_9) (lv' := [(3, .int y_9), (2, .int y_8), (5, .int u_3), (4, .int u_2), (0, .ref (a0 0)), (1, .int x1)]) hx hb dX1_turnAround_62 hl (k := 5) rfl (by rw [ey_9]; rfl) (by decide) rfl (fun ls hl => ?_)
          refine lv_goto (tgt := 10) hx hb dX1_turnAround_65 (by decide) ?_
          obtain rfl := Option.some.inj hF
          exact ih_10 _ hO_10 _ _ _ hP hD hS (lv_sub hl [4, 5, 1, 0] rfl)
    exact kl_10 n _ hL_10 _ _ _ hP hD hS hl
  refine lv_iconst (v := 0) hx hb dX1_turnAround_0 (by decide) ?_
  refine lv_istore_n (lv' := [(2, .int 0), (0, .ref (a0 0)), (1, .int p1)]) hx hb dX1_turnAround_1 rfl hl (by decide) rfl (fun ls hl => ?_)
  refine lv_aload_n hx hb dX1_turnAround_2 rfl (lv_at hl 1 rfl) ?_
  refine lv_iload_n hx hb dX1_turnAround_3 rfl (lv_at hl 2 rfl) ?_
  obtain ⟨u_10, hu_10, hF⟩ := obd_some hF
  have hPc := hP.sub (ws' := (wd_X1_pointCount cI a0 v0_0)) [0, 1] rfl
  have hDc := hD.sub (ws' := (wd_X1_pointCount cI a0 v0_0)) [0, 1] rfl rfl
  refine q_calli (wc := (wd_X1_pointCount cI a0 v0_0)) (w1 := (wd_X1_pointCount cI a0 v0_0)) (ws' := (wd_X1_turnAround cI a0 v0_0)) hP hD hS hA [0, 1] [] [0, 1] rfl rfl rfl (by decide) rfl rfl (va_runV (As := [.int p1]) (rest := []) ⟨hx, hb, hml, hown, hta⟩ (c_X1_pointCount l dC dI cI H.size a0 v0_0 p1 u_10 hu_10) (cwV 1 hta (ga_V mA168 mA169 mA170 mA6 mA171) rfl rfl rfl (by decide +kernel) ⟨Nat.le_of_ble_eq_true rfl, Nat.le_of_ble_eq_true rfl⟩) ⟨q_fb, va_recv hK hP (ci := 1) (q0 := 0) rfl rfl, q_ps hPc hK hDc⟩ rfl rfl hl.1 rfl (lv_room (Nat.le_of_ble_eq_true rfl)) dX1_turnAround_4 ⟨Nat.zero_le _, Nat.zero_le _⟩) (fun H locs hP hD hS => ?_)
  refine lv_iconst (v := 1) hx hb dX1_turnAround_7 (by decide) ?_
  refine lv_isub hx hb dX1_turnAround_8 ?_
  obtain ⟨y_11, ey_11, hF⟩ := lt_some hF
  refine lv_eqi ey_11 ?_
  refine lv_istore_n (lv' := [(3, .int y_11), (2, .int 0), (0, .ref (a0 0)), (1, .int p1)]) hx hb dX1_turnAround_9 rfl hl (by decide) rfl (fun ls hl => ?_)
  exact j10 v0_0 p1 0 y_11 hF _ _ _ hP hD hS (lv_sub hl [2, 3, 1, 0] rfl)

-- StrokeOutliner$Drawing.isBetween(IIII)Z
def F_X1_isBetween_j127  : Option (Int32) :=
  some 0
def F_X1_isBetween (v0_0 : Nat → Int32) (p1 : Int32) (p2 : Int32) (p3 : Int32) (p4 : Int32) : Option (Int32) :=
  obd (F_X1_xOf v0_0 p1 p2) (fun u_1 => obd (F_X1_yOf v0_0 p1 p2) (fun u_2 => obd (F_X1_xOf v0_0 p1 p4) (fun u_3 => obd (F_X1_yOf v0_0 p1 p4) (fun u_4 => obd (F_X1_xOf v0_0 p1 p3) (fun u_5 => obd (F_X1_yOf v0_0 p1 p3) (fun u_6 => if ((u_3 - u_1) * (u_6 - u_2)) = ((u_4 - u_2) * (u_5 - u_1)) then if u_5 < (if u_3 < u_1 then u_3 else u_1) then F_X1_isBetween_j127 else if (if u_1 < u_3 then u_3 else u_1) < u_5 then F_X1_isBetween_j127 else if u_6 < (if u_4 < u_2 then u_4 else u_2) then F_X1_isBetween_j127 else if (if u_2 < u_4 then u_4 else u_2) < u_6 then F_X1_isBetween_j127 else some 1 else F_X1_isBetween_j127))))))
abbrev wd_X1_isBetween (cI : ClassId) (a0 : Nat → Nat) (v0_0 : Nat → Int32) : va_W := [(a0 0, .inr (1, [.ref (a0 1)])), (a0 1, .inl (cI, 86, .inl v0_0))]
abbrev wz_X1_isBetween : List Cond := .code yX1_isBetween cX1_isBetween 11 (some .boolean) :: wALL
abbrev rm_X1_isBetween : Room := { frames := 2, cells := 0, slots := 0, locals := 43 }
abbrev Q_X1_isBetween (dC : Nat → ClassId) (dI : Nat → Nat → Nat) (cI : ClassId) (a0 : Nat → Nat) (v0_0 : Nat → Int32) (u : (Int32)) (A : Nat → Prop) : Array Value → State → Outcome → State → Prop := va_Qi (fun (r : Int32) (_ : Unit) => r = u ∧ (u = 0 ∨ u = 1)) (fun _ => q_at dC dI cI A (wd_X1_isBetween cI a0 v0_0)) A
set_option maxHeartbeats 4000000 in
set_option maxRecDepth 100000 in
theorem c_X1_isBetween (l : Launch) (dC : Nat → ClassId) (dI : Nat → Nat → Nat) (cI : ClassId) (sz : Nat) (a0 : Nat → Nat) (v0_0 : Nat → Int32) (p1 : Int32) (p2 : Int32) (p3 : Int32) (p4 : Int32) (u : (Int32)) (hF : F_X1_isBetween v0_0 p1 p2 p3 p4 = some u) : Met l yX1_isBetween wz_X1_isBetween rm_X1_isBetween (va_Pc [.ref (a0 0), .int p1, .int p2, .int p3, .int p4] (q_pre dC dI cI (wd_X1_isBetween cI a0 v0_0) sz)) (Q_X1_isBetween dC dI cI a0 v0_0 u (va_A (wd_X1_isBetween cI a0 v0_0) sz)) 0 0 (va_A (wd_X1_isBetween cI a0 v0_0) sz) := by
  refine Met.ofW (cc := cX1_isBetween) (maxL := 11) (ret := (some .boolean)) (by decide) rfl ?_
  intro p e s m args below meth c s₁ B hml hv
  obtain ⟨rfl, hsz, hP, hK, hD0⟩ := hv
  have hx := B.exec
  have hb := B.bytes
  have hr := B.returns
  have hts := atoms_spec (ws := wz_X1_isBetween) B.pre
  have hta := wz_tl hts
  have hown : s.vm.findClass RX1 = some m.cls := findClass_of_methodNamed B.named
  have hlocks := B.notSynchronized
  subst hsz
  have hD := hD0.self (sz := s.heap.size)
  generalize hAe : va_A (wd_X1_isBetween cI a0 v0_0) s.heap.size = A at hD ⊢
  have hA : ∀ q : Nat, s.heap.size ≤ q → A q := fun q h => by rw [← hAe]; exact Or.inr h
  have hS : va_S A s.heap s.heap [] := va_S.rf
  have hP : va_P (dC, dI) vwCl (wd_X1_isBetween cI a0 v0_0) s.heap := hP
  have hl := lv_entry ([.ref (a0 0), .int p1, .int p2, .int p3, .int p4]) (n := 11) (Nat.le_of_ble_eq_true rfl)
  rw [lg_entry_eq]
  generalize (lg_sl ([.ref (a0 0), .int p1, .int p2, .int p3, .int p4]) ++ List.replicate (11 - (lg_sl ([.ref (a0 0), .int p1, .int p2, .int p3, .int p4])).length) Slot.unset).toArray = ls at hl ⊢
  have hl : lv_has ls 11 [(0, .ref (a0 0)), (1, .int p1), (2, .int p2), (3, .int p3), (4, .int p4)] := hl
  obtain ⟨H, hHe⟩ : ∃ H, H = s.heap := ⟨_, rfl⟩
  have hS : va_S A s.heap H [] := by rw [hHe]; exact hS
  have hP : va_P (dC, dI) vwCl (wd_X1_isBetween cI a0 v0_0) H := by rw [hHe]; exact hP
  rw [← hHe]
  unfold F_X1_isBetween at hF
  have j127 : ∀ (_ : Unit), F_X1_isBetween_j127 = some u → ∀ (H : Heap) (locs : List Loc) (ls : Array Slot), va_P (dC, dI) vwCl (wd_X1_isBetween cI a0 v0_0) H → va_D A (wd_X1_isBetween cI a0 v0_0) → va_S A s.heap H locs → lv_has ls 11 [] → W p l e (headSpec wz_X1_isBetween rm_X1_isBetween).room s m [.ref (a0 0), .int p1, .int p2, .int p3, .int p4].toArray below meth c H locs 0 0 (MQ below (Q_X1_isBetween dC dI cI a0 v0_0 u A) [.ref (a0 0), .int p1, .int p2, .int p3, .int p4].toArray s 0 0 A) (F0 m 127 ls []) := by
    intro _ hF H locs ls hP hD hS hl
    unfold F_X1_isBetween_j127 at hF
    refine lv_iconst (v := 0) hx hb dX1_isBetween_127 (by decide) ?_
    obtain rfl := Option.some.inj hF
    exact W.zret (v := 0) (ty := .boolean) hx hb hr (z_nar (Or.inl rfl)) (fun t ht hW => ⟨⟨0, (), rfl, ⟨rfl, (Or.inl rfl)⟩, by rw [ht]; exact hP, va_K.moved hW.alike hK, hD⟩, hS.F ht⟩) hS.2.2 dX1_isBetween_128
  refine lv_aload_n hx hb dX1_isBetween_0 rfl (lv_at hl 0 rfl) ?_
  refine lv_iload_n hx hb dX1_isBetween_1 rfl (lv_at hl 1 rfl) ?_
  refine lv_iload_n hx hb dX1_isBetween_2 rfl (lv_at hl 2 rfl) ?_
  obtain ⟨u_1, hu_1, hF⟩ := obd_some hF
  have hPc := hP.sub (ws' := (wd_X1_xOf cI a0 v0_0)) [0, 1] rfl
  have hDc := hD.sub (ws' := (wd_X1_xOf cI a0 v0_0)) [0, 1] rfl rfl
  refine q_calli (wc := (wd_X1_xOf cI a0 v0_0)) (w1 := (wd_X1_xOf cI a0 v0_0)) (ws' := (wd_X1_isBetween cI a0 v0_0)) hP hD hS hA [0, 1] [] [0, 1] rfl rfl rfl (by decide) rfl rfl (va_runV (As := [.int p1, .int p2]) (rest := []) ⟨hx, hb, hml, hown, hta⟩ (c_X1_xOf l dC dI cI H.size a0 v0_0 p1 p2 u_1 hu_1) (cwV 2 hta (ga_V mA258 mA208 mA209 mA6 mA210) rfl rfl rfl (by decide +kernel) ⟨Nat.le_of_ble_eq_true rfl, Nat.le_of_ble_eq_true rfl⟩) ⟨q_fb, va_recv hK hP (ci := 1) (q0 := 0) rfl rfl, q_ps hPc hK hDc⟩ rfl rfl hl.1 rfl (lv_room (Nat.le_of_ble_eq_true rfl)) dX1_isBetween_3 ⟨Nat.zero_le _, Nat.zero_le _⟩) (fun H locs hP hD hS => ?_)
  refine lv_istore (lv' := [(5, .int u_1), (0, .ref (a0 0)), (1, .int p1), (2, .int p2), (3, .int p3), (4, .int p4)]) hx hb dX1_isBetween_6 hl (by decide) rfl (fun ls hl => ?_)
  refine lv_aload_n hx hb dX1_isBetween_8 rfl (lv_at hl 1 rfl) ?_
  refine lv_iload_n hx hb dX1_isBetween_9 rfl (lv_at hl 2 rfl) ?_
  refine lv_iload_n hx hb dX1_isBetween_10 rfl (lv_at hl 3 rfl) ?_
  obtain ⟨u_2, hu_2, hF⟩ := obd_some hF
  have hPc := hP.sub (ws' := (wd_X1_yOf cI a0 v0_0)) [0, 1] rfl
  have hDc := hD.sub (ws' := (wd_X1_yOf cI a0 v0_0)) [0, 1] rfl rfl
  refine q_calli (wc := (wd_X1_yOf cI a0 v0_0)) (w1 := (wd_X1_yOf cI a0 v0_0)) (ws' := (wd_X1_isBetween cI a0 v0_0)) hP hD hS hA [0, 1] [] [0, 1] rfl rfl rfl (by decide) rfl rfl (va_runV (As := [.int p1, .int p2]) (rest := []) ⟨hx, hb, hml, hown, hta⟩ (c_X1_yOf l dC dI cI H.size a0 v0_0 p1 p2 u_2 hu_2) (cwV 2 hta (ga_V mA259 mA212 mA213 mA6 mA214) rfl rfl rfl (by decide +kernel) ⟨Nat.le_of_ble_eq_true rfl, Nat.le_of_ble_eq_true rfl⟩) ⟨q_fb, va_recv hK hP (ci := 1) (q0 := 0) rfl rfl, q_ps hPc hK hDc⟩ rfl rfl hl.1 rfl (lv_room (Nat.le_of_ble_eq_true rfl)) dX1_isBetween_11 ⟨Nat.zero_le _, Nat.zero_le _⟩) (fun H locs hP hD hS => ?_)
  refine lv_istore (lv' := [(6, .int u_2), (5, .int u_1), (0, .ref (a0 0)), (1, .int p1), (2, .int p2), (3, .int p3), (4, .int p4)]) hx hb dX1_isBetween_14 hl (by decide) rfl (fun ls hl => ?_)
  refine lv_aload_n hx hb dX1_isBetween_16 rfl (lv_at hl 2 rfl) ?_
  refine lv_iload_n hx hb dX1_isBetween_17 rfl (lv_at hl 3 rfl) ?_
  refine lv_iload hx hb dX1_isBetween_18 (lv_at hl 6 rfl) ?_
  obtain ⟨u_3, hu_3, hF⟩ := obd_some hF
  have hPc := hP.sub (ws' := (wd_X1_xOf cI a0 v0_0)) [0, 1] rfl
  have hDc := hD.sub (ws' := (wd_X1_xOf cI a0 v0_0)) [0, 1] rfl rfl
  refine q_calli (wc := (wd_X1_xOf cI a0 v0_0)) (w1 := (wd_X1_xOf cI a0 v0_0)) (ws' := (wd_X1_isBetween cI a0 v0_0)) hP hD hS hA [0, 1] [] [0, 1] rfl rfl rfl (by decide) rfl rfl (va_runV (As := [.int p1, .int p4]) (rest := []) ⟨hx, hb, hml, hown, hta⟩ (c_X1_xOf l dC dI cI H.size a0 v0_0 p1 p4 u_3 hu_3) (cwV 2 hta (ga_V mA258 mA208 mA209 mA6 mA210) rfl rfl rfl (by decide +kernel) ⟨Nat.le_of_ble_eq_true rfl, Nat.le_of_ble_eq_true rfl⟩) ⟨q_fb, va_recv hK hP (ci := 1) (q0 := 0) rfl rfl, q_ps hPc hK hDc⟩ rfl rfl hl.1 rfl (lv_room (Nat.le_of_ble_eq_true rfl)) dX1_isBetween_20 ⟨Nat.zero_le _, Nat.zero_le _⟩) (fun H locs hP hD hS => ?_)
  refine lv_istore (lv' := [(7, .int u_3), (6, .int u_2), (5, .int u_1), (0, .ref (a0 0)), (1, .int p1), (2, .int p2), (3, .int p3), (4, .int p4)]) hx hb dX1_isBetween_23 hl (by decide) rfl (fun ls hl => ?_)
  refine lv_aload_n hx hb dX1_isBetween_25 rfl (lv_at hl 3 rfl) ?_
  refine lv_iload_n hx hb dX1_isBetween_26 rfl (lv_at hl 4 rfl) ?_
  refine lv_iload hx hb dX1_isBetween_27 (lv_at hl 7 rfl) ?_
  obtain ⟨u_4, hu_4, hF⟩ := obd_some hF
  have hPc := hP.sub (ws' := (wd_X1_yOf cI a0 v0_0)) [0, 1] rfl
  have hDc := hD.sub (ws' := (wd_X1_yOf cI a0 v0_0)) [0, 1] rfl rfl
  refine q_calli (wc := (wd_X1_yOf cI a0 v0_0)) (w1 := (wd_X1_yOf cI a0 v0_0)) (ws' := (wd_X1_isBetween cI a0 v0_0)) hP hD hS hA [0, 1] [] [0, 1] rfl rfl rfl (by decide) rfl rfl (va_runV (As := [.int p1, .int p4]) (rest := []) ⟨hx, hb, hml, hown, hta⟩ (c_X1_yOf l dC dI cI H.size a0 v0_0 p1 p4 u_4 hu_4) (cwV 2 hta (ga_V mA259 mA212 mA213 mA6 mA214) rfl rfl rfl (by decide +kernel) ⟨Nat.le_of_ble_eq_true rfl, Nat.le_of_ble_eq_true rfl⟩) ⟨q_fb, va_recv hK hP (ci := 1) (q0 := 0) rfl rfl, q_ps hPc hK hDc⟩ rfl rfl hl.1 rfl (lv_room (Nat.le_of_ble_eq_true rfl)) dX1_isBetween_29 ⟨Nat.zero_le _, Nat.zero_le _⟩) (fun H locs hP hD hS => ?_)
  refine lv_istore (lv' := [(8, .int u_4), (7, .int u_3), (6, .int u_2), (5, .int u_1), (0, .ref (a0 0)), (1, .int p1), (2, .int p2), (3, .int p3), (4, .int p4)]) hx hb dX1_isBetween_32 hl (by decide) rfl (fun ls hl => ?_)
  refine lv_aload_n hx hb dX1_isBetween_34 rfl (lv_at hl 4 rfl) ?_
  refine lv_iload_n hx hb dX1_isBetween_35 rfl (lv_at hl 5 rfl) ?_
  refine lv_iload_n hx hb dX1_isBetween_36 rfl (lv_at hl 7 rfl) ?_
  obtain ⟨u_5, hu_5, hF⟩ := obd_some hF
  have hPc := hP.sub (ws' := (wd_X1_xOf cI a0 v0_0)) [0, 1] rfl
  have hDc := hD.sub (ws' := (wd_X1_xOf cI a0 v0_0)) [0, 1] rfl rfl
  refine q_calli (wc := (wd_X1_xOf cI a0 v0_0)) (w1 := (wd_X1_xOf cI a0 v0_0)) (ws' := (wd_X1_isBetween cI a0 v0_0)) hP hD hS hA [0, 1] [] [0, 1] rfl rfl rfl (by decide) rfl rfl (va_runV (As := [.int p1, .int p3]) (rest := []) ⟨hx, hb, hml, hown, hta⟩ (c_X1_xOf l dC dI cI H.size a0 v0_0 p1 p3 u_5 hu_5) (cwV 2 hta (ga_V mA258 mA208 mA209 mA6 mA210) rfl rfl rfl (by decide +kernel) ⟨Nat.le_of_ble_eq_true rfl, Nat.le_of_ble_eq_true rfl⟩) ⟨q_fb, va_recv hK hP (ci := 1) (q0 := 0) rfl rfl, q_ps hPc hK hDc⟩ rfl rfl hl.1 rfl (lv_room (Nat.le_of_ble_eq_true rfl)) dX1_isBetween_37 ⟨Nat.zero_le _, Nat.zero_le _⟩) (fun H locs hP hD hS => ?_)
  refine lv_istore (lv' := [(9, .int u_5), (8, .int u_4), (7, .int u_3), (6, .int u_2), (5, .int u_1), (0, .ref (a0 0)), (1, .int p1), (2, .int p2), (3, .int p3), (4, .int p4)]) hx hb dX1_isBetween_40 hl (by decide) rfl (fun ls hl => ?_)
  refine lv_aload_n hx hb dX1_isBetween_42 rfl (lv_at hl 5 rfl) ?_
  refine lv_iload_n hx hb dX1_isBetween_43 rfl (lv_at hl 6 rfl) ?_
  refine lv_iload_n hx hb dX1_isBetween_44 rfl (lv_at hl 8 rfl) ?_
  obtain ⟨u_6, hu_6, hF⟩ := obd_some hF
  have hPc := hP.sub (ws' := (wd_X1_yOf cI a0 v0_0)) [0, 1] rfl
  have hDc := hD.sub (ws' := (wd_X1_yOf cI a0 v0_0)) [0, 1] rfl rfl
  refine q_calli (wc := (wd_X1_yOf cI a0 v0_0)) (w1 := (wd_X1_yOf cI a0 v0_0)) (ws' := (wd_X1_isBetween cI a0 v0_0)) hP hD hS hA [0, 1] [] [0, 1] rfl rfl rfl (by decide) rfl rfl (va_runV (As := [.int p1, .int p3]) (rest := []) ⟨hx, hb, hml, hown, hta⟩ (c_X1_yOf l dC dI cI H.size a0 v0_0 p1 p3 u_6 hu_6) (cwV 2 hta (ga_V mA259 mA212 mA213 mA6 mA214) rfl rfl rfl (by decide +kernel) ⟨Nat.le_of_ble_eq_true rfl, Nat.le_of_ble_eq_true rfl⟩) ⟨q_fb, va_recv hK hP (ci := 1) (q0 := 0) rfl rfl, q_ps hPc hK hDc⟩ rfl rfl hl.1 rfl (lv_room (Nat.le_of_ble_eq_true rfl)) dX1_isBetween_45 ⟨Nat.zero_le _, Nat.zero_le _⟩) (fun H locs hP hD hS => ?_)
  refine lv_istore (lv' := [(10, .int u_6), (9, .int u_5), (8, .int u_4), (7, .int u_3), (6, .int u_2), (5, .int u_1), (0, .ref (a0 0)), (1, .int p1), (2, .int p2), (3, .int p3), (4, .int p4)]) hx hb dX1_isBetween_48 hl (by decide) rfl (fun ls hl => ?_)
  refine lv_iload hx hb dX1_isBetween_50 (lv_at hl 3 rfl) ?_
  refine lv_iload hx hb dX1_isBetween_52 (lv_at hl 5 rfl) ?_
  refine lv_isub hx hb dX1_isBetween_54 ?_
  refine lv_iload hx hb dX1_isBetween_55 (lv_at hl 0 rfl) ?_
  refine lv_iload hx hb dX1_isBetween_57 (lv_at hl 4 rfl) ?_
  refine lv_isub hx hb dX1_isBetween_59 ?_
  refine lv_imul hx hb dX1_isBetween_60 ?_
  refine lv_iload hx hb dX1_isBetween_61 (lv_at hl 2 rfl) ?_
  refine lv_iload hx hb dX1_isBetween_63 (lv_at hl 4 rfl) ?_
  refine lv_isub hx hb dX1_isBetween_65 ?_
  refine lv_iload hx hb dX1_isBetween_66 (lv_at hl 1 rfl) ?_
  refine lv_iload hx hb dX1_isBetween_68 (lv_at hl 5 rfl) ?_
  refine lv_isub hx hb dX1_isBetween_70 ?_
  refine lv_imul hx hb dX1_isBetween_71 ?_
  refine lv_icmp_ne (tgt := 127) hx hb dX1_isBetween_72 (by decide) (fun c_7 => ?_) (fun c_7 => ?_)
  · have hF := it_f hF c_7
    exact j127 () hF _ _ _ hP hD hS (lv_sub hl [] rfl)
  · have hF := it_t hF c_7
    refine lv_iload hx hb dX1_isBetween_75 (lv_at hl 1 rfl) ?_
    refine lv_iload hx hb dX1_isBetween_77 (lv_at hl 5 rfl) ?_
    refine lv_iload hx hb dX1_isBetween_79 (lv_at hl 3 rfl) ?_
    refine va_mmin hx hb (hml.trans hl.1.symm) hown (hta _ mA278) (hta _ mA279) (hta _ mA280) (hta _ mA281) (Nat.le_of_ble_eq_true rfl) (Nat.le_of_ble_eq_true rfl) (Nat.zero_le _) (Nat.zero_le _) dX1_isBetween_81 ?_
    refine lv_icmp_lt (tgt := 127) hx hb dX1_isBetween_84 (by decide) (fun c_8 => ?_) (fun c_8 => ?_)
    · have hF := it_t hF c_8
      exact j127 () hF _ _ _ hP hD hS (lv_sub hl [] rfl)
    · have hF := it_f hF c_8
      refine lv_iload hx hb dX1_isBetween_87 (lv_at hl 1 rfl) ?_
      refine lv_iload hx hb dX1_isBetween_89 (lv_at hl 5 rfl) ?_
      refine lv_iload hx hb dX1_isBetween_91 (lv_at hl 3 rfl) ?_
      refine va_mmax hx hb (hml.trans hl.1.symm) hown (hta _ mA282) (hta _ mA283) (hta _ mA280) (hta _ mA284) (Nat.le_of_ble_eq_true rfl) (Nat.le_of_ble_eq_true rfl) (Nat.zero_le _) (Nat.zero_le _) dX1_isBetween_93 ?_
      refine lv_icmp_gt (tgt := 127) hx hb dX1_isBetween_96 (by decide) (fun c_9 => ?_) (fun c_9 => ?_)
      · have hF := it_t hF c_9
        exact j127 () hF _ _ _ hP hD hS (lv_sub hl [] rfl)
      · have hF := it_f hF c_9
        refine lv_iload hx hb dX1_isBetween_99 (lv_at hl 0 rfl) ?_
        refine lv_iload hx hb dX1_isBetween_101 (lv_at hl 4 rfl) ?_
        refine lv_iload hx hb dX1_isBetween_103 (lv_at hl 2 rfl) ?_
        refine va_mmin hx hb (hml.trans hl.1.symm) hown (hta _ mA278) (hta _ mA279) (hta _ mA280) (hta _ mA281) (Nat.le_of_ble_eq_true rfl) (Nat.le_of_ble_eq_true rfl) (Nat.zero_le _) (Nat.zero_le _) dX1_isBetween_105 ?_
        refine lv_icmp_lt (tgt := 127) hx hb dX1_isBetween_108 (by decide) (fun c_10 => ?_) (fun c_10 => ?_)
        · have hF := it_t hF c_10
          exact j127 () hF _ _ _ hP hD hS (lv_sub hl [] rfl)
        · have hF := it_f hF c_10
          refine lv_iload hx hb dX1_isBetween_111 (lv_at hl 0 rfl) ?_
          refine lv_iload hx hb dX1_isBetween_113 (lv_at hl 4 rfl) ?_
          refine lv_iload hx hb dX1_isBetween_115 (lv_at hl 2 rfl) ?_
          refine va_mmax hx hb (hml.trans hl.1.symm) hown (hta _ mA282) (hta _ mA283) (hta _ mA280) (hta _ mA284) (Nat.le_of_ble_eq_true rfl) (Nat.le_of_ble_eq_true rfl) (Nat.zero_le _) (Nat.zero_le _) dX1_isBetween_117 ?_
          refine lv_icmp_gt (tgt := 127) hx hb dX1_isBetween_120 (by decide) (fun c_11 => ?_) (fun c_11 => ?_)
          · have hF := it_t hF c_11
            exact j127 () hF _ _ _ hP hD hS (lv_sub hl [] rfl)
          · have hF := it_f hF c_11
            refine lv_iconst (v := 1) hx hb dX1_isBetween_123 (by decide) ?_
            refine lv_goto (tgt := 128) hx hb dX1_isBetween_124 (by decide) ?_
            obtain rfl := Option.some.inj hF
            exact W.zret (v := 1) (ty := .boolean) hx hb hr (z_nar (Or.inr rfl)) (fun t ht hW => ⟨⟨1, (), rfl, ⟨rfl, (Or.inr rfl)⟩, by rw [ht]; exact hP, va_K.moved hW.alike hK, hD⟩, hS.F ht⟩) hS.2.2 dX1_isBetween_128

-- StrokeOutliner$Drawing.isIdle(II)Z
def F_X1_isIdle_j27  : Option (Int32) :=
  some 0
def F_X1_isIdle_j121  : Option (Int32) :=
  some 0
def F_X1_isIdle_j104 (v0_0 : Nat → Int32) (x1 : Int32) (x2 : Int32) (x5 : Int32) (x6 : Int32) : Option (Int32) :=
  obd (F_X1_isBetween v0_0 x1 x5 x2 x6) (fun u_1 => if u_1 = 0 then F_X1_isIdle_j121 else some 1)
def F_X1_isIdle_j92 (v0_0 : Nat → Int32) (x1 : Int32) (x2 : Int32) (x4 : Int32) (x5 : Int32) (t0 : Int32) : Option (Int32) :=
  if 0 < t0 then F_X1_isIdle_j104 v0_0 x1 x2 x5 t0 else if x4 = 0 then F_X1_isIdle_j121 else F_X1_isIdle_j104 v0_0 x1 x2 x5 t0
def F_X1_isIdle_j78 (v0_0 : Nat → Int32) (x1 : Int32) (x2 : Int32) (x3 : Int32) (x4 : Int32) (x5 : Int32) : Option (Int32) :=
  if (x3 - 1) ≤ x2 then F_X1_isIdle_j92 v0_0 x1 x2 x4 x5 0 else F_X1_isIdle_j92 v0_0 x1 x2 x4 x5 (x2 + 1)
def F_X1_isIdle_j42 (v0_0 : Nat → Int32) (x1 : Int32) (x2 : Int32) (x3 : Int32) (x4 : Int32) (t0 : Int32) : Option (Int32) :=
  obd (F_X1_xOf v0_0 x1 t0) (fun u_6 => obd (F_X1_xOf v0_0 x1 x2) (fun u_7 => if u_6 = u_7 then obd (F_X1_yOf v0_0 x1 t0) (fun u_9 => obd (F_X1_yOf v0_0 x1 x2) (fun u_10 => if u_9 = u_10 then some 1 else F_X1_isIdle_j78 v0_0 x1 x2 x3 x4 t0)) else F_X1_isIdle_j78 v0_0 x1 x2 x3 x4 t0))
def F_X1_isIdle_j29 (v0_0 : Nat → Int32) (x1 : Int32) (x2 : Int32) (x3 : Int32) (x4 : Int32) : Option (Int32) :=
  if x2 ≤ 0 then F_X1_isIdle_j42 v0_0 x1 x2 x3 x4 (x3 - 1) else F_X1_isIdle_j42 v0_0 x1 x2 x3 x4 (x2 - 1)
def F_X1_isIdle (v0_0 : Nat → Int32) (p1 : Int32) (p2 : Int32) : Option (Int32) :=
  obd (F_X1_pointCount v0_0 p1) (fun u_13 => obd (F_X1_isClosed v0_0 p1) (fun u_14 => if u_13 < 2 then F_X1_isIdle_j27 else if p2 = 0 then if u_14 = 0 then F_X1_isIdle_j27 else F_X1_isIdle_j29 v0_0 p1 p2 u_13 u_14 else F_X1_isIdle_j29 v0_0 p1 p2 u_13 u_14))
abbrev wd_X1_isIdle (cI : ClassId) (a0 : Nat → Nat) (v0_0 : Nat → Int32) : va_W := [(a0 0, .inr (1, [.ref (a0 1)])), (a0 1, .inl (cI, 86, .inl v0_0))]
abbrev wz_X1_isIdle : List Cond := .code yX1_isIdle cX1_isIdle 7 (some .boolean) :: wALL
abbrev rm_X1_isIdle : Room := { frames := 3, cells := 0, slots := 0, locals := 73 }
abbrev Q_X1_isIdle (dC : Nat → ClassId) (dI : Nat → Nat → Nat) (cI : ClassId) (a0 : Nat → Nat) (v0_0 : Nat → Int32) (u : (Int32)) (A : Nat → Prop) : Array Value → State → Outcome → State → Prop := va_Qi (fun (r : Int32) (_ : Unit) => r = u ∧ (u = 0 ∨ u = 1)) (fun _ => q_at dC dI cI A (wd_X1_isIdle cI a0 v0_0)) A
set_option maxHeartbeats 4000000 in
set_option maxRecDepth 100000 in
theorem c_X1_isIdle (l : Launch) (dC : Nat → ClassId) (dI : Nat → Nat → Nat) (cI : ClassId) (sz : Nat) (a0 : Nat → Nat) (v0_0 : Nat → Int32) (p1 : Int32) (p2 : Int32) (u : (Int32)) (hF : F_X1_isIdle v0_0 p1 p2 = some u) : Met l yX1_isIdle wz_X1_isIdle rm_X1_isIdle (va_Pc [.ref (a0 0), .int p1, .int p2] (q_pre dC dI cI (wd_X1_isIdle cI a0 v0_0) sz)) (Q_X1_isIdle dC dI cI a0 v0_0 u (va_A (wd_X1_isIdle cI a0 v0_0) sz)) 0 0 (va_A (wd_X1_isIdle cI a0 v0_0) sz) := by
  refine Met.ofW (cc := cX1_isIdle) (maxL := 7) (ret := (some .boolean)) (by decide) rfl ?_
  intro p e s m args below meth c s₁ B hml hv
  obtain ⟨rfl, hsz, hP, hK, hD0⟩ := hv
  have hx := B.exec
  have hb := B.bytes
  have hr := B.returns
  have hts := atoms_spec (ws := wz_X1_isIdle) B.pre
  have hta := wz_tl hts
  have hown : s.vm.findClass RX1 = some m.cls := findClass_of_methodNamed B.named
  have hlocks := B.notSynchronized
  subst hsz
  have hD := hD0.self (sz := s.heap.size)
  generalize hAe : va_A (wd_X1_isIdle cI a0 v0_0) s.heap.size = A at hD ⊢
  have hA : ∀ q : Nat, s.heap.size ≤ q → A q := fun q h => by rw [← hAe]; exact Or.inr h
  have hS : va_S A s.heap s.heap [] := va_S.rf
  have hP : va_P (dC, dI) vwCl (wd_X1_isIdle cI a0 v0_0) s.heap := hP
  have hl := lv_entry ([.ref (a0 0), .int p1, .int p2]) (n := 7) (Nat.le_of_ble_eq_true rfl)
  rw [lg_entry_eq]
  generalize (lg_sl ([.ref (a0 0), .int p1, .int p2]) ++ List.replicate (7 - (lg_sl ([.ref (a0 0), .int p1, .int p2])).length) Slot.unset).toArray = ls at hl ⊢
  have hl : lv_has ls 7 [(0, .ref (a0 0)), (1, .int p1), (2, .int p2)] := hl
  obtain ⟨H, hHe⟩ : ∃ H, H = s.heap := ⟨_, rfl⟩
  have hS : va_S A s.heap H [] := by rw [hHe]; exact hS
  have hP : va_P (dC, dI) vwCl (wd_X1_isIdle cI a0 v0_0) H := by rw [hHe]; exact hP
  rw [← hHe]
  unfold F_X1_isIdle at hF
  have j27 : ∀ (_ : Unit), F_X1_isIdle_j27 = some u → ∀ (H : Heap) (locs : List Loc) (ls : Array Slot), va_P (dC, dI) vwCl (wd_X1_isIdle cI a0 v0_0) H → va_D A (wd_X1_isIdle cI a0 v0_0) → va_S A s.heap H locs → lv_has ls 7 [] → W p l e (headSpec wz_X1_isIdle rm_X1_isIdle).room s m [.ref (a0 0), .int p1, .int p2].toArray below meth c H locs 0 0 (MQ below (Q_X1_isIdle dC dI cI a0 v0_0 u A) [.ref (a0 0), .int p1, .int p2].toArray s 0 0 A) (F0 m 27 ls []) := by
    intro _ hF H locs ls hP hD hS hl
    unfold F_X1_isIdle_j27 at hF
    refine lv_iconst (v := 0) hx hb dX1_isIdle_27 (by decide) ?_
    obtain rfl := Option.some.inj hF
    exact W.zret (v := 0) (ty := .boolean) hx hb hr (z_nar (Or.inl rfl)) (fun t ht hW => ⟨⟨0, (), rfl, ⟨rfl, (Or.inl rfl)⟩, by rw [ht]; exact hP, va_K.moved hW.alike hK, hD⟩, hS.F ht⟩) hS.2.2 dX1_isIdle_28
  have j121 : ∀ (_ : Unit), F_X1_isIdle_j121 = some u → ∀ (H : Heap) (locs : List Loc) (ls : Array Slot), va_P (dC, dI) vwCl (wd_X1_isIdle cI a0 v0_0) H → va_D A (wd_X1_isIdle cI a0 v0_0) → va_S A s.heap H locs → lv_has ls 7 [] → W p l e (headSpec wz_X1_isIdle rm_X1_isIdle).room s m [.ref (a0 0), .int p1, .int p2].toArray below meth c H locs 0 0 (MQ below (Q_X1_isIdle dC dI cI a0 v0_0 u A) [.ref (a0 0), .int p1, .int p2].toArray s 0 0 A) (F0 m 121 ls []) := by
    intro _ hF H locs ls hP hD hS hl
    unfold F_X1_isIdle_j121 at hF
    refine lv_iconst (v := 0) hx hb dX1_isIdle_121 (by decide) ?_
    obtain rfl := Option.some.inj hF
    exact W.zret (v := 0) (ty := .boolean) hx hb hr (z_nar (Or.inl rfl)) (fun t ht hW => ⟨⟨0, (), rfl, ⟨rfl, (Or.inl rfl)⟩, by rw [ht]; exact hP, va_K.moved hW.alike hK, hD⟩, hS.F ht⟩) hS.2.2 dX1_isIdle_122
  have j104 : ∀ (x1 : Int32) (x2 : Int32) (x5 : Int32) (x6 : Int32), F_X1_isIdle_j104 v0_0 x1 x2 x5 x6 = some u → ∀ (H : Heap) (locs : List Loc) (ls : Array Slot), va_P (dC, dI) vwCl (wd_X1_isIdle cI a0 v0_0) H → va_D A (wd_X1_isIdle cI a0 v0_0) → va_S A s.heap H locs → lv_has ls 7 [(0, .ref (a0 0)), (1, .int x1), (2, .int x2), (5, .int x5), (6, .int x6)] → W p l e (headSpec wz_X1_isIdle rm_X1_isIdle).room s m [.ref (a0 0), .int p1, .int p2].toArray below meth c H locs 0 0 (MQ below (Q_X1_isIdle dC dI cI a0 v0_0 u A) [.ref (a0 0), .int p1, .int p2].toArray s 0 0 A) (F0 m 104 ls []) := by
    intro x1 x2 x5 x6 hF H locs ls hP hD hS hl
    unfold F_X1_isIdle_j104 at hF
    refine lv_aload_n hx hb dX1_isIdle_104 rfl (lv_at hl 0 rfl) ?_
    refine lv_iload_n hx hb dX1_isIdle_105 rfl (lv_at hl 1 rfl) ?_
    refine lv_iload hx hb dX1_isIdle_106 (lv_at hl 3 rfl) ?_
    refine lv_iload_n hx hb dX1_isIdle_108 rfl (lv_at hl 2 rfl) ?_
    refine lv_iload hx hb dX1_isIdle_109 (lv_at hl 4 rfl) ?_
    obtain ⟨u_1, hu_1, hF⟩ := obd_some hF
    have hPc := hP.sub (ws' := (wd_X1_isBetween cI a0 v0_0)) [0, 1] rfl
    have hDc := hD.sub (ws' := (wd_X1_isBetween cI a0 v0_0)) [0, 1] rfl rfl
    refine q_callz (wc := (wd_X1_isBetween cI a0 v0_0)) (w1 := (wd_X1_isBetween cI a0 v0_0)) (ws' := (wd_X1_isIdle cI a0 v0_0)) hP hD hS hA [0, 1] [] [0, 1] rfl rfl rfl (by decide) rfl rfl (va_runV (As := [.int x1, .int x5, .int x2, .int x6]) (rest := []) ⟨hx, hb, hml, hown, hta⟩ (c_X1_isBetween l dC dI cI H.size a0 v0_0 x1 x5 x2 x6 u_1 hu_1) (cwV 4 hta (ga_V mA274 mA275 mA276 mA6 mA277) rfl rfl rfl (by decide +kernel) ⟨Nat.le_of_ble_eq_true rfl, Nat.le_of_ble_eq_true rfl⟩) ⟨q_fb, va_recv hK hP (ci := 1) (q0 := 0) rfl rfl, q_ps hPc hK hDc⟩ rfl rfl hl.1 rfl (lv_room (Nat.le_of_ble_eq_true rfl)) dX1_isIdle_111 ⟨Nat.zero_le _, Nat.zero_le _⟩) (fun hzu_1 H locs hP hD hS => ?_)
    refine lv_if_eq (tgt := 121) hx hb dX1_isIdle_114 (by decide) (fun c_2 => ?_) (fun c_2 => ?_)
    · have hF := it_t hF c_2
      exact j121 () hF _ _ _ hP hD hS (lv_sub hl [] rfl)
    · have hF := it_f hF c_2
      refine lv_iconst (v := 1) hx hb dX1_isIdle_117 (by decide) ?_
      refine lv_goto (tgt := 122) hx hb dX1_isIdle_118 (by decide) ?_
      obtain rfl := Option.some.inj hF
      exact W.zret (v := 1) (ty := .boolean) hx hb hr (z_nar (Or.inr rfl)) (fun t ht hW => ⟨⟨1, (), rfl, ⟨rfl, (Or.inr rfl)⟩, by rw [ht]; exact hP, va_K.moved hW.alike hK, hD⟩, hS.F ht⟩) hS.2.2 dX1_isIdle_122
  have j92 : ∀ (x1 : Int32) (x2 : Int32) (x4 : Int32) (x5 : Int32) (t0 : Int32), F_X1_isIdle_j92 v0_0 x1 x2 x4 x5 t0 = some u → ∀ (H : Heap) (locs : List Loc) (ls : Array Slot), va_P (dC, dI) vwCl (wd_X1_isIdle cI a0 v0_0) H → va_D A (wd_X1_isIdle cI a0 v0_0) → va_S A s.heap H locs → lv_has ls 7 [(0, .ref (a0 0)), (1, .int x1), (2, .int x2), (4, .int x4), (5, .int x5)] → W p l e (headSpec wz_X1_isIdle rm_X1_isIdle).room s m [.ref (a0 0), .int p1, .int p2].toArray below meth c H locs 0 0 (MQ below (Q_X1_isIdle dC dI cI a0 v0_0 u A) [.ref (a0 0), .int p1, .int p2].toArray s 0 0 A) (F0 m 92 ls [.int t0]) := by
    intro x1 x2 x4 x5 t0 hF H locs ls hP hD hS hl
    unfold F_X1_isIdle_j92 at hF
    refine lv_istore (lv' := [(6, .int t0), (0, .ref (a0 0)), (1, .int x1), (2, .int x2), (4, .int x4), (5, .int x5)]) hx hb dX1_isIdle_92 hl (by decide) rfl (fun ls hl => ?_)
    refine lv_iload hx hb dX1_isIdle_94 (lv_at hl 0 rfl) ?_
    refine lv_if_gt (tgt := 104) hx hb dX1_isIdle_96 (by decide) (fun c_3 => ?_) (fun c_3 => ?_)
    · have hF := it_t hF c_3
      exact j104 x1 x2 x5 t0 hF _ _ _ hP hD hS (lv_sub hl [1, 2, 3, 5, 0] rfl)
    · have hF := it_f hF c_3
      refine lv_iload hx hb dX1_isIdle_99 (lv_at hl 4 rfl) ?_
      refine lv_if_eq (tgt := 121) hx hb dX1_isIdle_101 (by decide) (fun c_4 => ?_) (fun c_4 => ?_)
      · have hF := it_t hF c_4
        exact j121 () hF _ _ _ hP hD hS (lv_sub hl [] rfl)
      · have hF := it_f hF c_4
        exact j104 x1 x2 x5 t0 hF _ _ _ hP hD hS (lv_sub hl [1, 2, 3, 5, 0] rfl)
  have j78 : ∀ (x1 : Int32) (x2 : Int32) (x3 : Int32) (x4 : Int32) (x5 : Int32), F_X1_isIdle_j78 v0_0 x1 x2 x3 x4 x5 = some u → ∀ (H : Heap) (locs : List Loc) (ls : Array Slot), va_P (dC, dI) vwCl (wd_X1_isIdle cI a0 v0_0) H → va_D A (wd_X1_isIdle cI a0 v0_0) → va_S A s.heap H locs → lv_has ls 7 [(0, .ref (a0 0)), (1, .int x1), (2, .int x2), (3, .int x3), (4, .int x4), (5, .int x5)] → W p l e (headSpec wz_X1_isIdle rm_X1_isIdle).room s m [.ref (a0 0), .int p1, .int p2].toArray below meth c H locs 0 0 (MQ below (Q_X1_isIdle dC dI cI a0 v0_0 u A) [.ref (a0 0), .int p1, .int p2].toArray s 0 0 A) (F0 m 78 ls []) := by
    intro x1 x2 x3 x4 x5 hF H locs ls hP hD hS hl
    unfold F_X1_isIdle_j78 at hF
    refine lv_iload_n hx hb dX1_isIdle_78 rfl (lv_at hl 2 rfl) ?_
    refine lv_iload_n hx hb dX1_isIdle_79 rfl (lv_at hl 3 rfl) ?_
    refine lv_iconst (v := 1) hx hb dX1_isIdle_80 (by decide) ?_
    refine lv_isub hx hb dX1_isIdle_81 ?_
    refine lv_icmp_ge (tgt := 91) hx hb dX1_isIdle_82 (by decide) (fun c_5 => ?_) (fun c_5 => ?_)
    · have hF := it_t hF c_5
      refine lv_iconst (v := 0) hx hb dX1_isIdle_91 (by decide) ?_
      exact j92 x1 x2 x4 x5 0 hF _ _ _ hP hD hS (lv_sub hl [0, 1, 2, 4, 5] rfl)
    · have hF := it_f hF c_5
      refine lv_iload_n hx hb dX1_isIdle_85 rfl (lv_at hl 2 rfl) ?_
      refine lv_iconst (v := 1) hx hb dX1_isIdle_86 (by decide) ?_
      refine lv_iadd hx hb dX1_isIdle_87 ?_
      refine lv_goto (tgt := 92) hx hb dX1_isIdle_88 (by decide) ?_
      exact j92 x1 x2 x4 x5 (x2 + 1) hF _ _ _ hP hD hS (lv_sub hl [0, 1, 2, 4, 5] rfl)
  have j42 : ∀ (x1 : Int32) (x2 : Int32) (x3 : Int32) (x4 : Int32) (t0 : Int32), F_X1_isIdle_j42 v0_0 x1 x2 x3 x4 t0 = some u → ∀ (H : Heap) (locs : List Loc) (ls : Array Slot), va_P (dC, dI) vwCl (wd_X1_isIdle cI a0 v0_0) H → va_D A (wd_X1_isIdle cI a0 v0_0) → va_S A s.heap H locs → lv_has ls 7 [(0, .ref (a0 0)), (1, .int x1), (2, .int x2), (3, .int x3), (4, .int x4)] → W p l e (headSpec wz_X1_isIdle rm_X1_isIdle).room s m [.ref (a0 0), .int p1, .int p2].toArray below meth c H locs 0 0 (MQ below (Q_X1_isIdle dC dI cI a0 v0_0 u A) [.ref (a0 0), .int p1, .int p2].toArray s 0 0 A) (F0 m 42 ls [.int t0]) := by
    intro x1 x2 x3 x4 t0 hF H locs ls hP hD hS hl
    unfold F_X1_isIdle_j42 at hF
    refine lv_istore (lv' := [(5, .int t0), (0, .ref (a0 0)), (1, .int x1), (2, .int x2), (3, .int x3), (4, .int x4)]) hx hb dX1_isIdle_42 hl (by decide) rfl (fun ls hl => ?_)
    refine lv_aload_n hx hb dX1_isIdle_44 rfl (lv_at hl 1 rfl) ?_
    refine lv_iload_n hx hb dX1_isIdle_45 rfl (lv_at hl 2 rfl) ?_
    refine lv_iload hx hb dX1_isIdle_46 (lv_at hl 0 rfl) ?_
    obtain ⟨u_6, hu_6, hF⟩ := obd_some hF
    have hPc := hP.sub (ws' := (wd_X1_xOf cI a0 v0_0)) [0, 1] rfl
    have hDc := hD.sub (ws' := (wd_X1_xOf cI a0 v0_0)) [0, 1] rfl rfl
    refine q_calli (wc := (wd_X1_xOf cI a0 v0_0)) (w1 := (wd_X1_xOf cI a0 v0_0)) (ws' := (wd_X1_isIdle cI a0 v0_0)) hP hD hS hA [0, 1] [] [0, 1] rfl rfl rfl (by decide) rfl rfl (va_runV (As := [.int x1, .int t0]) (rest := []) ⟨hx, hb, hml, hown, hta⟩ (c_X1_xOf l dC dI cI H.size a0 v0_0 x1 t0 u_6 hu_6) (cwV 2 hta (ga_V mA258 mA208 mA209 mA6 mA210) rfl rfl rfl (by decide +kernel) ⟨Nat.le_of_ble_eq_true rfl, Nat.le_of_ble_eq_true rfl⟩) ⟨q_fb, va_recv hK hP (ci := 1) (q0 := 0) rfl rfl, q_ps hPc hK hDc⟩ rfl rfl hl.1 rfl (lv_room (Nat.le_of_ble_eq_true rfl)) dX1_isIdle_48 ⟨Nat.zero_le _, Nat.zero_le _⟩) (fun H locs hP hD hS => ?_)
    refine lv_aload_n hx hb dX1_isIdle_51 rfl (lv_at hl 1 rfl) ?_
    refine lv_iload_n hx hb dX1_isIdle_52 rfl (lv_at hl 2 rfl) ?_
    refine lv_iload_n hx hb dX1_isIdle_53 rfl (lv_at hl 3 rfl) ?_
    obtain ⟨u_7, hu_7, hF⟩ := obd_some hF
    have hPc := hP.sub (ws' := (wd_X1_xOf cI a0 v0_0)) [0, 1] rfl
    have hDc := hD.sub (ws' := (wd_X1_xOf cI a0 v0_0)) [0, 1] rfl rfl
    refine q_calli (wc := (wd_X1_xOf cI a0 v0_0)) (w1 := (wd_X1_xOf cI a0 v0_0)) (ws' := (wd_X1_isIdle cI a0 v0_0)) hP hD hS hA [0, 1] [] [0, 1] rfl rfl rfl (by decide) rfl rfl (va_runV (As := [.int x1, .int x2]) (rest := [.int u_6]) ⟨hx, hb, hml, hown, hta⟩ (c_X1_xOf l dC dI cI H.size a0 v0_0 x1 x2 u_7 hu_7) (cwV 2 hta (ga_V mA258 mA208 mA209 mA6 mA210) rfl rfl rfl (by decide +kernel) ⟨Nat.le_of_ble_eq_true rfl, Nat.le_of_ble_eq_true rfl⟩) ⟨q_fb, va_recv hK hP (ci := 1) (q0 := 0) rfl rfl, q_ps hPc hK hDc⟩ rfl rfl hl.1 rfl (lv_room (Nat.le_of_ble_eq_true rfl)) dX1_isIdle_54 ⟨Nat.zero_le _, Nat.zero_le _⟩) (fun H locs hP hD hS => ?_)
    refine lv_icmp_ne (tgt := 78) hx hb dX1_isIdle_57 (by decide) (fun c_8 => ?_) (fun c_8 => ?_)
    · have hF := it_f hF c_8
      exact j78 x1 x2 x3 x4 t0 hF _ _ _ hP hD hS (lv_sub hl [1, 2, 3, 4, 5, 0] rfl)
    · have hF := it_t hF c_8
      refine lv_aload_n hx hb dX1_isIdle_60 rfl (lv_at hl 1 rfl) ?_
      refine lv_iload_n hx hb dX1_isIdle_61 rfl (lv_at hl 2 rfl) ?_
      refine lv_iload hx hb dX1_isIdle_62 (lv_at hl 0 rfl) ?_
      obtain ⟨u_9, hu_9, hF⟩ := obd_some hF
      have hPc := hP.sub (ws' := (wd_X1_yOf cI a0 v0_0)) [0, 1] rfl
      have hDc := hD.sub (ws' := (wd_X1_yOf cI a0 v0_0)) [0, 1] rfl rfl
      refine q_calli (wc := (wd_X1_yOf cI a0 v0_0)) (w1 := (wd_X1_yOf cI a0 v0_0)) (ws' := (wd_X1_isIdle cI a0 v0_0)) hP hD hS hA [0, 1] [] [0, 1] rfl rfl rfl (by decide) rfl rfl (va_runV (As := [.int x1, .int t0]) (rest := []) ⟨hx, hb, hml, hown, hta⟩ (c_X1_yOf l dC dI cI H.size a0 v0_0 x1 t0 u_9 hu_9) (cwV 2 hta (ga_V mA259 mA212 mA213 mA6 mA214) rfl rfl rfl (by decide +kernel) ⟨Nat.le_of_ble_eq_true rfl, Nat.le_of_ble_eq_true rfl⟩) ⟨q_fb, va_recv hK hP (ci := 1) (q0 := 0) rfl rfl, q_ps hPc hK hDc⟩ rfl rfl hl.1 rfl (lv_room (Nat.le_of_ble_eq_true rfl)) dX1_isIdle_64 ⟨Nat.zero_le _, Nat.zero_le _⟩) (fun H locs hP hD hS => ?_)
      refine lv_aload_n hx hb dX1_isIdle_67 rfl (lv_at hl 1 rfl) ?_
      refine lv_iload_n hx hb dX1_isIdle_68 rfl (lv_at hl 2 rfl) ?_
      refine lv_iload_n hx hb dX1_isIdle_69 rfl (lv_at hl 3 rfl) ?_
      obtain ⟨u_10, hu_10, hF⟩ := obd_some hF
      have hPc := hP.sub (ws' := (wd_X1_yOf cI a0 v0_0)) [0, 1] rfl
      have hDc := hD.sub (ws' := (wd_X1_yOf cI a0 v0_0)) [0, 1] rfl rfl
      refine q_calli (wc := (wd_X1_yOf cI a0 v0_0)) (w1 := (wd_X1_yOf cI a0 v0_0)) (ws' := (wd_X1_isIdle cI a0 v0_0)) hP hD hS hA [0, 1] [] [0, 1] rfl rfl rfl (by decide) rfl rfl (va_runV (As := [.int x1, .int x2]) (rest := [.int u_9]) ⟨hx, hb, hml, hown, hta⟩ (c_X1_yOf l dC dI cI H.size a0 v0_0 x1 x2 u_10 hu_10) (cwV 2 hta (ga_V mA259 mA212 mA213 mA6 mA214) rfl rfl rfl (by decide +kernel) ⟨Nat.le_of_ble_eq_true rfl, Nat.le_of_ble_eq_true rfl⟩) ⟨q_fb, va_recv hK hP (ci := 1) (q0 := 0) rfl rfl, q_ps hPc hK hDc⟩ rfl rfl hl.1 rfl (lv_room (Nat.le_of_ble_eq_true rfl)) dX1_isIdle_70 ⟨Nat.zero_le _, Nat.zero_le _⟩) (fun H locs hP hD hS => ?_)
      refine lv_icmp_ne (tgt := 78) hx hb dX1_isIdle_73 (by decide) (fun c_11 => ?_) (fun c_11 => ?_)
      · have hF := it_f hF c_11
        exact j78 x1 x2 x3 x4 t0 hF _ _ _ hP hD hS (lv_sub hl [1, 2, 3, 4, 5, 0] rfl)
      · have hF := it_t hF c_11
        refine lv_iconst (v := 1) hx hb dX1_isIdle_76 (by decide) ?_
        obtain rfl := Option.some.inj hF
        exact W.zret (v := 1) (ty := .boolean) hx hb hr (z_nar (Or.inr rfl)) (fun t ht hW => ⟨⟨1, (), rfl, ⟨rfl, (Or.inr rfl)⟩, by rw [ht]; exact hP, va_K.moved hW.alike hK, hD⟩, hS.F ht⟩) hS.2.2 dX1_isIdle_77
  have j29 : ∀ (x1 : Int32) (x2 : Int32) (x3 : Int32) (x4 : Int32), F_X1_isIdle_j29 v0_0 x1 x2 x3 x4 = some u → ∀ (H : Heap) (locs : List Loc) (ls : Array Slot), va_P (dC, dI) vwCl (wd_X1_isIdle cI a0 v0_0) H → va_D A (wd_X1_isIdle cI a0 v0_0) → va_S A s.heap H locs → lv_has ls 7 [(0, .ref (a0 0)), (1, .int x1), (2, .int x2), (3, .int x3), (4, .int x4)] → W p l e (headSpec wz_X1_isIdle rm_X1_isIdle).room s m [.ref (a0 0), .int p1, .int p2].toArray below meth c H locs 0 0 (MQ below (Q_X1_isIdle dC dI cI a0 v0_0 u A) [.ref (a0 0), .int p1, .int p2].toArray s 0 0 A) (F0 m 29 ls []) := by
    intro x1 x2 x3 x4 hF H locs ls hP hD hS hl
    unfold F_X1_isIdle_j29 at hF
    refine lv_iload_n hx hb dX1_isIdle_29 rfl (lv_at hl 2 rfl) ?_
    refine lv_if_le (tgt := 39) hx hb dX1_isIdle_30 (by decide) (fun c_12 => ?_) (fun c_12 => ?_)
    · have hF := it_t hF c_12
      refine lv_iload_n hx hb dX1_isIdle_39 rfl (lv_at hl 3 rfl) ?_
      refine lv_iconst (v := 1) hx hb dX1_isIdle_40 (by decide) ?_
      refine lv_isub hx hb dX1_isIdle_41 ?_
      exact j42 x1 x2 x3 x4 (x3 - 1) hF _ _ _ hP hD hS (lv_sub hl [0, 1, 2, 3, 4] rfl)
    · have hF := it_f hF c_12
      refine lv_iload_n hx hb dX1_isIdle_33 rfl (lv_at hl 2 rfl) ?_
      refine lv_iconst (v := 1) hx hb dX1_isIdle_34 (by decide) ?_
      refine lv_isub hx hb dX1_isIdle_35 ?_
      refine lv_goto (tgt := 42) hx hb dX1_isIdle_36 (by decide) ?_
      exact j42 x1 x2 x3 x4 (x2 - 1) hF _ _ _ hP hD hS (lv_sub hl [0, 1, 2, 3, 4] rfl)
  refine lv_aload_n hx hb dX1_isIdle_0 rfl (lv_at hl 0 rfl) ?_
  refine lv_iload_n hx hb dX1_isIdle_1 rfl (lv_at hl 1 rfl) ?_
  obtain ⟨u_13, hu_13, hF⟩ := obd_some hF
  have hPc := hP.sub (ws' := (wd_X1_pointCount cI a0 v0_0)) [0, 1] rfl
  have hDc := hD.sub (ws' := (wd_X1_pointCount cI a0 v0_0)) [0, 1] rfl rfl
  refine q_calli (wc := (wd_X1_pointCount cI a0 v0_0)) (w1 := (wd_X1_pointCount cI a0 v0_0)) (ws' := (wd_X1_isIdle cI a0 v0_0)) hP hD hS hA [0, 1] [] [0, 1] rfl rfl rfl (by decide) rfl rfl (va_runV (As := [.int p1]) (rest := []) ⟨hx, hb, hml, hown, hta⟩ (c_X1_pointCount l dC dI cI H.size a0 v0_0 p1 u_13 hu_13) (cwV 1 hta (ga_V mA168 mA169 mA170 mA6 mA171) rfl rfl rfl (by decide +kernel) ⟨Nat.le_of_ble_eq_true rfl, Nat.le_of_ble_eq_true rfl⟩) ⟨q_fb, va_recv hK hP (ci := 1) (q0 := 0) rfl rfl, q_ps hPc hK hDc⟩ rfl rfl hl.1 rfl (lv_room (Nat.le_of_ble_eq_true rfl)) dX1_isIdle_2 ⟨Nat.zero_le _, Nat.zero_le _⟩) (fun H locs hP hD hS => ?_)
  refine lv_istore_n (lv' := [(3, .int u_13), (0, .ref (a0 0)), (1, .int p1), (2, .int p2)]) hx hb dX1_isIdle_5 rfl hl (by decide) rfl (fun ls hl => ?_)
  refine lv_aload_n hx hb dX1_isIdle_6 rfl (lv_at hl 1 rfl) ?_
  refine lv_iload_n hx hb dX1_isIdle_7 rfl (lv_at hl 2 rfl) ?_
  obtain ⟨u_14, hu_14, hF⟩ := obd_some hF
  have hPc := hP.sub (ws' := (wd_X1_isClosed cI a0 v0_0)) [0, 1] rfl
  have hDc := hD.sub (ws' := (wd_X1_isClosed cI a0 v0_0)) [0, 1] rfl rfl
  refine q_callz (wc := (wd_X1_isClosed cI a0 v0_0)) (w1 := (wd_X1_isClosed cI a0 v0_0)) (ws' := (wd_X1_isIdle cI a0 v0_0)) hP hD hS hA [0, 1] [] [0, 1] rfl rfl rfl (by decide) rfl rfl (va_runV (As := [.int p1]) (rest := []) ⟨hx, hb, hml, hown, hta⟩ (c_X1_isClosed l dC dI cI H.size a0 v0_0 p1 u_14 hu_14) (cwV 1 hta (ga_V mA273 mA182 mA183 mA6 mA184) rfl rfl rfl (by decide +kernel) ⟨Nat.le_of_ble_eq_true rfl, Nat.le_of_ble_eq_true rfl⟩) ⟨q_fb, va_recv hK hP (ci := 1) (q0 := 0) rfl rfl, q_ps hPc hK hDc⟩ rfl rfl hl.1 rfl (lv_room (Nat.le_of_ble_eq_true rfl)) dX1_isIdle_8 ⟨Nat.zero_le _, Nat.zero_le _⟩) (fun hzu_14 H locs hP hD hS => ?_)
  refine lv_istore (lv' := [(4, .int u_14), (3, .int u_13), (0, .ref (a0 0)), (1, .int p1), (2, .int p2)]) hx hb dX1_isIdle_11 hl (by decide) rfl (fun ls hl => ?_)
  refine lv_iload_n hx hb dX1_isIdle_13 rfl (lv_at hl 1 rfl) ?_
  refine lv_iconst (v := 2) hx hb dX1_isIdle_14 (by decide) ?_
  refine lv_icmp_lt (tgt := 27) hx hb dX1_isIdle_15 (by decide) (fun c_15 => ?_) (fun c_15 => ?_)
  · have hF := it_t hF c_15
    exact j27 () hF _ _ _ hP hD hS (lv_sub hl [] rfl)
  · have hF := it_f hF c_15
    refine lv_iload_n hx hb dX1_isIdle_18 rfl (lv_at hl 4 rfl) ?_
    refine lv_if_ne (tgt := 29) hx hb dX1_isIdle_19 (by decide) (fun c_16 => ?_) (fun c_16 => ?_)
    · have hF := it_f hF c_16
      exact j29 p1 p2 u_13 u_14 hF _ _ _ hP hD hS (lv_sub hl [2, 3, 4, 1, 0] rfl)
    · have hF := it_t hF c_16
      refine lv_iload hx hb dX1_isIdle_22 (lv_at hl 0 rfl) ?_
      refine lv_if_ne (tgt := 29) hx hb dX1_isIdle_24 (by decide) (fun c_17 => ?_) (fun c_17 => ?_)
      · have hF := it_f hF c_17
        exact j29 p1 p2 u_13 u_14 hF _ _ _ hP hD hS (lv_sub hl [2, 3, 4, 1, 0] rfl)
      · have hF := it_t hF c_17
        exact j27 () hF _ _ _ hP hD hS (lv_sub hl [] rfl)

-- StrokeOutliner$Drawing.firstIdlePoint(I)I
def F_X1_firstIdlePoint_j28  : Option (Int32) :=
  some (-1)
def F_X1_firstIdlePoint_j20 (x2 : Int32) : Option (Int32) :=
  some x2
def F_X1_firstIdlePoint_b2 (v0_0 : Nat → Int32) (x1 : Int32) (s2 : Int32) : Option (Sum (Int32) (Sum (Int32) (Unit))) :=
  obd (F_X1_pointCount v0_0 x1) (fun u_1 => if u_1 ≤ s2 then some (.inr (.inr ())) else obd (F_X1_isIdle v0_0 x1 s2) (fun u_3 => if u_3 = 0 then lt (s2 + 1) (fun y_5 => some (.inl y_5)) else some (.inr (.inl s2))))
def F_X1_firstIdlePoint_j2 (n : Nat) (v0_0 : Nat → Int32) (x1 : Int32) (x2 : Int32) : Option (Int32) :=
  obd (lpq (F_X1_firstIdlePoint_b2 v0_0 x1) n x2) (fun x_2 => Sum.elim (fun x_2 => F_X1_firstIdlePoint_j20 x_2) (fun x_2 => F_X1_firstIdlePoint_j28) x_2)
def F_X1_firstIdlePoint (n : Nat) (v0_0 : Nat → Int32) (p1 : Int32) : Option (Int32) :=
  F_X1_firstIdlePoint_j2 n v0_0 p1 0
abbrev wd_X1_firstIdlePoint (cI : ClassId) (a0 : Nat → Nat) (v0_0 : Nat → Int32) : va_W := [(a0 0, .inr (1, [.ref (a0 1)])), (a0 1, .inl (cI, 86, .inl v0_0))]
abbrev wz_X1_firstIdlePoint : List Cond := .code yX1_firstIdlePoint cX1_firstIdlePoint 3 (some .int) :: wALL
abbrev rm_X1_firstIdlePoint : Room := { frames := 4, cells := 0, slots := 0, locals := 99 }
abbrev Q_X1_firstIdlePoint (dC : Nat → ClassId) (dI : Nat → Nat → Nat) (cI : ClassId) (a0 : Nat → Nat) (v0_0 : Nat → Int32) (u : (Int32)) (A : Nat → Prop) : Array Value → State → Outcome → State → Prop := va_Qi (fun (r : Int32) (_ : Unit) => r = u) (fun _ => q_at dC dI cI A (wd_X1_firstIdlePoint cI a0 v0_0)) A
set_option maxHeartbeats 4000000 in
set_option maxRecDepth 100000 in
theorem c_X1_firstIdlePoint (l : Launch) (dC : Nat → ClassId) (dI : Nat → Nat → Nat) (cI : ClassId) (sz : Nat) (a0 : Nat → Nat) (v0_0 : Nat → Int32) (p1 : Int32) (n : Nat) (u : (Int32)) (hF : F_X1_firstIdlePoint n v0_0 p1 = some u) : Met l yX1_firstIdlePoint wz_X1_firstIdlePoint rm_X1_firstIdlePoint (va_Pc [.ref (a0 0), .int p1] (q_pre dC dI cI (wd_X1_firstIdlePoint cI a0 v0_0) sz)) (Q_X1_firstIdlePoint dC dI cI a0 v0_0 u (va_A (wd_X1_firstIdlePoint cI a0 v0_0) sz)) 0 0 (va_A (wd_X1_firstIdlePoint cI a0 v0_0) sz) := by
  refine Met.ofW (cc := cX1_firstIdlePoint) (maxL := 3) (ret := (some .int)) (by decide) rfl ?_
  intro p e s m args below meth c s₁ B hml hv
  obtain ⟨rfl, hsz, hP, hK, hD0⟩ := hv
  have hx := B.exec
  have hb := B.bytes
  have hr := B.returns
  have hts := atoms_spec (ws := wz_X1_firstIdlePoint) B.pre
  have hta := wz_tl hts
  have hown : s.vm.findClass RX1 = some m.cls := findClass_of_methodNamed B.named
  have hlocks := B.notSynchronized
  subst hsz
  have hD := hD0.self (sz := s.heap.size)
  generalize hAe : va_A (wd_X1_firstIdlePoint cI a0 v0_0) s.heap.size = A at hD ⊢
  have hA : ∀ q : Nat, s.heap.size ≤ q → A q := fun q h => by rw [← hAe]; exact Or.inr h
  have hS : va_S A s.heap s.heap [] := va_S.rf
  have hP : va_P (dC, dI) vwCl (wd_X1_firstIdlePoint cI a0 v0_0) s.heap := hP
  have hl := lv_entry ([.ref (a0 0), .int p1]) (n := 3) (Nat.le_of_ble_eq_true rfl)
  rw [lg_entry_eq]
  generalize (lg_sl ([.ref (a0 0), .int p1]) ++ List.replicate (3 - (lg_sl ([.ref (a0 0), .int p1])).length) Slot.unset).toArray = ls at hl ⊢
  have hl : lv_has ls 3 [(0, .ref (a0 0)), (1, .int p1)] := hl
  obtain ⟨H, hHe⟩ : ∃ H, H = s.heap := ⟨_, rfl⟩
  have hS : va_S A s.heap H [] := by rw [hHe]; exact hS
  have hP : va_P (dC, dI) vwCl (wd_X1_firstIdlePoint cI a0 v0_0) H := by rw [hHe]; exact hP
  rw [← hHe]
  unfold F_X1_firstIdlePoint at hF
  have j28 : ∀ (_ : Unit), F_X1_firstIdlePoint_j28 = some u → ∀ (H : Heap) (locs : List Loc) (ls : Array Slot), va_P (dC, dI) vwCl (wd_X1_firstIdlePoint cI a0 v0_0) H → va_D A (wd_X1_firstIdlePoint cI a0 v0_0) → va_S A s.heap H locs → lv_has ls 3 [] → W p l e (headSpec wz_X1_firstIdlePoint rm_X1_firstIdlePoint).room s m [.ref (a0 0), .int p1].toArray below meth c H locs 0 0 (MQ below (Q_X1_firstIdlePoint dC dI cI a0 v0_0 u A) [.ref (a0 0), .int p1].toArray s 0 0 A) (F0 m 28 ls []) := by
    intro _ hF H locs ls hP hD hS hl
    unfold F_X1_firstIdlePoint_j28 at hF
    refine lv_iconst (v := (-1)) hx hb dX1_firstIdlePoint_28 (by decide) ?_
    obtain rfl := Option.some.inj hF
    exact W.iret (v := (-1)) hx hb hr (fun t ht hW => ⟨⟨(-1), (), rfl, rfl, by rw [ht]; exact hP, va_K.moved hW.alike hK, hD⟩, hS.F ht⟩) hS.2.2 dX1_firstIdlePoint_29
  have j20 : ∀ (x2 : Int32), F_X1_firstIdlePoint_j20 x2 = some u → ∀ (H : Heap) (locs : List Loc) (ls : Array Slot), va_P (dC, dI) vwCl (wd_X1_firstIdlePoint cI a0 v0_0) H → va_D A (wd_X1_firstIdlePoint cI a0 v0_0) → va_S A s.heap H locs → lv_has ls 3 [(2, .int x2)] → W p l e (headSpec wz_X1_firstIdlePoint rm_X1_firstIdlePoint).room s m [.ref (a0 0), .int p1].toArray below meth c H locs 0 0 (MQ below (Q_X1_firstIdlePoint dC dI cI a0 v0_0 u A) [.ref (a0 0), .int p1].toArray s 0 0 A) (F0 m 20 ls []) := by
    intro x2 hF H locs ls hP hD hS hl
    unfold F_X1_firstIdlePoint_j20 at hF
    refine lv_iload_n hx hb dX1_firstIdlePoint_20 rfl (lv_at hl 0 rfl) ?_
    obtain rfl := Option.some.inj hF
    exact W.iret (v := x2) hx hb hr (fun t ht hW => ⟨⟨x2, (), rfl, rfl, by rw [ht]; exact hP, va_K.moved hW.alike hK, hD⟩, hS.F ht⟩) hS.2.2 dX1_firstIdlePoint_21
  have j2 : ∀ (x1 : Int32) (x2 : Int32), F_X1_firstIdlePoint_j2 n v0_0 x1 x2 = some u → ∀ (H : Heap) (locs : List Loc) (ls : Array Slot), va_P (dC, dI) vwCl (wd_X1_firstIdlePoint cI a0 v0_0) H → va_D A (wd_X1_firstIdlePoint cI a0 v0_0) → va_S A s.heap H locs → lv_has ls 3 [(0, .ref (a0 0)), (1, .int x1), (2, .int x2)] → W p l e (headSpec wz_X1_firstIdlePoint rm_X1_firstIdlePoint).room s m [.ref (a0 0), .int p1].toArray below meth c H locs 0 0 (MQ below (Q_X1_firstIdlePoint dC dI cI a0 v0_0 u A) [.ref (a0 0), .int p1].toArray s 0 0 A) (F0 m 2 ls []) := by
    intro x1 x2 hF H locs ls hP hD hS hl
    unfold F_X1_firstIdlePoint_j2 at hF
    obtain ⟨x_2, hL_2, hE_2⟩ := obd_some hF
    have kl_2 : ∀ (k : Nat) (s2 : Int32), lpq (F_X1_firstIdlePoint_b2 v0_0 x1) k s2 = some x_2 → ∀ (H : Heap) (locs : List Loc) (ls : Array Slot), va_P (dC, dI) vwCl (wd_X1_firstIdlePoint cI a0 v0_0) H → va_D A (wd_X1_firstIdlePoint cI a0 v0_0) → va_S A s.heap H locs → lv_has ls 3 [(0, .ref (a0 0)), (1, .int x1), (2, .int s2)] → W p l e (headSpec wz_X1_firstIdlePoint rm_X1_firstIdlePoint).room s m [.ref (a0 0), .int p1].toArray below meth c H locs 0 0 (MQ below (Q_X1_firstIdlePoint dC dI cI a0 v0_0 u A) [.ref (a0 0), .int p1].toArray s 0 0 A) (F0 m 2 ls []) := by
      intro k
      induction k with
      | zero => intro s2 h; exact absurd h lpq_zero
      | succ k ih_2 =>
        intro s2 h H locs ls hP hD hS hl
        obtain ⟨o_2, hF, hO_2⟩ := lpq_succ h
        unfold F_X1_firstIdlePoint_b2 at hF
        refine lv_iload_n hx hb dX1_firstIdlePoint_2 rfl (lv_at hl 2 rfl) ?_
        refine lv_aload_n hx hb dX1_firstIdlePoint_3 rfl (lv_at hl 0 rfl) ?_
        refine lv_iload_n hx hb dX1_firstIdlePoint_4 rfl (lv_at hl 1 rfl) ?_
        obtain ⟨u_1, hu_1, hF⟩ := obd_some hF
        have hPc := hP.sub (ws' := (wd_X1_pointCount cI a0 v0_0)) [0, 1] rfl
        have hDc := hD.sub (ws' := (wd_X1_pointCount cI a0 v0_0)) [0, 1] rfl rfl
        refine q_calli (wc := (wd_X1_pointCount cI a0 v0_0)) (w1 := (wd_X1_pointCount cI a0 v0_0)) (ws' := (wd_X1_firstIdlePoint cI a0 v0_0)) hP hD hS hA [0, 1] [] [0, 1] rfl rfl rfl (by decide) rfl rfl (va_runV (As := [.int x1]) (rest := [.int s2]) ⟨hx, hb, hml, hown, hta⟩ (c_X1_pointCount l dC dI cI H.size a0 v0_0 x1 u_1 hu_1) (cwV 1 hta (ga_V mA168 mA169 mA170 mA6 mA171) rfl rfl rfl (by decide +kernel) ⟨Nat.le_of_ble_eq_true rfl, Nat.le_of_ble_eq_true rfl⟩) ⟨q_fb, va_recv hK hP (ci := 1) (q0 := 0) rfl rfl, q_ps hPc hK hDc⟩ rfl rfl hl.1 rfl (lv_room (Nat.le_of_ble_eq_true rfl)) dX1_firstIdlePoint_5 ⟨Nat.zero_le _, Nat.zero_le _⟩) (fun H locs hP hD hS => ?_)
        refine lv_icmp_ge (tgt := 28) hx hb dX1_firstIdlePoint_8 (by decide) (fun c_2 => ?_) (fun c_2 => ?_)
        · have hF := it_t hF c_2
          obtain rfl := Option.some.inj hF
          obtain rfl := lpq_x hO_2
          have hF := hE_2
          have hF := el_r hF
          exact j28 () hF _ _ _ hP hD hS (lv_sub hl [] rfl)
        · have hF := it_f hF c_2
          refine lv_aload_n hx hb dX1_firstIdlePoint_11 rfl (lv_at hl 0 rfl) ?_
          refine lv_iload_n hx hb dX1_firstIdlePoint_12 rfl (lv_at hl 1 rfl) ?_
          refine lv_iload_n hx hb dX1_firstIdlePoint_13 rfl (lv_at hl 2 rfl) ?_
          obtain ⟨u_3, hu_3, hF⟩ := obd_some hF
          have hPc := hP.sub (ws' := (wd_X1_isIdle cI a0 v0_0)) [0, 1] rfl
          have hDc := hD.sub (ws' := (wd_X1_isIdle cI a0 v0_0)) [0, 1] rfl rfl
          refine q_callz (wc := (wd_X1_isIdle cI a0 v0_0)) (w1 := (wd_X1_isIdle cI a0 v0_0)) (ws' := (wd_X1_firstIdlePoint cI a0 v0_0)) hP hD hS hA [0, 1] [] [0, 1] rfl rfl rfl (by decide) rfl rfl (va_runV (As := [.int x1, .int s2]) (rest := []) ⟨hx, hb, hml, hown, hta⟩ (c_X1_isIdle l dC dI cI H.size a0 v0_0 x1 s2 u_3 hu_3) (cwV 2 hta (ga_V mA269 mA270 mA271 mA6 mA272) rfl rfl rfl (by decide +kernel) ⟨Nat.le_of_ble_eq_true rfl, Nat.le_of_ble_eq_true rfl⟩) ⟨q_fb, va_recv hK hP (ci := 1) (q0 := 0) rfl rfl, q_ps hPc hK hDc⟩ rfl rfl hl.1 rfl (lv_room (Nat.le_of_ble_eq_true rfl)) dX1_firstIdlePoint_14 ⟨Nat.zero_le _, Nat.zero_le _⟩) (fun hzu_3 H locs hP hD hS => ?_)
          refine lv_if_eq (tgt := 22) hx hb dX1_firstIdlePoint_17 (by decide) (fun c_4 => ?_) (fun c_4 => ?_)
          · have hF := it_t hF c_4
            obtain ⟨y_5, ey_5, hF⟩ := lt_some hF
            refine lv_iinc (v := y_5) (lv' := [(2, .int y_5), (0, .ref (a0 0)), (1, .int x1)]) hx hb dX1_firstIdlePoint_22 hl (k := 2) rfl (by rw [ey_5]; rfl) (by decide) rfl (fun ls hl => ?_)
            refine lv_goto (tgt := 2) hx hb dX1_firstIdlePoint_25 (by decide) ?_
            obtain rfl := Option.some.inj hF
            exact ih_2 _ hO_2 _ _ _ hP hD hS (lv_sub hl [1, 2, 0] rfl)
          · have hF := it_f hF c_4
            obtain rfl := Option.some.inj hF
            obtain rfl := lpq_x hO_2
            have hF := hE_2
            have hF := el_l hF
            exact j20 s2 hF _ _ _ hP hD hS (lv_sub hl [2] rfl)
    exact kl_2 n _ hL_2 _ _ _ hP hD hS hl
  refine lv_iconst (v := 0) hx hb dX1_firstIdlePoint_0 (by decide) ?_
  refine lv_istore_n (lv' := [(2, .int 0), (0, .ref (a0 0)), (1, .int p1)]) hx hb dX1_firstIdlePoint_1 rfl hl (by decide) rfl (fun ls hl => ?_)
  exact j2 p1 0 hF _ _ _ hP hD hS (lv_sub hl [1, 2, 0] rfl)

-- StrokeOutliner$Drawing.dropPoint(II)V
def F_X1_dropPoint_j48 (v0_0 : Nat → Int32) (x1 : Int32) (x3 : Int32) : Option ((Nat → Int32)) :=
  lt (F_X1_cellOf x1) (fun u_1 => obd (F_X1_put v0_0 (u_1 + 0) (x3 - 1)) (fun u_2 => some u_2))
def F_X1_dropPoint_b9 (x1 : Int32) (x3 : Int32) (s9 : Int32 × (Nat → Int32)) : Option (Sum (Int32 × (Nat → Int32)) ((Nat → Int32))) :=
  if (x3 - 1) ≤ s9.1 then some (.inr s9.2) else obd (F_X1_xOf s9.2 x1 (s9.1 + 1)) (fun u_4 => obd (F_X1_yOf s9.2 x1 (s9.1 + 1)) (fun u_5 => obd (F_X1_putPoint s9.2 x1 s9.1 u_4 u_5) (fun u_6 => lt (s9.1 + 1) (fun y_7 => some (.inl (y_7, u_6))))))
def F_X1_dropPoint_j9 (n : Nat) (v0_0 : Nat → Int32) (x1 : Int32) (x3 : Int32) (x4 : Int32) : Option ((Nat → Int32)) :=
  obd (lpq (F_X1_dropPoint_b9 x1 x3) n (x4, v0_0)) (fun x_9 => F_X1_dropPoint_j48 x_9 x1 x3)
def F_X1_dropPoint (n : Nat) (v0_0 : Nat → Int32) (p1 : Int32) (p2 : Int32) : Option ((Nat → Int32)) :=
  obd (F_X1_pointCount v0_0 p1) (fun u_8 => F_X1_dropPoint_j9 n v0_0 p1 u_8 p2)
abbrev wd_X1_dropPoint (cI : ClassId) (a0 : Nat → Nat) (v0_0 : Nat → Int32) : va_W := [(a0 0, .inr (1, [.ref (a0 1)])), (a0 1, .inl (cI, 86, .inl v0_0))]
abbrev wz_X1_dropPoint : List Cond := .code yX1_dropPoint cX1_dropPoint 5 none :: wALL
abbrev rm_X1_dropPoint : Room := { frames := 2, cells := 0, slots := 0, locals := 46 }
abbrev Q_X1_dropPoint (dC : Nat → ClassId) (dI : Nat → Nat → Nat) (cI : ClassId) (a0 : Nat → Nat) (u : ((Nat → Int32))) (A : Nat → Prop) : Array Value → State → Outcome → State → Prop := va_Qv (fun (_ : Unit) => True) (fun _ => q_at dC dI cI A (wd_X1_dropPoint cI a0 u)) A
set_option maxHeartbeats 4000000 in
set_option maxRecDepth 100000 in
theorem c_X1_dropPoint (l : Launch) (dC : Nat → ClassId) (dI : Nat → Nat → Nat) (cI : ClassId) (sz : Nat) (a0 : Nat → Nat) (v0_0 : Nat → Int32) (p1 : Int32) (p2 : Int32) (n : Nat) (u : ((Nat → Int32))) (hF : F_X1_dropPoint n v0_0 p1 p2 = some u) : Met l yX1_dropPoint wz_X1_dropPoint rm_X1_dropPoint (va_Pc [.ref (a0 0), .int p1, .int p2] (q_pre dC dI cI (wd_X1_dropPoint cI a0 v0_0) sz)) (Q_X1_dropPoint dC dI cI a0 u (va_A (wd_X1_dropPoint cI a0 v0_0) sz)) 0 0 (va_A (wd_X1_dropPoint cI a0 v0_0) sz) := by
  refine Met.ofW (cc := cX1_dropPoint) (maxL := 5) (ret := none) (by decide) rfl ?_
  intro p e s m args below meth c s₁ B hml hv
  obtain ⟨rfl, hsz, hP, hK, hD0⟩ := hv
  have hx := B.exec
  have hb := B.bytes
  have hr := B.returns
  have hts := atoms_spec (ws := wz_X1_dropPoint) B.pre
  have hta := wz_tl hts
  have hown : s.vm.findClass RX1 = some m.cls := findClass_of_methodNamed B.named
  have hlocks := B.notSynchronized
  subst hsz
  have hD := hD0.self (sz := s.heap.size)
  generalize hAe : va_A (wd_X1_dropPoint cI a0 v0_0) s.heap.size = A at hD ⊢
  have hA : ∀ q : Nat, s.heap.size ≤ q → A q := fun q h => by rw [← hAe]; exact Or.inr h
  have hS : va_S A s.heap s.heap [] := va_S.rf
  have hP : va_P (dC, dI) vwCl (wd_X1_dropPoint cI a0 v0_0) s.heap := hP
  have hl := lv_entry ([.ref (a0 0), .int p1, .int p2]) (n := 5) (Nat.le_of_ble_eq_true rfl)
  rw [lg_entry_eq]
  generalize (lg_sl ([.ref (a0 0), .int p1, .int p2]) ++ List.replicate (5 - (lg_sl ([.ref (a0 0), .int p1, .int p2])).length) Slot.unset).toArray = ls at hl ⊢
  have hl : lv_has ls 5 [(0, .ref (a0 0)), (1, .int p1), (2, .int p2)] := hl
  obtain ⟨H, hHe⟩ : ∃ H, H = s.heap := ⟨_, rfl⟩
  have hS : va_S A s.heap H [] := by rw [hHe]; exact hS
  have hP : va_P (dC, dI) vwCl (wd_X1_dropPoint cI a0 v0_0) H := by rw [hHe]; exact hP
  rw [← hHe]
  unfold F_X1_dropPoint at hF
  have j48 : ∀ (v0_0 : Nat → Int32) (x1 : Int32) (x3 : Int32), F_X1_dropPoint_j48 v0_0 x1 x3 = some u → ∀ (H : Heap) (locs : List Loc) (ls : Array Slot), va_P (dC, dI) vwCl (wd_X1_dropPoint cI a0 v0_0) H → va_D A (wd_X1_dropPoint cI a0 v0_0) → va_S A s.heap H locs → lv_has ls 5 [(0, .ref (a0 0)), (1, .int x1), (3, .int x3)] → W p l e (headSpec wz_X1_dropPoint rm_X1_dropPoint).room s m [.ref (a0 0), .int p1, .int p2].toArray below meth c H locs 0 0 (MQ below (Q_X1_dropPoint dC dI cI a0 u A) [.ref (a0 0), .int p1, .int p2].toArray s 0 0 A) (F0 m 48 ls []) := by
    intro v0_0 x1 x3 hF H locs ls hP hD hS hl
    unfold F_X1_dropPoint_j48 at hF
    refine lv_aload_n hx hb dX1_dropPoint_48 rfl (lv_at hl 0 rfl) ?_
    refine lv_iload_n hx hb dX1_dropPoint_49 rfl (lv_at hl 1 rfl) ?_
    obtain ⟨u_1, hu_1, hF⟩ := lt_some hF
    have hPc := hP.sub (ws' := ([] : va_W)) [] rfl
    have hDc := hD.sub (ws' := ([] : va_W)) [] rfl rfl
    refine q_calli (wc := ([] : va_W)) (w1 := ([] : va_W)) (ws' := (wd_X1_dropPoint cI a0 v0_0)) hP hD hS hA [] [0, 1] [0, 1] rfl rfl rfl (by decide) rfl rfl (va_runS (As := [.int x1]) (rest := [.ref (a0 0)]) ⟨hx, hb, hml, hown, hta⟩ (c_X1_cellOf l dC dI cI H.size x1 u_1 hu_1.symm) (va_cwS 1 hta (ga_S mA157 mA158 mA6 mA159) rfl rfl rfl (by decide +kernel) ⟨Nat.le_of_ble_eq_true rfl, Nat.le_of_ble_eq_true rfl⟩) ⟨q_fb, q_ps hPc hK hDc⟩ rfl rfl hl.1 rfl (lv_room (Nat.le_of_ble_eq_true rfl)) dX1_dropPoint_50 ⟨Nat.zero_le _, Nat.zero_le _⟩) (fun H locs hP hD hS => ?_)
    refine lv_iconst (v := 0) hx hb dX1_dropPoint_53 (by decide) ?_
    refine lv_iadd hx hb dX1_dropPoint_54 ?_
    refine lv_iload_n hx hb dX1_dropPoint_55 rfl (lv_at hl 2 rfl) ?_
    refine lv_iconst (v := 1) hx hb dX1_dropPoint_56 (by decide) ?_
    refine lv_isub hx hb dX1_dropPoint_57 ?_
    obtain ⟨u_2, hu_2, hF⟩ := obd_some hF
    have hPc := hP.sub (ws' := (wd_X1_put cI a0 v0_0)) [0, 1] rfl
    have hDc := hD.sub (ws' := (wd_X1_put cI a0 v0_0)) [0, 1] rfl rfl
    refine q_callv (wc := (wd_X1_put cI a0 v0_0)) (w1 := (wd_X1_put cI a0 u_2)) (ws' := (wd_X1_dropPoint cI a0 u_2)) hP hD hS hA [0, 1] [] [0, 1] rfl rfl rfl (by decide) rfl rfl (va_runV (As := [.int (u_1 + 0), .int (x3 - 1)]) (rest := []) ⟨hx, hb, hml, hown, hta⟩ (c_X1_put l dC dI cI H.size a0 v0_0 (u_1 + 0) (x3 - 1) u_2 hu_2) (cwV 2 hta (ga_V mA153 mA154 mA155 mA6 mA156) rfl rfl rfl (by decide +kernel) ⟨Nat.le_of_ble_eq_true rfl, Nat.le_of_ble_eq_true rfl⟩) ⟨q_fb, va_recv hK hP (ci := 1) (q0 := 0) rfl rfl, q_ps hPc hK hDc⟩ rfl rfl hl.1 rfl (lv_room (Nat.le_of_ble_eq_true rfl)) dX1_dropPoint_58 ⟨Nat.zero_le _, Nat.zero_le _⟩) (fun H locs hP hD hS => ?_)
    obtain rfl := Option.some.inj hF
    exact W.vret hx hb hr (fun t ht hW => ⟨⟨(), rfl, trivial, by rw [ht]; exact hP, va_K.moved hW.alike hK, hD⟩, hS.F ht⟩) hS.2.2 dX1_dropPoint_61
  have j9 : ∀ (v0_0 : Nat → Int32) (x1 : Int32) (x3 : Int32) (x4 : Int32), F_X1_dropPoint_j9 n v0_0 x1 x3 x4 = some u → ∀ (H : Heap) (locs : List Loc) (ls : Array Slot), va_P (dC, dI) vwCl (wd_X1_dropPoint cI a0 v0_0) H → va_D A (wd_X1_dropPoint cI a0 v0_0) → va_S A s.heap H locs → lv_has ls 5 [(0, .ref (a0 0)), (1, .int x1), (3, .int x3), (4, .int x4)] → W p l e (headSpec wz_X1_dropPoint rm_X1_dropPoint).room s m [.ref (a0 0), .int p1, .int p2].toArray below meth c H locs 0 0 (MQ below (Q_X1_dropPoint dC dI cI a0 u A) [.ref (a0 0), .int p1, .int p2].toArray s 0 0 A) (F0 m 9 ls []) := by
    intro v0_0 x1 x3 x4 hF H locs ls hP hD hS hl
    unfold F_X1_dropPoint_j9 at hF
    obtain ⟨x_9, hL_9, hE_9⟩ := obd_some hF
    have kl_9 : ∀ (k : Nat) (s9 : Int32 × (Nat → Int32)), lpq (F_X1_dropPoint_b9 x1 x3) k s9 = some x_9 → ∀ (H : Heap) (locs : List Loc) (ls : Array Slot), va_P (dC, dI) vwCl (wd_X1_dropPoint cI a0 s9.2) H → va_D A (wd_X1_dropPoint cI a0 s9.2) → va_S A s.heap H locs → lv_has ls 5 [(0, .ref (a0 0)), (1, .int x1), (3, .int x3), (4, .int s9.1)] → W p l e (headSpec wz_X1_dropPoint rm_X1_dropPoint).room s m [.ref (a0 0), .int p1, .int p2].toArray below meth c H locs 0 0 (MQ below (Q_X1_dropPoint dC dI cI a0 u A) [.ref (a0 0), .int p1, .int p2].toArray s 0 0 A) (F0 m 9 ls []) := by
      intro k
      induction k with
      | zero => intro s9 h; exact absurd h lpq_zero
      | succ k ih_9 =>
        intro s9 h H locs ls hP hD hS hl
        obtain ⟨o_9, hF, hO_9⟩ := lpq_succ h
        unfold F_X1_dropPoint_b9 at hF
        refine lv_iload hx hb dX1_dropPoint_9 (lv_at hl 3 rfl) ?_
        refine lv_iload_n hx hb dX1_dropPoint_11 rfl (lv_at hl 2 rfl) ?_
        refine lv_iconst (v := 1) hx hb dX1_dropPoint_12 (by decide) ?_
        refine lv_isub hx hb dX1_dropPoint_13 ?_
        refine lv_icmp_ge (tgt := 48) hx hb dX1_dropPoint_14 (by decide) (fun c_3 => ?_) (fun c_3 => ?_)
        · have hF := it_t hF c_3
          obtain rfl := Option.some.inj hF
          obtain rfl := lpq_x hO_9
          have hF := hE_9
          exact j48 s9.2 x1 x3 hF _ _ _ hP hD hS (lv_sub hl [0, 1, 2] rfl)
        · have hF := it_f hF c_3
          refine lv_aload_n hx hb dX1_dropPoint_17 rfl (lv_at hl 0 rfl) ?_
          refine lv_iload_n hx hb dX1_dropPoint_18 rfl (lv_at hl 1 rfl) ?_
          refine lv_iload hx hb dX1_dropPoint_19 (lv_at hl 3 rfl) ?_
          refine lv_aload_n hx hb dX1_dropPoint_21 rfl (lv_at hl 0 rfl) ?_
          refine lv_iload_n hx hb dX1_dropPoint_22 rfl (lv_at hl 1 rfl) ?_
          refine lv_iload hx hb dX1_dropPoint_23 (lv_at hl 3 rfl) ?_
          refine lv_iconst (v := 1) hx hb dX1_dropPoint_25 (by decide) ?_
          refine lv_iadd hx hb dX1_dropPoint_26 ?_
          obtain ⟨u_4, hu_4, hF⟩ := obd_some hF
          have hPc := hP.sub (ws' := (wd_X1_xOf cI a0 s9.2)) [0, 1] rfl
          have hDc := hD.sub (ws' := (wd_X1_xOf cI a0 s9.2)) [0, 1] rfl rfl
          refine q_calli (wc := (wd_X1_xOf cI a0 s9.2)) (w1 := (wd_X1_xOf cI a0 s9.2)) (ws' := (wd_X1_dropPoint cI a0 s9.2)) hP hD hS hA [0, 1] [] [0, 1] rfl rfl rfl (by decide) rfl rfl (va_runV (As := [.int x1, .int (s9.1 + 1)]) (rest := [.int s9.1, .int x1, .ref (a0 0)]) ⟨hx, hb, hml, hown, hta⟩ (c_X1_xOf l dC dI cI H.size a0 s9.2 x1 (s9.1 + 1) u_4 hu_4) (cwV 2 hta (ga_V mA258 mA208 mA209 mA6 mA210) rfl rfl rfl (by decide +kernel) ⟨Nat.le_of_ble_eq_true rfl, Nat.le_of_ble_eq_true rfl⟩) ⟨q_fb, va_recv hK hP (ci := 1) (q0 := 0) rfl rfl, q_ps hPc hK hDc⟩ rfl rfl hl.1 rfl (lv_room (Nat.le_of_ble_eq_true rfl)) dX1_dropPoint_27 ⟨Nat.zero_le _, Nat.zero_le _⟩) (fun H locs hP hD hS => ?_)
          refine lv_aload_n hx hb dX1_dropPoint_30 rfl (lv_at hl 0 rfl) ?_
          refine lv_iload_n hx hb dX1_dropPoint_31 rfl (lv_at hl 1 rfl) ?_
          refine lv_iload hx hb dX1_dropPoint_32 (lv_at hl 3 rfl) ?_
          refine lv_iconst (v := 1) hx hb dX1_dropPoint_34 (by decide) ?_
          refine lv_iadd hx hb dX1_dropPoint_35 ?_
          obtain ⟨u_5, hu_5, hF⟩ := obd_some hF
          have hPc := hP.sub (ws' := (wd_X1_yOf cI a0 s9.2)) [0, 1] rfl
          have hDc := hD.sub (ws' := (wd_X1_yOf cI a0 s9.2)) [0, 1] rfl rfl
          refine q_calli (wc := (wd_X1_yOf cI a0 s9.2)) (w1 := (wd_X1_yOf cI a0 s9.2)) (ws' := (wd_X1_dropPoint cI a0 s9.2)) hP hD hS hA [0, 1] [] [0, 1] rfl rfl rfl (by decide) rfl rfl (va_runV (As := [.int x1, .int (s9.1 + 1)]) (rest := [.int u_4, .int s9.1, .int x1, .ref (a0 0)]) ⟨hx, hb, hml, hown, hta⟩ (c_X1_yOf l dC dI cI H.size a0 s9.2 x1 (s9.1 + 1) u_5 hu_5) (cwV 2 hta (ga_V mA259 mA212 mA213 mA6 mA214) rfl rfl rfl (by decide +kernel) ⟨Nat.le_of_ble_eq_true rfl, Nat.le_of_ble_eq_true rfl⟩) ⟨q_fb, va_recv hK hP (ci := 1) (q0 := 0) rfl rfl, q_ps hPc hK hDc⟩ rfl rfl hl.1 rfl (lv_room (Nat.le_of_ble_eq_true rfl)) dX1_dropPoint_36 ⟨Nat.zero_le _, Nat.zero_le _⟩) (fun H locs hP hD hS => ?_)
          obtain ⟨u_6, hu_6, hF⟩ := obd_some hF
          have hPc := hP.sub (ws' := (wd_X1_putPoint cI a0 s9.2)) [0, 1] rfl
          have hDc := hD.sub (ws' := (wd_X1_putPoint cI a0 s9.2)) [0, 1] rfl rfl
          refine q_callv (wc := (wd_X1_putPoint cI a0 s9.2)) (w1 := (wd_X1_putPoint cI a0 u_6)) (ws' := (wd_X1_dropPoint cI a0 u_6)) hP hD hS hA [0, 1] [] [0, 1] rfl rfl rfl (by decide) rfl rfl (va_runV (As := [.int x1, .int s9.1, .int u_4, .int u_5]) (rest := []) ⟨hx, hb, hml, hown, hta⟩ (c_X1_putPoint l dC dI cI H.size a0 s9.2 x1 s9.1 u_4 u_5 u_6 hu_6) (cwV 4 hta (ga_V mA172 mA173 mA174 mA6 mA175) rfl rfl rfl (by decide +kernel) ⟨Nat.le_of_ble_eq_true rfl, Nat.le_of_ble_eq_true rfl⟩) ⟨q_fb, va_recv hK hP (ci := 1) (q0 := 0) rfl rfl, q_ps hPc hK hDc⟩ rfl rfl hl.1 rfl (lv_room (Nat.le_of_ble_eq_true rfl)) dX1_dropPoint_39 ⟨Nat.zero_le _, Nat.zero_le _⟩) (fun H locs hP hD hS => ?_)
          obtain ⟨y_7, ey_7, hF⟩ := lt_some hF
          refine lv_iinc (v := y_7) (lv' := [(4, .int y_7), (0, .ref (a0 0)), (1, .int x1), (3, .int x3)]) hx hb dX1_dropPoint_42 hl (k := 3) rfl (by rw [ey_7]; rfl) (by decide) rfl (fun ls hl => ?_)
          refine lv_goto (tgt := 9) hx hb dX1_dropPoint_45 (by decide) ?_
          obtain rfl := Option.some.inj hF
          exact ih_9 _ hO_9 _ _ _ hP hD hS (lv_sub hl [1, 2, 3, 0] rfl)
    exact kl_9 n _ hL_9 _ _ _ hP hD hS hl
  refine lv_aload_n hx hb dX1_dropPoint_0 rfl (lv_at hl 0 rfl) ?_
  refine lv_iload_n hx hb dX1_dropPoint_1 rfl (lv_at hl 1 rfl) ?_
  obtain ⟨u_8, hu_8, hF⟩ := obd_some hF
  have hPc := hP.sub (ws' := (wd_X1_pointCount cI a0 v0_0)) [0, 1] rfl
  have hDc := hD.sub (ws' := (wd_X1_pointCount cI a0 v0_0)) [0, 1] rfl rfl
  refine q_calli (wc := (wd_X1_pointCount cI a0 v0_0)) (w1 := (wd_X1_pointCount cI a0 v0_0)) (ws' := (wd_X1_dropPoint cI a0 v0_0)) hP hD hS hA [0, 1] [] [0, 1] rfl rfl rfl (by decide) rfl rfl (va_runV (As := [.int p1]) (rest := []) ⟨hx, hb, hml, hown, hta⟩ (c_X1_pointCount l dC dI cI H.size a0 v0_0 p1 u_8 hu_8) (cwV 1 hta (ga_V mA168 mA169 mA170 mA6 mA171) rfl rfl rfl (by decide +kernel) ⟨Nat.le_of_ble_eq_true rfl, Nat.le_of_ble_eq_true rfl⟩) ⟨q_fb, va_recv hK hP (ci := 1) (q0 := 0) rfl rfl, q_ps hPc hK hDc⟩ rfl rfl hl.1 rfl (lv_room (Nat.le_of_ble_eq_true rfl)) dX1_dropPoint_2 ⟨Nat.zero_le _, Nat.zero_le _⟩) (fun H locs hP hD hS => ?_)
  refine lv_istore_n (lv' := [(3, .int u_8), (0, .ref (a0 0)), (1, .int p1), (2, .int p2)]) hx hb dX1_dropPoint_5 rfl hl (by decide) rfl (fun ls hl => ?_)
  refine lv_iload_n hx hb dX1_dropPoint_6 rfl (lv_at hl 3 rfl) ?_
  refine lv_istore (lv' := [(4, .int p2), (3, .int u_8), (0, .ref (a0 0)), (1, .int p1), (2, .int p2)]) hx hb dX1_dropPoint_7 hl (by decide) rfl (fun ls hl => ?_)
  exact j9 v0_0 p1 u_8 p2 hF _ _ _ hP hD hS (lv_sub hl [2, 3, 1, 0] rfl)

-- StrokeOutliner$Drawing.dropIdlePoints(I)I
def F_X1_dropIdlePoints_j33 (v0_0 : Nat → Int32) : Option (Int32 × (Nat → Int32)) :=
  some (8, v0_0)
def F_X1_dropIdlePoints_j19 (v0_0 : Nat → Int32) (x2 : Int32) : Option (Int32 × (Nat → Int32)) :=
  some (x2, v0_0)
def F_X1_dropIdlePoints_b2 (n : Nat) (x1 : Int32) (s2 : Int32 × (Nat → Int32)) : Option (Sum (Int32 × (Nat → Int32)) (Sum (Int32 × (Nat → Int32)) ((Nat → Int32)))) :=
  if 8 ≤ s2.1 then some (.inr (.inr s2.2)) else obd (F_X1_firstIdlePoint n s2.2 x1) (fun u_2 => if u_2 = (-1) then some (.inr (.inl (s2.1, s2.2))) else obd (F_X1_dropPoint n s2.2 x1 u_2) (fun u_4 => lt (s2.1 + 1) (fun y_5 => some (.inl (y_5, u_4)))))
def F_X1_dropIdlePoints_j2 (n : Nat) (v0_0 : Nat → Int32) (x1 : Int32) (x2 : Int32) : Option (Int32 × (Nat → Int32)) :=
  obd (lpq (F_X1_dropIdlePoints_b2 n x1) n (x2, v0_0)) (fun x_2 => Sum.elim (fun x_2 => F_X1_dropIdlePoints_j19 x_2.2 x_2.1) (fun x_2 => F_X1_dropIdlePoints_j33 x_2) x_2)
def F_X1_dropIdlePoints (n : Nat) (v0_0 : Nat → Int32) (p1 : Int32) : Option (Int32 × (Nat → Int32)) :=
  F_X1_dropIdlePoints_j2 n v0_0 p1 0
abbrev wd_X1_dropIdlePoints (cI : ClassId) (a0 : Nat → Nat) (v0_0 : Nat → Int32) : va_W := [(a0 0, .inr (1, [.ref (a0 1)])), (a0 1, .inl (cI, 86, .inl v0_0))]
abbrev wz_X1_dropIdlePoints : List Cond := .code yX1_dropIdlePoints cX1_dropIdlePoints 4 (some .int) :: wALL
abbrev rm_X1_dropIdlePoints : Room := { frames := 5, cells := 0, slots := 0, locals := 121 }
abbrev Q_X1_dropIdlePoints (dC : Nat → ClassId) (dI : Nat → Nat → Nat) (cI : ClassId) (a0 : Nat → Nat) (u : (Int32 × (Nat → Int32))) (A : Nat → Prop) : Array Value → State → Outcome → State → Prop := va_Qi (fun (r : Int32) (_ : Unit) => r = u.1) (fun _ => q_at dC dI cI A (wd_X1_dropIdlePoints cI a0 u.2)) A
set_option maxHeartbeats 4000000 in
set_option maxRecDepth 100000 in
theorem c_X1_dropIdlePoints (l : Launch) (dC : Nat → ClassId) (dI : Nat → Nat → Nat) (cI : ClassId) (sz : Nat) (a0 : Nat → Nat) (v0_0 : Nat → Int32) (p1 : Int32) (n : Nat) (u : (Int32 × (Nat → Int32))) (hF : F_X1_dropIdlePoints n v0_0 p1 = some u) : Met l yX1_dropIdlePoints wz_X1_dropIdlePoints rm_X1_dropIdlePoints (va_Pc [.ref (a0 0), .int p1] (q_pre dC dI cI (wd_X1_dropIdlePoints cI a0 v0_0) sz)) (Q_X1_dropIdlePoints dC dI cI a0 u (va_A (wd_X1_dropIdlePoints cI a0 v0_0) sz)) 0 0 (va_A (wd_X1_dropIdlePoints cI a0 v0_0) sz) := by
  refine Met.ofW (cc := cX1_dropIdlePoints) (maxL := 4) (ret := (some .int)) (by decide) rfl ?_
  intro p e s m args below meth c s₁ B hml hv
  obtain ⟨rfl, hsz, hP, hK, hD0⟩ := hv
  have hx := B.exec
  have hb := B.bytes
  have hr := B.returns
  have hts := atoms_spec (ws := wz_X1_dropIdlePoints) B.pre
  have hta := wz_tl hts
  have hown : s.vm.findClass RX1 = some m.cls := findClass_of_methodNamed B.named
  have hlocks := B.notSynchronized
  subst hsz
  have hD := hD0.self (sz := s.heap.size)
  generalize hAe : va_A (wd_X1_dropIdlePoints cI a0 v0_0) s.heap.size = A at hD ⊢
  have hA : ∀ q : Nat, s.heap.size ≤ q → A q := fun q h => by rw [← hAe]; exact Or.inr h
  have hS : va_S A s.heap s.heap [] := va_S.rf
  have hP : va_P (dC, dI) vwCl (wd_X1_dropIdlePoints cI a0 v0_0) s.heap := hP
  have hl := lv_entry ([.ref (a0 0), .int p1]) (n := 4) (Nat.le_of_ble_eq_true rfl)
  rw [lg_entry_eq]
  generalize (lg_sl ([.ref (a0 0), .int p1]) ++ List.replicate (4 - (lg_sl ([.ref (a0 0), .int p1])).length) Slot.unset).toArray = ls at hl ⊢
  have hl : lv_has ls 4 [(0, .ref (a0 0)), (1, .int p1)] := hl
  obtain ⟨H, hHe⟩ : ∃ H, H = s.heap := ⟨_, rfl⟩
  have hS : va_S A s.heap H [] := by rw [hHe]; exact hS
  have hP : va_P (dC, dI) vwCl (wd_X1_dropIdlePoints cI a0 v0_0) H := by rw [hHe]; exact hP
  rw [← hHe]
  unfold F_X1_dropIdlePoints at hF
  have j33 : ∀ (v0_0 : Nat → Int32), F_X1_dropIdlePoints_j33 v0_0 = some u → ∀ (H : Heap) (locs : List Loc) (ls : Array Slot), va_P (dC, dI) vwCl (wd_X1_dropIdlePoints cI a0 v0_0) H → va_D A (wd_X1_dropIdlePoints cI a0 v0_0) → va_S A s.heap H locs → lv_has ls 4 [] → W p l e (headSpec wz_X1_dropIdlePoints rm_X1_dropIdlePoints).room s m [.ref (a0 0), .int p1].toArray below meth c H locs 0 0 (MQ below (Q_X1_dropIdlePoints dC dI cI a0 u A) [.ref (a0 0), .int p1].toArray s 0 0 A) (F0 m 33 ls []) := by
    intro v0_0 hF H locs ls hP hD hS hl
    unfold F_X1_dropIdlePoints_j33 at hF
    refine lv_bipush (v := 8) hx hb dX1_dropIdlePoints_33 (by decide) ?_
    obtain rfl := Option.some.inj hF
    exact W.iret (v := 8) hx hb hr (fun t ht hW => ⟨⟨8, (), rfl, rfl, by rw [ht]; exact hP, va_K.moved hW.alike hK, hD⟩, hS.F ht⟩) hS.2.2 dX1_dropIdlePoints_35
  have j19 : ∀ (v0_0 : Nat → Int32) (x2 : Int32), F_X1_dropIdlePoints_j19 v0_0 x2 = some u → ∀ (H : Heap) (locs : List Loc) (ls : Array Slot), va_P (dC, dI) vwCl (wd_X1_dropIdlePoints cI a0 v0_0) H → va_D A (wd_X1_dropIdlePoints cI a0 v0_0) → va_S A s.heap H locs → lv_has ls 4 [(2, .int x2)] → W p l e (headSpec wz_X1_dropIdlePoints rm_X1_dropIdlePoints).room s m [.ref (a0 0), .int p1].toArray below meth c H locs 0 0 (MQ below (Q_X1_dropIdlePoints dC dI cI a0 u A) [.ref (a0 0), .int p1].toArray s 0 0 A) (F0 m 19 ls []) := by
    intro v0_0 x2 hF H locs ls hP hD hS hl
    unfold F_X1_dropIdlePoints_j19 at hF
    refine lv_iload_n hx hb dX1_dropIdlePoints_19 rfl (lv_at hl 0 rfl) ?_
    obtain rfl := Option.some.inj hF
    exact W.iret (v := x2) hx hb hr (fun t ht hW => ⟨⟨x2, (), rfl, rfl, by rw [ht]; exact hP, va_K.moved hW.alike hK, hD⟩, hS.F ht⟩) hS.2.2 dX1_dropIdlePoints_20
  have j2 : ∀ (v0_0 : Nat → Int32) (x1 : Int32) (x2 : Int32), F_X1_dropIdlePoints_j2 n v0_0 x1 x2 = some u → ∀ (H : Heap) (locs : List Loc) (ls : Array Slot), va_P (dC, dI) vwCl (wd_X1_dropIdlePoints cI a0 v0_0) H → va_D A (wd_X1_dropIdlePoints cI a0 v0_0) → va_S A s.heap H locs → lv_has ls 4 [(0, .ref (a0 0)), (1, .int x1), (2, .int x2)] → W p l e (headSpec wz_X1_dropIdlePoints rm_X1_dropIdlePoints).room s m [.ref (a0 0), .int p1].toArray below meth c H locs 0 0 (MQ below (Q_X1_dropIdlePoints dC dI cI a0 u A) [.ref (a0 0), .int p1].toArray s 0 0 A) (F0 m 2 ls []) := by
    intro v0_0 x1 x2 hF H locs ls hP hD hS hl
    unfold F_X1_dropIdlePoints_j2 at hF
    obtain ⟨x_2, hL_2, hE_2⟩ := obd_some hF
    have kl_2 : ∀ (k : Nat) (s2 : Int32 × (Nat → Int32)), lpq (F_X1_dropIdlePoints_b2 n x1) k s2 = some x_2 → ∀ (H : Heap) (locs : List Loc) (ls : Array Slot), va_P (dC, dI) vwCl (wd_X1_dropIdlePoints cI a0 s2.2) H → va_D A (wd_X1_dropIdlePoints cI a0 s2.2) → va_S A s.heap H locs → lv_has ls 4 [(0, .ref (a0 0)), (1, .int x1), (2, .int s2.1)] → W p l e (headSpec wz_X1_dropIdlePoints rm_X1_dropIdlePoints).room s m [.ref (a0 0), .int p1].toArray below meth c H locs 0 0 (MQ below (Q_X1_dropIdlePoints dC dI cI a0 u A) [.ref (a0 0), .int p1].toArray s 0 0 A) (F0 m 2 ls []) := by
      intro k
      induction k with
      | zero => intro s2 h; exact absurd h lpq_zero
      | succ k ih_2 =>
        intro s2 h H locs ls hP hD hS hl
        obtain ⟨o_2, hF, hO_2⟩ := lpq_succ h
        unfold F_X1_dropIdlePoints_b2 at hF
        refine lv_iload_n hx hb dX1_dropIdlePoints_2 rfl (lv_at hl 2 rfl) ?_
        refine lv_bipush (v := 8) hx hb dX1_dropIdlePoints_3 (by decide) ?_
        refine lv_icmp_ge (tgt := 33) hx hb dX1_dropIdlePoints_5 (by decide) (fun c_1 => ?_) (fun c_1 => ?_)
        · have hF := it_t hF c_1
          obtain rfl := Option.some.inj hF
          obtain rfl := lpq_x hO_2
          have hF := hE_2
          have hF := el_r hF
          exact j33 s2.2 hF _ _ _ hP hD hS (lv_sub hl [] rfl)
        · have hF := it_f hF c_1
          refine lv_aload_n hx hb dX1_dropIdlePoints_8 rfl (lv_at hl 0 rfl) ?_
          refine lv_iload_n hx hb dX1_dropIdlePoints_9 rfl (lv_at hl 1 rfl) ?_
          obtain ⟨u_2, hu_2, hF⟩ := obd_some hF
          have hPc := hP.sub (ws' := (wd_X1_firstIdlePoint cI a0 s2.2)) [0, 1] rfl
          have hDc := hD.sub (ws' := (wd_X1_firstIdlePoint cI a0 s2.2)) [0, 1] rfl rfl
          refine q_calli (wc := (wd_X1_firstIdlePoint cI a0 s2.2)) (w1 := (wd_X1_firstIdlePoint cI a0 s2.2)) (ws' := (wd_X1_dropIdlePoints cI a0 s2.2)) hP hD hS hA [0, 1] [] [0, 1] rfl rfl rfl (by decide) rfl rfl (va_runV (As := [.int x1]) (rest := []) ⟨hx, hb, hml, hown, hta⟩ (c_X1_firstIdlePoint l dC dI cI H.size a0 s2.2 x1 n u_2 hu_2) (cwV 1 hta (ga_V mA265 mA266 mA267 mA6 mA268) rfl rfl rfl (by decide +kernel) ⟨Nat.le_of_ble_eq_true rfl, Nat.le_of_ble_eq_true rfl⟩) ⟨q_fb, va_recv hK hP (ci := 1) (q0 := 0) rfl rfl, q_ps hPc hK hDc⟩ rfl rfl hl.1 rfl (lv_room (Nat.le_of_ble_eq_true rfl)) dX1_dropIdlePoints_10 ⟨Nat.zero_le _, Nat.zero_le _⟩) (fun H locs hP hD hS => ?_)
          refine lv_istore_n (lv' := [(3, .int u_2), (0, .ref (a0 0)), (1, .int x1), (2, .int s2.1)]) hx hb dX1_dropIdlePoints_13 rfl hl (by decide) rfl (fun ls hl => ?_)
          refine lv_iload_n hx hb dX1_dropIdlePoints_14 rfl (lv_at hl 0 rfl) ?_
          refine lv_iconst (v := (-1)) hx hb dX1_dropIdlePoints_15 (by decide) ?_
          refine lv_icmp_ne (tgt := 21) hx hb dX1_dropIdlePoints_16 (by decide) (fun c_3 => ?_) (fun c_3 => ?_)
          · have hF := it_f hF c_3
            refine lv_aload_n hx hb dX1_dropIdlePoints_21 rfl (lv_at hl 1 rfl) ?_
            refine lv_iload_n hx hb dX1_dropIdlePoints_22 rfl (lv_at hl 2 rfl) ?_
            refine lv_iload_n hx hb dX1_dropIdlePoints_23 rfl (lv_at hl 0 rfl) ?_
            obtain ⟨u_4, hu_4, hF⟩ := obd_some hF
            have hPc := hP.sub (ws' := (wd_X1_dropPoint cI a0 s2.2)) [0, 1] rfl
            have hDc := hD.sub (ws' := (wd_X1_dropPoint cI a0 s2.2)) [0, 1] rfl rfl
            refine q_callv (wc := (wd_X1_dropPoint cI a0 s2.2)) (w1 := (wd_X1_dropPoint cI a0 u_4)) (ws' := (wd_X1_dropIdlePoints cI a0 u_4)) hP hD hS hA [0, 1] [] [0, 1] rfl rfl rfl (by decide) rfl rfl (va_runV (As := [.int x1, .int u_2]) (rest := []) ⟨hx, hb, hml, hown, hta⟩ (c_X1_dropPoint l dC dI cI H.size a0 s2.2 x1 u_2 n u_4 hu_4) (cwV 2 hta (ga_V mA285 mA286 mA287 mA6 mA288) rfl rfl rfl (by decide +kernel) ⟨Nat.le_of_ble_eq_true rfl, Nat.le_of_ble_eq_true rfl⟩) ⟨q_fb, va_recv hK hP (ci := 1) (q0 := 0) rfl rfl, q_ps hPc hK hDc⟩ rfl rfl hl.1 rfl (lv_room (Nat.le_of_ble_eq_true rfl)) dX1_dropIdlePoints_24 ⟨Nat.zero_le _, Nat.zero_le _⟩) (fun H locs hP hD hS => ?_)
            obtain ⟨y_5, ey_5, hF⟩ := lt_some hF
            refine lv_iinc (v := y_5) (lv' := [(2, .int y_5), (3, .int u_2), (0, .ref (a0 0)), (1, .int x1)]) hx hb dX1_dropIdlePoints_27 hl (k := 3) rfl (by rw [ey_5]; rfl) (by decide) rfl (fun ls hl => ?_)
            refine lv_goto (tgt := 2) hx hb dX1_dropIdlePoints_30 (by decide) ?_
            obtain rfl := Option.some.inj hF
            exact ih_2 _ hO_2 _ _ _ hP hD hS (lv_sub hl [2, 3, 0] rfl)
          · have hF := it_t hF c_3
            obtain rfl := Option.some.inj hF
            obtain rfl := lpq_x hO_2
            have hF := hE_2
            have hF := el_l hF
            exact j19 s2.2 s2.1 hF _ _ _ hP hD hS (lv_sub hl [3] rfl)
    exact kl_2 n _ hL_2 _ _ _ hP hD hS hl
  refine lv_iconst (v := 0) hx hb dX1_dropIdlePoints_0 (by decide) ?_
  refine lv_istore_n (lv' := [(2, .int 0), (0, .ref (a0 0)), (1, .int p1)]) hx hb dX1_dropIdlePoints_1 rfl hl (by decide) rfl (fun ls hl => ?_)
  exact j2 v0_0 p1 0 hF _ _ _ hP hD hS (lv_sub hl [1, 2, 0] rfl)

-- StrokeOutliner$Drawing.turnedX(III)I
def F_X1_turnedX_j12 (x2 : Int32) (t0 : Int32) : (Int32) :=
  if 2 ≤ x2 then (-t0) else t0
def F_X1_turnedX (p0 : Int32) (p1 : Int32) (p2 : Int32) : (Int32) :=
  if (p2 &&& 1) = 0 then F_X1_turnedX_j12 p2 p0 else F_X1_turnedX_j12 p2 (-p1)
abbrev wz_X1_turnedX : List Cond := .code yX1_turnedX cX1_turnedX 4 (some .int) :: wALL
abbrev rm_X1_turnedX : Room := { frames := 0, cells := 0, slots := 0, locals := 0 }
abbrev Q_X1_turnedX (dC : Nat → ClassId) (dI : Nat → Nat → Nat) (cI : ClassId) (u : (Int32)) (A : Nat → Prop) : Array Value → State → Outcome → State → Prop := va_Qi (fun (r : Int32) (_ : Unit) => r = u) (fun _ => q_at dC dI cI A ([] : va_W)) A
set_option maxHeartbeats 4000000 in
set_option maxRecDepth 100000 in
theorem c_X1_turnedX (l : Launch) (dC : Nat → ClassId) (dI : Nat → Nat → Nat) (cI : ClassId) (sz : Nat) (p0 : Int32) (p1 : Int32) (p2 : Int32) (u : (Int32)) (hF : F_X1_turnedX p0 p1 p2 = u) : Met l yX1_turnedX wz_X1_turnedX rm_X1_turnedX (va_Pc [.int p0, .int p1, .int p2] (q_pre dC dI cI ([] : va_W) sz)) (Q_X1_turnedX dC dI cI u (va_A ([] : va_W) sz)) 0 0 (va_A ([] : va_W) sz) := by
  refine Met.ofW (cc := cX1_turnedX) (maxL := 4) (ret := (some .int)) (by decide) rfl ?_
  intro p e s m args below meth c s₁ B hml hv
  obtain ⟨rfl, hsz, hP, hK, hD0⟩ := hv
  have hx := B.exec
  have hb := B.bytes
  have hr := B.returns
  have hts := atoms_spec (ws := wz_X1_turnedX) B.pre
  have hta := wz_tl hts
  have hown : s.vm.findClass RX1 = some m.cls := findClass_of_methodNamed B.named
  have hlocks := B.notSynchronized
  subst hsz
  have hD := hD0.self (sz := s.heap.size)
  generalize hAe : va_A ([] : va_W) s.heap.size = A at hD ⊢
  have hA : ∀ q : Nat, s.heap.size ≤ q → A q := fun q h => by rw [← hAe]; exact Or.inr h
  have hS : va_S A s.heap s.heap [] := va_S.rf
  have hP : va_P (dC, dI) vwCl ([] : va_W) s.heap := hP
  have hl := lv_entry ([.int p0, .int p1, .int p2]) (n := 4) (Nat.le_of_ble_eq_true rfl)
  rw [lg_entry_eq]
  generalize (lg_sl ([.int p0, .int p1, .int p2]) ++ List.replicate (4 - (lg_sl ([.int p0, .int p1, .int p2])).length) Slot.unset).toArray = ls at hl ⊢
  have hl : lv_has ls 4 [(0, .int p0), (1, .int p1), (2, .int p2)] := hl
  obtain ⟨H, hHe⟩ : ∃ H, H = s.heap := ⟨_, rfl⟩
  have hS : va_S A s.heap H [] := by rw [hHe]; exact hS
  have hP : va_P (dC, dI) vwCl ([] : va_W) H := by rw [hHe]; exact hP
  rw [← hHe]
  unfold F_X1_turnedX at hF
  have j12 : ∀ (x2 : Int32) (t0 : Int32), F_X1_turnedX_j12 x2 t0 = u → ∀ (H : Heap) (locs : List Loc) (ls : Array Slot), va_P (dC, dI) vwCl ([] : va_W) H → va_D A ([] : va_W) → va_S A s.heap H locs → lv_has ls 4 [(2, .int x2)] → W p l e (headSpec wz_X1_turnedX rm_X1_turnedX).room s m [.int p0, .int p1, .int p2].toArray below meth c H locs 0 0 (MQ below (Q_X1_turnedX dC dI cI u A) [.int p0, .int p1, .int p2].toArray s 0 0 A) (F0 m 12 ls [.int t0]) := by
    intro x2 t0 hF H locs ls hP hD hS hl
    unfold F_X1_turnedX_j12 at hF
    refine lv_istore_n (lv' := [(3, .int t0), (2, .int x2)]) hx hb dX1_turnedX_12 rfl hl (by decide) rfl (fun ls hl => ?_)
    refine lv_iload_n hx hb dX1_turnedX_13 rfl (lv_at hl 1 rfl) ?_
    refine lv_iconst (v := 2) hx hb dX1_turnedX_14 (by decide) ?_
    refine lv_icmp_ge (tgt := 22) hx hb dX1_turnedX_15 (by decide) (fun c_1 => ?_) (fun c_1 => ?_)
    · have hF := it_t hF c_1
      refine lv_iload_n hx hb dX1_turnedX_22 rfl (lv_at hl 0 rfl) ?_
      refine lv_ineg hx hb dX1_turnedX_23 ?_
      subst hF
      exact W.iret (v := (-t0)) hx hb hr (fun t ht hW => ⟨⟨(-t0), (), rfl, rfl, by rw [ht]; exact hP, va_K.moved hW.alike hK, hD⟩, hS.F ht⟩) hS.2.2 dX1_turnedX_24
    · have hF := it_f hF c_1
      refine lv_iload_n hx hb dX1_turnedX_18 rfl (lv_at hl 0 rfl) ?_
      refine lv_goto (tgt := 24) hx hb dX1_turnedX_19 (by decide) ?_
      subst hF
      exact W.iret (v := t0) hx hb hr (fun t ht hW => ⟨⟨t0, (), rfl, rfl, by rw [ht]; exact hP, va_K.moved hW.alike hK, hD⟩, hS.F ht⟩) hS.2.2 dX1_turnedX_24
  refine lv_iload_n hx hb dX1_turnedX_0 rfl (lv_at hl 2 rfl) ?_
  refine lv_iconst (v := 1) hx hb dX1_turnedX_1 (by decide) ?_
  refine lv_iand hx hb dX1_turnedX_2 ?_
  refine lv_if_ne (tgt := 10) hx hb dX1_turnedX_3 (by decide) (fun c_2 => ?_) (fun c_2 => ?_)
  · have hF := it_f hF c_2
    refine lv_iload_n hx hb dX1_turnedX_10 rfl (lv_at hl 1 rfl) ?_
    refine lv_ineg hx hb dX1_turnedX_11 ?_
    exact j12 p2 (-p1) hF _ _ _ hP hD hS (lv_sub hl [2] rfl)
  · have hF := it_t hF c_2
    refine lv_iload_n hx hb dX1_turnedX_6 rfl (lv_at hl 0 rfl) ?_
    refine lv_goto (tgt := 12) hx hb dX1_turnedX_7 (by decide) ?_
    exact j12 p2 p0 hF _ _ _ hP hD hS (lv_sub hl [2] rfl)

-- StrokeOutliner$Drawing.turnedY(III)I
def F_X1_turnedY_j11 (x2 : Int32) (t0 : Int32) : (Int32) :=
  if 2 ≤ x2 then (-t0) else t0
def F_X1_turnedY (p0 : Int32) (p1 : Int32) (p2 : Int32) : (Int32) :=
  if (p2 &&& 1) = 0 then F_X1_turnedY_j11 p2 p1 else F_X1_turnedY_j11 p2 p0
abbrev wz_X1_turnedY : List Cond := .code yX1_turnedY cX1_turnedY 4 (some .int) :: wALL
abbrev rm_X1_turnedY : Room := { frames := 0, cells := 0, slots := 0, locals := 0 }
abbrev Q_X1_turnedY (dC : Nat → ClassId) (dI : Nat → Nat → Nat) (cI : ClassId) (u : (Int32)) (A : Nat → Prop) : Array Value → State → Outcome → State → Prop := va_Qi (fun (r : Int32) (_ : Unit) => r = u) (fun _ => q_at dC dI cI A ([] : va_W)) A
set_option maxHeartbeats 4000000 in
set_option maxRecDepth 100000 in
theorem c_X1_turnedY (l : Launch) (dC : Nat → ClassId) (dI : Nat → Nat → Nat) (cI : ClassId) (sz : Nat) (p0 : Int32) (p1 : Int32) (p2 : Int32) (u : (Int32)) (hF : F_X1_turnedY p0 p1 p2 = u) : Met l yX1_turnedY wz_X1_turnedY rm_X1_turnedY (va_Pc [.int p0, .int p1, .int p2] (q_pre dC dI cI ([] : va_W) sz)) (Q_X1_turnedY dC dI cI u (va_A ([] : va_W) sz)) 0 0 (va_A ([] : va_W) sz) := by
  refine Met.ofW (cc := cX1_turnedY) (maxL := 4) (ret := (some .int)) (by decide) rfl ?_
  intro p e s m args below meth c s₁ B hml hv
  obtain ⟨rfl, hsz, hP, hK, hD0⟩ := hv
  have hx := B.exec
  have hb := B.bytes
  have hr := B.returns
  have hts := atoms_spec (ws := wz_X1_turnedY) B.pre
  have hta := wz_tl hts
  have hown : s.vm.findClass RX1 = some m.cls := findClass_of_methodNamed B.named
  have hlocks := B.notSynchronized
  subst hsz
  have hD := hD0.self (sz := s.heap.size)
  generalize hAe : va_A ([] : va_W) s.heap.size = A at hD ⊢
  have hA : ∀ q : Nat, s.heap.size ≤ q → A q := fun q h => by rw [← hAe]; exact Or.inr h
  have hS : va_S A s.heap s.heap [] := va_S.rf
  have hP : va_P (dC, dI) vwCl ([] : va_W) s.heap := hP
  have hl := lv_entry ([.int p0, .int p1, .int p2]) (n := 4) (Nat.le_of_ble_eq_true rfl)
  rw [lg_entry_eq]
  generalize (lg_sl ([.int p0, .int p1, .int p2]) ++ List.replicate (4 - (lg_sl ([.int p0, .int p1, .int p2])).length) Slot.unset).toArray = ls at hl ⊢
  have hl : lv_has ls 4 [(0, .int p0), (1, .int p1), (2, .int p2)] := hl
  obtain ⟨H, hHe⟩ : ∃ H, H = s.heap := ⟨_, rfl⟩
  have hS : va_S A s.heap H [] := by rw [hHe]; exact hS
  have hP : va_P (dC, dI) vwCl ([] : va_W) H := by rw [hHe]; exact hP
  rw [← hHe]
  unfold F_X1_turnedY at hF
  have j11 : ∀ (x2 : Int32) (t0 : Int32), F_X1_turnedY_j11 x2 t0 = u → ∀ (H : Heap) (locs : List Loc) (ls : Array Slot), va_P (dC, dI) vwCl ([] : va_W) H → va_D A ([] : va_W) → va_S A s.heap H locs → lv_has ls 4 [(2, .int x2)] → W p l e (headSpec wz_X1_turnedY rm_X1_turnedY).room s m [.int p0, .int p1, .int p2].toArray below meth c H locs 0 0 (MQ below (Q_X1_turnedY dC dI cI u A) [.int p0, .int p1, .int p2].toArray s 0 0 A) (F0 m 11 ls [.int t0]) := by
    intro x2 t0 hF H locs ls hP hD hS hl
    unfold F_X1_turnedY_j11 at hF
    refine lv_istore_n (lv' := [(3, .int t0), (2, .int x2)]) hx hb dX1_turnedY_11 rfl hl (by decide) rfl (fun ls hl => ?_)
    refine lv_iload_n hx hb dX1_turnedY_12 rfl (lv_at hl 1 rfl) ?_
    refine lv_iconst (v := 2) hx hb dX1_turnedY_13 (by decide) ?_
    refine lv_icmp_ge (tgt := 21) hx hb dX1_turnedY_14 (by decide) (fun c_1 => ?_) (fun c_1 => ?_)
    · have hF := it_t hF c_1
      refine lv_iload_n hx hb dX1_turnedY_21 rfl (lv_at hl 0 rfl) ?_
      refine lv_ineg hx hb dX1_turnedY_22 ?_
      subst hF
      exact W.iret (v := (-t0)) hx hb hr (fun t ht hW => ⟨⟨(-t0), (), rfl, rfl, by rw [ht]; exact hP, va_K.moved hW.alike hK, hD⟩, hS.F ht⟩) hS.2.2 dX1_turnedY_23
    · have hF := it_f hF c_1
      refine lv_iload_n hx hb dX1_turnedY_17 rfl (lv_at hl 0 rfl) ?_
      refine lv_goto (tgt := 23) hx hb dX1_turnedY_18 (by decide) ?_
      subst hF
      exact W.iret (v := t0) hx hb hr (fun t ht hW => ⟨⟨t0, (), rfl, rfl, by rw [ht]; exact hP, va_K.moved hW.alike hK, hD⟩, hS.F ht⟩) hS.2.2 dX1_turnedY_23
  refine lv_iload_n hx hb dX1_turnedY_0 rfl (lv_at hl 2 rfl) ?_
  refine lv_iconst (v := 1) hx hb dX1_turnedY_1 (by decide) ?_
  refine lv_iand hx hb dX1_turnedY_2 ?_
  refine lv_if_ne (tgt := 10) hx hb dX1_turnedY_3 (by decide) (fun c_2 => ?_) (fun c_2 => ?_)
  · have hF := it_f hF c_2
    refine lv_iload_n hx hb dX1_turnedY_10 rfl (lv_at hl 0 rfl) ?_
    exact j11 p2 p0 hF _ _ _ hP hD hS (lv_sub hl [2] rfl)
  · have hF := it_t hF c_2
    refine lv_iload_n hx hb dX1_turnedY_6 rfl (lv_at hl 1 rfl) ?_
    refine lv_goto (tgt := 11) hx hb dX1_turnedY_7 (by decide) ?_
    exact j11 p2 p1 hF _ _ _ hP hD hS (lv_sub hl [2] rfl)

-- StrokeOutliner$Drawing.canMove(III)Z
def F_X1_canMove_j106  : Option (Int32) :=
  some 1
def F_X1_canMove_j100 (x4 : Int32) : Option (Sum (Int32) (Sum (Unit) (Unit))) :=
  lt (x4 + 1) (fun y_1 => some (.inl y_1))
def F_X1_canMove_j92  : Option (Int32) :=
  some 0
def F_X1_canMove_b15 (v0_0 : Nat → Int32) (x1 : Int32) (x2 : Int32) (x3 : Int32) (x4 : Int32) (s15 : Int32) : Option (Sum (Int32) (Sum (Unit) (Unit))) :=
  obd (F_X1_pointCount v0_0 x4) (fun u_2 => if u_2 ≤ s15 then some (.inr (.inr ())) else obd (F_X1_xOf v0_0 x4 s15) (fun u_4 => obd (F_X1_yOf v0_0 x4 s15) (fun u_5 => lt (F_X1_turnedX u_4 u_5 x1) (fun u_6 => lt (u_6 + x2) (fun y_7 => obd (F_X1_xOf v0_0 x4 s15) (fun u_8 => obd (F_X1_yOf v0_0 x4 s15) (fun u_9 => lt (F_X1_turnedY u_8 u_9 x1) (fun u_10 => lt (u_10 + x3) (fun y_11 => lt (if 0 ≤ y_11 then y_11 else 0 - y_11) (fun y_12 => lt (if 0 ≤ y_7 then y_7 else 0 - y_7) (fun y_13 => if (if y_13 < y_12 then y_12 else y_13) ≤ 100 then lt (s15 + 1) (fun y_15 => some (.inl y_15)) else some (.inr (.inl ())))))))))))))
def F_X1_canMove_j15 (n : Nat) (v0_0 : Nat → Int32) (x1 : Int32) (x2 : Int32) (x3 : Int32) (x4 : Int32) (x5 : Int32) : Option (Sum (Int32) (Sum (Unit) (Unit))) :=
  obd (lpq (F_X1_canMove_b15 v0_0 x1 x2 x3 x4) n x5) (fun x_15 => Sum.elim (fun x_15 => some (.inr (.inl ()))) (fun x_15 => F_X1_canMove_j100 x4) x_15)
def F_X1_canMove_b3 (n : Nat) (v0_0 : Nat → Int32) (x1 : Int32) (x2 : Int32) (x3 : Int32) (s3 : Int32) : Option (Sum (Int32) (Sum (Unit) (Unit))) :=
  obd (F_X1_subpathCount v0_0) (fun u_16 => if u_16 ≤ s3 then some (.inr (.inr ())) else F_X1_canMove_j15 n v0_0 x1 x2 x3 s3 0)
def F_X1_canMove_j3 (n : Nat) (v0_0 : Nat → Int32) (x1 : Int32) (x2 : Int32) (x3 : Int32) (x4 : Int32) : Option (Int32) :=
  obd (lpq (F_X1_canMove_b3 n v0_0 x1 x2 x3) n x4) (fun x_3 => Sum.elim (fun x_3 => F_X1_canMove_j92) (fun x_3 => F_X1_canMove_j106) x_3)
def F_X1_canMove (n : Nat) (v0_0 : Nat → Int32) (p1 : Int32) (p2 : Int32) (p3 : Int32) : Option (Int32) :=
  F_X1_canMove_j3 n v0_0 p1 p2 p3 0
abbrev wd_X1_canMove (cI : ClassId) (a0 : Nat → Nat) (v0_0 : Nat → Int32) : va_W := [(a0 0, .inr (1, [.ref (a0 1)])), (a0 1, .inl (cI, 86, .inl v0_0))]
abbrev wz_X1_canMove : List Cond := .code yX1_canMove cX1_canMove 8 (some .boolean) :: wALL
abbrev rm_X1_canMove : Room := { frames := 2, cells := 0, slots := 0, locals := 43 }
abbrev Q_X1_canMove (dC : Nat → ClassId) (dI : Nat → Nat → Nat) (cI : ClassId) (a0 : Nat → Nat) (v0_0 : Nat → Int32) (u : (Int32)) (A : Nat → Prop) : Array Value → State → Outcome → State → Prop := va_Qi (fun (r : Int32) (_ : Unit) => r = u ∧ (u = 0 ∨ u = 1)) (fun _ => q_at dC dI cI A (wd_X1_canMove cI a0 v0_0)) A
set_option maxHeartbeats 4000000 in
set_option maxRecDepth 100000 in
theorem c_X1_canMove (l : Launch) (dC : Nat → ClassId) (dI : Nat → Nat → Nat) (cI : ClassId) (sz : Nat) (a0 : Nat → Nat) (v0_0 : Nat → Int32) (p1 : Int32) (p2 : Int32) (p3 : Int32) (n : Nat) (u : (Int32)) (hF : F_X1_canMove n v0_0 p1 p2 p3 = some u) : Met l yX1_canMove wz_X1_canMove rm_X1_canMove (va_Pc [.ref (a0 0), .int p1, .int p2, .int p3] (q_pre dC dI cI (wd_X1_canMove cI a0 v0_0) sz)) (Q_X1_canMove dC dI cI a0 v0_0 u (va_A (wd_X1_canMove cI a0 v0_0) sz)) 0 0 (va_A (wd_X1_canMove cI a0 v0_0) sz) := by
  refine Met.ofW (cc := cX1_canMove) (maxL := 8) (ret := (some .boolean)) (by decide) rfl ?_
  intro p e s m args below meth c s₁ B hml hv
  obtain ⟨rfl, hsz, hP, hK, hD0⟩ := hv
  have hx := B.exec
  have hb := B.bytes
  have hr := B.returns
  have hts := atoms_spec (ws := wz_X1_canMove) B.pre
  have hta := wz_tl hts
  have hown : s.vm.findClass RX1 = some m.cls := findClass_of_methodNamed B.named
  have hlocks := B.notSynchronized
  subst hsz
  have hD := hD0.self (sz := s.heap.size)
  generalize hAe : va_A (wd_X1_canMove cI a0 v0_0) s.heap.size = A at hD ⊢
  have hA : ∀ q : Nat, s.heap.size ≤ q → A q := fun q h => by rw [← hAe]; exact Or.inr h
  have hS : va_S A s.heap s.heap [] := va_S.rf
  have hP : va_P (dC, dI) vwCl (wd_X1_canMove cI a0 v0_0) s.heap := hP
  have hl := lv_entry ([.ref (a0 0), .int p1, .int p2, .int p3]) (n := 8) (Nat.le_of_ble_eq_true rfl)
  rw [lg_entry_eq]
  generalize (lg_sl ([.ref (a0 0), .int p1, .int p2, .int p3]) ++ List.replicate (8 - (lg_sl ([.ref (a0 0), .int p1, .int p2, .int p3])).length) Slot.unset).toArray = ls at hl ⊢
  have hl : lv_has ls 8 [(0, .ref (a0 0)), (1, .int p1), (2, .int p2), (3, .int p3)] := hl
  obtain ⟨H, hHe⟩ : ∃ H, H = s.heap := ⟨_, rfl⟩
  have hS : va_S A s.heap H [] := by rw [hHe]; exact hS
  have hP : va_P (dC, dI) vwCl (wd_X1_canMove cI a0 v0_0) H := by rw [hHe]; exact hP
  rw [← hHe]
  unfold F_X1_canMove at hF
  have j106 : ∀ (_ : Unit), F_X1_canMove_j106 = some u → ∀ (H : Heap) (locs : List Loc) (ls : Array Slot), va_P (dC, dI) vwCl (wd_X1_canMove cI a0 v0_0) H → va_D A (wd_X1_canMove cI a0 v0_0) → va_S A s.heap H locs → lv_has ls 8 [] → W p l e (headSpec wz_X1_canMove rm_X1_canMove).room s m [.ref (a0 0), .int p1, .int p2, .int p3].toArray below meth c H locs 0 0 (MQ below (Q_X1_canMove dC dI cI a0 v0_0 u A) [.ref (a0 0), .int p1, .int p2, .int p3].toArray s 0 0 A) (F0 m 106 ls []) := by
    intro _ hF H locs ls hP hD hS hl
    unfold F_X1_canMove_j106 at hF
    refine lv_iconst (v := 1) hx hb dX1_canMove_106 (by decide) ?_
    obtain rfl := Option.some.inj hF
    exact W.zret (v := 1) (ty := .boolean) hx hb hr (z_nar (Or.inr rfl)) (fun t ht hW => ⟨⟨1, (), rfl, ⟨rfl, (Or.inr rfl)⟩, by rw [ht]; exact hP, va_K.moved hW.alike hK, hD⟩, hS.F ht⟩) hS.2.2 dX1_canMove_107
  have j92 : ∀ (_ : Unit), F_X1_canMove_j92 = some u → ∀ (H : Heap) (locs : List Loc) (ls : Array Slot), va_P (dC, dI) vwCl (wd_X1_canMove cI a0 v0_0) H → va_D A (wd_X1_canMove cI a0 v0_0) → va_S A s.heap H locs → lv_has ls 8 [] → W p l e (headSpec wz_X1_canMove rm_X1_canMove).room s m [.ref (a0 0), .int p1, .int p2, .int p3].toArray below meth c H locs 0 0 (MQ below (Q_X1_canMove dC dI cI a0 v0_0 u A) [.ref (a0 0), .int p1, .int p2, .int p3].toArray s 0 0 A) (F0 m 92 ls []) := by
    intro _ hF H locs ls hP hD hS hl
    unfold F_X1_canMove_j92 at hF
    refine lv_iconst (v := 0) hx hb dX1_canMove_92 (by decide) ?_
    obtain rfl := Option.some.inj hF
    exact W.zret (v := 0) (ty := .boolean) hx hb hr (z_nar (Or.inl rfl)) (fun t ht hW => ⟨⟨0, (), rfl, ⟨rfl, (Or.inl rfl)⟩, by rw [ht]; exact hP, va_K.moved hW.alike hK, hD⟩, hS.F ht⟩) hS.2.2 dX1_canMove_93
  have j3 : ∀ (x1 : Int32) (x2 : Int32) (x3 : Int32) (x4 : Int32), F_X1_canMove_j3 n v0_0 x1 x2 x3 x4 = some u → ∀ (H : Heap) (locs : List Loc) (ls : Array Slot), va_P (dC, dI) vwCl (wd_X1_canMove cI a0 v0_0) H → va_D A (wd_X1_canMove cI a0 v0_0) → va_S A s.heap H locs → lv_has ls 8 [(0, .ref (a0 0)), (1, .int x1), (2, .int x2), (3, .int x3), (4, .int x4)] → W p l e (headSpec wz_X1_canMove rm_X1_canMove).room s m [.ref (a0 0), .int p1, .int p2, .int p3].toArray below meth c H locs 0 0 (MQ below (Q_X1_canMove dC dI cI a0 v0_0 u A) [.ref (a0 0), .int p1, .int p2, .int p3].toArray s 0 0 A) (F0 m 3 ls []) := by
    intro x1 x2 x3 x4 hF H locs ls hP hD hS hl
    unfold F_X1_canMove_j3 at hF
    obtain ⟨x_3, hL_3, hE_3⟩ := obd_some hF
    have kl_3 : ∀ (k : Nat) (s3 : Int32), lpq (F_X1_canMove_b3 n v0_0 x1 x2 x3) k s3 = some x_3 → ∀ (H : Heap) (locs : List Loc) (ls : Array Slot), va_P (dC, dI) vwCl (wd_X1_canMove cI a0 v0_0) H → va_D A (wd_X1_canMove cI a0 v0_0) → va_S A s.heap H locs → lv_has ls 8 [(0, .ref (a0 0)), (1, .int x1), (2, .int x2), (3, .int x3), (4, .int s3)] → W p l e (headSpec wz_X1_canMove rm_X1_canMove).room s m [.ref (a0 0), .int p1, .int p2, .int p3].toArray below meth c H locs 0 0 (MQ below (Q_X1_canMove dC dI cI a0 v0_0 u A) [.ref (a0 0), .int p1, .int p2, .int p3].toArray s 0 0 A) (F0 m 3 ls []) := by
      intro k
      induction k with
      | zero => intro s3 h; exact absurd h lpq_zero
      | succ k ih_3 =>
        intro s3 h H locs ls hP hD hS hl
        obtain ⟨o_3, hF, hO_3⟩ := lpq_succ h
        unfold F_X1_canMove_b3 at hF
        have j100 : ∀ (x4 : Int32), F_X1_canMove_j100 x4 = some o_3 → ∀ (H : Heap) (locs : List Loc) (ls : Array Slot), va_P (dC, dI) vwCl (wd_X1_canMove cI a0 v0_0) H → va_D A (wd_X1_canMove cI a0 v0_0) → va_S A s.heap H locs → lv_has ls 8 [(0, .ref (a0 0)), (1, .int x1), (2, .int x2), (3, .int x3), (4, .int x4)] → W p l e (headSpec wz_X1_canMove rm_X1_canMove).room s m [.ref (a0 0), .int p1, .int p2, .int p3].toArray below meth c H locs 0 0 (MQ below (Q_X1_canMove dC dI cI a0 v0_0 u A) [.ref (a0 0), .int p1, .int p2, .int p3].toArray s 0 0 A) (F0 m 100 ls []) := by
          intro x4 hF H locs ls hP hD hS hl
          unfold F_X1_canMove_j100 at hF
          obtain ⟨y_1, ey_1, hF⟩ := lt_some hF
          refine lv_iinc (v := y_1) (lv' := [(4, .int y_1), (0, .ref (a0 0)), (1, .int x1), (2, .int x2), (3, .int x3)]) hx hb dX1_canMove_100 hl (k := 4) rfl (by rw [ey_1]; rfl) (by decide) rfl (fun ls hl => ?_)
          refine lv_goto (tgt := 3) hx hb dX1_canMove_103 (by decide) ?_
          obtain rfl := Option.some.inj hF
          exact ih_3 _ hO_3 _ _ _ hP hD hS (lv_sub hl [1, 2, 3, 4, 0] rfl)
        have j15 : ∀ (x4 : Int32) (x5 : Int32), F_X1_canMove_j15 n v0_0 x1 x2 x3 x4 x5 = some o_3 → ∀ (H : Heap) (locs : List Loc) (ls : Array Slot), va_P (dC, dI) vwCl (wd_X1_canMove cI a0 v0_0) H → va_D A (wd_X1_canMove cI a0 v0_0) → va_S A s.heap H locs → lv_has ls 8 [(0, .ref (a0 0)), (1, .int x1), (2, .int x2), (3, .int x3), (4, .int x4), (5, .int x5)] → W p l e (headSpec wz_X1_canMove rm_X1_canMove).room s m [.ref (a0 0), .int p1, .int p2, .int p3].toArray below meth c H locs 0 0 (MQ below (Q_X1_canMove dC dI cI a0 v0_0 u A) [.ref (a0 0), .int p1, .int p2, .int p3].toArray s 0 0 A) (F0 m 15 ls []) := by
          intro x4 x5 hF H locs ls hP hD hS hl
          unfold F_X1_canMove_j15 at hF
          obtain ⟨x_15, hL_15, hE_15⟩ := obd_some hF
          have kl_15 : ∀ (k : Nat) (s15 : Int32), lpq (F_X1_canMove_b15 v0_0 x1 x2 x3 x4) k s15 = some x_15 → ∀ (H : Heap) (locs : List Loc) (ls : Array Slot), va_P (dC, dI) vwCl (wd_X1_canMove cI a0 v0_0) H → va_D A (wd_X1_canMove cI a0 v0_0) → va_S A s.heap H locs → lv_has ls 8 [(0, .ref (a0 0)), (1, .int x1), (2, .int x2), (3, .int x3), (4, .int x4), (5, .int s15)] → W p l e (headSpec wz_X1_canMove rm_X1_canMove).room s m [.ref (a0 0), .int p1, .int p2, .int p3].toArray below meth c H locs 0 0 (MQ below (Q_X1_canMove dC dI cI a0 v0_0 u A) [.ref (a0 0), .int p1, .int p2, .int p3].toArray s 0 0 A) (F0 m 15 ls []) := by
            intro k
            induction k with
            | zero => intro s15 h; exact absurd h lpq_zero
            | succ k ih_15 =>
              intro s15 h H locs ls hP hD hS hl
              obtain ⟨o_15, hF, hO_15⟩ := lpq_succ h
              unfold F_X1_canMove_b15 at hF
              refine lv_iload hx hb dX1_canMove_15 (lv_at hl 5 rfl) ?_
              refine lv_aload_n hx hb dX1_canMove_17 rfl (lv_at hl 0 rfl) ?_
              refine lv_iload hx hb dX1_canMove_18 (lv_at hl 4 rfl) ?_
              obtain ⟨u_2, hu_2, hF⟩ := obd_some hF
              have hPc := hP.sub (ws' := (wd_X1_pointCount cI a0 v0_0)) [0, 1] rfl
              have hDc := hD.sub (ws' := (wd_X1_pointCount cI a0 v0_0)) [0, 1] rfl rfl
              refine q_calli (wc := (wd_X1_pointCount cI a0 v0_0)) (w1 := (wd_X1_pointCount cI a0 v0_0)) (ws' := (wd_X1_canMove cI a0 v0_0)) hP hD hS hA [0, 1] [] [0, 1] rfl rfl rfl (by decide) rfl rfl (va_runV (As := [.int x4]) (rest := [.int s15]) ⟨hx, hb, hml, hown, hta⟩ (c_X1_pointCount l dC dI cI H.size a0 v0_0 x4 u_2 hu_2) (cwV 1 hta (ga_V mA168 mA169 mA170 mA6 mA171) rfl rfl rfl (by decide +kernel) ⟨Nat.le_of_ble_eq_true rfl, Nat.le_of_ble_eq_true rfl⟩) ⟨q_fb, va_recv hK hP (ci := 1) (q0 := 0) rfl rfl, q_ps hPc hK hDc⟩ rfl rfl hl.1 rfl (lv_room (Nat.le_of_ble_eq_true rfl)) dX1_canMove_20 ⟨Nat.zero_le _, Nat.zero_le _⟩) (fun H locs hP hD hS => ?_)
              refine lv_icmp_ge (tgt := 100) hx hb dX1_canMove_23 (by decide) (fun c_3 => ?_) (fun c_3 => ?_)
              · have hF := it_t hF c_3
                obtain rfl := Option.some.inj hF
                obtain rfl := lpq_x hO_15
                have hF := hE_15
                have hF := el_r hF
                exact j100 x4 hF _ _ _ hP hD hS (lv_sub hl [0, 1, 2, 3, 4] rfl)
              · have hF := it_f hF c_3
                refine lv_aload_n hx hb dX1_canMove_26 rfl (lv_at hl 0 rfl) ?_
                refine lv_iload hx hb dX1_canMove_27 (lv_at hl 4 rfl) ?_
                refine lv_iload hx hb dX1_canMove_29 (lv_at hl 5 rfl) ?_
                obtain ⟨u_4, hu_4, hF⟩ := obd_some hF
                have hPc := hP.sub (ws' := (wd_X1_xOf cI a0 v0_0)) [0, 1] rfl
                have hDc := hD.sub (ws' := (wd_X1_xOf cI a0 v0_0)) [0, 1] rfl rfl
                refine q_calli (wc := (wd_X1_xOf cI a0 v0_0)) (w1 := (wd_X1_xOf cI a0 v0_0)) (ws' := (wd_X1_canMove cI a0 v0_0)) hP hD hS hA [0, 1] [] [0, 1] rfl rfl rfl (by decide) rfl rfl (va_runV (As := [.int x4, .int s15]) (rest := []) ⟨hx, hb, hml, hown, hta⟩ (c_X1_xOf l dC dI cI H.size a0 v0_0 x4 s15 u_4 hu_4) (cwV 2 hta (ga_V mA258 mA208 mA209 mA6 mA210) rfl rfl rfl (by decide +kernel) ⟨Nat.le_of_ble_eq_true rfl, Nat.le_of_ble_eq_true rfl⟩) ⟨q_fb, va_recv hK hP (ci := 1) (q0 := 0) rfl rfl, q_ps hPc hK hDc⟩ rfl rfl hl.1 rfl (lv_room (Nat.le_of_ble_eq_true rfl)) dX1_canMove_31 ⟨Nat.zero_le _, Nat.zero_le _⟩) (fun H locs hP hD hS => ?_)
                refine lv_aload_n hx hb dX1_canMove_34 rfl (lv_at hl 0 rfl) ?_
                refine lv_iload hx hb dX1_canMove_35 (lv_at hl 4 rfl) ?_
                refine lv_iload hx hb dX1_canMove_37 (lv_at hl 5 rfl) ?_
                obtain ⟨u_5, hu_5, hF⟩ := obd_some hF
                have hPc := hP.sub (ws' := (wd_X1_yOf cI a0 v0_0)) [0, 1] rfl
                have hDc := hD.sub (ws' := (wd_X1_yOf cI a0 v0_0)) [0, 1] rfl rfl
                refine q_calli (wc := (wd_X1_yOf cI a0 v0_0)) (w1 := (wd_X1_yOf cI a0 v0_0)) (ws' := (wd_X1_canMove cI a0 v0_0)) hP hD hS hA [0, 1] [] [0, 1] rfl rfl rfl (by decide) rfl rfl (va_runV (As := [.int x4, .int s15]) (rest := [.int u_4]) ⟨hx, hb, hml, hown, hta⟩ (c_X1_yOf l dC dI cI H.size a0 v0_0 x4 s15 u_5 hu_5) (cwV 2 hta (ga_V mA259 mA212 mA213 mA6 mA214) rfl rfl rfl (by decide +kernel) ⟨Nat.le_of_ble_eq_true rfl, Nat.le_of_ble_eq_true rfl⟩) ⟨q_fb, va_recv hK hP (ci := 1) (q0 := 0) rfl rfl, q_ps hPc hK hDc⟩ rfl rfl hl.1 rfl (lv_room (Nat.le_of_ble_eq_true rfl)) dX1_canMove_39 ⟨Nat.zero_le _, Nat.zero_le _⟩) (fun H locs hP hD hS => ?_)
                refine lv_iload_n hx hb dX1_canMove_42 rfl (lv_at hl 1 rfl) ?_
                obtain ⟨u_6, hu_6, hF⟩ := lt_some hF
                have hPc := hP.sub (ws' := ([] : va_W)) [] rfl
                have hDc := hD.sub (ws' := ([] : va_W)) [] rfl rfl
                refine q_calli (wc := ([] : va_W)) (w1 := ([] : va_W)) (ws' := (wd_X1_canMove cI a0 v0_0)) hP hD hS hA [] [0, 1] [0, 1] rfl rfl rfl (by decide) rfl rfl (va_runS (As := [.int u_4, .int u_5, .int x1]) (rest := []) ⟨hx, hb, hml, hown, hta⟩ (c_X1_turnedX l dC dI cI H.size u_4 u_5 x1 u_6 hu_6.symm) (va_cwS 3 hta (ga_S mA297 mA298 mA6 mA299) rfl rfl rfl (by decide +kernel) ⟨Nat.le_of_ble_eq_true rfl, Nat.le_of_ble_eq_true rfl⟩) ⟨q_fb, q_ps hPc hK hDc⟩ rfl rfl hl.1 rfl (lv_room (Nat.le_of_ble_eq_true rfl)) dX1_canMove_43 ⟨Nat.zero_le _, Nat.zero_le _⟩) (fun H locs hP hD hS => ?_)
                refine lv_iload_n hx hb dX1_canMove_46 rfl (lv_at hl 2 rfl) ?_
                refine lv_iadd hx hb dX1_canMove_47 ?_
                obtain ⟨y_7, ey_7, hF⟩ := lt_some hF
                refine lv_eqi ey_7 ?_
                refine lv_istore (lv' := [(6, .int y_7), (0, .ref (a0 0)), (1, .int x1), (2, .int x2), (3, .int x3), (4, .int x4), (5, .int s15)]) hx hb dX1_canMove_48 hl (by decide) rfl (fun ls hl => ?_)
                refine lv_aload_n hx hb dX1_canMove_50 rfl (lv_at hl 1 rfl) ?_
                refine lv_iload hx hb dX1_canMove_51 (lv_at hl 5 rfl) ?_
                refine lv_iload hx hb dX1_canMove_53 (lv_at hl 6 rfl) ?_
                obtain ⟨u_8, hu_8, hF⟩ := obd_some hF
                have hPc := hP.sub (ws' := (wd_X1_xOf cI a0 v0_0)) [0, 1] rfl
                have hDc := hD.sub (ws' := (wd_X1_xOf cI a0 v0_0)) [0, 1] rfl rfl
                refine q_calli (wc := (wd_X1_xOf cI a0 v0_0)) (w1 := (wd_X1_xOf cI a0 v0_0)) (ws' := (wd_X1_canMove cI a0 v0_0)) hP hD hS hA [0, 1] [] [0, 1] rfl rfl rfl (by decide) rfl rfl (va_runV (As := [.int x4, .int s15]) (rest := []) ⟨hx, hb, hml, hown, hta⟩ (c_X1_xOf l dC dI cI H.size a0 v0_0 x4 s15 u_8 hu_8) (cwV 2 hta (ga_V mA258 mA208 mA209 mA6 mA210) rfl rfl rfl (by decide +kernel) ⟨Nat.le_of_ble_eq_true rfl, Nat.le_of_ble_eq_true rfl⟩) ⟨q_fb, va_recv hK hP (ci := 1) (q0 := 0) rfl rfl, q_ps hPc hK hDc⟩ rfl rfl hl.1 rfl (lv_room (Nat.le_of_ble_eq_true rfl)) dX1_canMove_55 ⟨Nat.zero_le _, Nat.zero_le _⟩) (fun H locs hP hD hS => ?_)
                refine lv_aload_n hx hb dX1_canMove_58 rfl (lv_at hl 1 rfl) ?_
                refine lv_iload hx hb dX1_canMove_59 (lv_at hl 5 rfl) ?_
                refine lv_iload hx hb dX1_canMove_61 (lv_at hl 6 rfl) ?_
                obtain ⟨u_9, hu_9, hF⟩ := obd_some hF
                have hPc := hP.sub (ws' := (wd_X1_yOf cI a0 v0_0)) [0, 1] rfl
                have hDc := hD.sub (ws' := (wd_X1_yOf cI a0 v0_0)) [0, 1] rfl rfl
                refine q_calli (wc := (wd_X1_yOf cI a0 v0_0)) (w1 := (wd_X1_yOf cI a0 v0_0)) (ws' := (wd_X1_canMove cI a0 v0_0)) hP hD hS hA [0, 1] [] [0, 1] rfl rfl rfl (by decide) rfl rfl (va_runV (As := [.int x4, .int s15]) (rest := [.int u_8]) ⟨hx, hb, hml, hown, hta⟩ (c_X1_yOf l dC dI cI H.size a0 v0_0 x4 s15 u_9 hu_9) (cwV 2 hta (ga_V mA259 mA212 mA213 mA6 mA214) rfl rfl rfl (by decide +kernel) ⟨Nat.le_of_ble_eq_true rfl, Nat.le_of_ble_eq_true rfl⟩) ⟨q_fb, va_recv hK hP (ci := 1) (q0 := 0) rfl rfl, q_ps hPc hK hDc⟩ rfl rfl hl.1 rfl (lv_room (Nat.le_of_ble_eq_true rfl)) dX1_canMove_63 ⟨Nat.zero_le _, Nat.zero_le _⟩) (fun H locs hP hD hS => ?_)
                refine lv_iload_n hx hb dX1_canMove_66 rfl (lv_at hl 2 rfl) ?_
                obtain ⟨u_10, hu_10, hF⟩ := lt_some hF
                have hPc := hP.sub (ws' := ([] : va_W)) [] rfl
                have hDc := hD.sub (ws' := ([] : va_W)) [] rfl rfl
                refine q_calli (wc := ([] : va_W)) (w1 := ([] : va_W)) (ws' := (wd_X1_canMove cI a0 v0_0)) hP hD hS hA [] [0, 1] [0, 1] rfl rfl rfl (by decide) rfl rfl (va_runS (As := [.int u_8, .int u_9, .int x1]) (rest := []) ⟨hx, hb, hml, hown, hta⟩ (c_X1_turnedY l dC dI cI H.size u_8 u_9 x1 u_10 hu_10.symm) (va_cwS 3 hta (ga_S mA300 mA301 mA6 mA302) rfl rfl rfl (by decide +kernel) ⟨Nat.le_of_ble_eq_true rfl, Nat.le_of_ble_eq_true rfl⟩) ⟨q_fb, q_ps hPc hK hDc⟩ rfl rfl hl.1 rfl (lv_room (Nat.le_of_ble_eq_true rfl)) dX1_canMove_67 ⟨Nat.zero_le _, Nat.zero_le _⟩) (fun H locs hP hD hS => ?_)
                refine lv_iload_n hx hb dX1_canMove_70 rfl (lv_at hl 4 rfl) ?_
                refine lv_iadd hx hb dX1_canMove_71 ?_
                obtain ⟨y_11, ey_11, hF⟩ := lt_some hF
                refine lv_eqi ey_11 ?_
                refine lv_istore (lv' := [(7, .int y_11), (6, .int y_7), (0, .ref (a0 0)), (1, .int x1), (2, .int x2), (3, .int x3), (4, .int x4), (5, .int s15)]) hx hb dX1_canMove_72 hl (by decide) rfl (fun ls hl => ?_)
                refine lv_iload hx hb dX1_canMove_74 (lv_at hl 1 rfl) ?_
                refine va_mabs hx hb (hml.trans hl.1.symm) hown (hta _ mA294) (hta _ mA295) (hta _ mA280) (hta _ mA296) (Nat.le_of_ble_eq_true rfl) (Nat.le_of_ble_eq_true rfl) (Nat.zero_le _) (Nat.zero_le _) dX1_canMove_76 ?_
                refine lv_iload hx hb dX1_canMove_79 (lv_at hl 0 rfl) ?_
                refine va_mabs hx hb (hml.trans hl.1.symm) hown (hta _ mA294) (hta _ mA295) (hta _ mA280) (hta _ mA296) (Nat.le_of_ble_eq_true rfl) (Nat.le_of_ble_eq_true rfl) (Nat.zero_le _) (Nat.zero_le _) dX1_canMove_81 ?_
                obtain ⟨y_12, ey_12, hF⟩ := lt_some hF
                refine lv_eqi ey_12 ?_
                obtain ⟨y_13, ey_13, hF⟩ := lt_some hF
                refine lv_eq2i ey_13 ?_
                refine va_mmax hx hb (hml.trans hl.1.symm) hown (hta _ mA282) (hta _ mA283) (hta _ mA280) (hta _ mA284) (Nat.le_of_ble_eq_true rfl) (Nat.le_of_ble_eq_true rfl) (Nat.zero_le _) (Nat.zero_le _) dX1_canMove_84 ?_
                refine lv_bipush (v := 100) hx hb dX1_canMove_87 (by decide) ?_
                refine lv_icmp_le (tgt := 94) hx hb dX1_canMove_89 (by decide) (fun c_14 => ?_) (fun c_14 => ?_)
                · have hF := it_t hF c_14
                  obtain ⟨y_15, ey_15, hF⟩ := lt_some hF
                  refine lv_iinc (v := y_15) (lv' := [(5, .int y_15), (7, .int y_11), (6, .int y_7), (0, .ref (a0 0)), (1, .int x1), (2, .int x2), (3, .int x3), (4, .int x4)]) hx hb dX1_canMove_94 hl (k := 7) rfl (by rw [ey_15]; rfl) (by decide) rfl (fun ls hl => ?_)
                  refine lv_goto (tgt := 15) hx hb dX1_canMove_97 (by decide) ?_
                  obtain rfl := Option.some.inj hF
                  exact ih_15 _ hO_15 _ _ _ hP hD hS (lv_sub hl [3, 4, 5, 6, 7, 0] rfl)
                · have hF := it_f hF c_14
                  obtain rfl := Option.some.inj hF
                  obtain rfl := lpq_x hO_15
                  have hF := hE_15
                  have hF := el_l hF
                  obtain rfl := Option.some.inj hF
                  obtain rfl := lpq_x hO_3
                  have hF := hE_3
                  have hF := el_l hF
                  exact j92 () hF _ _ _ hP hD hS (lv_sub hl [] rfl)
          exact kl_15 n _ hL_15 _ _ _ hP hD hS hl
        refine lv_iload hx hb dX1_canMove_3 (lv_at hl 4 rfl) ?_
        refine lv_aload_n hx hb dX1_canMove_5 rfl (lv_at hl 0 rfl) ?_
        obtain ⟨u_16, hu_16, hF⟩ := obd_some hF
        have hPc := hP.sub (ws' := (wd_X1_subpathCount cI a0 v0_0)) [0, 1] rfl
        have hDc := hD.sub (ws' := (wd_X1_subpathCount cI a0 v0_0)) [0, 1] rfl rfl
        refine q_calli (wc := (wd_X1_subpathCount cI a0 v0_0)) (w1 := (wd_X1_subpathCount cI a0 v0_0)) (ws' := (wd_X1_canMove cI a0 v0_0)) hP hD hS hA [0, 1] [] [0, 1] rfl rfl rfl (by decide) rfl rfl (va_runV (As := []) (rest := [.int s3]) ⟨hx, hb, hml, hown, hta⟩ (c_X1_subpathCount l dC dI cI H.size a0 v0_0 u_16 hu_16) (cwV 0 hta (ga_V mA152 mA113 mA114 mA6 mA115) rfl rfl rfl (by decide +kernel) ⟨Nat.le_of_ble_eq_true rfl, Nat.le_of_ble_eq_true rfl⟩) ⟨q_fb, va_recv hK hP (ci := 1) (q0 := 0) rfl rfl, q_ps hPc hK hDc⟩ rfl rfl hl.1 rfl (lv_room (Nat.le_of_ble_eq_true rfl)) dX1_canMove_6 ⟨Nat.zero_le _, Nat.zero_le _⟩) (fun H locs hP hD hS => ?_)
        refine lv_icmp_ge (tgt := 106) hx hb dX1_canMove_9 (by decide) (fun c_17 => ?_) (fun c_17 => ?_)
        · have hF := it_t hF c_17
          obtain rfl := Option.some.inj hF
          obtain rfl := lpq_x hO_3
          have hF := hE_3
          have hF := el_r hF
          exact j106 () hF _ _ _ hP hD hS (lv_sub hl [] rfl)
        · have hF := it_f hF c_17
          refine lv_iconst (v := 0) hx hb dX1_canMove_12 (by decide) ?_
          refine lv_istore (lv' := [(5, .int 0), (0, .ref (a0 0)), (1, .int x1), (2, .int x2), (3, .int x3), (4, .int s3)]) hx hb dX1_canMove_13 hl (by decide) rfl (fun ls hl => ?_)
          exact j15 s3 0 hF _ _ _ hP hD hS (lv_sub hl [1, 2, 3, 4, 5, 0] rfl)
    exact kl_3 n _ hL_3 _ _ _ hP hD hS hl
  refine lv_iconst (v := 0) hx hb dX1_canMove_0 (by decide) ?_
  refine lv_istore (lv' := [(4, .int 0), (0, .ref (a0 0)), (1, .int p1), (2, .int p2), (3, .int p3)]) hx hb dX1_canMove_1 hl (by decide) rfl (fun ls hl => ?_)
  exact j3 p1 p2 p3 0 hF _ _ _ hP hD hS (lv_sub hl [1, 2, 3, 4, 0] rfl)

-- StrokeOutliner$Drawing.move(III)I
def F_X1_move_j112 (v0_0 : Nat → Int32) (x4 : Int32) : Option (Int32 × (Nat → Int32)) :=
  some (x4, v0_0)
def F_X1_move_j106 (v0_0 : Nat → Int32) (x4 : Int32) (x6 : Int32) : Option (Sum (Int32 × Int32 × (Nat → Int32)) (Int32 × (Nat → Int32))) :=
  lt (x6 + 1) (fun y_1 => some (.inl (x4, y_1, v0_0)))
def F_X1_move_b30 (x1 : Int32) (x2 : Int32) (x3 : Int32) (x6 : Int32) (x7 : Int32) (s30 : Int32 × Int32 × (Nat → Int32)) : Option (Sum (Int32 × Int32 × (Nat → Int32)) (Int32 × (Nat → Int32))) :=
  if x7 ≤ s30.2.1 then some (.inr (s30.1, s30.2.2)) else obd (F_X1_xOf s30.2.2 x6 s30.2.1) (fun u_3 => obd (F_X1_yOf s30.2.2 x6 s30.2.1) (fun u_4 => lt (F_X1_turnedX u_3 u_4 x1) (fun u_5 => obd (F_X1_xOf s30.2.2 x6 s30.2.1) (fun u_6 => obd (F_X1_yOf s30.2.2 x6 s30.2.1) (fun u_7 => lt (F_X1_turnedY u_6 u_7 x1) (fun u_8 => obd (F_X1_putPoint s30.2.2 x6 s30.2.1 (u_5 + x2) (u_8 + x3)) (fun u_9 => lt (s30.1 + 1) (fun y_10 => lt (s30.2.1 + 1) (fun y_11 => some (.inl (y_10, y_11, u_9)))))))))))
def F_X1_move_j30 (n : Nat) (v0_0 : Nat → Int32) (x1 : Int32) (x2 : Int32) (x3 : Int32) (x4 : Int32) (x6 : Int32) (x7 : Int32) (x8 : Int32) : Option (Sum (Int32 × Int32 × (Nat → Int32)) (Int32 × (Nat → Int32))) :=
  obd (lpq (F_X1_move_b30 x1 x2 x3 x6 x7) n (x4, x8, v0_0)) (fun x_30 => F_X1_move_j106 x_30.2 x_30.1 x6)
def F_X1_move_b12 (n : Nat) (x1 : Int32) (x2 : Int32) (x3 : Int32) (x5 : Int32) (s12 : Int32 × Int32 × (Nat → Int32)) : Option (Sum (Int32 × Int32 × (Nat → Int32)) (Int32 × (Nat → Int32))) :=
  if x5 ≤ s12.2.1 then some (.inr (s12.1, s12.2.2)) else obd (F_X1_pointCount s12.2.2 s12.2.1) (fun u_13 => F_X1_move_j30 n s12.2.2 x1 x2 x3 s12.1 s12.2.1 u_13 0)
def F_X1_move_j12 (n : Nat) (v0_0 : Nat → Int32) (x1 : Int32) (x2 : Int32) (x3 : Int32) (x4 : Int32) (x5 : Int32) (x6 : Int32) : Option (Int32 × (Nat → Int32)) :=
  obd (lpq (F_X1_move_b12 n x1 x2 x3 x5) n (x4, x6, v0_0)) (fun x_12 => F_X1_move_j112 x_12.2 x_12.1)
def F_X1_move (n : Nat) (v0_0 : Nat → Int32) (p1 : Int32) (p2 : Int32) (p3 : Int32) : Option (Int32 × (Nat → Int32)) :=
  obd (F_X1_subpathCount v0_0) (fun u_14 => F_X1_move_j12 n v0_0 p1 p2 p3 0 u_14 0)
abbrev wd_X1_move (cI : ClassId) (a0 : Nat → Nat) (v0_0 : Nat → Int32) : va_W := [(a0 0, .inr (1, [.ref (a0 1)])), (a0 1, .inl (cI, 86, .inl v0_0))]
abbrev wz_X1_move : List Cond := .code yX1_move cX1_move 11 (some .int) :: wALL
abbrev rm_X1_move : Room := { frames := 2, cells := 0, slots := 0, locals := 46 }
abbrev Q_X1_move (dC : Nat → ClassId) (dI : Nat → Nat → Nat) (cI : ClassId) (a0 : Nat → Nat) (u : (Int32 × (Nat → Int32))) (A : Nat → Prop) : Array Value → State → Outcome → State → Prop := va_Qi (fun (r : Int32) (_ : Unit) => r = u.1) (fun _ => q_at dC dI cI A (wd_X1_move cI a0 u.2)) A
set_option maxHeartbeats 4000000 in
set_option maxRecDepth 100000 in
theorem c_X1_move (l : Launch) (dC : Nat → ClassId) (dI : Nat → Nat → Nat) (cI : ClassId) (sz : Nat) (a0 : Nat → Nat) (v0_0 : Nat → Int32) (p1 : Int32) (p2 : Int32) (p3 : Int32) (n : Nat) (u : (Int32 × (Nat → Int32))) (hF : F_X1_move n v0_0 p1 p2 p3 = some u) : Met l yX1_move wz_X1_move rm_X1_move (va_Pc [.ref (a0 0), .int p1, .int p2, .int p3] (q_pre dC dI cI (wd_X1_move cI a0 v0_0) sz)) (Q_X1_move dC dI cI a0 u (va_A (wd_X1_move cI a0 v0_0) sz)) 0 0 (va_A (wd_X1_move cI a0 v0_0) sz) := by
  refine Met.ofW (cc := cX1_move) (maxL := 11) (ret := (some .int)) (by decide) rfl ?_
  intro p e s m args below meth c s₁ B hml hv
  obtain ⟨rfl, hsz, hP, hK, hD0⟩ := hv
  have hx := B.exec
  have hb := B.bytes
  have hr := B.returns
  have hts := atoms_spec (ws := wz_X1_move) B.pre
  have hta := wz_tl hts
  have hown : s.vm.findClass RX1 = some m.cls := findClass_of_methodNamed B.named
  have hlocks := B.notSynchronized
  subst hsz
  have hD := hD0.self (sz := s.heap.size)
  generalize hAe : va_A (wd_X1_move cI a0 v0_0) s.heap.size = A at hD ⊢
  have hA : ∀ q : Nat, s.heap.size ≤ q → A q := fun q h => by rw [← hAe]; exact Or.inr h
  have hS : va_S A s.heap s.heap [] := va_S.rf
  have hP : va_P (dC, dI) vwCl (wd_X1_move cI a0 v0_0) s.heap := hP
  have hl := lv_entry ([.ref (a0 0), .int p1, .int p2, .int p3]) (n := 11) (Nat.le_of_ble_eq_true rfl)
  rw [lg_entry_eq]
  generalize (lg_sl ([.ref (a0 0), .int p1, .int p2, .int p3]) ++ List.replicate (11 - (lg_sl ([.ref (a0 0), .int p1, .int p2, .int p3])).length) Slot.unset).toArray = ls at hl ⊢
  have hl : lv_has ls 11 [(0, .ref (a0 0)), (1, .int p1), (2, .int p2), (3, .int p3)] := hl
  obtain ⟨H, hHe⟩ : ∃ H, H = s.heap := ⟨_, rfl⟩
  have hS : va_S A s.heap H [] := by rw [hHe]; exact hS
  have hP : va_P (dC, dI) vwCl (wd_X1_move cI a0 v0_0) H := by rw [hHe]; exact hP
  rw [← hHe]
  unfold F_X1_move at hF
  have j112 : ∀ (v0_0 : Nat → Int32) (x4 : Int32), F_X1_move_j112 v0_0 x4 = some u → ∀ (H : Heap) (locs : List Loc) (ls : Array Slot), va_P (dC, dI) vwCl (wd_X1_move cI a0 v0_0) H → va_D A (wd_X1_move cI a0 v0_0) → va_S A s.heap H locs → lv_has ls 11 [(4, .int x4)] → W p l e (headSpec wz_X1_move rm_X1_move).room s m [.ref (a0 0), .int p1, .int p2, .int p3].toArray below meth c H locs 0 0 (MQ below (Q_X1_move dC dI cI a0 u A) [.ref (a0 0), .int p1, .int p2, .int p3].toArray s 0 0 A) (F0 m 112 ls []) := by
    intro v0_0 x4 hF H locs ls hP hD hS hl
    unfold F_X1_move_j112 at hF
    refine lv_iload hx hb dX1_move_112 (lv_at hl 0 rfl) ?_
    obtain rfl := Option.some.inj hF
    exact W.iret (v := x4) hx hb hr (fun t ht hW => ⟨⟨x4, (), rfl, rfl, by rw [ht]; exact hP, va_K.moved hW.alike hK, hD⟩, hS.F ht⟩) hS.2.2 dX1_move_114
  have j12 : ∀ (v0_0 : Nat → Int32) (x1 : Int32) (x2 : Int32) (x3 : Int32) (x4 : Int32) (x5 : Int32) (x6 : Int32), F_X1_move_j12 n v0_0 x1 x2 x3 x4 x5 x6 = some u → ∀ (H : Heap) (locs : List Loc) (ls : Array Slot), va_P (dC, dI) vwCl (wd_X1_move cI a0 v0_0) H → va_D A (wd_X1_move cI a0 v0_0) → va_S A s.heap H locs → lv_has ls 11 [(0, .ref (a0 0)), (1, .int x1), (2, .int x2), (3, .int x3), (4, .int x4), (5, .int x5), (6, .int x6)] → W p l e (headSpec wz_X1_move rm_X1_move).room s m [.ref (a0 0), .int p1, .int p2, .int p3].toArray below meth c H locs 0 0 (MQ below (Q_X1_move dC dI cI a0 u A) [.ref (a0 0), .int p1, .int p2, .int p3].toArray s 0 0 A) (F0 m 12 ls []) := by
    intro v0_0 x1 x2 x3 x4 x5 x6 hF H locs ls hP hD hS hl
    unfold F_X1_move_j12 at hF
    obtain ⟨x_12, hL_12, hE_12⟩ := obd_some hF
    have kl_12 : ∀ (k : Nat) (s12 : Int32 × Int32 × (Nat → Int32)), lpq (F_X1_move_b12 n x1 x2 x3 x5) k s12 = some x_12 → ∀ (H : Heap) (locs : List Loc) (ls : Array Slot), va_P (dC, dI) vwCl (wd_X1_move cI a0 s12.2.2) H → va_D A (wd_X1_move cI a0 s12.2.2) → va_S A s.heap H locs → lv_has ls 11 [(0, .ref (a0 0)), (1, .int x1), (2, .int x2), (3, .int x3), (4, .int s12.1), (5, .int x5), (6, .int s12.2.1)] → W p l e (headSpec wz_X1_move rm_X1_move).room s m [.ref (a0 0), .int p1, .int p2, .int p3].toArray below meth c H locs 0 0 (MQ below (Q_X1_move dC dI cI a0 u A) [.ref (a0 0), .int p1, .int p2, .int p3].toArray s 0 0 A) (F0 m 12 ls []) := by
      intro k
      induction k with
      | zero => intro s12 h; exact absurd h lpq_zero
      | succ k ih_12 =>
        intro s12 h H locs ls hP hD hS hl
        obtain ⟨o_12, hF, hO_12⟩ := lpq_succ h
        unfold F_X1_move_b12 at hF
        have j106 : ∀ (v0_0 : Nat → Int32) (x4 : Int32) (x6 : Int32), F_X1_move_j106 v0_0 x4 x6 = some o_12 → ∀ (H : Heap) (locs : List Loc) (ls : Array Slot), va_P (dC, dI) vwCl (wd_X1_move cI a0 v0_0) H → va_D A (wd_X1_move cI a0 v0_0) → va_S A s.heap H locs → lv_has ls 11 [(0, .ref (a0 0)), (1, .int x1), (2, .int x2), (3, .int x3), (4, .int x4), (5, .int x5), (6, .int x6)] → W p l e (headSpec wz_X1_move rm_X1_move).room s m [.ref (a0 0), .int p1, .int p2, .int p3].toArray below meth c H locs 0 0 (MQ below (Q_X1_move dC dI cI a0 u A) [.ref (a0 0), .int p1, .int p2, .int p3].toArray s 0 0 A) (F0 m 106 ls []) := by
          intro v0_0 x4 x6 hF H locs ls hP hD hS hl
          unfold F_X1_move_j106 at hF
          obtain ⟨y_1, ey_1, hF⟩ := lt_some hF
          refine lv_iinc (v := y_1) (lv' := [(6, .int y_1), (0, .ref (a0 0)), (1, .int x1), (2, .int x2), (3, .int x3), (4, .int x4), (5, .int x5)]) hx hb dX1_move_106 hl (k := 6) rfl (by rw [ey_1]; rfl) (by decide) rfl (fun ls hl => ?_)
          refine lv_goto (tgt := 12) hx hb dX1_move_109 (by decide) ?_
          obtain rfl := Option.some.inj hF
          exact ih_12 _ hO_12 _ _ _ hP hD hS (lv_sub hl [1, 2, 3, 4, 5, 6, 0] rfl)
        have j30 : ∀ (v0_0 : Nat → Int32) (x4 : Int32) (x6 : Int32) (x7 : Int32) (x8 : Int32), F_X1_move_j30 n v0_0 x1 x2 x3 x4 x6 x7 x8 = some o_12 → ∀ (H : Heap) (locs : List Loc) (ls : Array Slot), va_P (dC, dI) vwCl (wd_X1_move cI a0 v0_0) H → va_D A (wd_X1_move cI a0 v0_0) → va_S A s.heap H locs → lv_has ls 11 [(0, .ref (a0 0)), (1, .int x1), (2, .int x2), (3, .int x3), (4, .int x4), (5, .int x5), (6, .int x6), (7, .int x7), (8, .int x8)] → W p l e (headSpec wz_X1_move rm_X1_move).room s m [.ref (a0 0), .int p1, .int p2, .int p3].toArray below meth c H locs 0 0 (MQ below (Q_X1_move dC dI cI a0 u A) [.ref (a0 0), .int p1, .int p2, .int p3].toArray s 0 0 A) (F0 m 30 ls []) := by
          intro v0_0 x4 x6 x7 x8 hF H locs ls hP hD hS hl
          unfold F_X1_move_j30 at hF
          obtain ⟨x_30, hL_30, hE_30⟩ := obd_some hF
          have kl_30 : ∀ (k : Nat) (s30 : Int32 × Int32 × (Nat → Int32)), lpq (F_X1_move_b30 x1 x2 x3 x6 x7) k s30 = some x_30 → ∀ (H : Heap) (locs : List Loc) (ls : Array Slot), va_P (dC, dI) vwCl (wd_X1_move cI a0 s30.2.2) H → va_D A (wd_X1_move cI a0 s30.2.2) → va_S A s.heap H locs → lv_has ls 11 [(0, .ref (a0 0)), (1, .int x1), (2, .int x2), (3, .int x3), (4, .int s30.1), (5, .int x5), (6, .int x6), (7, .int x7), (8, .int s30.2.1)] → W p l e (headSpec wz_X1_move rm_X1_move).room s m [.ref (a0 0), .int p1, .int p2, .int p3].toArray below meth c H locs 0 0 (MQ below (Q_X1_move dC dI cI a0 u A) [.ref (a0 0), .int p1, .int p2, .int p3].toArray s 0 0 A) (F0 m 30 ls []) := by
            intro k
            induction k with
            | zero => intro s30 h; exact absurd h lpq_zero
            | succ k ih_30 =>
              intro s30 h H locs ls hP hD hS hl
              obtain ⟨o_30, hF, hO_30⟩ := lpq_succ h
              unfold F_X1_move_b30 at hF
              refine lv_iload hx hb dX1_move_30 (lv_at hl 8 rfl) ?_
              refine lv_iload hx hb dX1_move_32 (lv_at hl 7 rfl) ?_
              refine lv_icmp_ge (tgt := 106) hx hb dX1_move_34 (by decide) (fun c_2 => ?_) (fun c_2 => ?_)
              · have hF := it_t hF c_2
                obtain rfl := Option.some.inj hF
                obtain rfl := lpq_x hO_30
                have hF := hE_30
                exact j106 s30.2.2 s30.1 x6 hF _ _ _ hP hD hS (lv_sub hl [0, 1, 2, 3, 4, 5, 6] rfl)
              · have hF := it_f hF c_2
                refine lv_aload_n hx hb dX1_move_37 rfl (lv_at hl 0 rfl) ?_
                refine lv_iload hx hb dX1_move_38 (lv_at hl 6 rfl) ?_
                refine lv_iload hx hb dX1_move_40 (lv_at hl 8 rfl) ?_
                obtain ⟨u_3, hu_3, hF⟩ := obd_some hF
                have hPc := hP.sub (ws' := (wd_X1_xOf cI a0 s30.2.2)) [0, 1] rfl
                have hDc := hD.sub (ws' := (wd_X1_xOf cI a0 s30.2.2)) [0, 1] rfl rfl
                refine q_calli (wc := (wd_X1_xOf cI a0 s30.2.2)) (w1 := (wd_X1_xOf cI a0 s30.2.2)) (ws' := (wd_X1_move cI a0 s30.2.2)) hP hD hS hA [0, 1] [] [0, 1] rfl rfl rfl (by decide) rfl rfl (va_runV (As := [.int x6, .int s30.2.1]) (rest := []) ⟨hx, hb, hml, hown, hta⟩ (c_X1_xOf l dC dI cI H.size a0 s30.2.2 x6 s30.2.1 u_3 hu_3) (cwV 2 hta (ga_V mA258 mA208 mA209 mA6 mA210) rfl rfl rfl (by decide +kernel) ⟨Nat.le_of_ble_eq_true rfl, Nat.le_of_ble_eq_true rfl⟩) ⟨q_fb, va_recv hK hP (ci := 1) (q0 := 0) rfl rfl, q_ps hPc hK hDc⟩ rfl rfl hl.1 rfl (lv_room (Nat.le_of_ble_eq_true rfl)) dX1_move_42 ⟨Nat.zero_le _, Nat.zero_le _⟩) (fun H locs hP hD hS => ?_)
                refine lv_aload_n hx hb dX1_move_45 rfl (lv_at hl 0 rfl) ?_
                refine lv_iload hx hb dX1_move_46 (lv_at hl 6 rfl) ?_
                refine lv_iload hx hb dX1_move_48 (lv_at hl 8 rfl) ?_
                obtain ⟨u_4, hu_4, hF⟩ := obd_some hF
                have hPc := hP.sub (ws' := (wd_X1_yOf cI a0 s30.2.2)) [0, 1] rfl
                have hDc := hD.sub (ws' := (wd_X1_yOf cI a0 s30.2.2)) [0, 1] rfl rfl
                refine q_calli (wc := (wd_X1_yOf cI a0 s30.2.2)) (w1 := (wd_X1_yOf cI a0 s30.2.2)) (ws' := (wd_X1_move cI a0 s30.2.2)) hP hD hS hA [0, 1] [] [0, 1] rfl rfl rfl (by decide) rfl rfl (va_runV (As := [.int x6, .int s30.2.1]) (rest := [.int u_3]) ⟨hx, hb, hml, hown, hta⟩ (c_X1_yOf l dC dI cI H.size a0 s30.2.2 x6 s30.2.1 u_4 hu_4) (cwV 2 hta (ga_V mA259 mA212 mA213 mA6 mA214) rfl rfl rfl (by decide +kernel) ⟨Nat.le_of_ble_eq_true rfl, Nat.le_of_ble_eq_true rfl⟩) ⟨q_fb, va_recv hK hP (ci := 1) (q0 := 0) rfl rfl, q_ps hPc hK hDc⟩ rfl rfl hl.1 rfl (lv_room (Nat.le_of_ble_eq_true rfl)) dX1_move_50 ⟨Nat.zero_le _, Nat.zero_le _⟩) (fun H locs hP hD hS => ?_)
                refine lv_iload_n hx hb dX1_move_53 rfl (lv_at hl 1 rfl) ?_
                obtain ⟨u_5, hu_5, hF⟩ := lt_some hF
                have hPc := hP.sub (ws' := ([] : va_W)) [] rfl
                have hDc := hD.sub (ws' := ([] : va_W)) [] rfl rfl
                refine q_calli (wc := ([] : va_W)) (w1 := ([] : va_W)) (ws' := (wd_X1_move cI a0 s30.2.2)) hP hD hS hA [] [0, 1] [0, 1] rfl rfl rfl (by decide) rfl rfl (va_runS (As := [.int u_3, .int u_4, .int x1]) (rest := []) ⟨hx, hb, hml, hown, hta⟩ (c_X1_turnedX l dC dI cI H.size u_3 u_4 x1 u_5 hu_5.symm) (va_cwS 3 hta (ga_S mA297 mA298 mA6 mA299) rfl rfl rfl (by decide +kernel) ⟨Nat.le_of_ble_eq_true rfl, Nat.le_of_ble_eq_true rfl⟩) ⟨q_fb, q_ps hPc hK hDc⟩ rfl rfl hl.1 rfl (lv_room (Nat.le_of_ble_eq_true rfl)) dX1_move_54 ⟨Nat.zero_le _, Nat.zero_le _⟩) (fun H locs hP hD hS => ?_)
                refine lv_istore (lv' := [(9, .int u_5), (0, .ref (a0 0)), (1, .int x1), (2, .int x2), (3, .int x3), (4, .int s30.1), (5, .int x5), (6, .int x6), (7, .int x7), (8, .int s30.2.1)]) hx hb dX1_move_57 hl (by decide) rfl (fun ls hl => ?_)
                refine lv_aload_n hx hb dX1_move_59 rfl (lv_at hl 1 rfl) ?_
                refine lv_iload hx hb dX1_move_60 (lv_at hl 7 rfl) ?_
                refine lv_iload hx hb dX1_move_62 (lv_at hl 9 rfl) ?_
                obtain ⟨u_6, hu_6, hF⟩ := obd_some hF
                have hPc := hP.sub (ws' := (wd_X1_xOf cI a0 s30.2.2)) [0, 1] rfl
                have hDc := hD.sub (ws' := (wd_X1_xOf cI a0 s30.2.2)) [0, 1] rfl rfl
                refine q_calli (wc := (wd_X1_xOf cI a0 s30.2.2)) (w1 := (wd_X1_xOf cI a0 s30.2.2)) (ws' := (wd_X1_move cI a0 s30.2.2)) hP hD hS hA [0, 1] [] [0, 1] rfl rfl rfl (by decide) rfl rfl (va_runV (As := [.int x6, .int s30.2.1]) (rest := []) ⟨hx, hb, hml, hown, hta⟩ (c_X1_xOf l dC dI cI H.size a0 s30.2.2 x6 s30.2.1 u_6 hu_6) (cwV 2 hta (ga_V mA258 mA208 mA209 mA6 mA210) rfl rfl rfl (by decide +kernel) ⟨Nat.le_of_ble_eq_true rfl, Nat.le_of_ble_eq_true rfl⟩) ⟨q_fb, va_recv hK hP (ci := 1) (q0 := 0) rfl rfl, q_ps hPc hK hDc⟩ rfl rfl hl.1 rfl (lv_room (Nat.le_of_ble_eq_true rfl)) dX1_move_64 ⟨Nat.zero_le _, Nat.zero_le _⟩) (fun H locs hP hD hS => ?_)
                refine lv_aload_n hx hb dX1_move_67 rfl (lv_at hl 1 rfl) ?_
                refine lv_iload hx hb dX1_move_68 (lv_at hl 7 rfl) ?_
                refine lv_iload hx hb dX1_move_70 (lv_at hl 9 rfl) ?_
                obtain ⟨u_7, hu_7, hF⟩ := obd_some hF
                have hPc := hP.sub (ws' := (wd_X1_yOf cI a0 s30.2.2)) [0, 1] rfl
                have hDc := hD.sub (ws' := (wd_X1_yOf cI a0 s30.2.2)) [0, 1] rfl rfl
                refine q_calli (wc := (wd_X1_yOf cI a0 s30.2.2)) (w1 := (wd_X1_yOf cI a0 s30.2.2)) (ws' := (wd_X1_move cI a0 s30.2.2)) hP hD hS hA [0, 1] [] [0, 1] rfl rfl rfl (by decide) rfl rfl (va_runV (As := [.int x6, .int s30.2.1]) (rest := [.int u_6]) ⟨hx, hb, hml, hown, hta⟩ (c_X1_yOf l dC dI cI H.size a0 s30.2.2 x6 s30.2.1 u_7 hu_7) (cwV 2 hta (ga_V mA259 mA212 mA213 mA6 mA214) rfl rfl rfl (by decide +kernel) ⟨Nat.le_of_ble_eq_true rfl, Nat.le_of_ble_eq_true rfl⟩) ⟨q_fb, va_recv hK hP (ci := 1) (q0 := 0) rfl rfl, q_ps hPc hK hDc⟩ rfl rfl hl.1 rfl (lv_room (Nat.le_of_ble_eq_true rfl)) dX1_move_72 ⟨Nat.zero_le _, Nat.zero_le _⟩) (fun H locs hP hD hS => ?_)
                refine lv_iload_n hx hb dX1_move_75 rfl (lv_at hl 2 rfl) ?_
                obtain ⟨u_8, hu_8, hF⟩ := lt_some hF
                have hPc := hP.sub (ws' := ([] : va_W)) [] rfl
                have hDc := hD.sub (ws' := ([] : va_W)) [] rfl rfl
                refine q_calli (wc := ([] : va_W)) (w1 := ([] : va_W)) (ws' := (wd_X1_move cI a0 s30.2.2)) hP hD hS hA [] [0, 1] [0, 1] rfl rfl rfl (by decide) rfl rfl (va_runS (As := [.int u_6, .int u_7, .int x1]) (rest := []) ⟨hx, hb, hml, hown, hta⟩ (c_X1_turnedY l dC dI cI H.size u_6 u_7 x1 u_8 hu_8.symm) (va_cwS 3 hta (ga_S mA300 mA301 mA6 mA302) rfl rfl rfl (by decide +kernel) ⟨Nat.le_of_ble_eq_true rfl, Nat.le_of_ble_eq_true rfl⟩) ⟨q_fb, q_ps hPc hK hDc⟩ rfl rfl hl.1 rfl (lv_room (Nat.le_of_ble_eq_true rfl)) dX1_move_76 ⟨Nat.zero_le _, Nat.zero_le _⟩) (fun H locs hP hD hS => ?_)
                refine lv_istore (lv' := [(10, .int u_8), (9, .int u_5), (0, .ref (a0 0)), (1, .int x1), (2, .int x2), (3, .int x3), (4, .int s30.1), (5, .int x5), (6, .int x6), (7, .int x7), (8, .int s30.2.1)]) hx hb dX1_move_79 hl (by decide) rfl (fun ls hl => ?_)
                refine lv_aload_n hx hb dX1_move_81 rfl (lv_at hl 2 rfl) ?_
                refine lv_iload hx hb dX1_move_82 (lv_at hl 8 rfl) ?_
                refine lv_iload hx hb dX1_move_84 (lv_at hl 10 rfl) ?_
                refine lv_iload hx hb dX1_move_86 (lv_at hl 1 rfl) ?_
                refine lv_iload_n hx hb dX1_move_88 rfl (lv_at hl 4 rfl) ?_
                refine lv_iadd hx hb dX1_move_89 ?_
                refine lv_iload hx hb dX1_move_90 (lv_at hl 0 rfl) ?_
                refine lv_iload_n hx hb dX1_move_92 rfl (lv_at hl 5 rfl) ?_
                refine lv_iadd hx hb dX1_move_93 ?_
                obtain ⟨u_9, hu_9, hF⟩ := obd_some hF
                have hPc := hP.sub (ws' := (wd_X1_putPoint cI a0 s30.2.2)) [0, 1] rfl
                have hDc := hD.sub (ws' := (wd_X1_putPoint cI a0 s30.2.2)) [0, 1] rfl rfl
                refine q_callv (wc := (wd_X1_putPoint cI a0 s30.2.2)) (w1 := (wd_X1_putPoint cI a0 u_9)) (ws' := (wd_X1_move cI a0 u_9)) hP hD hS hA [0, 1] [] [0, 1] rfl rfl rfl (by decide) rfl rfl (va_runV (As := [.int x6, .int s30.2.1, .int (u_5 + x2), .int (u_8 + x3)]) (rest := []) ⟨hx, hb, hml, hown, hta⟩ (c_X1_putPoint l dC dI cI H.size a0 s30.2.2 x6 s30.2.1 (u_5 + x2) (u_8 + x3) u_9 hu_9) (cwV 4 hta (ga_V mA172 mA173 mA174 mA6 mA175) rfl rfl rfl (by decide +kernel) ⟨Nat.le_of_ble_eq_true rfl, Nat.le_of_ble_eq_true rfl⟩) ⟨q_fb, va_recv hK hP (ci := 1) (q0 := 0) rfl rfl, q_ps hPc hK hDc⟩ rfl rfl hl.1 rfl (lv_room (Nat.le_of_ble_eq_true rfl)) dX1_move_94 ⟨Nat.zero_le _, Nat.zero_le _⟩) (fun H locs hP hD hS => ?_)
                obtain ⟨y_10, ey_10, hF⟩ := lt_some hF
                refine lv_iinc (v := y_10) (lv' := [(4, .int y_10), (10, .int u_8), (9, .int u_5), (0, .ref (a0 0)), (1, .int x1), (2, .int x2), (3, .int x3), (5, .int x5), (6, .int x6), (7, .int x7), (8, .int s30.2.1)]) hx hb dX1_move_97 hl (k := 6) rfl (by rw [ey_10]; rfl) (by decide) rfl (fun ls hl => ?_)
                obtain ⟨y_11, ey_11, hF⟩ := lt_some hF
                refine lv_iinc (v := y_11) (lv' := [(8, .int y_11), (4, .int y_10), (10, .int u_8), (9, .int u_5), (0, .ref (a0 0)), (1, .int x1), (2, .int x2), (3, .int x3), (5, .int x5), (6, .int x6), (7, .int x7)]) hx hb dX1_move_100 hl (k := 10) rfl (by rw [ey_11]; rfl) (by decide) rfl (fun ls hl => ?_)
                refine lv_goto (tgt := 30) hx hb dX1_move_103 (by decide) ?_
                obtain rfl := Option.some.inj hF
                exact ih_30 _ hO_30 _ _ _ hP hD hS (lv_sub hl [4, 5, 6, 7, 1, 8, 9, 10, 0] rfl)
          exact kl_30 n _ hL_30 _ _ _ hP hD hS hl
        refine lv_iload hx hb dX1_move_12 (lv_at hl 6 rfl) ?_
        refine lv_iload hx hb dX1_move_14 (lv_at hl 5 rfl) ?_
        refine lv_icmp_ge (tgt := 112) hx hb dX1_move_16 (by decide) (fun c_12 => ?_) (fun c_12 => ?_)
        · have hF := it_t hF c_12
          obtain rfl := Option.some.inj hF
          obtain rfl := lpq_x hO_12
          have hF := hE_12
          exact j112 s12.2.2 s12.1 hF _ _ _ hP hD hS (lv_sub hl [4] rfl)
        · have hF := it_f hF c_12
          refine lv_aload_n hx hb dX1_move_19 rfl (lv_at hl 0 rfl) ?_
          refine lv_iload hx hb dX1_move_20 (lv_at hl 6 rfl) ?_
          obtain ⟨u_13, hu_13, hF⟩ := obd_some hF
          have hPc := hP.sub (ws' := (wd_X1_pointCount cI a0 s12.2.2)) [0, 1] rfl
          have hDc := hD.sub (ws' := (wd_X1_pointCount cI a0 s12.2.2)) [0, 1] rfl rfl
          refine q_calli (wc := (wd_X1_pointCount cI a0 s12.2.2)) (w1 := (wd_X1_pointCount cI a0 s12.2.2)) (ws' := (wd_X1_move cI a0 s12.2.2)) hP hD hS hA [0, 1] [] [0, 1] rfl rfl rfl (by decide) rfl rfl (va_runV (As := [.int s12.2.1]) (rest := []) ⟨hx, hb, hml, hown, hta⟩ (c_X1_pointCount l dC dI cI H.size a0 s12.2.2 s12.2.1 u_13 hu_13) (cwV 1 hta (ga_V mA168 mA169 mA170 mA6 mA171) rfl rfl rfl (by decide +kernel) ⟨Nat.le_of_ble_eq_true rfl, Nat.le_of_ble_eq_true rfl⟩) ⟨q_fb, va_recv hK hP (ci := 1) (q0 := 0) rfl rfl, q_ps hPc hK hDc⟩ rfl rfl hl.1 rfl (lv_room (Nat.le_of_ble_eq_true rfl)) dX1_move_22 ⟨Nat.zero_le _, Nat.zero_le _⟩) (fun H locs hP hD hS => ?_)
          refine lv_istore (lv' := [(7, .int u_13), (0, .ref (a0 0)), (1, .int x1), (2, .int x2), (3, .int x3), (4, .int s12.1), (5, .int x5), (6, .int s12.2.1)]) hx hb dX1_move_25 hl (by decide) rfl (fun ls hl => ?_)
          refine lv_iconst (v := 0) hx hb dX1_move_27 (by decide) ?_
          refine lv_istore (lv' := [(8, .int 0), (7, .int u_13), (0, .ref (a0 0)), (1, .int x1), (2, .int x2), (3, .int x3), (4, .int s12.1), (5, .int x5), (6, .int s12.2.1)]) hx hb dX1_move_28 hl (by decide) rfl (fun ls hl => ?_)
          exact j30 s12.2.2 s12.1 s12.2.1 u_13 0 hF _ _ _ hP hD hS (lv_sub hl [2, 3, 4, 5, 6, 7, 8, 1, 0] rfl)
    exact kl_12 n _ hL_12 _ _ _ hP hD hS hl
  refine lv_iconst (v := 0) hx hb dX1_move_0 (by decide) ?_
  refine lv_istore (lv' := [(4, .int 0), (0, .ref (a0 0)), (1, .int p1), (2, .int p2), (3, .int p3)]) hx hb dX1_move_1 hl (by decide) rfl (fun ls hl => ?_)
  refine lv_aload_n hx hb dX1_move_3 rfl (lv_at hl 1 rfl) ?_
  obtain ⟨u_14, hu_14, hF⟩ := obd_some hF
  have hPc := hP.sub (ws' := (wd_X1_subpathCount cI a0 v0_0)) [0, 1] rfl
  have hDc := hD.sub (ws' := (wd_X1_subpathCount cI a0 v0_0)) [0, 1] rfl rfl
  refine q_calli (wc := (wd_X1_subpathCount cI a0 v0_0)) (w1 := (wd_X1_subpathCount cI a0 v0_0)) (ws' := (wd_X1_move cI a0 v0_0)) hP hD hS hA [0, 1] [] [0, 1] rfl rfl rfl (by decide) rfl rfl (va_runV (As := []) (rest := []) ⟨hx, hb, hml, hown, hta⟩ (c_X1_subpathCount l dC dI cI H.size a0 v0_0 u_14 hu_14) (cwV 0 hta (ga_V mA152 mA113 mA114 mA6 mA115) rfl rfl rfl (by decide +kernel) ⟨Nat.le_of_ble_eq_true rfl, Nat.le_of_ble_eq_true rfl⟩) ⟨q_fb, va_recv hK hP (ci := 1) (q0 := 0) rfl rfl, q_ps hPc hK hDc⟩ rfl rfl hl.1 rfl (lv_room (Nat.le_of_ble_eq_true rfl)) dX1_move_4 ⟨Nat.zero_le _, Nat.zero_le _⟩) (fun H locs hP hD hS => ?_)
  refine lv_istore (lv' := [(5, .int u_14), (4, .int 0), (0, .ref (a0 0)), (1, .int p1), (2, .int p2), (3, .int p3)]) hx hb dX1_move_7 hl (by decide) rfl (fun ls hl => ?_)
  refine lv_iconst (v := 0) hx hb dX1_move_9 (by decide) ?_
  refine lv_istore (lv' := [(6, .int 0), (5, .int u_14), (4, .int 0), (0, .ref (a0 0)), (1, .int p1), (2, .int p2), (3, .int p3)]) hx hb dX1_move_10 hl (by decide) rfl (fun ls hl => ?_)
  exact j12 v0_0 p1 p2 p3 0 u_14 0 hF _ _ _ hP hD hS (lv_sub hl [3, 4, 5, 6, 2, 1, 0] rfl)

-- StrokeOutliner$Drawing.leastSquare(II)I
def F_X1_leastSquare_j94 (x3 : Int32) : Option (Int32) :=
  some x3
def F_X1_leastSquare_j88 (x3 : Int32) (x4 : Int32) : Option (Sum (Int32 × Int32) (Int32)) :=
  lt (x4 + 1) (fun y_1 => some (.inl (x3, y_1)))
def F_X1_leastSquare_j81 (x5 : Int32) (t0 : Int32) : Option (Sum (Int32 × Int32) (Int32)) :=
  lt (x5 + 1) (fun y_2 => some (.inl (t0, y_2)))
def F_X1_leastSquare_b17 (v0_0 : Nat → Int32) (x1 : Int32) (x2 : Int32) (x4 : Int32) (s17 : Int32 × Int32) : Option (Sum (Int32 × Int32) (Int32)) :=
  obd (F_X1_pointCount v0_0 x4) (fun u_3 => if u_3 ≤ s17.2 then some (.inr s17.1) else obd (F_X1_xOf v0_0 x4 s17.2) (fun u_5 => lt (u_5 - x1) (fun y_6 => obd (F_X1_yOf v0_0 x4 s17.2) (fun u_7 => lt (u_7 - x2) (fun y_8 => lt ((y_6 * y_6) + (y_8 * y_8)) (fun y_9 => if s17.1 = (-1) then F_X1_leastSquare_j81 s17.2 y_9 else F_X1_leastSquare_j81 s17.2 (if y_9 < s17.1 then y_9 else s17.1)))))))
def F_X1_leastSquare_j17 (n : Nat) (v0_0 : Nat → Int32) (x1 : Int32) (x2 : Int32) (x3 : Int32) (x4 : Int32) (x5 : Int32) : Option (Sum (Int32 × Int32) (Int32)) :=
  obd (lpq (F_X1_leastSquare_b17 v0_0 x1 x2 x4) n (x3, x5)) (fun x_17 => F_X1_leastSquare_j88 x_17 x4)
def F_X1_leastSquare_b5 (n : Nat) (v0_0 : Nat → Int32) (x1 : Int32) (x2 : Int32) (s5 : Int32 × Int32) : Option (Sum (Int32 × Int32) (Int32)) :=
  obd (F_X1_subpathCount v0_0) (fun u_11 => if u_11 ≤ s5.2 then some (.inr s5.1) else F_X1_leastSquare_j17 n v0_0 x1 x2 s5.1 s5.2 0)
def F_X1_leastSquare_j5 (n : Nat) (v0_0 : Nat → Int32) (x1 : Int32) (x2 : Int32) (x3 : Int32) (x4 : Int32) : Option (Int32) :=
  obd (lpq (F_X1_leastSquare_b5 n v0_0 x1 x2) n (x3, x4)) (fun x_5 => F_X1_leastSquare_j94 x_5)
def F_X1_leastSquare (n : Nat) (v0_0 : Nat → Int32) (p1 : Int32) (p2 : Int32) : Option (Int32) :=
  F_X1_leastSquare_j5 n v0_0 p1 p2 (-1) 0
abbrev wd_X1_leastSquare (cI : ClassId) (a0 : Nat → Nat) (v0_0 : Nat → Int32) : va_W := [(a0 0, .inr (1, [.ref (a0 1)])), (a0 1, .inl (cI, 86, .inl v0_0))]
abbrev wz_X1_leastSquare : List Cond := .code yX1_leastSquare cX1_leastSquare 9 (some .int) :: wALL
abbrev rm_X1_leastSquare : Room := { frames := 2, cells := 0, slots := 0, locals := 43 }
abbrev Q_X1_leastSquare (dC : Nat → ClassId) (dI : Nat → Nat → Nat) (cI : ClassId) (a0 : Nat → Nat) (v0_0 : Nat → Int32) (u : (Int32)) (A : Nat → Prop) : Array Value → State → Outcome → State → Prop := va_Qi (fun (r : Int32) (_ : Unit) => r = u) (fun _ => q_at dC dI cI A (wd_X1_leastSquare cI a0 v0_0)) A
set_option maxHeartbeats 4000000 in
set_option maxRecDepth 100000 in
theorem c_X1_leastSquare (l : Launch) (dC : Nat → ClassId) (dI : Nat → Nat → Nat) (cI : ClassId) (sz : Nat) (a0 : Nat → Nat) (v0_0 : Nat → Int32) (p1 : Int32) (p2 : Int32) (n : Nat) (u : (Int32)) (hF : F_X1_leastSquare n v0_0 p1 p2 = some u) : Met l yX1_leastSquare wz_X1_leastSquare rm_X1_leastSquare (va_Pc [.ref (a0 0), .int p1, .int p2] (q_pre dC dI cI (wd_X1_leastSquare cI a0 v0_0) sz)) (Q_X1_leastSquare dC dI cI a0 v0_0 u (va_A (wd_X1_leastSquare cI a0 v0_0) sz)) 0 0 (va_A (wd_X1_leastSquare cI a0 v0_0) sz) := by
  refine Met.ofW (cc := cX1_leastSquare) (maxL := 9) (ret := (some .int)) (by decide) rfl ?_
  intro p e s m args below meth c s₁ B hml hv
  obtain ⟨rfl, hsz, hP, hK, hD0⟩ := hv
  have hx := B.exec
  have hb := B.bytes
  have hr := B.returns
  have hts := atoms_spec (ws := wz_X1_leastSquare) B.pre
  have hta := wz_tl hts
  have hown : s.vm.findClass RX1 = some m.cls := findClass_of_methodNamed B.named
  have hlocks := B.notSynchronized
  subst hsz
  have hD := hD0.self (sz := s.heap.size)
  generalize hAe : va_A (wd_X1_leastSquare cI a0 v0_0) s.heap.size = A at hD ⊢
  have hA : ∀ q : Nat, s.heap.size ≤ q → A q := fun q h => by rw [← hAe]; exact Or.inr h
  have hS : va_S A s.heap s.heap [] := va_S.rf
  have hP : va_P (dC, dI) vwCl (wd_X1_leastSquare cI a0 v0_0) s.heap := hP
  have hl := lv_entry ([.ref (a0 0), .int p1, .int p2]) (n := 9) (Nat.le_of_ble_eq_true rfl)
  rw [lg_entry_eq]
  generalize (lg_sl ([.ref (a0 0), .int p1, .int p2]) ++ List.replicate (9 - (lg_sl ([.ref (a0 0), .int p1, .int p2])).length) Slot.unset).toArray = ls at hl ⊢
  have hl : lv_has ls 9 [(0, .ref (a0 0)), (1, .int p1), (2, .int p2)] := hl
  obtain ⟨H, hHe⟩ : ∃ H, H = s.heap := ⟨_, rfl⟩
  have hS : va_S A s.heap H [] := by rw [hHe]; exact hS
  have hP : va_P (dC, dI) vwCl (wd_X1_leastSquare cI a0 v0_0) H := by rw [hHe]; exact hP
  rw [← hHe]
  unfold F_X1_leastSquare at hF
  have j94 : ∀ (x3 : Int32), F_X1_leastSquare_j94 x3 = some u → ∀ (H : Heap) (locs : List Loc) (ls : Array Slot), va_P (dC, dI) vwCl (wd_X1_leastSquare cI a0 v0_0) H → va_D A (wd_X1_leastSquare cI a0 v0_0) → va_S A s.heap H locs → lv_has ls 9 [(3, .int x3)] → W p l e (headSpec wz_X1_leastSquare rm_X1_leastSquare).room s m [.ref (a0 0), .int p1, .int p2].toArray below meth c H locs 0 0 (MQ below (Q_X1_leastSquare dC dI cI a0 v0_0 u A) [.ref (a0 0), .int p1, .int p2].toArray s 0 0 A) (F0 m 94 ls []) := by
    intro x3 hF H locs ls hP hD hS hl
    unfold F_X1_leastSquare_j94 at hF
    refine lv_iload_n hx hb dX1_leastSquare_94 rfl (lv_at hl 0 rfl) ?_
    obtain rfl := Option.some.inj hF
    exact W.iret (v := x3) hx hb hr (fun t ht hW => ⟨⟨x3, (), rfl, rfl, by rw [ht]; exact hP, va_K.moved hW.alike hK, hD⟩, hS.F ht⟩) hS.2.2 dX1_leastSquare_95
  have j5 : ∀ (x1 : Int32) (x2 : Int32) (x3 : Int32) (x4 : Int32), F_X1_leastSquare_j5 n v0_0 x1 x2 x3 x4 = some u → ∀ (H : Heap) (locs : List Loc) (ls : Array Slot), va_P (dC, dI) vwCl (wd_X1_leastSquare cI a0 v0_0) H → va_D A (wd_X1_leastSquare cI a0 v0_0) → va_S A s.heap H locs → lv_has ls 9 [(0, .ref (a0 0)), (1, .int x1), (2, .int x2), (3, .int x3), (4, .int x4)] → W p l e (headSpec wz_X1_leastSquare rm_X1_leastSquare).room s m [.ref (a0 0), .int p1, .int p2].toArray below meth c H locs 0 0 (MQ below (Q_X1_leastSquare dC dI cI a0 v0_0 u A) [.ref (a0 0), .int p1, .int p2].toArray s 0 0 A) (F0 m 5 ls []) := by
    intro x1 x2 x3 x4 hF H locs ls hP hD hS hl
    unfold F_X1_leastSquare_j5 at hF
    obtain ⟨x_5, hL_5, hE_5⟩ := obd_some hF
    have kl_5 : ∀ (k : Nat) (s5 : Int32 × Int32), lpq (F_X1_leastSquare_b5 n v0_0 x1 x2) k s5 = some x_5 → ∀ (H : Heap) (locs : List Loc) (ls : Array Slot), va_P (dC, dI) vwCl (wd_X1_leastSquare cI a0 v0_0) H → va_D A (wd_X1_leastSquare cI a0 v0_0) → va_S A s.heap H locs → lv_has ls 9 [(0, .ref (a0 0)), (1, .int x1), (2, .int x2), (3, .int s5.1), (4, .int s5.2)] → W p l e (headSpec wz_X1_leastSquare rm_X1_leastSquare).room s m [.ref (a0 0), .int p1, .int p2].toArray below meth c H locs 0 0 (MQ below (Q_X1_leastSquare dC dI cI a0 v0_0 u A) [.ref (a0 0), .int p1, .int p2].toArray s 0 0 A) (F0 m 5 ls []) := by
      intro k
      induction k with
      | zero => intro s5 h; exact absurd h lpq_zero
      | succ k ih_5 =>
        intro s5 h H locs ls hP hD hS hl
        obtain ⟨o_5, hF, hO_5⟩ := lpq_succ h
        unfold F_X1_leastSquare_b5 at hF
        have j88 : ∀ (x3 : Int32) (x4 : Int32), F_X1_leastSquare_j88 x3 x4 = some o_5 → ∀ (H : Heap) (locs : List Loc) (ls : Array Slot), va_P (dC, dI) vwCl (wd_X1_leastSquare cI a0 v0_0) H → va_D A (wd_X1_leastSquare cI a0 v0_0) → va_S A s.heap H locs → lv_has ls 9 [(0, .ref (a0 0)), (1, .int x1), (2, .int x2), (3, .int x3), (4, .int x4)] → W p l e (headSpec wz_X1_leastSquare rm_X1_leastSquare).room s m [.ref (a0 0), .int p1, .int p2].toArray below meth c H locs 0 0 (MQ below (Q_X1_leastSquare dC dI cI a0 v0_0 u A) [.ref (a0 0), .int p1, .int p2].toArray s 0 0 A) (F0 m 88 ls []) := by
          intro x3 x4 hF H locs ls hP hD hS hl
          unfold F_X1_leastSquare_j88 at hF
          obtain ⟨y_1, ey_1, hF⟩ := lt_some hF
          refine lv_iinc (v := y_1) (lv' := [(4, .int y_1), (0, .ref (a0 0)), (1, .int x1), (2, .int x2), (3, .int x3)]) hx hb dX1_leastSquare_88 hl (k := 4) rfl (by rw [ey_1]; rfl) (by decide) rfl (fun ls hl => ?_)
          refine lv_goto (tgt := 5) hx hb dX1_leastSquare_91 (by decide) ?_
          obtain rfl := Option.some.inj hF
          exact ih_5 _ hO_5 _ _ _ hP hD hS (lv_sub hl [1, 2, 3, 4, 0] rfl)
        have j17 : ∀ (x3 : Int32) (x4 : Int32) (x5 : Int32), F_X1_leastSquare_j17 n v0_0 x1 x2 x3 x4 x5 = some o_5 → ∀ (H : Heap) (locs : List Loc) (ls : Array Slot), va_P (dC, dI) vwCl (wd_X1_leastSquare cI a0 v0_0) H → va_D A (wd_X1_leastSquare cI a0 v0_0) → va_S A s.heap H locs → lv_has ls 9 [(0, .ref (a0 0)), (1, .int x1), (2, .int x2), (3, .int x3), (4, .int x4), (5, .int x5)] → W p l e (headSpec wz_X1_leastSquare rm_X1_leastSquare).room s m [.ref (a0 0), .int p1, .int p2].toArray below meth c H locs 0 0 (MQ below (Q_X1_leastSquare dC dI cI a0 v0_0 u A) [.ref (a0 0), .int p1, .int p2].toArray s 0 0 A) (F0 m 17 ls []) := by
          intro x3 x4 x5 hF H locs ls hP hD hS hl
          unfold F_X1_leastSquare_j17 at hF
          obtain ⟨x_17, hL_17, hE_17⟩ := obd_some hF
          have kl_17 : ∀ (k : Nat) (s17 : Int32 × Int32), lpq (F_X1_leastSquare_b17 v0_0 x1 x2 x4) k s17 = some x_17 → ∀ (H : Heap) (locs : List Loc) (ls : Array Slot), va_P (dC, dI) vwCl (wd_X1_leastSquare cI a0 v0_0) H → va_D A (wd_X1_leastSquare cI a0 v0_0) → va_S A s.heap H locs → lv_has ls 9 [(0, .ref (a0 0)), (1, .int x1), (2, .int x2), (3, .int s17.1), (4, .int x4), (5, .int s17.2)] → W p l e (headSpec wz_X1_leastSquare rm_X1_leastSquare).room s m [.ref (a0 0), .int p1, .int p2].toArray below meth c H locs 0 0 (MQ below (Q_X1_leastSquare dC dI cI a0 v0_0 u A) [.ref (a0 0), .int p1, .int p2].toArray s 0 0 A) (F0 m 17 ls []) := by
            intro k
            induction k with
            | zero => intro s17 h; exact absurd h lpq_zero
            | succ k ih_17 =>
              intro s17 h H locs ls hP hD hS hl
              obtain ⟨o_17, hF, hO_17⟩ := lpq_succ h
              unfold F_X1_leastSquare_b17 at hF
              have j81 : ∀ (x5 : Int32) (t0 : Int32), F_X1_leastSquare_j81 x5 t0 = some o_17 → ∀ (H : Heap) (locs : List Loc) (ls : Array Slot), va_P (dC, dI) vwCl (wd_X1_leastSquare cI a0 v0_0) H → va_D A (wd_X1_leastSquare cI a0 v0_0) → va_S A s.heap H locs → lv_has ls 9 [(0, .ref (a0 0)), (1, .int x1), (2, .int x2), (4, .int x4), (5, .int x5)] → W p l e (headSpec wz_X1_leastSquare rm_X1_leastSquare).room s m [.ref (a0 0), .int p1, .int p2].toArray below meth c H locs 0 0 (MQ below (Q_X1_leastSquare dC dI cI a0 v0_0 u A) [.ref (a0 0), .int p1, .int p2].toArray s 0 0 A) (F0 m 81 ls [.int t0]) := by
                intro x5 t0 hF H locs ls hP hD hS hl
                unfold F_X1_leastSquare_j81 at hF
                refine lv_istore_n (lv' := [(3, .int t0), (0, .ref (a0 0)), (1, .int x1), (2, .int x2), (4, .int x4), (5, .int x5)]) hx hb dX1_leastSquare_81 rfl hl (by decide) rfl (fun ls hl => ?_)
                obtain ⟨y_2, ey_2, hF⟩ := lt_some hF
                refine lv_iinc (v := y_2) (lv' := [(5, .int y_2), (3, .int t0), (0, .ref (a0 0)), (1, .int x1), (2, .int x2), (4, .int x4)]) hx hb dX1_leastSquare_82 hl (k := 5) rfl (by rw [ey_2]; rfl) (by decide) rfl (fun ls hl => ?_)
                refine lv_goto (tgt := 17) hx hb dX1_leastSquare_85 (by decide) ?_
                obtain rfl := Option.some.inj hF
                exact ih_17 _ hO_17 _ _ _ hP hD hS (lv_sub hl [2, 3, 4, 1, 5, 0] rfl)
              refine lv_iload hx hb dX1_leastSquare_17 (lv_at hl 5 rfl) ?_
              refine lv_aload_n hx hb dX1_leastSquare_19 rfl (lv_at hl 0 rfl) ?_
              refine lv_iload hx hb dX1_leastSquare_20 (lv_at hl 4 rfl) ?_
              obtain ⟨u_3, hu_3, hF⟩ := obd_some hF
              have hPc := hP.sub (ws' := (wd_X1_pointCount cI a0 v0_0)) [0, 1] rfl
              have hDc := hD.sub (ws' := (wd_X1_pointCount cI a0 v0_0)) [0, 1] rfl rfl
              refine q_calli (wc := (wd_X1_pointCount cI a0 v0_0)) (w1 := (wd_X1_pointCount cI a0 v0_0)) (ws' := (wd_X1_leastSquare cI a0 v0_0)) hP hD hS hA [0, 1] [] [0, 1] rfl rfl rfl (by decide) rfl rfl (va_runV (As := [.int x4]) (rest := [.int s17.2]) ⟨hx, hb, hml, hown, hta⟩ (c_X1_pointCount l dC dI cI H.size a0 v0_0 x4 u_3 hu_3) (cwV 1 hta (ga_V mA168 mA169 mA170 mA6 mA171) rfl rfl rfl (by decide +kernel) ⟨Nat.le_of_ble_eq_true rfl, Nat.le_of_ble_eq_true rfl⟩) ⟨q_fb, va_recv hK hP (ci := 1) (q0 := 0) rfl rfl, q_ps hPc hK hDc⟩ rfl rfl hl.1 rfl (lv_room (Nat.le_of_ble_eq_true rfl)) dX1_leastSquare_22 ⟨Nat.zero_le _, Nat.zero_le _⟩) (fun H locs hP hD hS => ?_)
              refine lv_icmp_ge (tgt := 88) hx hb dX1_leastSquare_25 (by decide) (fun c_4 => ?_) (fun c_4 => ?_)
              · have hF := it_t hF c_4
                obtain rfl := Option.some.inj hF
                obtain rfl := lpq_x hO_17
                have hF := hE_17
                exact j88 s17.1 x4 hF _ _ _ hP hD hS (lv_sub hl [0, 1, 2, 3, 4] rfl)
              · have hF := it_f hF c_4
                refine lv_aload_n hx hb dX1_leastSquare_28 rfl (lv_at hl 0 rfl) ?_
                refine lv_iload hx hb dX1_leastSquare_29 (lv_at hl 4 rfl) ?_
                refine lv_iload hx hb dX1_leastSquare_31 (lv_at hl 5 rfl) ?_
                obtain ⟨u_5, hu_5, hF⟩ := obd_some hF
                have hPc := hP.sub (ws' := (wd_X1_xOf cI a0 v0_0)) [0, 1] rfl
                have hDc := hD.sub (ws' := (wd_X1_xOf cI a0 v0_0)) [0, 1] rfl rfl
                refine q_calli (wc := (wd_X1_xOf cI a0 v0_0)) (w1 := (wd_X1_xOf cI a0 v0_0)) (ws' := (wd_X1_leastSquare cI a0 v0_0)) hP hD hS hA [0, 1] [] [0, 1] rfl rfl rfl (by decide) rfl rfl (va_runV (As := [.int x4, .int s17.2]) (rest := []) ⟨hx, hb, hml, hown, hta⟩ (c_X1_xOf l dC dI cI H.size a0 v0_0 x4 s17.2 u_5 hu_5) (cwV 2 hta (ga_V mA258 mA208 mA209 mA6 mA210) rfl rfl rfl (by decide +kernel) ⟨Nat.le_of_ble_eq_true rfl, Nat.le_of_ble_eq_true rfl⟩) ⟨q_fb, va_recv hK hP (ci := 1) (q0 := 0) rfl rfl, q_ps hPc hK hDc⟩ rfl rfl hl.1 rfl (lv_room (Nat.le_of_ble_eq_true rfl)) dX1_leastSquare_33 ⟨Nat.zero_le _, Nat.zero_le _⟩) (fun H locs hP hD hS => ?_)
                refine lv_iload_n hx hb dX1_leastSquare_36 rfl (lv_at hl 1 rfl) ?_
                refine lv_isub hx hb dX1_leastSquare_37 ?_
                obtain ⟨y_6, ey_6, hF⟩ := lt_some hF
                refine lv_eqi ey_6 ?_
                refine lv_istore (lv' := [(6, .int y_6), (0, .ref (a0 0)), (1, .int x1), (2, .int x2), (3, .int s17.1), (4, .int x4), (5, .int s17.2)]) hx hb dX1_leastSquare_38 hl (by decide) rfl (fun ls hl => ?_)
                refine lv_aload_n hx hb dX1_leastSquare_40 rfl (lv_at hl 1 rfl) ?_
                refine lv_iload hx hb dX1_leastSquare_41 (lv_at hl 5 rfl) ?_
                refine lv_iload hx hb dX1_leastSquare_43 (lv_at hl 6 rfl) ?_
                obtain ⟨u_7, hu_7, hF⟩ := obd_some hF
                have hPc := hP.sub (ws' := (wd_X1_yOf cI a0 v0_0)) [0, 1] rfl
                have hDc := hD.sub (ws' := (wd_X1_yOf cI a0 v0_0)) [0, 1] rfl rfl
                refine q_calli (wc := (wd_X1_yOf cI a0 v0_0)) (w1 := (wd_X1_yOf cI a0 v0_0)) (ws' := (wd_X1_leastSquare cI a0 v0_0)) hP hD hS hA [0, 1] [] [0, 1] rfl rfl rfl (by decide) rfl rfl (va_runV (As := [.int x4, .int s17.2]) (rest := []) ⟨hx, hb, hml, hown, hta⟩ (c_X1_yOf l dC dI cI H.size a0 v0_0 x4 s17.2 u_7 hu_7) (cwV 2 hta (ga_V mA259 mA212 mA213 mA6 mA214) rfl rfl rfl (by decide +kernel) ⟨Nat.le_of_ble_eq_true rfl, Nat.le_of_ble_eq_true rfl⟩) ⟨q_fb, va_recv hK hP (ci := 1) (q0 := 0) rfl rfl, q_ps hPc hK hDc⟩ rfl rfl hl.1 rfl (lv_room (Nat.le_of_ble_eq_true rfl)) dX1_leastSquare_45 ⟨Nat.zero_le _, Nat.zero_le _⟩) (fun H locs hP hD hS => ?_)
                refine lv_iload_n hx hb dX1_leastSquare_48 rfl (lv_at hl 3 rfl) ?_
                refine lv_isub hx hb dX1_leastSquare_49 ?_
                obtain ⟨y_8, ey_8, hF⟩ := lt_some hF
                refine lv_eqi ey_8 ?_
                refine lv_istore (lv' := [(7, .int y_8), (6, .int y_6), (0, .ref (a0 0)), (1, .int x1), (2, .int x2), (3, .int s17.1), (4, .int x4), (5, .int s17.2)]) hx hb dX1_leastSquare_50 hl (by decide) rfl (fun ls hl => ?_)
                refine lv_iload hx hb dX1_leastSquare_52 (lv_at hl 1 rfl) ?_
                refine lv_iload hx hb dX1_leastSquare_54 (lv_at hl 1 rfl) ?_
                refine lv_imul hx hb dX1_leastSquare_56 ?_
                refine lv_iload hx hb dX1_leastSquare_57 (lv_at hl 0 rfl) ?_
                refine lv_iload hx hb dX1_leastSquare_59 (lv_at hl 0 rfl) ?_
                refine lv_imul hx hb dX1_leastSquare_61 ?_
                refine lv_iadd hx hb dX1_leastSquare_62 ?_
                obtain ⟨y_9, ey_9, hF⟩ := lt_some hF
                refine lv_eqi ey_9 ?_
                refine lv_istore (lv' := [(8, .int y_9), (7, .int y_8), (6, .int y_6), (0, .ref (a0 0)), (1, .int x1), (2, .int x2), (3, .int s17.1), (4, .int x4), (5, .int s17.2)]) hx hb dX1_leastSquare_63 hl (by decide) rfl (fun ls hl => ?_)
                refine lv_iload_n hx hb dX1_leastSquare_65 rfl (lv_at hl 6 rfl) ?_
                refine lv_iconst (v := (-1)) hx hb dX1_leastSquare_66 (by decide) ?_
                refine lv_icmp_ne (tgt := 75) hx hb dX1_leastSquare_67 (by decide) (fun c_10 => ?_) (fun c_10 => ?_)
                · have hF := it_f hF c_10
                  refine lv_iload_n hx hb dX1_leastSquare_75 rfl (lv_at hl 6 rfl) ?_
                  refine lv_iload hx hb dX1_leastSquare_76 (lv_at hl 0 rfl) ?_
                  refine va_mmin hx hb (hml.trans hl.1.symm) hown (hta _ mA278) (hta _ mA279) (hta _ mA280) (hta _ mA281) (Nat.le_of_ble_eq_true rfl) (Nat.le_of_ble_eq_true rfl) (Nat.zero_le _) (Nat.zero_le _) dX1_leastSquare_78 ?_
                  exact j81 s17.2 (if y_9 < s17.1 then y_9 else s17.1) hF _ _ _ hP hD hS (lv_sub hl [3, 4, 5, 7, 8] rfl)
                · have hF := it_t hF c_10
                  refine lv_iload hx hb dX1_leastSquare_70 (lv_at hl 0 rfl) ?_
                  refine lv_goto (tgt := 81) hx hb dX1_leastSquare_72 (by decide) ?_
                  exact j81 s17.2 y_9 hF _ _ _ hP hD hS (lv_sub hl [3, 4, 5, 7, 8] rfl)
          exact kl_17 n _ hL_17 _ _ _ hP hD hS hl
        refine lv_iload hx hb dX1_leastSquare_5 (lv_at hl 4 rfl) ?_
        refine lv_aload_n hx hb dX1_leastSquare_7 rfl (lv_at hl 0 rfl) ?_
        obtain ⟨u_11, hu_11, hF⟩ := obd_some hF
        have hPc := hP.sub (ws' := (wd_X1_subpathCount cI a0 v0_0)) [0, 1] rfl
        have hDc := hD.sub (ws' := (wd_X1_subpathCount cI a0 v0_0)) [0, 1] rfl rfl
        refine q_calli (wc := (wd_X1_subpathCount cI a0 v0_0)) (w1 := (wd_X1_subpathCount cI a0 v0_0)) (ws' := (wd_X1_leastSquare cI a0 v0_0)) hP hD hS hA [0, 1] [] [0, 1] rfl rfl rfl (by decide) rfl rfl (va_runV (As := []) (rest := [.int s5.2]) ⟨hx, hb, hml, hown, hta⟩ (c_X1_subpathCount l dC dI cI H.size a0 v0_0 u_11 hu_11) (cwV 0 hta (ga_V mA152 mA113 mA114 mA6 mA115) rfl rfl rfl (by decide +kernel) ⟨Nat.le_of_ble_eq_true rfl, Nat.le_of_ble_eq_true rfl⟩) ⟨q_fb, va_recv hK hP (ci := 1) (q0 := 0) rfl rfl, q_ps hPc hK hDc⟩ rfl rfl hl.1 rfl (lv_room (Nat.le_of_ble_eq_true rfl)) dX1_leastSquare_8 ⟨Nat.zero_le _, Nat.zero_le _⟩) (fun H locs hP hD hS => ?_)
        refine lv_icmp_ge (tgt := 94) hx hb dX1_leastSquare_11 (by decide) (fun c_12 => ?_) (fun c_12 => ?_)
        · have hF := it_t hF c_12
          obtain rfl := Option.some.inj hF
          obtain rfl := lpq_x hO_5
          have hF := hE_5
          exact j94 s5.1 hF _ _ _ hP hD hS (lv_sub hl [3] rfl)
        · have hF := it_f hF c_12
          refine lv_iconst (v := 0) hx hb dX1_leastSquare_14 (by decide) ?_
          refine lv_istore (lv' := [(5, .int 0), (0, .ref (a0 0)), (1, .int x1), (2, .int x2), (3, .int s5.1), (4, .int s5.2)]) hx hb dX1_leastSquare_15 hl (by decide) rfl (fun ls hl => ?_)
          exact j17 s5.1 s5.2 0 hF _ _ _ hP hD hS (lv_sub hl [1, 2, 3, 4, 5, 0] rfl)
    exact kl_5 n _ hL_5 _ _ _ hP hD hS hl
  refine lv_iconst (v := (-1)) hx hb dX1_leastSquare_0 (by decide) ?_
  refine lv_istore_n (lv' := [(3, .int (-1)), (0, .ref (a0 0)), (1, .int p1), (2, .int p2)]) hx hb dX1_leastSquare_1 rfl hl (by decide) rfl (fun ls hl => ?_)
  refine lv_iconst (v := 0) hx hb dX1_leastSquare_2 (by decide) ?_
  refine lv_istore (lv' := [(4, .int 0), (3, .int (-1)), (0, .ref (a0 0)), (1, .int p1), (2, .int p2)]) hx hb dX1_leastSquare_3 hl (by decide) rfl (fun ls hl => ?_)
  exact j5 p1 p2 (-1) 0 hF _ _ _ hP hD hS (lv_sub hl [2, 3, 4, 1, 0] rfl)

-- StrokeOutliner$Drawing.clearPath()V
def F_X1_clearPath (v0_0 : Nat → Int32) : Option ((Nat → Int32)) :=
  obd (F_X1_put v0_0 13 0) (fun u_1 => some u_1)
abbrev wd_X1_clearPath (cI : ClassId) (a0 : Nat → Nat) (v0_0 : Nat → Int32) : va_W := [(a0 0, .inr (1, [.ref (a0 1)])), (a0 1, .inl (cI, 86, .inl v0_0))]
abbrev wz_X1_clearPath : List Cond := .code yX1_clearPath cX1_clearPath 1 none :: wALL
abbrev rm_X1_clearPath : Room := { frames := 1, cells := 0, slots := 0, locals := 22 }
abbrev Q_X1_clearPath (dC : Nat → ClassId) (dI : Nat → Nat → Nat) (cI : ClassId) (a0 : Nat → Nat) (u : ((Nat → Int32))) (A : Nat → Prop) : Array Value → State → Outcome → State → Prop := va_Qv (fun (_ : Unit) => True) (fun _ => q_at dC dI cI A (wd_X1_clearPath cI a0 u)) A
set_option maxHeartbeats 4000000 in
set_option maxRecDepth 100000 in
theorem c_X1_clearPath (l : Launch) (dC : Nat → ClassId) (dI : Nat → Nat → Nat) (cI : ClassId) (sz : Nat) (a0 : Nat → Nat) (v0_0 : Nat → Int32) (u : ((Nat → Int32))) (hF : F_X1_clearPath v0_0 = some u) : Met l yX1_clearPath wz_X1_clearPath rm_X1_clearPath (va_Pc [.ref (a0 0)] (q_pre dC dI cI (wd_X1_clearPath cI a0 v0_0) sz)) (Q_X1_clearPath dC dI cI a0 u (va_A (wd_X1_clearPath cI a0 v0_0) sz)) 0 0 (va_A (wd_X1_clearPath cI a0 v0_0) sz) := by
  refine Met.ofW (cc := cX1_clearPath) (maxL := 1) (ret := none) (by decide) rfl ?_
  intro p e s m args below meth c s₁ B hml hv
  obtain ⟨rfl, hsz, hP, hK, hD0⟩ := hv
  have hx := B.exec
  have hb := B.bytes
  have hr := B.returns
  have hts := atoms_spec (ws := wz_X1_clearPath) B.pre
  have hta := wz_tl hts
  have hown : s.vm.findClass RX1 = some m.cls := findClass_of_methodNamed B.named
  have hlocks := B.notSynchronized
  subst hsz
  have hD := hD0.self (sz := s.heap.size)
  generalize hAe : va_A (wd_X1_clearPath cI a0 v0_0) s.heap.size = A at hD ⊢
  have hA : ∀ q : Nat, s.heap.size ≤ q → A q := fun q h => by rw [← hAe]; exact Or.inr h
  have hS : va_S A s.heap s.heap [] := va_S.rf
  have hP : va_P (dC, dI) vwCl (wd_X1_clearPath cI a0 v0_0) s.heap := hP
  have hl := lv_entry ([.ref (a0 0)]) (n := 1) (Nat.le_of_ble_eq_true rfl)
  rw [lg_entry_eq]
  generalize (lg_sl ([.ref (a0 0)]) ++ List.replicate (1 - (lg_sl ([.ref (a0 0)])).length) Slot.unset).toArray = ls at hl ⊢
  have hl : lv_has ls 1 [(0, .ref (a0 0))] := hl
  obtain ⟨H, hHe⟩ : ∃ H, H = s.heap := ⟨_, rfl⟩
  have hS : va_S A s.heap H [] := by rw [hHe]; exact hS
  have hP : va_P (dC, dI) vwCl (wd_X1_clearPath cI a0 v0_0) H := by rw [hHe]; exact hP
  rw [← hHe]
  unfold F_X1_clearPath at hF
  refine lv_aload_n hx hb dX1_clearPath_0 rfl (lv_at hl 0 rfl) ?_
  refine lv_bipush (v := 13) hx hb dX1_clearPath_1 (by decide) ?_
  refine lv_iconst (v := 0) hx hb dX1_clearPath_3 (by decide) ?_
  obtain ⟨u_1, hu_1, hF⟩ := obd_some hF
  have hPc := hP.sub (ws' := (wd_X1_put cI a0 v0_0)) [0, 1] rfl
  have hDc := hD.sub (ws' := (wd_X1_put cI a0 v0_0)) [0, 1] rfl rfl
  refine q_callv (wc := (wd_X1_put cI a0 v0_0)) (w1 := (wd_X1_put cI a0 u_1)) (ws' := (wd_X1_clearPath cI a0 u_1)) hP hD hS hA [0, 1] [] [0, 1] rfl rfl rfl (by decide) rfl rfl (va_runV (As := [.int 13, .int 0]) (rest := []) ⟨hx, hb, hml, hown, hta⟩ (c_X1_put l dC dI cI H.size a0 v0_0 13 0 u_1 hu_1) (cwV 2 hta (ga_V mA153 mA154 mA155 mA6 mA156) rfl rfl rfl (by decide +kernel) ⟨Nat.le_of_ble_eq_true rfl, Nat.le_of_ble_eq_true rfl⟩) ⟨q_fb, va_recv hK hP (ci := 1) (q0 := 0) rfl rfl, q_ps hPc hK hDc⟩ rfl rfl hl.1 rfl (lv_room (Nat.le_of_ble_eq_true rfl)) dX1_clearPath_4 ⟨Nat.zero_le _, Nat.zero_le _⟩) (fun H locs hP hD hS => ?_)
  obtain rfl := Option.some.inj hF
  exact W.vret hx hb hr (fun t ht hW => ⟨⟨(), rfl, trivial, by rw [ht]; exact hP, va_K.moved hW.alike hK, hD⟩, hS.F ht⟩) hS.2.2 dX1_clearPath_7

-- StrokeOutliner$Drawing.takePath(LStrokeOutliner$Drawing;)V
def F_X1_takePath (v0_0 : Nat → Int32) (v1_0 : Nat → Int32) : Option ((Nat → Int32)) :=
  gd (decide (cpk 13 13 73 86 86)) (lt (va_cpy v1_0 v0_0 (13 : Int32).toNatClampNeg (13 : Int32).toNatClampNeg (73 : Int32).toNatClampNeg) (fun y_2 => some y_2))
abbrev wd_X1_takePath (cI : ClassId) (a0 : Nat → Nat) (a1 : Nat → Nat) (v0_0 : Nat → Int32) (v1_0 : Nat → Int32) : va_W := [(a0 0, .inr (1, [.ref (a0 1)])), (a0 1, .inl (cI, 86, .inl v0_0)), (a1 0, .inr (1, [.ref (a1 1)])), (a1 1, .inl (cI, 86, .inl v1_0))]
abbrev wz_X1_takePath : List Cond := .code yX1_takePath cX1_takePath 2 none :: wALL
abbrev rm_X1_takePath : Room := { frames := 1, cells := 0, slots := 0, locals := 26 }
abbrev Q_X1_takePath (dC : Nat → ClassId) (dI : Nat → Nat → Nat) (cI : ClassId) (a0 : Nat → Nat) (a1 : Nat → Nat) (v1_0 : Nat → Int32) (u : ((Nat → Int32))) (A : Nat → Prop) : Array Value → State → Outcome → State → Prop := va_Qv (fun (_ : Unit) => True) (fun _ => q_at dC dI cI A (wd_X1_takePath cI a0 a1 u v1_0)) A
set_option maxHeartbeats 4000000 in
set_option maxRecDepth 100000 in
theorem c_X1_takePath (l : Launch) (dC : Nat → ClassId) (dI : Nat → Nat → Nat) (cI : ClassId) (sz : Nat) (a0 : Nat → Nat) (a1 : Nat → Nat) (v0_0 : Nat → Int32) (v1_0 : Nat → Int32) (u : ((Nat → Int32))) (hF : F_X1_takePath v0_0 v1_0 = some u) : Met l yX1_takePath wz_X1_takePath rm_X1_takePath (va_Pc [.ref (a0 0), .ref (a1 0)] (q_pre dC dI cI (wd_X1_takePath cI a0 a1 v0_0 v1_0) sz)) (Q_X1_takePath dC dI cI a0 a1 v1_0 u (va_A (wd_X1_takePath cI a0 a1 v0_0 v1_0) sz)) 0 0 (va_A (wd_X1_takePath cI a0 a1 v0_0 v1_0) sz) := by
  refine Met.ofW (cc := cX1_takePath) (maxL := 2) (ret := none) (by decide) rfl ?_
  intro p e s m args below meth c s₁ B hml hv
  obtain ⟨rfl, hsz, hP, hK, hD0⟩ := hv
  have hx := B.exec
  have hb := B.bytes
  have hr := B.returns
  have hts := atoms_spec (ws := wz_X1_takePath) B.pre
  have hta := wz_tl hts
  have hown : s.vm.findClass RX1 = some m.cls := findClass_of_methodNamed B.named
  have hlocks := B.notSynchronized
  subst hsz
  have hD := hD0.self (sz := s.heap.size)
  generalize hAe : va_A (wd_X1_takePath cI a0 a1 v0_0 v1_0) s.heap.size = A at hD ⊢
  have hA : ∀ q : Nat, s.heap.size ≤ q → A q := fun q h => by rw [← hAe]; exact Or.inr h
  have hS : va_S A s.heap s.heap [] := va_S.rf
  have hP : va_P (dC, dI) vwCl (wd_X1_takePath cI a0 a1 v0_0 v1_0) s.heap := hP
  have hl := lv_entry ([.ref (a0 0), .ref (a1 0)]) (n := 2) (Nat.le_of_ble_eq_true rfl)
  rw [lg_entry_eq]
  generalize (lg_sl ([.ref (a0 0), .ref (a1 0)]) ++ List.replicate (2 - (lg_sl ([.ref (a0 0), .ref (a1 0)])).length) Slot.unset).toArray = ls at hl ⊢
  have hl : lv_has ls 2 [(0, .ref (a0 0)), (1, .ref (a1 0))] := hl
  obtain ⟨H, hHe⟩ : ∃ H, H = s.heap := ⟨_, rfl⟩
  have hS : va_S A s.heap H [] := by rw [hHe]; exact hS
  have hP : va_P (dC, dI) vwCl (wd_X1_takePath cI a0 a1 v0_0 v1_0) H := by rw [hHe]; exact hP
  rw [← hHe]
  unfold F_X1_takePath at hF
  refine lv_aload_n hx hb dX1_takePath_0 rfl (lv_at hl 1 rfl) ?_
  refine va_get (D := (dC, dI)) (ci := 1) (v := .ref (a1 1)) (C := RX1) (T := TX1) (N := 1) hx hb hta uw_X1 hown hK hP 2 rfl rfl 0 (by decide) (hta _ mA34) (fun _ h9 => h9) rfl dX1_takePath_1 ?_
  refine lv_bipush (v := 13) hx hb dX1_takePath_4 (by decide) ?_
  refine lv_aload_n hx hb dX1_takePath_6 rfl (lv_at hl 0 rfl) ?_
  refine va_get (D := (dC, dI)) (ci := 1) (v := .ref (a0 1)) (C := RX1) (T := TX1) (N := 1) hx hb hta uw_X1 hown hK hP 0 rfl rfl 0 (by decide) (hta _ mA34) (fun _ h9 => h9) rfl dX1_takePath_7 ?_
  refine lv_bipush (v := 13) hx hb dX1_takePath_10 (by decide) ?_
  refine lv_bipush (v := 73) hx hb dX1_takePath_12 (by decide) ?_
  obtain ⟨g_1, hF⟩ := gd_some hF
  refine va_copyi hx hb (hml.trans hl.1.symm) hown (hta _ mA142) (hta _ mA135) (hta _ mA136) (hta _ mA137) hK hP hD hS 3 1 0 0 rfl rfl rfl rfl rfl (cpk_1 g_1) (cpk_2 g_1) (cpk_3 g_1) (cpk_4 g_1) (cpk_5 g_1) (fun _ _ => rfl) (Nat.le_of_ble_eq_true rfl) (Nat.le_of_ble_eq_true rfl) dX1_takePath_14 (fun H locs hP hD hS => ?_)
  obtain ⟨y_2, ey_2, hF⟩ := lt_some hF
  have hP : va_P (dC, dI) vwCl (wd_X1_takePath cI a0 a1 y_2 v1_0) H := by rw [ey_2]; exact hP
  have hD : va_D A (wd_X1_takePath cI a0 a1 y_2 v1_0) := by rw [ey_2]; exact hD
  obtain rfl := Option.some.inj hF
  exact W.vret hx hb hr (fun t ht hW => ⟨⟨(), rfl, trivial, by rw [ht]; exact hP, va_K.moved hW.alike hK, hD⟩, hS.F ht⟩) hS.2.2 dX1_takePath_17

-- StrokeOutliner$History.size()I
def F_X3_size (v0_1 : Int32) : (Int32) :=
  v0_1
abbrev wd_X3_size (cI : ClassId) (a0 : Nat → Nat) (v0_1 : Int32) : va_W := [(a0 0, .inr (3, [.ref (a0 1), .int v0_1]))]
abbrev wz_X3_size : List Cond := .code yX3_size cX3_size 1 (some .int) :: wALL
abbrev rm_X3_size : Room := { frames := 0, cells := 0, slots := 0, locals := 0 }
abbrev Q_X3_size (dC : Nat → ClassId) (dI : Nat → Nat → Nat) (cI : ClassId) (a0 : Nat → Nat) (v0_1 : Int32) (u : (Int32)) (A : Nat → Prop) : Array Value → State → Outcome → State → Prop := va_Qi (fun (r : Int32) (_ : Unit) => r = u) (fun _ => q_at dC dI cI A (wd_X3_size cI a0 v0_1)) A
set_option maxHeartbeats 4000000 in
set_option maxRecDepth 100000 in
theorem c_X3_size (l : Launch) (dC : Nat → ClassId) (dI : Nat → Nat → Nat) (cI : ClassId) (sz : Nat) (a0 : Nat → Nat) (v0_1 : Int32) (u : (Int32)) (hF : F_X3_size v0_1 = u) : Met l yX3_size wz_X3_size rm_X3_size (va_Pc [.ref (a0 0)] (q_pre dC dI cI (wd_X3_size cI a0 v0_1) sz)) (Q_X3_size dC dI cI a0 v0_1 u (va_A (wd_X3_size cI a0 v0_1) sz)) 0 0 (va_A (wd_X3_size cI a0 v0_1) sz) := by
  refine Met.ofW (cc := cX3_size) (maxL := 1) (ret := (some .int)) (by decide) rfl ?_
  intro p e s m args below meth c s₁ B hml hv
  obtain ⟨rfl, hsz, hP, hK, hD0⟩ := hv
  have hx := B.exec
  have hb := B.bytes
  have hr := B.returns
  have hts := atoms_spec (ws := wz_X3_size) B.pre
  have hta := wz_tl hts
  have hown : s.vm.findClass RX3 = some m.cls := findClass_of_methodNamed B.named
  have hlocks := B.notSynchronized
  subst hsz
  have hD := hD0.self (sz := s.heap.size)
  generalize hAe : va_A (wd_X3_size cI a0 v0_1) s.heap.size = A at hD ⊢
  have hA : ∀ q : Nat, s.heap.size ≤ q → A q := fun q h => by rw [← hAe]; exact Or.inr h
  have hS : va_S A s.heap s.heap [] := va_S.rf
  have hP : va_P (dC, dI) vwCl (wd_X3_size cI a0 v0_1) s.heap := hP
  have hl := lv_entry ([.ref (a0 0)]) (n := 1) (Nat.le_of_ble_eq_true rfl)
  rw [lg_entry_eq]
  generalize (lg_sl ([.ref (a0 0)]) ++ List.replicate (1 - (lg_sl ([.ref (a0 0)])).length) Slot.unset).toArray = ls at hl ⊢
  have hl : lv_has ls 1 [(0, .ref (a0 0))] := hl
  obtain ⟨H, hHe⟩ : ∃ H, H = s.heap := ⟨_, rfl⟩
  have hS : va_S A s.heap H [] := by rw [hHe]; exact hS
  have hP : va_P (dC, dI) vwCl (wd_X3_size cI a0 v0_1) H := by rw [hHe]; exact hP
  rw [← hHe]
  unfold F_X3_size at hF
  refine lv_aload_n hx hb dX3_size_0 rfl (lv_at hl 0 rfl) ?_
  refine va_get (D := (dC, dI)) (ci := 3) (v := .int v0_1) (C := RX3) (T := TX3) (N := 2) hx hb hta uw_X3 hown hK hP 0 rfl rfl 1 (by decide) (hta _ mA133) (fun _ h9 => h9) rfl dX3_size_1 ?_
  subst hF
  exact W.iret (v := v0_1) hx hb hr (fun t ht hW => ⟨⟨v0_1, (), rfl, rfl, by rw [ht]; exact hP, va_K.moved hW.alike hK, hD⟩, hS.F ht⟩) hS.2.2 dX3_size_4

-- StrokeOutliner$Drawing.copyFrom([II)V
def F_X1_copyFrom (n1 : Nat) (v0_0 : Nat → Int32) (w1 : Nat → Int32) (p2 : Int32) : Option ((Nat → Int32)) :=
  if p2 < 0 then some v0_0 else if ((Int32.ofNat n1) - 86) < p2 then some v0_0 else gd (decide (cpk p2 0 86 n1 86)) (lt (va_cpy w1 v0_0 p2.toNatClampNeg (0 : Int32).toNatClampNeg (86 : Int32).toNatClampNeg) (fun y_4 => some y_4))
abbrev wd_X1_copyFrom (cI : ClassId) (a0 : Nat → Nat) (b1 n1 : Nat) (v0_0 : Nat → Int32) (w1 : Nat → Int32) : va_W := [(a0 0, .inr (1, [.ref (a0 1)])), (a0 1, .inl (cI, 86, .inl v0_0)), (b1, .inl (cI, n1, .inl w1))]
abbrev wz_X1_copyFrom : List Cond := .code yX1_copyFrom cX1_copyFrom 3 none :: wALL
abbrev rm_X1_copyFrom : Room := { frames := 1, cells := 0, slots := 0, locals := 26 }
abbrev Q_X1_copyFrom (dC : Nat → ClassId) (dI : Nat → Nat → Nat) (cI : ClassId) (a0 : Nat → Nat) (b1 n1 : Nat) (w1 : Nat → Int32) (u : ((Nat → Int32))) (A : Nat → Prop) : Array Value → State → Outcome → State → Prop := va_Qv (fun (_ : Unit) => True) (fun _ => q_at dC dI cI A (wd_X1_copyFrom cI a0 b1 n1 u w1)) A
set_option maxHeartbeats 4000000 in
set_option maxRecDepth 100000 in
theorem c_X1_copyFrom (l : Launch) (dC : Nat → ClassId) (dI : Nat → Nat → Nat) (cI : ClassId) (sz : Nat) (a0 : Nat → Nat) (b1 n1 : Nat) (v0_0 : Nat → Int32) (w1 : Nat → Int32) (p2 : Int32) (u : ((Nat → Int32))) (hF : F_X1_copyFrom n1 v0_0 w1 p2 = some u) : Met l yX1_copyFrom wz_X1_copyFrom rm_X1_copyFrom (va_Pc [.ref (a0 0), .ref b1, .int p2] (q_pre dC dI cI (wd_X1_copyFrom cI a0 b1 n1 v0_0 w1) sz)) (Q_X1_copyFrom dC dI cI a0 b1 n1 w1 u (va_A (wd_X1_copyFrom cI a0 b1 n1 v0_0 w1) sz)) 0 0 (va_A (wd_X1_copyFrom cI a0 b1 n1 v0_0 w1) sz) := by
  refine Met.ofW (cc := cX1_copyFrom) (maxL := 3) (ret := none) (by decide) rfl ?_
  intro p e s m args below meth c s₁ B hml hv
  obtain ⟨rfl, hsz, hP, hK, hD0⟩ := hv
  have hx := B.exec
  have hb := B.bytes
  have hr := B.returns
  have hts := atoms_spec (ws := wz_X1_copyFrom) B.pre
  have hta := wz_tl hts
  have hown : s.vm.findClass RX1 = some m.cls := findClass_of_methodNamed B.named
  have hlocks := B.notSynchronized
  subst hsz
  have hD := hD0.self (sz := s.heap.size)
  generalize hAe : va_A (wd_X1_copyFrom cI a0 b1 n1 v0_0 w1) s.heap.size = A at hD ⊢
  have hA : ∀ q : Nat, s.heap.size ≤ q → A q := fun q h => by rw [← hAe]; exact Or.inr h
  have hS : va_S A s.heap s.heap [] := va_S.rf
  have hP : va_P (dC, dI) vwCl (wd_X1_copyFrom cI a0 b1 n1 v0_0 w1) s.heap := hP
  have hl := lv_entry ([.ref (a0 0), .ref b1, .int p2]) (n := 3) (Nat.le_of_ble_eq_true rfl)
  rw [lg_entry_eq]
  generalize (lg_sl ([.ref (a0 0), .ref b1, .int p2]) ++ List.replicate (3 - (lg_sl ([.ref (a0 0), .ref b1, .int p2])).length) Slot.unset).toArray = ls at hl ⊢
  have hl : lv_has ls 3 [(0, .ref (a0 0)), (1, .ref b1), (2, .int p2)] := hl
  obtain ⟨H, hHe⟩ : ∃ H, H = s.heap := ⟨_, rfl⟩
  have hS : va_S A s.heap H [] := by rw [hHe]; exact hS
  have hP : va_P (dC, dI) vwCl (wd_X1_copyFrom cI a0 b1 n1 v0_0 w1) H := by rw [hHe]; exact hP
  rw [← hHe]
  unfold F_X1_copyFrom at hF
  refine lv_iload_n hx hb dX1_copyFrom_0 rfl (lv_at hl 2 rfl) ?_
  refine lv_if_lt (tgt := 25) hx hb dX1_copyFrom_1 (by decide) (fun c_1 => ?_) (fun c_1 => ?_)
  · have hF := it_t hF c_1
    obtain rfl := Option.some.inj hF
    exact W.vret hx hb hr (fun t ht hW => ⟨⟨(), rfl, trivial, by rw [ht]; exact hP, va_K.moved hW.alike hK, hD⟩, hS.F ht⟩) hS.2.2 dX1_copyFrom_25
  · have hF := it_f hF c_1
    refine lv_iload_n hx hb dX1_copyFrom_4 rfl (lv_at hl 2 rfl) ?_
    refine lv_aload_n hx hb dX1_copyFrom_5 rfl (lv_at hl 1 rfl) ?_
    refine va_alen (v := (Int32.ofNat n1)) hx hb hK hP 2 0 rfl rfl rfl dX1_copyFrom_6 ?_
    refine lv_bipush (v := 86) hx hb dX1_copyFrom_7 (by decide) ?_
    refine lv_isub hx hb dX1_copyFrom_9 ?_
    refine lv_icmp_gt (tgt := 25) hx hb dX1_copyFrom_10 (by decide) (fun c_2 => ?_) (fun c_2 => ?_)
    · have hF := it_t hF c_2
      obtain rfl := Option.some.inj hF
      exact W.vret hx hb hr (fun t ht hW => ⟨⟨(), rfl, trivial, by rw [ht]; exact hP, va_K.moved hW.alike hK, hD⟩, hS.F ht⟩) hS.2.2 dX1_copyFrom_25
    · have hF := it_f hF c_2
      refine lv_aload_n hx hb dX1_copyFrom_13 rfl (lv_at hl 1 rfl) ?_
      refine lv_iload_n hx hb dX1_copyFrom_14 rfl (lv_at hl 2 rfl) ?_
      refine lv_aload_n hx hb dX1_copyFrom_15 rfl (lv_at hl 0 rfl) ?_
      refine va_get (D := (dC, dI)) (ci := 1) (v := .ref (a0 1)) (C := RX1) (T := TX1) (N := 1) hx hb hta uw_X1 hown hK hP 0 rfl rfl 0 (by decide) (hta _ mA34) (fun _ h9 => h9) rfl dX1_copyFrom_16 ?_
      refine lv_iconst (v := 0) hx hb dX1_copyFrom_19 (by decide) ?_
      refine lv_bipush (v := 86) hx hb dX1_copyFrom_20 (by decide) ?_
      obtain ⟨g_3, hF⟩ := gd_some hF
      refine va_copyi hx hb (hml.trans hl.1.symm) hown (hta _ mA142) (hta _ mA135) (hta _ mA136) (hta _ mA137) hK hP hD hS 2 1 0 0 rfl rfl rfl rfl rfl (cpk_1 g_3) (cpk_2 g_3) (cpk_3 g_3) (cpk_4 g_3) (cpk_5 g_3) (fun _ _ => rfl) (Nat.le_of_ble_eq_true rfl) (Nat.le_of_ble_eq_true rfl) dX1_copyFrom_22 (fun H locs hP hD hS => ?_)
      obtain ⟨y_4, ey_4, hF⟩ := lt_some hF
      have hP : va_P (dC, dI) vwCl (wd_X1_copyFrom cI a0 b1 n1 y_4 w1) H := by rw [ey_4]; exact hP
      have hD : va_D A (wd_X1_copyFrom cI a0 b1 n1 y_4 w1) := by rw [ey_4]; exact hD
      obtain rfl := Option.some.inj hF
      exact W.vret hx hb hr (fun t ht hW => ⟨⟨(), rfl, trivial, by rw [ht]; exact hP, va_K.moved hW.alike hK, hD⟩, hS.F ht⟩) hS.2.2 dX1_copyFrom_25

-- StrokeOutliner$History.bringBack(LStrokeOutliner$Drawing;)V
def F_X3_bringBack (v0_1 : Int32) (v0_0 : Nat → Int32) (v1_0 : Nat → Int32) : Option (Int32 × (Nat → Int32)) :=
  if v0_1 ≤ 0 then some (v0_1, v1_0) else lt (v0_1 - 1) (fun y_2 => obd (F_X1_copyFrom 344 v1_0 v0_0 (y_2 * 86)) (fun u_3 => some (y_2, u_3)))
abbrev wd_X3_bringBack (cI : ClassId) (a0 : Nat → Nat) (a1 : Nat → Nat) (v0_1 : Int32) (v0_0 : Nat → Int32) (v1_0 : Nat → Int32) : va_W := [(a0 0, .inr (3, [.ref (a0 1), .int v0_1])), (a0 1, .inl (cI, 344, .inl v0_0)), (a1 0, .inr (1, [.ref (a1 1)])), (a1 1, .inl (cI, 86, .inl v1_0))]
abbrev wz_X3_bringBack : List Cond := .code yX3_bringBack cX3_bringBack 2 none :: wALL
abbrev rm_X3_bringBack : Room := { frames := 2, cells := 0, slots := 0, locals := 48 }
abbrev Q_X3_bringBack (dC : Nat → ClassId) (dI : Nat → Nat → Nat) (cI : ClassId) (a0 : Nat → Nat) (a1 : Nat → Nat) (v0_0 : Nat → Int32) (u : (Int32 × (Nat → Int32))) (A : Nat → Prop) : Array Value → State → Outcome → State → Prop := va_Qv (fun (_ : Unit) => True) (fun _ => q_at dC dI cI A (wd_X3_bringBack cI a0 a1 u.1 v0_0 u.2)) A
set_option maxHeartbeats 4000000 in
set_option maxRecDepth 100000 in
theorem c_X3_bringBack (l : Launch) (dC : Nat → ClassId) (dI : Nat → Nat → Nat) (cI : ClassId) (sz : Nat) (a0 : Nat → Nat) (a1 : Nat → Nat) (v0_1 : Int32) (v0_0 : Nat → Int32) (v1_0 : Nat → Int32) (u : (Int32 × (Nat → Int32))) (hF : F_X3_bringBack v0_1 v0_0 v1_0 = some u) : Met l yX3_bringBack wz_X3_bringBack rm_X3_bringBack (va_Pc [.ref (a0 0), .ref (a1 0)] (q_pre dC dI cI (wd_X3_bringBack cI a0 a1 v0_1 v0_0 v1_0) sz)) (Q_X3_bringBack dC dI cI a0 a1 v0_0 u (va_A (wd_X3_bringBack cI a0 a1 v0_1 v0_0 v1_0) sz)) 0 0 (va_A (wd_X3_bringBack cI a0 a1 v0_1 v0_0 v1_0) sz) := by
  refine Met.ofW (cc := cX3_bringBack) (maxL := 2) (ret := none) (by decide) rfl ?_
  intro p e s m args below meth c s₁ B hml hv
  obtain ⟨rfl, hsz, hP, hK, hD0⟩ := hv
  have hx := B.exec
  have hb := B.bytes
  have hr := B.returns
  have hts := atoms_spec (ws := wz_X3_bringBack) B.pre
  have hta := wz_tl hts
  have hown : s.vm.findClass RX3 = some m.cls := findClass_of_methodNamed B.named
  have hlocks := B.notSynchronized
  subst hsz
  have hD := hD0.self (sz := s.heap.size)
  generalize hAe : va_A (wd_X3_bringBack cI a0 a1 v0_1 v0_0 v1_0) s.heap.size = A at hD ⊢
  have hA : ∀ q : Nat, s.heap.size ≤ q → A q := fun q h => by rw [← hAe]; exact Or.inr h
  have hS : va_S A s.heap s.heap [] := va_S.rf
  have hP : va_P (dC, dI) vwCl (wd_X3_bringBack cI a0 a1 v0_1 v0_0 v1_0) s.heap := hP
  have hl := lv_entry ([.ref (a0 0), .ref (a1 0)]) (n := 2) (Nat.le_of_ble_eq_true rfl)
  rw [lg_entry_eq]
  generalize (lg_sl ([.ref (a0 0), .ref (a1 0)]) ++ List.replicate (2 - (lg_sl ([.ref (a0 0), .ref (a1 0)])).length) Slot.unset).toArray = ls at hl ⊢
  have hl : lv_has ls 2 [(0, .ref (a0 0)), (1, .ref (a1 0))] := hl
  obtain ⟨H, hHe⟩ : ∃ H, H = s.heap := ⟨_, rfl⟩
  have hS : va_S A s.heap H [] := by rw [hHe]; exact hS
  have hP : va_P (dC, dI) vwCl (wd_X3_bringBack cI a0 a1 v0_1 v0_0 v1_0) H := by rw [hHe]; exact hP
  rw [← hHe]
  unfold F_X3_bringBack at hF
  refine lv_aload_n hx hb dX3_bringBack_0 rfl (lv_at hl 0 rfl) ?_
  refine va_get (D := (dC, dI)) (ci := 3) (v := .int v0_1) (C := RX3) (T := TX3) (N := 2) hx hb hta uw_X3 hown hK hP 0 rfl rfl 1 (by decide) (hta _ mA133) (fun _ h9 => h9) rfl dX3_bringBack_1 ?_
  refine lv_if_le (tgt := 32) hx hb dX3_bringBack_4 (by decide) (fun c_1 => ?_) (fun c_1 => ?_)
  · have hF := it_t hF c_1
    obtain rfl := Option.some.inj hF
    exact W.vret hx hb hr (fun t ht hW => ⟨⟨(), rfl, trivial, by rw [ht]; exact hP, va_K.moved hW.alike hK, hD⟩, hS.F ht⟩) hS.2.2 dX3_bringBack_32
  · have hF := it_f hF c_1
    refine lv_aload_n hx hb dX3_bringBack_7 rfl (lv_at hl 0 rfl) ?_
    refine lv_dup hx hb dX3_bringBack_8 rfl ?_
    refine va_get (D := (dC, dI)) (ci := 3) (v := .int v0_1) (C := RX3) (T := TX3) (N := 2) hx hb hta uw_X3 hown hK hP 0 rfl rfl 1 (by decide) (hta _ mA133) (fun _ h9 => h9) rfl dX3_bringBack_9 ?_
    refine lv_iconst (v := 1) hx hb dX3_bringBack_12 (by decide) ?_
    refine lv_isub hx hb dX3_bringBack_13 ?_
    obtain ⟨y_2, ey_2, hF⟩ := lt_some hF
    refine lv_eqi ey_2 ?_
    refine va_put (D := (dC, dI)) (ci := 3) (v := .int y_2) (ty := .int) (C := RX3) (T := TX3) (N := 2) hx hb hta uw_X3 tyX3 tyX3_ok nmX3 hown hK hP hD hS 0 rfl rfl 1 (by decide) (hta _ mA133) (fun _ h9 => h9) rfl (by decide +kernel) rfl rfl (Nat.le_of_ble_eq_true rfl) dX3_bringBack_14 (fun H locs hP hD hS => ?_)
    have hP : va_P (dC, dI) vwCl (wd_X3_bringBack cI a0 a1 y_2 v0_0 v1_0) H := hP
    have hD : va_D A (wd_X3_bringBack cI a0 a1 y_2 v0_0 v1_0) := hD
    refine lv_aload_n hx hb dX3_bringBack_17 rfl (lv_at hl 1 rfl) ?_
    refine lv_aload_n hx hb dX3_bringBack_18 rfl (lv_at hl 0 rfl) ?_
    refine va_get (D := (dC, dI)) (ci := 3) (v := .ref (a0 1)) (C := RX3) (T := TX3) (N := 2) hx hb hta uw_X3 hown hK hP 0 rfl rfl 0 (by decide) (hta _ mA38) (fun _ h9 => h9) rfl dX3_bringBack_19 ?_
    refine lv_aload_n hx hb dX3_bringBack_22 rfl (lv_at hl 0 rfl) ?_
    refine va_get (D := (dC, dI)) (ci := 3) (v := .int y_2) (C := RX3) (T := TX3) (N := 2) hx hb hta uw_X3 hown hK hP 0 rfl rfl 1 (by decide) (hta _ mA133) (fun _ h9 => h9) rfl dX3_bringBack_23 ?_
    refine lv_bipush (v := 86) hx hb dX3_bringBack_26 (by decide) ?_
    refine lv_imul hx hb dX3_bringBack_28 ?_
    obtain ⟨u_3, hu_3, hF⟩ := obd_some hF
    have hPc := hP.sub (ws' := (wd_X1_copyFrom cI a1 (a0 1) 344 v1_0 v0_0)) [2, 3, 1] rfl
    have hDc := hD.sub (ws' := (wd_X1_copyFrom cI a1 (a0 1) 344 v1_0 v0_0)) [2, 3, 1] rfl rfl
    refine q_callv (wc := (wd_X1_copyFrom cI a1 (a0 1) 344 v1_0 v0_0)) (w1 := (wd_X1_copyFrom cI a1 (a0 1) 344 u_3 v0_0)) (ws' := (wd_X3_bringBack cI a0 a1 y_2 v0_0 u_3)) hP hD hS hA [2, 3, 1] [0] [0, 3, 1, 2] rfl rfl rfl (by decide) rfl rfl (va_runV (As := [.ref (a0 1), .int (y_2 * 86)]) (rest := []) ⟨hx, hb, hml, hown, hta⟩ (c_X1_copyFrom l dC dI cI H.size a1 (a0 1) 344 v1_0 v0_0 (y_2 * 86) u_3 hu_3) (cwV 2 hta (ga_V mA763 mA764 mA765 mA6 mA766) rfl rfl rfl (by decide +kernel) ⟨Nat.le_of_ble_eq_true rfl, Nat.le_of_ble_eq_true rfl⟩) ⟨q_fb, va_recv hK hP (ci := 1) (q0 := 2) rfl rfl, q_ps hPc hK hDc⟩ rfl rfl hl.1 rfl (lv_room (Nat.le_of_ble_eq_true rfl)) dX3_bringBack_29 ⟨Nat.zero_le _, Nat.zero_le _⟩) (fun H locs hP hD hS => ?_)
    obtain rfl := Option.some.inj hF
    exact W.vret hx hb hr (fun t ht hW => ⟨⟨(), rfl, trivial, by rw [ht]; exact hP, va_K.moved hW.alike hK, hD⟩, hS.F ht⟩) hS.2.2 dX3_bringBack_32
