-- StrokeOutlinerModel.turned(III)I
def F_X12_turned (p0 : Int32) (p1 : Int32) (p2 : Int32) : (Int32) :=
  if p2 = 0 then p0 else if p2 = 1 then (-p1) else if p2 = 2 then (-p0) else p1
abbrev wz_X12_turned : List Cond := .code yX12_turned cX12_turned 3 (some .int) :: wALL
abbrev rm_X12_turned : Room := { frames := 0, cells := 0, slots := 0, locals := 0 }
abbrev Q_X12_turned (dC : Nat → ClassId) (dI : Nat → Nat → Nat) (cI : ClassId) (u : (Int32)) (A : Nat → Prop) : Array Value → State → Outcome → State → Prop := va_Qi (fun (r : Int32) (_ : Unit) => r = u) (fun _ => q_at dC dI cI A ([] : va_W)) A
set_option maxHeartbeats 4000000 in
set_option maxRecDepth 100000 in
theorem c_X12_turned (l : Launch) (dC : Nat → ClassId) (dI : Nat → Nat → Nat) (cI : ClassId) (sz : Nat) (p0 : Int32) (p1 : Int32) (p2 : Int32) (u : (Int32)) (hF : F_X12_turned p0 p1 p2 = u) : Met l yX12_turned wz_X12_turned rm_X12_turned (va_Pc [.int p0, .int p1, .int p2] (q_pre dC dI cI ([] : va_W) sz)) (Q_X12_turned dC dI cI u (va_A ([] : va_W) sz)) 0 0 (va_A ([] : va_W) sz) := by
  refine Met.ofW (cc := cX12_turned) (maxL := 3) (ret := (some .int)) (by decide) rfl ?_
  intro p e s m args below meth c s₁ B hml hv
  obtain ⟨rfl, hsz, hP, hK, hD0⟩ := hv
  have hx := B.exec
  have hb := B.bytes
  have hr := B.returns
  have hts := atoms_spec (ws := wz_X12_turned) B.pre
  have hta := wz_tl hts
  have hown : s.vm.findClass RX12 = some m.cls := findClass_of_methodNamed B.named
  have hlocks := B.notSynchronized
  subst hsz
  have hD := hD0.self (sz := s.heap.size)
  generalize hAe : va_A ([] : va_W) s.heap.size = A at hD ⊢
  have hA : ∀ q : Nat, s.heap.size ≤ q → A q := fun q h => by rw [← hAe]; exact Or.inr h
  have hS : va_S A s.heap s.heap [] := va_S.rf
  have hP : va_P (dC, dI) vwCl ([] : va_W) s.heap := hP
  have hl := lv_entry ([.int p0, .int p1, .int p2]) (n := 3) (Nat.le_of_ble_eq_true rfl)
  rw [lg_entry_eq]
  generalize (lg_sl ([.int p0, .int p1, .int p2]) ++ List.replicate (3 - (lg_sl ([.int p0, .int p1, .int p2])).length) Slot.unset).toArray = ls at hl ⊢
  have hl : lv_has ls 3 [(0, .int p0), (1, .int p1), (2, .int p2)] := hl
  obtain ⟨H, hHe⟩ : ∃ H, H = s.heap := ⟨_, rfl⟩
  have hS : va_S A s.heap H [] := by rw [hHe]; exact hS
  have hP : va_P (dC, dI) vwCl ([] : va_W) H := by rw [hHe]; exact hP
  rw [← hHe]
  unfold F_X12_turned at hF
  refine lv_iload_n hx hb dX12_turned_0 rfl (lv_at hl 2 rfl) ?_
  refine lv_if_ne (tgt := 8) hx hb dX12_turned_1 (by decide) (fun c_1 => ?_) (fun c_1 => ?_)
  · have hF := it_f hF c_1
    refine lv_iload_n hx hb dX12_turned_8 rfl (lv_at hl 2 rfl) ?_
    refine lv_iconst (v := 1) hx hb dX12_turned_9 (by decide) ?_
    refine lv_icmp_ne (tgt := 18) hx hb dX12_turned_10 (by decide) (fun c_2 => ?_) (fun c_2 => ?_)
    · have hF := it_f hF c_2
      refine lv_iload_n hx hb dX12_turned_18 rfl (lv_at hl 2 rfl) ?_
      refine lv_iconst (v := 2) hx hb dX12_turned_19 (by decide) ?_
      refine lv_icmp_ne (tgt := 28) hx hb dX12_turned_20 (by decide) (fun c_3 => ?_) (fun c_3 => ?_)
      · have hF := it_f hF c_3
        refine lv_iload_n hx hb dX12_turned_28 rfl (lv_at hl 1 rfl) ?_
        subst hF
        exact W.iret (v := p1) hx hb hr (fun t ht hW => ⟨⟨p1, (), rfl, rfl, by rw [ht]; exact hP, va_K.moved hW.alike hK, hD⟩, hS.F ht⟩) hS.2.2 dX12_turned_29
      · have hF := it_t hF c_3
        refine lv_iload_n hx hb dX12_turned_23 rfl (lv_at hl 0 rfl) ?_
        refine lv_ineg hx hb dX12_turned_24 ?_
        refine lv_goto (tgt := 29) hx hb dX12_turned_25 (by decide) ?_
        subst hF
        exact W.iret (v := (-p0)) hx hb hr (fun t ht hW => ⟨⟨(-p0), (), rfl, rfl, by rw [ht]; exact hP, va_K.moved hW.alike hK, hD⟩, hS.F ht⟩) hS.2.2 dX12_turned_29
    · have hF := it_t hF c_2
      refine lv_iload_n hx hb dX12_turned_13 rfl (lv_at hl 1 rfl) ?_
      refine lv_ineg hx hb dX12_turned_14 ?_
      refine lv_goto (tgt := 29) hx hb dX12_turned_15 (by decide) ?_
      subst hF
      exact W.iret (v := (-p1)) hx hb hr (fun t ht hW => ⟨⟨(-p1), (), rfl, rfl, by rw [ht]; exact hP, va_K.moved hW.alike hK, hD⟩, hS.F ht⟩) hS.2.2 dX12_turned_29
  · have hF := it_t hF c_1
    refine lv_iload_n hx hb dX12_turned_4 rfl (lv_at hl 0 rfl) ?_
    refine lv_goto (tgt := 29) hx hb dX12_turned_5 (by decide) ?_
    subst hF
    exact W.iret (v := p0) hx hb hr (fun t ht hW => ⟨⟨p0, (), rfl, rfl, by rw [ht]; exact hP, va_K.moved hW.alike hK, hD⟩, hS.F ht⟩) hS.2.2 dX12_turned_29

-- StrokeOutlinerModel.transform(III)I
def F_X12_transform_j279 (v0_2 : Int32) (v0_3 : Int32) (v0_0 : Nat → Int32) (v0_1 : Nat → Int32) (x5 : Int32) : Option (Int32 × Int32 × Int32 × (Nat → Int32) × (Nat → Int32)) :=
  some (x5, v0_2, v0_3, v0_0, v0_1)
def F_X12_transform_j273 (v0_0 : Nat → Int32) (x6 : Int32) : Option (Sum (Int32 × (Nat → Int32)) ((Nat → Int32))) :=
  lt (x6 + 1) (fun y_1 => some (.inl (y_1, v0_0)))
def F_X12_transform_b203 (x1 : Int32) (x2 : Int32) (x3 : Int32) (x6 : Int32) (s203 : Int32 × (Nat → Int32)) : Option (Sum (Int32 × (Nat → Int32)) ((Nat → Int32))) :=
  obd (F_X12_points s203.2 x6) (fun u_2 => if u_2 ≤ s203.1 then some (.inr s203.2) else obd (F_X12_x s203.2 x6 s203.1) (fun u_4 => obd (F_X12_y s203.2 x6 s203.1) (fun u_5 => lt (F_X12_turned u_4 u_5 x1) (fun u_6 => obd (F_X12_y s203.2 x6 s203.1) (fun u_7 => obd (F_X12_x s203.2 x6 s203.1) (fun u_8 => lt (F_X12_turned u_7 (-u_8) x1) (fun u_9 => obd (F_X12_puts s203.2 x6 s203.1 (u_6 + x2) (u_9 + x3)) (fun u_10 => lt (s203.1 + 1) (fun y_11 => some (.inl (y_11, u_10)))))))))))
def F_X12_transform_j203 (n : Nat) (v0_0 : Nat → Int32) (x1 : Int32) (x2 : Int32) (x3 : Int32) (x6 : Int32) (x7 : Int32) : Option (Sum (Int32 × (Nat → Int32)) ((Nat → Int32))) :=
  obd (lpq (F_X12_transform_b203 x1 x2 x3 x6) n (x7, v0_0)) (fun x_203 => F_X12_transform_j273 x_203 x6)
def F_X12_transform_b188 (n : Nat) (x1 : Int32) (x2 : Int32) (x3 : Int32) (s188 : Int32 × (Nat → Int32)) : Option (Sum (Int32 × (Nat → Int32)) ((Nat → Int32))) :=
  gd (decide (vpi 13 86)) (if (s188.2 (13 : Int32).toNatClampNeg) ≤ s188.1 then some (.inr s188.2) else F_X12_transform_j203 n s188.2 x1 x2 x3 s188.1 0)
def F_X12_transform_j188 (n : Nat) (v0_2 : Int32) (v0_3 : Int32) (v0_0 : Nat → Int32) (v0_1 : Nat → Int32) (x1 : Int32) (x2 : Int32) (x3 : Int32) (x5 : Int32) (x6 : Int32) : Option (Int32 × Int32 × Int32 × (Nat → Int32) × (Nat → Int32)) :=
  obd (lpq (F_X12_transform_b188 n x1 x2 x3) n (x6, v0_0)) (fun x_188 => F_X12_transform_j279 v0_2 v0_3 x_188 v0_1 x5)
def F_X12_transform_j173 (n : Nat) (v0_2 : Int32) (v0_0 : Nat → Int32) (v0_1 : Nat → Int32) (x1 : Int32) (x2 : Int32) (x3 : Int32) (x5 : Int32) (t1 : Int32) : Option (Int32 × Int32 × Int32 × (Nat → Int32) × (Nat → Int32)) :=
  lt (F_X12_refused t1) (fun u_14 => if u_14.1 = 0 then obd (F_X12_saves n v0_2 v0_0 v0_1) (fun u_16 => F_X12_transform_j188 n u_16.1 u_14.2 v0_0 u_16.2 x1 x2 x3 x5 0) else some (0, v0_2, u_14.2, v0_0, v0_1))
def F_X12_transform_j162 (n : Nat) (v0_2 : Int32) (v0_0 : Nat → Int32) (v0_1 : Nat → Int32) (x1 : Int32) (x2 : Int32) (x3 : Int32) (x4 : Int32) (x5 : Int32) : Option (Int32 × Int32 × Int32 × (Nat → Int32) × (Nat → Int32)) :=
  if x4 = 0 then F_X12_transform_j173 n v0_2 v0_0 v0_1 x1 x2 x3 x5 2 else F_X12_transform_j173 n v0_2 v0_0 v0_1 x1 x2 x3 x5 0
def F_X12_transform_j156 (x4 : Int32) (x5 : Int32) (x6 : Int32) : Option (Sum (Int32 × Int32 × Int32) (Int32 × Int32)) :=
  lt (x6 + 1) (fun y_18 => some (.inl (x4, x5, y_18)))
def F_X12_transform_j145 (x5 : Int32) (x7 : Int32) (t0 : Int32) : Option (Sum (Int32 × Int32 × Int32) (Int32 × Int32)) :=
  lt (x5 + 1) (fun y_19 => lt (x7 + 1) (fun y_20 => some (.inl (t0, y_19, y_20))))
def F_X12_transform_j144 (x5 : Int32) (x7 : Int32) : Option (Sum (Int32 × Int32 × Int32) (Int32 × Int32)) :=
  F_X12_transform_j145 x5 x7 0
def F_X12_transform_b73 (v0_0 : Nat → Int32) (x1 : Int32) (x2 : Int32) (x3 : Int32) (x6 : Int32) (s73 : Int32 × Int32 × Int32) : Option (Sum (Int32 × Int32 × Int32) (Int32 × Int32)) :=
  obd (F_X12_points v0_0 x6) (fun u_21 => if u_21 ≤ s73.2.2 then some (.inr (s73.1, s73.2.1)) else if s73.1 = 0 then F_X12_transform_j144 s73.2.1 s73.2.2 else obd (F_X12_x v0_0 x6 s73.2.2) (fun u_24 => obd (F_X12_y v0_0 x6 s73.2.2) (fun u_25 => lt (F_X12_turned u_24 u_25 x1) (fun u_26 => obd (F_X12_y v0_0 x6 s73.2.2) (fun u_27 => obd (F_X12_x v0_0 x6 s73.2.2) (fun u_28 => lt (F_X12_turned u_27 (-u_28) x1) (fun u_29 => lt (F_X12_isPlace (u_26 + x2) (u_29 + x3)) (fun u_30 => if u_30 = 0 then F_X12_transform_j144 s73.2.1 s73.2.2 else F_X12_transform_j145 s73.2.1 s73.2.2 1))))))))
def F_X12_transform_j73 (n : Nat) (v0_0 : Nat → Int32) (x1 : Int32) (x2 : Int32) (x3 : Int32) (x4 : Int32) (x5 : Int32) (x6 : Int32) (x7 : Int32) : Option (Sum (Int32 × Int32 × Int32) (Int32 × Int32)) :=
  obd (lpq (F_X12_transform_b73 v0_0 x1 x2 x3 x6) n (x4, x5, x7)) (fun x_73 => F_X12_transform_j156 x_73.1 x_73.2 x6)
def F_X12_transform_b58 (n : Nat) (v0_0 : Nat → Int32) (x1 : Int32) (x2 : Int32) (x3 : Int32) (s58 : Int32 × Int32 × Int32) : Option (Sum (Int32 × Int32 × Int32) (Int32 × Int32)) :=
  gd (decide (vpi 13 86)) (if (v0_0 (13 : Int32).toNatClampNeg) ≤ s58.2.2 then some (.inr (s58.1, s58.2.1)) else F_X12_transform_j73 n v0_0 x1 x2 x3 s58.1 s58.2.1 s58.2.2 0)
def F_X12_transform_j58 (n : Nat) (v0_2 : Int32) (v0_0 : Nat → Int32) (v0_1 : Nat → Int32) (x1 : Int32) (x2 : Int32) (x3 : Int32) (x4 : Int32) (x5 : Int32) (x6 : Int32) : Option (Int32 × Int32 × Int32 × (Nat → Int32) × (Nat → Int32)) :=
  obd (lpq (F_X12_transform_b58 n v0_0 x1 x2 x3) n (x4, x5, x6)) (fun x_58 => F_X12_transform_j162 n v0_2 v0_0 v0_1 x1 x2 x3 x_58.1 x_58.2)
def F_X12_transform_j41 (n : Nat) (v0_2 : Int32) (v0_0 : Nat → Int32) (v0_1 : Nat → Int32) (x1 : Int32) (x2 : Int32) (x3 : Int32) (t1 : Int32) : Option (Int32 × Int32 × Int32 × (Nat → Int32) × (Nat → Int32)) :=
  lt (F_X12_refused t1) (fun u_34 => if u_34.1 = 0 then F_X12_transform_j58 n v0_2 v0_0 v0_1 x1 x2 x3 1 0 0 else some (0, v0_2, u_34.2, v0_0, v0_1))
def F_X12_transform_j40 (n : Nat) (v0_2 : Int32) (v0_0 : Nat → Int32) (v0_1 : Nat → Int32) (x1 : Int32) (x2 : Int32) (x3 : Int32) : Option (Int32 × Int32 × Int32 × (Nat → Int32) × (Nat → Int32)) :=
  F_X12_transform_j41 n v0_2 v0_0 v0_1 x1 x2 x3 1
def F_X12_transform (n : Nat) (v0_2 : Int32) (v0_0 : Nat → Int32) (v0_1 : Nat → Int32) (p1 : Int32) (p2 : Int32) (p3 : Int32) : Option (Int32 × Int32 × Int32 × (Nat → Int32) × (Nat → Int32)) :=
  lt (F_X12_within p1 0 3) (fun u_36 => if u_36 = 0 then F_X12_transform_j40 n v0_2 v0_0 v0_1 p1 p2 p3 else lt (F_X12_within p2 (-200) 200) (fun u_38 => if u_38 = 0 then F_X12_transform_j40 n v0_2 v0_0 v0_1 p1 p2 p3 else lt (F_X12_within p3 (-200) 200) (fun u_40 => if u_40 = 0 then F_X12_transform_j40 n v0_2 v0_0 v0_1 p1 p2 p3 else F_X12_transform_j41 n v0_2 v0_0 v0_1 p1 p2 p3 0)))
abbrev wd_X12_transform (cI : ClassId) (a0 : Nat → Nat) (v0_2 : Int32) (v0_3 : Int32) (v0_5 : Int32) (v0_12 : Int32) (v0_13 : Int32) (v0_16 : Int32) (v0_17 : Int32) (v0_21 : Int32) (v0_23 : Int32) (v0_24 : Int32) (v0_25 : Int32) (v0_26 : Int32) (v0_29 : Int32) (v0_30 : Int64) (v0_0 : Nat → Int32) (v0_1 : Nat → Int32) : va_W := [(a0 0, .inr (11, [.ref (a0 1), .ref (a0 2), .int v0_2, .int v0_3, .ref (a0 5), .int v0_5, .ref (a0 7), .ref (a0 8), .ref (a0 9), .ref (a0 10), .ref (a0 11), .ref (a0 12), .int v0_12, .int v0_13, .ref (a0 15), .ref (a0 16), .int v0_16, .int v0_17, .ref (a0 19), .ref (a0 20), .ref (a0 21), .int v0_21, .ref (a0 23), .int v0_23, .int v0_24, .int v0_25, .int v0_26, .ref (a0 28), .ref (a0 29), .int v0_29, .long v0_30])), (a0 1, .inl (cI, 86, .inl v0_0)), (a0 2, .inl (cI, 344, .inl v0_1))]
abbrev wz_X12_transform : List Cond := .code yX12_transform cX12_transform 8 (some .int) :: wALL
abbrev rm_X12_transform : Room := { frames := 2, cells := 0, slots := 0, locals := 44 }
abbrev Q_X12_transform (dC : Nat → ClassId) (dI : Nat → Nat → Nat) (cI : ClassId) (a0 : Nat → Nat) (v0_5 : Int32) (v0_12 : Int32) (v0_13 : Int32) (v0_16 : Int32) (v0_17 : Int32) (v0_21 : Int32) (v0_23 : Int32) (v0_24 : Int32) (v0_25 : Int32) (v0_26 : Int32) (v0_29 : Int32) (v0_30 : Int64) (u : (Int32 × Int32 × Int32 × (Nat → Int32) × (Nat → Int32))) (A : Nat → Prop) : Array Value → State → Outcome → State → Prop := va_Qi (fun (r : Int32) (_ : Unit) => r = u.1) (fun _ => q_at dC dI cI A (wd_X12_transform cI a0 u.2.1 u.2.2.1 v0_5 v0_12 v0_13 v0_16 v0_17 v0_21 v0_23 v0_24 v0_25 v0_26 v0_29 v0_30 u.2.2.2.1 u.2.2.2.2)) A
set_option maxHeartbeats 4000000 in
set_option maxRecDepth 100000 in
theorem c_X12_transform (l : Launch) (dC : Nat → ClassId) (dI : Nat → Nat → Nat) (cI : ClassId) (sz : Nat) (a0 : Nat → Nat) (v0_2 : Int32) (v0_3 : Int32) (v0_5 : Int32) (v0_12 : Int32) (v0_13 : Int32) (v0_16 : Int32) (v0_17 : Int32) (v0_21 : Int32) (v0_23 : Int32) (v0_24 : Int32) (v0_25 : Int32) (v0_26 : Int32) (v0_29 : Int32) (v0_30 : Int64) (v0_0 : Nat → Int32) (v0_1 : Nat → Int32) (p1 : Int32) (p2 : Int32) (p3 : Int32) (n : Nat) (u : (Int32 × Int32 × Int32 × (Nat → Int32) × (Nat → Int32))) (hF : F_X12_transform n v0_2 v0_0 v0_1 p1 p2 p3 = some u) : Met l yX12_transform wz_X12_transform rm_X12_transform (va_Pc [.ref (a0 0), .int p1, .int p2, .int p3] (q_pre dC dI cI (wd_X12_transform cI a0 v0_2 v0_3 v0_5 v0_12 v0_13 v0_16 v0_17 v0_21 v0_23 v0_24 v0_25 v0_26 v0_29 v0_30 v0_0 v0_1) sz)) (Q_X12_transform dC dI cI a0 v0_5 v0_12 v0_13 v0_16 v0_17 v0_21 v0_23 v0_24 v0_25 v0_26 v0_29 v0_30 u (va_A (wd_X12_transform cI a0 v0_2 v0_3 v0_5 v0_12 v0_13 v0_16 v0_17 v0_21 v0_23 v0_24 v0_25 v0_26 v0_29 v0_30 v0_0 v0_1) sz)) 0 0 (va_A (wd_X12_transform cI a0 v0_2 v0_3 v0_5 v0_12 v0_13 v0_16 v0_17 v0_21 v0_23 v0_24 v0_25 v0_26 v0_29 v0_30 v0_0 v0_1) sz) := by
  refine Met.ofW (cc := cX12_transform) (maxL := 8) (ret := (some .int)) (by decide) rfl ?_
  intro p e s m args below meth c s₁ B hml hv
  obtain ⟨rfl, hsz, hP, hK, hD0⟩ := hv
  have hx := B.exec
  have hb := B.bytes
  have hr := B.returns
  have hts := atoms_spec (ws := wz_X12_transform) B.pre
  have hta := wz_tl hts
  have hown : s.vm.findClass RX12 = some m.cls := findClass_of_methodNamed B.named
  have hlocks := B.notSynchronized
  subst hsz
  have hD := hD0.self (sz := s.heap.size)
  generalize hAe : va_A (wd_X12_transform cI a0 v0_2 v0_3 v0_5 v0_12 v0_13 v0_16 v0_17 v0_21 v0_23 v0_24 v0_25 v0_26 v0_29 v0_30 v0_0 v0_1) s.heap.size = A at hD ⊢
  have hA : ∀ q : Nat, s.heap.size ≤ q → A q := fun q h => by rw [← hAe]; exact Or.inr h
  have hS : va_S A s.heap s.heap [] := va_S.rf
  have hP : va_P (dC, dI) vwCl (wd_X12_transform cI a0 v0_2 v0_3 v0_5 v0_12 v0_13 v0_16 v0_17 v0_21 v0_23 v0_24 v0_25 v0_26 v0_29 v0_30 v0_0 v0_1) s.heap := hP
  have hl := lv_entry ([.ref (a0 0), .int p1, .int p2, .int p3]) (n := 8) (Nat.le_of_ble_eq_true rfl)
  rw [lg_entry_eq]
  generalize (lg_sl ([.ref (a0 0), .int p1, .int p2, .int p3]) ++ List.replicate (8 - (lg_sl ([.ref (a0 0), .int p1, .int p2, .int p3])).length) Slot.unset).toArray = ls at hl ⊢
  have hl : lv_has ls 8 [(0, .ref (a0 0)), (1, .int p1), (2, .int p2), (3, .int p3)] := hl
  obtain ⟨H, hHe⟩ : ∃ H, H = s.heap := ⟨_, rfl⟩
  have hS : va_S A s.heap H [] := by rw [hHe]; exact hS
  have hP : va_P (dC, dI) vwCl (wd_X12_transform cI a0 v0_2 v0_3 v0_5 v0_12 v0_13 v0_16 v0_17 v0_21 v0_23 v0_24 v0_25 v0_26 v0_29 v0_30 v0_0 v0_1) H := by rw [hHe]; exact hP
  rw [← hHe]
  unfold F_X12_transform at hF
  have j279 : ∀ (v0_2 : Int32) (v0_3 : Int32) (v0_0 : Nat → Int32) (v0_1 : Nat → Int32) (x5 : Int32), F_X12_transform_j279 v0_2 v0_3 v0_0 v0_1 x5 = some u → ∀ (H : Heap) (locs : List Loc) (ls : Array Slot), va_P (dC, dI) vwCl (wd_X12_transform cI a0 v0_2 v0_3 v0_5 v0_12 v0_13 v0_16 v0_17 v0_21 v0_23 v0_24 v0_25 v0_26 v0_29 v0_30 v0_0 v0_1) H → va_D A (wd_X12_transform cI a0 v0_2 v0_3 v0_5 v0_12 v0_13 v0_16 v0_17 v0_21 v0_23 v0_24 v0_25 v0_26 v0_29 v0_30 v0_0 v0_1) → va_S A s.heap H locs → lv_has ls 8 [(5, .int x5)] → W p l e (headSpec wz_X12_transform rm_X12_transform).room s m [.ref (a0 0), .int p1, .int p2, .int p3].toArray below meth c H locs 0 0 (MQ below (Q_X12_transform dC dI cI a0 v0_5 v0_12 v0_13 v0_16 v0_17 v0_21 v0_23 v0_24 v0_25 v0_26 v0_29 v0_30 u A) [.ref (a0 0), .int p1, .int p2, .int p3].toArray s 0 0 A) (F0 m 279 ls []) := by
    intro v0_2 v0_3 v0_0 v0_1 x5 hF H locs ls hP hD hS hl
    unfold F_X12_transform_j279 at hF
    refine lv_iload hx hb dX12_transform_279 (lv_at hl 0 rfl) ?_
    obtain rfl := Option.some.inj hF
    exact W.iret (v := x5) hx hb hr (fun t ht hW => ⟨⟨x5, (), rfl, rfl, by rw [ht]; exact hP, va_K.moved hW.alike hK, hD⟩, hS.F ht⟩) hS.2.2 dX12_transform_281
  have j188 : ∀ (v0_2 : Int32) (v0_3 : Int32) (v0_0 : Nat → Int32) (v0_1 : Nat → Int32) (x1 : Int32) (x2 : Int32) (x3 : Int32) (x5 : Int32) (x6 : Int32), F_X12_transform_j188 n v0_2 v0_3 v0_0 v0_1 x1 x2 x3 x5 x6 = some u → ∀ (H : Heap) (locs : List Loc) (ls : Array Slot), va_P (dC, dI) vwCl (wd_X12_transform cI a0 v0_2 v0_3 v0_5 v0_12 v0_13 v0_16 v0_17 v0_21 v0_23 v0_24 v0_25 v0_26 v0_29 v0_30 v0_0 v0_1) H → va_D A (wd_X12_transform cI a0 v0_2 v0_3 v0_5 v0_12 v0_13 v0_16 v0_17 v0_21 v0_23 v0_24 v0_25 v0_26 v0_29 v0_30 v0_0 v0_1) → va_S A s.heap H locs → lv_has ls 8 [(0, .ref (a0 0)), (1, .int x1), (2, .int x2), (3, .int x3), (5, .int x5), (6, .int x6)] → W p l e (headSpec wz_X12_transform rm_X12_transform).room s m [.ref (a0 0), .int p1, .int p2, .int p3].toArray below meth c H locs 0 0 (MQ below (Q_X12_transform dC dI cI a0 v0_5 v0_12 v0_13 v0_16 v0_17 v0_21 v0_23 v0_24 v0_25 v0_26 v0_29 v0_30 u A) [.ref (a0 0), .int p1, .int p2, .int p3].toArray s 0 0 A) (F0 m 188 ls []) := by
    intro v0_2 v0_3 v0_0 v0_1 x1 x2 x3 x5 x6 hF H locs ls hP hD hS hl
    unfold F_X12_transform_j188 at hF
    obtain ⟨x_188, hL_188, hE_188⟩ := obd_some hF
    have kl_188 : ∀ (k : Nat) (s188 : Int32 × (Nat → Int32)), lpq (F_X12_transform_b188 n x1 x2 x3) k s188 = some x_188 → ∀ (H : Heap) (locs : List Loc) (ls : Array Slot), va_P (dC, dI) vwCl (wd_X12_transform cI a0 v0_2 v0_3 v0_5 v0_12 v0_13 v0_16 v0_17 v0_21 v0_23 v0_24 v0_25 v0_26 v0_29 v0_30 s188.2 v0_1) H → va_D A (wd_X12_transform cI a0 v0_2 v0_3 v0_5 v0_12 v0_13 v0_16 v0_17 v0_21 v0_23 v0_24 v0_25 v0_26 v0_29 v0_30 s188.2 v0_1) → va_S A s.heap H locs → lv_has ls 8 [(0, .ref (a0 0)), (1, .int x1), (2, .int x2), (3, .int x3), (5, .int x5), (6, .int s188.1)] → W p l e (headSpec wz_X12_transform rm_X12_transform).room s m [.ref (a0 0), .int p1, .int p2, .int p3].toArray below meth c H locs 0 0 (MQ below (Q_X12_transform dC dI cI a0 v0_5 v0_12 v0_13 v0_16 v0_17 v0_21 v0_23 v0_24 v0_25 v0_26 v0_29 v0_30 u A) [.ref (a0 0), .int p1, .int p2, .int p3].toArray s 0 0 A) (F0 m 188 ls []) := by
      intro k
      induction k with
      | zero => intro s188 h; exact absurd h lpq_zero
      | succ k ih_188 =>
        intro s188 h H locs ls hP hD hS hl
        obtain ⟨o_188, hF, hO_188⟩ := lpq_succ h
        unfold F_X12_transform_b188 at hF
        have j273 : ∀ (v0_0 : Nat → Int32) (x6 : Int32), F_X12_transform_j273 v0_0 x6 = some o_188 → ∀ (H : Heap) (locs : List Loc) (ls : Array Slot), va_P (dC, dI) vwCl (wd_X12_transform cI a0 v0_2 v0_3 v0_5 v0_12 v0_13 v0_16 v0_17 v0_21 v0_23 v0_24 v0_25 v0_26 v0_29 v0_30 v0_0 v0_1) H → va_D A (wd_X12_transform cI a0 v0_2 v0_3 v0_5 v0_12 v0_13 v0_16 v0_17 v0_21 v0_23 v0_24 v0_25 v0_26 v0_29 v0_30 v0_0 v0_1) → va_S A s.heap H locs → lv_has ls 8 [(0, .ref (a0 0)), (1, .int x1), (2, .int x2), (3, .int x3), (5, .int x5), (6, .int x6)] → W p l e (headSpec wz_X12_transform rm_X12_transform).room s m [.ref (a0 0), .int p1, .int p2, .int p3].toArray below meth c H locs 0 0 (MQ below (Q_X12_transform dC dI cI a0 v0_5 v0_12 v0_13 v0_16 v0_17 v0_21 v0_23 v0_24 v0_25 v0_26 v0_29 v0_30 u A) [.ref (a0 0), .int p1, .int p2, .int p3].toArray s 0 0 A) (F0 m 273 ls []) := by
          intro v0_0 x6 hF H locs ls hP hD hS hl
          unfold F_X12_transform_j273 at hF
          obtain ⟨y_1, ey_1, hF⟩ := lt_some hF
          refine lv_iinc (v := y_1) (lv' := [(6, .int y_1), (0, .ref (a0 0)), (1, .int x1), (2, .int x2), (3, .int x3), (5, .int x5)]) hx hb dX12_transform_273 hl (k := 5) rfl (by rw [ey_1]; rfl) (by decide) rfl (fun ls hl => ?_)
          refine lv_goto (tgt := 188) hx hb dX12_transform_276 (by decide) ?_
          obtain rfl := Option.some.inj hF
          exact ih_188 _ hO_188 _ _ _ hP hD hS (lv_sub hl [1, 2, 3, 4, 5, 0] rfl)
        have j203 : ∀ (v0_0 : Nat → Int32) (x6 : Int32) (x7 : Int32), F_X12_transform_j203 n v0_0 x1 x2 x3 x6 x7 = some o_188 → ∀ (H : Heap) (locs : List Loc) (ls : Array Slot), va_P (dC, dI) vwCl (wd_X12_transform cI a0 v0_2 v0_3 v0_5 v0_12 v0_13 v0_16 v0_17 v0_21 v0_23 v0_24 v0_25 v0_26 v0_29 v0_30 v0_0 v0_1) H → va_D A (wd_X12_transform cI a0 v0_2 v0_3 v0_5 v0_12 v0_13 v0_16 v0_17 v0_21 v0_23 v0_24 v0_25 v0_26 v0_29 v0_30 v0_0 v0_1) → va_S A s.heap H locs → lv_has ls 8 [(0, .ref (a0 0)), (1, .int x1), (2, .int x2), (3, .int x3), (5, .int x5), (6, .int x6), (7, .int x7)] → W p l e (headSpec wz_X12_transform rm_X12_transform).room s m [.ref (a0 0), .int p1, .int p2, .int p3].toArray below meth c H locs 0 0 (MQ below (Q_X12_transform dC dI cI a0 v0_5 v0_12 v0_13 v0_16 v0_17 v0_21 v0_23 v0_24 v0_25 v0_26 v0_29 v0_30 u A) [.ref (a0 0), .int p1, .int p2, .int p3].toArray s 0 0 A) (F0 m 203 ls []) := by
          intro v0_0 x6 x7 hF H locs ls hP hD hS hl
          unfold F_X12_transform_j203 at hF
          obtain ⟨x_203, hL_203, hE_203⟩ := obd_some hF
          have kl_203 : ∀ (k : Nat) (s203 : Int32 × (Nat → Int32)), lpq (F_X12_transform_b203 x1 x2 x3 x6) k s203 = some x_203 → ∀ (H : Heap) (locs : List Loc) (ls : Array Slot), va_P (dC, dI) vwCl (wd_X12_transform cI a0 v0_2 v0_3 v0_5 v0_12 v0_13 v0_16 v0_17 v0_21 v0_23 v0_24 v0_25 v0_26 v0_29 v0_30 s203.2 v0_1) H → va_D A (wd_X12_transform cI a0 v0_2 v0_3 v0_5 v0_12 v0_13 v0_16 v0_17 v0_21 v0_23 v0_24 v0_25 v0_26 v0_29 v0_30 s203.2 v0_1) → va_S A s.heap H locs → lv_has ls 8 [(0, .ref (a0 0)), (1, .int x1), (2, .int x2), (3, .int x3), (5, .int x5), (6, .int x6), (7, .int s203.1)] → W p l e (headSpec wz_X12_transform rm_X12_transform).room s m [.ref (a0 0), .int p1, .int p2, .int p3].toArray below meth c H locs 0 0 (MQ below (Q_X12_transform dC dI cI a0 v0_5 v0_12 v0_13 v0_16 v0_17 v0_21 v0_23 v0_24 v0_25 v0_26 v0_29 v0_30 u A) [.ref (a0 0), .int p1, .int p2, .int p3].toArray s 0 0 A) (F0 m 203 ls []) := by
            intro k
            induction k with
            | zero => intro s203 h; exact absurd h lpq_zero
            | succ k ih_203 =>
              intro s203 h H locs ls hP hD hS hl
              obtain ⟨o_203, hF, hO_203⟩ := lpq_succ h
              unfold F_X12_transform_b203 at hF
              refine lv_iload hx hb dX12_transform_203 (lv_at hl 6 rfl) ?_
              refine lv_aload_n hx hb dX12_transform_205 rfl (lv_at hl 0 rfl) ?_
              refine lv_iload hx hb dX12_transform_206 (lv_at hl 5 rfl) ?_
              obtain ⟨u_2, hu_2, hF⟩ := obd_some hF
              have hPc := hP.sub (ws' := (wd_X12_points cI a0 v0_2 v0_3 v0_5 v0_12 v0_13 v0_16 v0_17 v0_21 v0_23 v0_24 v0_25 v0_26 v0_29 v0_30 s203.2)) [0, 1] rfl
              have hDc := hD.sub (ws' := (wd_X12_points cI a0 v0_2 v0_3 v0_5 v0_12 v0_13 v0_16 v0_17 v0_21 v0_23 v0_24 v0_25 v0_26 v0_29 v0_30 s203.2)) [0, 1] rfl rfl
              refine q_calli (wc := (wd_X12_points cI a0 v0_2 v0_3 v0_5 v0_12 v0_13 v0_16 v0_17 v0_21 v0_23 v0_24 v0_25 v0_26 v0_29 v0_30 s203.2)) (w1 := (wd_X12_points cI a0 v0_2 v0_3 v0_5 v0_12 v0_13 v0_16 v0_17 v0_21 v0_23 v0_24 v0_25 v0_26 v0_29 v0_30 s203.2)) (ws' := (wd_X12_transform cI a0 v0_2 v0_3 v0_5 v0_12 v0_13 v0_16 v0_17 v0_21 v0_23 v0_24 v0_25 v0_26 v0_29 v0_30 s203.2 v0_1)) hP hD hS hA [0, 1] [2] [1, 2, 0] rfl rfl rfl (by decide) rfl rfl (va_runV (As := [.int x6]) (rest := [.int s203.1]) ⟨hx, hb, hml, hown, hta⟩ (c_X12_points l dC dI cI H.size a0 v0_2 v0_3 v0_5 v0_12 v0_13 v0_16 v0_17 v0_21 v0_23 v0_24 v0_25 v0_26 v0_29 v0_30 s203.2 x6 u_2 hu_2) (cwV 1 hta (ga_V mA839 mA840 mA841 mA814 mA827) rfl rfl rfl (by decide +kernel) ⟨Nat.le_of_ble_eq_true rfl, Nat.le_of_ble_eq_true rfl⟩) ⟨q_fb, va_recv hK hP (ci := 11) (q0 := 0) rfl rfl, q_ps hPc hK hDc⟩ rfl rfl hl.1 rfl (lv_room (Nat.le_of_ble_eq_true rfl)) dX12_transform_208 ⟨Nat.zero_le _, Nat.zero_le _⟩) (fun H locs hP hD hS => ?_)
              refine lv_icmp_ge (tgt := 273) hx hb dX12_transform_211 (by decide) (fun c_3 => ?_) (fun c_3 => ?_)
              · have hF := it_t hF c_3
                obtain rfl := Option.some.inj hF
                obtain rfl := lpq_x hO_203
                have hF := hE_203
                exact j273 s203.2 x6 hF _ _ _ hP hD hS (lv_sub hl [0, 1, 2, 3, 4, 5] rfl)
              · have hF := it_f hF c_3
                refine lv_aload_n hx hb dX12_transform_214 rfl (lv_at hl 0 rfl) ?_
                refine lv_iload hx hb dX12_transform_215 (lv_at hl 5 rfl) ?_
                refine lv_iload hx hb dX12_transform_217 (lv_at hl 6 rfl) ?_
                refine lv_aload_n hx hb dX12_transform_219 rfl (lv_at hl 0 rfl) ?_
                refine lv_iload hx hb dX12_transform_220 (lv_at hl 5 rfl) ?_
                refine lv_iload hx hb dX12_transform_222 (lv_at hl 6 rfl) ?_
                obtain ⟨u_4, hu_4, hF⟩ := obd_some hF
                have hPc := hP.sub (ws' := (wd_X12_x cI a0 v0_2 v0_3 v0_5 v0_12 v0_13 v0_16 v0_17 v0_21 v0_23 v0_24 v0_25 v0_26 v0_29 v0_30 s203.2)) [0, 1] rfl
                have hDc := hD.sub (ws' := (wd_X12_x cI a0 v0_2 v0_3 v0_5 v0_12 v0_13 v0_16 v0_17 v0_21 v0_23 v0_24 v0_25 v0_26 v0_29 v0_30 s203.2)) [0, 1] rfl rfl
                refine q_calli (wc := (wd_X12_x cI a0 v0_2 v0_3 v0_5 v0_12 v0_13 v0_16 v0_17 v0_21 v0_23 v0_24 v0_25 v0_26 v0_29 v0_30 s203.2)) (w1 := (wd_X12_x cI a0 v0_2 v0_3 v0_5 v0_12 v0_13 v0_16 v0_17 v0_21 v0_23 v0_24 v0_25 v0_26 v0_29 v0_30 s203.2)) (ws' := (wd_X12_transform cI a0 v0_2 v0_3 v0_5 v0_12 v0_13 v0_16 v0_17 v0_21 v0_23 v0_24 v0_25 v0_26 v0_29 v0_30 s203.2 v0_1)) hP hD hS hA [0, 1] [2] [1, 2, 0] rfl rfl rfl (by decide) rfl rfl (va_runV (As := [.int x6, .int s203.1]) (rest := [.int s203.1, .int x6, .ref (a0 0)]) ⟨hx, hb, hml, hown, hta⟩ (c_X12_x l dC dI cI H.size a0 v0_2 v0_3 v0_5 v0_12 v0_13 v0_16 v0_17 v0_21 v0_23 v0_24 v0_25 v0_26 v0_29 v0_30 s203.2 x6 s203.1 u_4 hu_4) (cwV 2 hta (ga_V mA870 mA871 mA872 mA814 mA831) rfl rfl rfl (by decide +kernel) ⟨Nat.le_of_ble_eq_true rfl, Nat.le_of_ble_eq_true rfl⟩) ⟨q_fb, va_recv hK hP (ci := 11) (q0 := 0) rfl rfl, q_ps hPc hK hDc⟩ rfl rfl hl.1 rfl (lv_room (Nat.le_of_ble_eq_true rfl)) dX12_transform_224 ⟨Nat.zero_le _, Nat.zero_le _⟩) (fun H locs hP hD hS => ?_)
                refine lv_aload_n hx hb dX12_transform_227 rfl (lv_at hl 0 rfl) ?_
                refine lv_iload hx hb dX12_transform_228 (lv_at hl 5 rfl) ?_
                refine lv_iload hx hb dX12_transform_230 (lv_at hl 6 rfl) ?_
                obtain ⟨u_5, hu_5, hF⟩ := obd_some hF
                have hPc := hP.sub (ws' := (wd_X12_y cI a0 v0_2 v0_3 v0_5 v0_12 v0_13 v0_16 v0_17 v0_21 v0_23 v0_24 v0_25 v0_26 v0_29 v0_30 s203.2)) [0, 1] rfl
                have hDc := hD.sub (ws' := (wd_X12_y cI a0 v0_2 v0_3 v0_5 v0_12 v0_13 v0_16 v0_17 v0_21 v0_23 v0_24 v0_25 v0_26 v0_29 v0_30 s203.2)) [0, 1] rfl rfl
                refine q_calli (wc := (wd_X12_y cI a0 v0_2 v0_3 v0_5 v0_12 v0_13 v0_16 v0_17 v0_21 v0_23 v0_24 v0_25 v0_26 v0_29 v0_30 s203.2)) (w1 := (wd_X12_y cI a0 v0_2 v0_3 v0_5 v0_12 v0_13 v0_16 v0_17 v0_21 v0_23 v0_24 v0_25 v0_26 v0_29 v0_30 s203.2)) (ws' := (wd_X12_transform cI a0 v0_2 v0_3 v0_5 v0_12 v0_13 v0_16 v0_17 v0_21 v0_23 v0_24 v0_25 v0_26 v0_29 v0_30 s203.2 v0_1)) hP hD hS hA [0, 1] [2] [1, 2, 0] rfl rfl rfl (by decide) rfl rfl (va_runV (As := [.int x6, .int s203.1]) (rest := [.int u_4, .int s203.1, .int x6, .ref (a0 0)]) ⟨hx, hb, hml, hown, hta⟩ (c_X12_y l dC dI cI H.size a0 v0_2 v0_3 v0_5 v0_12 v0_13 v0_16 v0_17 v0_21 v0_23 v0_24 v0_25 v0_26 v0_29 v0_30 s203.2 x6 s203.1 u_5 hu_5) (cwV 2 hta (ga_V mA873 mA874 mA875 mA814 mA832) rfl rfl rfl (by decide +kernel) ⟨Nat.le_of_ble_eq_true rfl, Nat.le_of_ble_eq_true rfl⟩) ⟨q_fb, va_recv hK hP (ci := 11) (q0 := 0) rfl rfl, q_ps hPc hK hDc⟩ rfl rfl hl.1 rfl (lv_room (Nat.le_of_ble_eq_true rfl)) dX12_transform_232 ⟨Nat.zero_le _, Nat.zero_le _⟩) (fun H locs hP hD hS => ?_)
                refine lv_iload_n hx hb dX12_transform_235 rfl (lv_at hl 1 rfl) ?_
                obtain ⟨u_6, hu_6, hF⟩ := lt_some hF
                have hPc := hP.sub (ws' := ([] : va_W)) [] rfl
                have hDc := hD.sub (ws' := ([] : va_W)) [] rfl rfl
                refine q_calli (wc := ([] : va_W)) (w1 := ([] : va_W)) (ws' := (wd_X12_transform cI a0 v0_2 v0_3 v0_5 v0_12 v0_13 v0_16 v0_17 v0_21 v0_23 v0_24 v0_25 v0_26 v0_29 v0_30 s203.2 v0_1)) hP hD hS hA [] [0, 1, 2] [0, 1, 2] rfl rfl rfl (by decide) rfl rfl (va_runS (As := [.int u_4, .int u_5, .int x1]) (rest := [.int s203.1, .int x6, .ref (a0 0)]) ⟨hx, hb, hml, hown, hta⟩ (c_X12_turned l dC dI cI H.size u_4 u_5 x1 u_6 hu_6.symm) (va_cwS 3 hta (ga_S mA897 mA898 mA814 mA895) rfl rfl rfl (by decide +kernel) ⟨Nat.le_of_ble_eq_true rfl, Nat.le_of_ble_eq_true rfl⟩) ⟨q_fb, q_ps hPc hK hDc⟩ rfl rfl hl.1 rfl (lv_room (Nat.le_of_ble_eq_true rfl)) dX12_transform_236 ⟨Nat.zero_le _, Nat.zero_le _⟩) (fun H locs hP hD hS => ?_)
                refine lv_iload_n hx hb dX12_transform_239 rfl (lv_at hl 2 rfl) ?_
                refine lv_iadd hx hb dX12_transform_240 ?_
                refine lv_aload_n hx hb dX12_transform_241 rfl (lv_at hl 0 rfl) ?_
                refine lv_iload hx hb dX12_transform_242 (lv_at hl 5 rfl) ?_
                refine lv_iload hx hb dX12_transform_244 (lv_at hl 6 rfl) ?_
                obtain ⟨u_7, hu_7, hF⟩ := obd_some hF
                have hPc := hP.sub (ws' := (wd_X12_y cI a0 v0_2 v0_3 v0_5 v0_12 v0_13 v0_16 v0_17 v0_21 v0_23 v0_24 v0_25 v0_26 v0_29 v0_30 s203.2)) [0, 1] rfl
                have hDc := hD.sub (ws' := (wd_X12_y cI a0 v0_2 v0_3 v0_5 v0_12 v0_13 v0_16 v0_17 v0_21 v0_23 v0_24 v0_25 v0_26 v0_29 v0_30 s203.2)) [0, 1] rfl rfl
                refine q_calli (wc := (wd_X12_y cI a0 v0_2 v0_3 v0_5 v0_12 v0_13 v0_16 v0_17 v0_21 v0_23 v0_24 v0_25 v0_26 v0_29 v0_30 s203.2)) (w1 := (wd_X12_y cI a0 v0_2 v0_3 v0_5 v0_12 v0_13 v0_16 v0_17 v0_21 v0_23 v0_24 v0_25 v0_26 v0_29 v0_30 s203.2)) (ws' := (wd_X12_transform cI a0 v0_2 v0_3 v0_5 v0_12 v0_13 v0_16 v0_17 v0_21 v0_23 v0_24 v0_25 v0_26 v0_29 v0_30 s203.2 v0_1)) hP hD hS hA [0, 1] [2] [1, 2, 0] rfl rfl rfl (by decide) rfl rfl (va_runV (As := [.int x6, .int s203.1]) (rest := [.int (u_6 + x2), .int s203.1, .int x6, .ref (a0 0)]) ⟨hx, hb, hml, hown, hta⟩ (c_X12_y l dC dI cI H.size a0 v0_2 v0_3 v0_5 v0_12 v0_13 v0_16 v0_17 v0_21 v0_23 v0_24 v0_25 v0_26 v0_29 v0_30 s203.2 x6 s203.1 u_7 hu_7) (cwV 2 hta (ga_V mA873 mA874 mA875 mA814 mA832) rfl rfl rfl (by decide +kernel) ⟨Nat.le_of_ble_eq_true rfl, Nat.le_of_ble_eq_true rfl⟩) ⟨q_fb, va_recv hK hP (ci := 11) (q0 := 0) rfl rfl, q_ps hPc hK hDc⟩ rfl rfl hl.1 rfl (lv_room (Nat.le_of_ble_eq_true rfl)) dX12_transform_246 ⟨Nat.zero_le _, Nat.zero_le _⟩) (fun H locs hP hD hS => ?_)
                refine lv_aload_n hx hb dX12_transform_249 rfl (lv_at hl 0 rfl) ?_
                refine lv_iload hx hb dX12_transform_250 (lv_at hl 5 rfl) ?_
                refine lv_iload hx hb dX12_transform_252 (lv_at hl 6 rfl) ?_
                obtain ⟨u_8, hu_8, hF⟩ := obd_some hF
                have hPc := hP.sub (ws' := (wd_X12_x cI a0 v0_2 v0_3 v0_5 v0_12 v0_13 v0_16 v0_17 v0_21 v0_23 v0_24 v0_25 v0_26 v0_29 v0_30 s203.2)) [0, 1] rfl
                have hDc := hD.sub (ws' := (wd_X12_x cI a0 v0_2 v0_3 v0_5 v0_12 v0_13 v0_16 v0_17 v0_21 v0_23 v0_24 v0_25 v0_26 v0_29 v0_30 s203.2)) [0, 1] rfl rfl
                refine q_calli (wc := (wd_X12_x cI a0 v0_2 v0_3 v0_5 v0_12 v0_13 v0_16 v0_17 v0_21 v0_23 v0_24 v0_25 v0_26 v0_29 v0_30 s203.2)) (w1 := (wd_X12_x cI a0 v0_2 v0_3 v0_5 v0_12 v0_13 v0_16 v0_17 v0_21 v0_23 v0_24 v0_25 v0_26 v0_29 v0_30 s203.2)) (ws' := (wd_X12_transform cI a0 v0_2 v0_3 v0_5 v0_12 v0_13 v0_16 v0_17 v0_21 v0_23 v0_24 v0_25 v0_26 v0_29 v0_30 s203.2 v0_1)) hP hD hS hA [0, 1] [2] [1, 2, 0] rfl rfl rfl (by decide) rfl rfl (va_runV (As := [.int x6, .int s203.1]) (rest := [.int u_7, .int (u_6 + x2), .int s203.1, .int x6, .ref (a0 0)]) ⟨hx, hb, hml, hown, hta⟩ (c_X12_x l dC dI cI H.size a0 v0_2 v0_3 v0_5 v0_12 v0_13 v0_16 v0_17 v0_21 v0_23 v0_24 v0_25 v0_26 v0_29 v0_30 s203.2 x6 s203.1 u_8 hu_8) (cwV 2 hta (ga_V mA870 mA871 mA872 mA814 mA831) rfl rfl rfl (by decide +kernel) ⟨Nat.le_of_ble_eq_true rfl, Nat.le_of_ble_eq_true rfl⟩) ⟨q_fb, va_recv hK hP (ci := 11) (q0 := 0) rfl rfl, q_ps hPc hK hDc⟩ rfl rfl hl.1 rfl (lv_room (Nat.le_of_ble_eq_true rfl)) dX12_transform_254 ⟨Nat.zero_le _, Nat.zero_le _⟩) (fun H locs hP hD hS => ?_)
                refine lv_ineg hx hb dX12_transform_257 ?_
                refine lv_iload_n hx hb dX12_transform_258 rfl (lv_at hl 1 rfl) ?_
                obtain ⟨u_9, hu_9, hF⟩ := lt_some hF
                have hPc := hP.sub (ws' := ([] : va_W)) [] rfl
                have hDc := hD.sub (ws' := ([] : va_W)) [] rfl rfl
                refine q_calli (wc := ([] : va_W)) (w1 := ([] : va_W)) (ws' := (wd_X12_transform cI a0 v0_2 v0_3 v0_5 v0_12 v0_13 v0_16 v0_17 v0_21 v0_23 v0_24 v0_25 v0_26 v0_29 v0_30 s203.2 v0_1)) hP hD hS hA [] [0, 1, 2] [0, 1, 2] rfl rfl rfl (by decide) rfl rfl (va_runS (As := [.int u_7, .int (-u_8), .int x1]) (rest := [.int (u_6 + x2), .int s203.1, .int x6, .ref (a0 0)]) ⟨hx, hb, hml, hown, hta⟩ (c_X12_turned l dC dI cI H.size u_7 (-u_8) x1 u_9 hu_9.symm) (va_cwS 3 hta (ga_S mA897 mA898 mA814 mA895) rfl rfl rfl (by decide +kernel) ⟨Nat.le_of_ble_eq_true rfl, Nat.le_of_ble_eq_true rfl⟩) ⟨q_fb, q_ps hPc hK hDc⟩ rfl rfl hl.1 rfl (lv_room (Nat.le_of_ble_eq_true rfl)) dX12_transform_259 ⟨Nat.zero_le _, Nat.zero_le _⟩) (fun H locs hP hD hS => ?_)
                refine lv_iload_n hx hb dX12_transform_262 rfl (lv_at hl 3 rfl) ?_
                refine lv_iadd hx hb dX12_transform_263 ?_
                obtain ⟨u_10, hu_10, hF⟩ := obd_some hF
                have hPc := hP.sub (ws' := (wd_X12_puts cI a0 v0_2 v0_3 v0_5 v0_12 v0_13 v0_16 v0_17 v0_21 v0_23 v0_24 v0_25 v0_26 v0_29 v0_30 s203.2)) [0, 1] rfl
                have hDc := hD.sub (ws' := (wd_X12_puts cI a0 v0_2 v0_3 v0_5 v0_12 v0_13 v0_16 v0_17 v0_21 v0_23 v0_24 v0_25 v0_26 v0_29 v0_30 s203.2)) [0, 1] rfl rfl
                refine q_callv (wc := (wd_X12_puts cI a0 v0_2 v0_3 v0_5 v0_12 v0_13 v0_16 v0_17 v0_21 v0_23 v0_24 v0_25 v0_26 v0_29 v0_30 s203.2)) (w1 := (wd_X12_puts cI a0 v0_2 v0_3 v0_5 v0_12 v0_13 v0_16 v0_17 v0_21 v0_23 v0_24 v0_25 v0_26 v0_29 v0_30 u_10)) (ws' := (wd_X12_transform cI a0 v0_2 v0_3 v0_5 v0_12 v0_13 v0_16 v0_17 v0_21 v0_23 v0_24 v0_25 v0_26 v0_29 v0_30 u_10 v0_1)) hP hD hS hA [0, 1] [2] [1, 2, 0] rfl rfl rfl (by decide) rfl rfl (va_runV (As := [.int x6, .int s203.1, .int (u_6 + x2), .int (u_9 + x3)]) (rest := []) ⟨hx, hb, hml, hown, hta⟩ (c_X12_puts l dC dI cI H.size a0 v0_2 v0_3 v0_5 v0_12 v0_13 v0_16 v0_17 v0_21 v0_23 v0_24 v0_25 v0_26 v0_29 v0_30 s203.2 x6 s203.1 (u_6 + x2) (u_9 + x3) u_10 hu_10) (cwV 4 hta (ga_V mA835 mA836 mA837 mA814 mA833) rfl rfl rfl (by decide +kernel) ⟨Nat.le_of_ble_eq_true rfl, Nat.le_of_ble_eq_true rfl⟩) ⟨q_fb, va_recv hK hP (ci := 11) (q0 := 0) rfl rfl, q_ps hPc hK hDc⟩ rfl rfl hl.1 rfl (lv_room (Nat.le_of_ble_eq_true rfl)) dX12_transform_264 ⟨Nat.zero_le _, Nat.zero_le _⟩) (fun H locs hP hD hS => ?_)
                obtain ⟨y_11, ey_11, hF⟩ := lt_some hF
                refine lv_iinc (v := y_11) (lv' := [(7, .int y_11), (0, .ref (a0 0)), (1, .int x1), (2, .int x2), (3, .int x3), (5, .int x5), (6, .int x6)]) hx hb dX12_transform_267 hl (k := 6) rfl (by rw [ey_11]; rfl) (by decide) rfl (fun ls hl => ?_)
                refine lv_goto (tgt := 203) hx hb dX12_transform_270 (by decide) ?_
                obtain rfl := Option.some.inj hF
                exact ih_203 _ hO_203 _ _ _ hP hD hS (lv_sub hl [1, 2, 3, 4, 5, 6, 0] rfl)
          exact kl_203 n _ hL_203 _ _ _ hP hD hS hl
        refine lv_iload hx hb dX12_transform_188 (lv_at hl 5 rfl) ?_
        refine lv_aload_n hx hb dX12_transform_190 rfl (lv_at hl 0 rfl) ?_
        refine va_get (D := (dC, dI)) (ci := 11) (v := .ref (a0 1)) (C := RX12) (T := TX12) (N := 31) hx hb hta uw_X12 hown hK hP 0 rfl rfl 0 (by decide) (hta _ mA790) (fun _ h9 => h9) rfl dX12_transform_191 ?_
        refine lv_bipush (v := 13) hx hb dX12_transform_194 (by decide) ?_
        obtain ⟨g_12, hF⟩ := gd_some hF
        refine va_iald hx hb hK hP 1 0 rfl rfl (vpi_in g_12) dX12_transform_196 ?_
        refine lv_icmp_ge (tgt := 279) hx hb dX12_transform_197 (by decide) (fun c_13 => ?_) (fun c_13 => ?_)
        · have hF := it_t hF c_13
          obtain rfl := Option.some.inj hF
          obtain rfl := lpq_x hO_188
          have hF := hE_188
          exact j279 v0_2 v0_3 s188.2 v0_1 x5 hF _ _ _ hP hD hS (lv_sub hl [4] rfl)
        · have hF := it_f hF c_13
          refine lv_iconst (v := 0) hx hb dX12_transform_200 (by decide) ?_
          refine lv_istore (lv' := [(7, .int 0), (0, .ref (a0 0)), (1, .int x1), (2, .int x2), (3, .int x3), (5, .int x5), (6, .int s188.1)]) hx hb dX12_transform_201 hl (by decide) rfl (fun ls hl => ?_)
          exact j203 s188.2 s188.1 0 hF _ _ _ hP hD hS (lv_sub hl [1, 2, 3, 4, 5, 6, 0] rfl)
    exact kl_188 n _ hL_188 _ _ _ hP hD hS hl
  have j173 : ∀ (v0_2 : Int32) (v0_3 : Int32) (v0_0 : Nat → Int32) (v0_1 : Nat → Int32) (x1 : Int32) (x2 : Int32) (x3 : Int32) (x5 : Int32) (t1 : Int32), F_X12_transform_j173 n v0_2 v0_0 v0_1 x1 x2 x3 x5 t1 = some u → ∀ (H : Heap) (locs : List Loc) (ls : Array Slot), va_P (dC, dI) vwCl (wd_X12_transform cI a0 v0_2 v0_3 v0_5 v0_12 v0_13 v0_16 v0_17 v0_21 v0_23 v0_24 v0_25 v0_26 v0_29 v0_30 v0_0 v0_1) H → va_D A (wd_X12_transform cI a0 v0_2 v0_3 v0_5 v0_12 v0_13 v0_16 v0_17 v0_21 v0_23 v0_24 v0_25 v0_26 v0_29 v0_30 v0_0 v0_1) → va_S A s.heap H locs → lv_has ls 8 [(0, .ref (a0 0)), (1, .int x1), (2, .int x2), (3, .int x3), (5, .int x5)] → W p l e (headSpec wz_X12_transform rm_X12_transform).room s m [.ref (a0 0), .int p1, .int p2, .int p3].toArray below meth c H locs 0 0 (MQ below (Q_X12_transform dC dI cI a0 v0_5 v0_12 v0_13 v0_16 v0_17 v0_21 v0_23 v0_24 v0_25 v0_26 v0_29 v0_30 u A) [.ref (a0 0), .int p1, .int p2, .int p3].toArray s 0 0 A) (F0 m 173 ls [.int t1, .ref (a0 0)]) := by
    intro v0_2 v0_3 v0_0 v0_1 x1 x2 x3 x5 t1 hF H locs ls hP hD hS hl
    unfold F_X12_transform_j173 at hF
    obtain ⟨u_14, hu_14, hF⟩ := lt_some hF
    have hPc := hP.sub (ws' := (wd_X12_refused cI a0 v0_2 v0_3 v0_5 v0_12 v0_13 v0_16 v0_17 v0_21 v0_23 v0_24 v0_25 v0_26 v0_29 v0_30)) [0] rfl
    have hDc := hD.sub (ws' := (wd_X12_refused cI a0 v0_2 v0_3 v0_5 v0_12 v0_13 v0_16 v0_17 v0_21 v0_23 v0_24 v0_25 v0_26 v0_29 v0_30)) [0] rfl rfl
    refine q_callz (wc := (wd_X12_refused cI a0 v0_2 v0_3 v0_5 v0_12 v0_13 v0_16 v0_17 v0_21 v0_23 v0_24 v0_25 v0_26 v0_29 v0_30)) (w1 := (wd_X12_refused cI a0 v0_2 u_14.2 v0_5 v0_12 v0_13 v0_16 v0_17 v0_21 v0_23 v0_24 v0_25 v0_26 v0_29 v0_30)) (ws' := (wd_X12_transform cI a0 v0_2 u_14.2 v0_5 v0_12 v0_13 v0_16 v0_17 v0_21 v0_23 v0_24 v0_25 v0_26 v0_29 v0_30 v0_0 v0_1)) hP hD hS hA [0] [1, 2] [2, 0, 1] rfl rfl rfl (by decide) rfl rfl (va_runV (As := [.int t1]) (rest := []) ⟨hx, hb, hml, hown, hta⟩ (c_X12_refused l dC dI cI H.size a0 v0_2 v0_3 v0_5 v0_12 v0_13 v0_16 v0_17 v0_21 v0_23 v0_24 v0_25 v0_26 v0_29 v0_30 t1 u_14 hu_14.symm) (cwV 1 hta (ga_V mA822 mA823 mA824 mA814 mA809) rfl rfl rfl (by decide +kernel) ⟨Nat.le_of_ble_eq_true rfl, Nat.le_of_ble_eq_true rfl⟩) ⟨q_fb, va_recv hK hP (ci := 11) (q0 := 0) rfl rfl, q_ps hPc hK hDc⟩ rfl rfl hl.1 rfl (lv_room (Nat.le_of_ble_eq_true rfl)) dX12_transform_173 ⟨Nat.zero_le _, Nat.zero_le _⟩) (fun hzu_14 H locs hP hD hS => ?_)
    refine lv_if_eq (tgt := 181) hx hb dX12_transform_176 (by decide) (fun c_15 => ?_) (fun c_15 => ?_)
    · have hF := it_t hF c_15
      refine lv_aload_n hx hb dX12_transform_181 rfl (lv_at hl 0 rfl) ?_
      obtain ⟨u_16, hu_16, hF⟩ := obd_some hF
      have hPc := hP.sub (ws' := (wd_X12_saves cI a0 v0_2 u_14.2 v0_5 v0_12 v0_13 v0_16 v0_17 v0_21 v0_23 v0_24 v0_25 v0_26 v0_29 v0_30 v0_0 v0_1)) [0, 1, 2] rfl
      have hDc := hD.sub (ws' := (wd_X12_saves cI a0 v0_2 u_14.2 v0_5 v0_12 v0_13 v0_16 v0_17 v0_21 v0_23 v0_24 v0_25 v0_26 v0_29 v0_30 v0_0 v0_1)) [0, 1, 2] rfl rfl
      refine q_callv (wc := (wd_X12_saves cI a0 v0_2 u_14.2 v0_5 v0_12 v0_13 v0_16 v0_17 v0_21 v0_23 v0_24 v0_25 v0_26 v0_29 v0_30 v0_0 v0_1)) (w1 := (wd_X12_saves cI a0 u_16.1 u_14.2 v0_5 v0_12 v0_13 v0_16 v0_17 v0_21 v0_23 v0_24 v0_25 v0_26 v0_29 v0_30 v0_0 u_16.2)) (ws' := (wd_X12_transform cI a0 u_16.1 u_14.2 v0_5 v0_12 v0_13 v0_16 v0_17 v0_21 v0_23 v0_24 v0_25 v0_26 v0_29 v0_30 v0_0 u_16.2)) hP hD hS hA [0, 1, 2] [] [0, 1, 2] rfl rfl rfl (by decide) rfl rfl (va_runV (As := []) (rest := []) ⟨hx, hb, hml, hown, hta⟩ (c_X12_saves l dC dI cI H.size a0 v0_2 u_14.2 v0_5 v0_12 v0_13 v0_16 v0_17 v0_21 v0_23 v0_24 v0_25 v0_26 v0_29 v0_30 v0_0 v0_1 n u_16 hu_16) (cwV 0 hta (ga_V mA845 mA846 mA847 mA814 mA819) rfl rfl rfl (by decide +kernel) ⟨Nat.le_of_ble_eq_true rfl, Nat.le_of_ble_eq_true rfl⟩) ⟨q_fb, va_recv hK hP (ci := 11) (q0 := 0) rfl rfl, q_ps hPc hK hDc⟩ rfl rfl hl.1 rfl (lv_room (Nat.le_of_ble_eq_true rfl)) dX12_transform_182 ⟨Nat.zero_le _, Nat.zero_le _⟩) (fun H locs hP hD hS => ?_)
      refine lv_iconst (v := 0) hx hb dX12_transform_185 (by decide) ?_
      refine lv_istore (lv' := [(6, .int 0), (0, .ref (a0 0)), (1, .int x1), (2, .int x2), (3, .int x3), (5, .int x5)]) hx hb dX12_transform_186 hl (by decide) rfl (fun ls hl => ?_)
      exact j188 u_16.1 u_14.2 v0_0 u_16.2 x1 x2 x3 x5 0 hF _ _ _ hP hD hS (lv_sub hl [1, 2, 3, 4, 5, 0] rfl)
    · have hF := it_f hF c_15
      refine lv_iconst (v := 0) hx hb dX12_transform_179 (by decide) ?_
      obtain rfl := Option.some.inj hF
      exact W.iret (v := 0) hx hb hr (fun t ht hW => ⟨⟨0, (), rfl, rfl, by rw [ht]; exact hP, va_K.moved hW.alike hK, hD⟩, hS.F ht⟩) hS.2.2 dX12_transform_180
  have j162 : ∀ (v0_2 : Int32) (v0_3 : Int32) (v0_0 : Nat → Int32) (v0_1 : Nat → Int32) (x1 : Int32) (x2 : Int32) (x3 : Int32) (x4 : Int32) (x5 : Int32), F_X12_transform_j162 n v0_2 v0_0 v0_1 x1 x2 x3 x4 x5 = some u → ∀ (H : Heap) (locs : List Loc) (ls : Array Slot), va_P (dC, dI) vwCl (wd_X12_transform cI a0 v0_2 v0_3 v0_5 v0_12 v0_13 v0_16 v0_17 v0_21 v0_23 v0_24 v0_25 v0_26 v0_29 v0_30 v0_0 v0_1) H → va_D A (wd_X12_transform cI a0 v0_2 v0_3 v0_5 v0_12 v0_13 v0_16 v0_17 v0_21 v0_23 v0_24 v0_25 v0_26 v0_29 v0_30 v0_0 v0_1) → va_S A s.heap H locs → lv_has ls 8 [(0, .ref (a0 0)), (1, .int x1), (2, .int x2), (3, .int x3), (4, .int x4), (5, .int x5)] → W p l e (headSpec wz_X12_transform rm_X12_transform).room s m [.ref (a0 0), .int p1, .int p2, .int p3].toArray below meth c H locs 0 0 (MQ below (Q_X12_transform dC dI cI a0 v0_5 v0_12 v0_13 v0_16 v0_17 v0_21 v0_23 v0_24 v0_25 v0_26 v0_29 v0_30 u A) [.ref (a0 0), .int p1, .int p2, .int p3].toArray s 0 0 A) (F0 m 162 ls []) := by
    intro v0_2 v0_3 v0_0 v0_1 x1 x2 x3 x4 x5 hF H locs ls hP hD hS hl
    unfold F_X12_transform_j162 at hF
    refine lv_aload_n hx hb dX12_transform_162 rfl (lv_at hl 0 rfl) ?_
    refine lv_iload hx hb dX12_transform_163 (lv_at hl 4 rfl) ?_
    refine lv_if_eq (tgt := 172) hx hb dX12_transform_165 (by decide) (fun c_17 => ?_) (fun c_17 => ?_)
    · have hF := it_t hF c_17
      refine lv_iconst (v := 2) hx hb dX12_transform_172 (by decide) ?_
      exact j173 v0_2 v0_3 v0_0 v0_1 x1 x2 x3 x5 2 hF _ _ _ hP hD hS (lv_sub hl [0, 1, 2, 3, 5] rfl)
    · have hF := it_f hF c_17
      refine lv_iconst (v := 0) hx hb dX12_transform_168 (by decide) ?_
      refine lv_goto (tgt := 173) hx hb dX12_transform_169 (by decide) ?_
      exact j173 v0_2 v0_3 v0_0 v0_1 x1 x2 x3 x5 0 hF _ _ _ hP hD hS (lv_sub hl [0, 1, 2, 3, 5] rfl)
  have j58 : ∀ (v0_2 : Int32) (v0_3 : Int32) (v0_0 : Nat → Int32) (v0_1 : Nat → Int32) (x1 : Int32) (x2 : Int32) (x3 : Int32) (x4 : Int32) (x5 : Int32) (x6 : Int32), F_X12_transform_j58 n v0_2 v0_0 v0_1 x1 x2 x3 x4 x5 x6 = some u → ∀ (H : Heap) (locs : List Loc) (ls : Array Slot), va_P (dC, dI) vwCl (wd_X12_transform cI a0 v0_2 v0_3 v0_5 v0_12 v0_13 v0_16 v0_17 v0_21 v0_23 v0_24 v0_25 v0_26 v0_29 v0_30 v0_0 v0_1) H → va_D A (wd_X12_transform cI a0 v0_2 v0_3 v0_5 v0_12 v0_13 v0_16 v0_17 v0_21 v0_23 v0_24 v0_25 v0_26 v0_29 v0_30 v0_0 v0_1) → va_S A s.heap H locs → lv_has ls 8 [(0, .ref (a0 0)), (1, .int x1), (2, .int x2), (3, .int x3), (4, .int x4), (5, .int x5), (6, .int x6)] → W p l e (headSpec wz_X12_transform rm_X12_transform).room s m [.ref (a0 0), .int p1, .int p2, .int p3].toArray below meth c H locs 0 0 (MQ below (Q_X12_transform dC dI cI a0 v0_5 v0_12 v0_13 v0_16 v0_17 v0_21 v0_23 v0_24 v0_25 v0_26 v0_29 v0_30 u A) [.ref (a0 0), .int p1, .int p2, .int p3].toArray s 0 0 A) (F0 m 58 ls []) := by
    intro v0_2 v0_3 v0_0 v0_1 x1 x2 x3 x4 x5 x6 hF H locs ls hP hD hS hl
    unfold F_X12_transform_j58 at hF
    obtain ⟨x_58, hL_58, hE_58⟩ := obd_some hF
    have kl_58 : ∀ (k : Nat) (s58 : Int32 × Int32 × Int32), lpq (F_X12_transform_b58 n v0_0 x1 x2 x3) k s58 = some x_58 → ∀ (H : Heap) (locs : List Loc) (ls : Array Slot), va_P (dC, dI) vwCl (wd_X12_transform cI a0 v0_2 v0_3 v0_5 v0_12 v0_13 v0_16 v0_17 v0_21 v0_23 v0_24 v0_25 v0_26 v0_29 v0_30 v0_0 v0_1) H → va_D A (wd_X12_transform cI a0 v0_2 v0_3 v0_5 v0_12 v0_13 v0_16 v0_17 v0_21 v0_23 v0_24 v0_25 v0_26 v0_29 v0_30 v0_0 v0_1) → va_S A s.heap H locs → lv_has ls 8 [(0, .ref (a0 0)), (1, .int x1), (2, .int x2), (3, .int x3), (4, .int s58.1), (5, .int s58.2.1), (6, .int s58.2.2)] → W p l e (headSpec wz_X12_transform rm_X12_transform).room s m [.ref (a0 0), .int p1, .int p2, .int p3].toArray below meth c H locs 0 0 (MQ below (Q_X12_transform dC dI cI a0 v0_5 v0_12 v0_13 v0_16 v0_17 v0_21 v0_23 v0_24 v0_25 v0_26 v0_29 v0_30 u A) [.ref (a0 0), .int p1, .int p2, .int p3].toArray s 0 0 A) (F0 m 58 ls []) := by
      intro k
      induction k with
      | zero => intro s58 h; exact absurd h lpq_zero
      | succ k ih_58 =>
        intro s58 h H locs ls hP hD hS hl
        obtain ⟨o_58, hF, hO_58⟩ := lpq_succ h
        unfold F_X12_transform_b58 at hF
        have j156 : ∀ (x4 : Int32) (x5 : Int32) (x6 : Int32), F_X12_transform_j156 x4 x5 x6 = some o_58 → ∀ (H : Heap) (locs : List Loc) (ls : Array Slot), va_P (dC, dI) vwCl (wd_X12_transform cI a0 v0_2 v0_3 v0_5 v0_12 v0_13 v0_16 v0_17 v0_21 v0_23 v0_24 v0_25 v0_26 v0_29 v0_30 v0_0 v0_1) H → va_D A (wd_X12_transform cI a0 v0_2 v0_3 v0_5 v0_12 v0_13 v0_16 v0_17 v0_21 v0_23 v0_24 v0_25 v0_26 v0_29 v0_30 v0_0 v0_1) → va_S A s.heap H locs → lv_has ls 8 [(0, .ref (a0 0)), (1, .int x1), (2, .int x2), (3, .int x3), (4, .int x4), (5, .int x5), (6, .int x6)] → W p l e (headSpec wz_X12_transform rm_X12_transform).room s m [.ref (a0 0), .int p1, .int p2, .int p3].toArray below meth c H locs 0 0 (MQ below (Q_X12_transform dC dI cI a0 v0_5 v0_12 v0_13 v0_16 v0_17 v0_21 v0_23 v0_24 v0_25 v0_26 v0_29 v0_30 u A) [.ref (a0 0), .int p1, .int p2, .int p3].toArray s 0 0 A) (F0 m 156 ls []) := by
          intro x4 x5 x6 hF H locs ls hP hD hS hl
          unfold F_X12_transform_j156 at hF
          obtain ⟨y_18, ey_18, hF⟩ := lt_some hF
          refine lv_iinc (v := y_18) (lv' := [(6, .int y_18), (0, .ref (a0 0)), (1, .int x1), (2, .int x2), (3, .int x3), (4, .int x4), (5, .int x5)]) hx hb dX12_transform_156 hl (k := 6) rfl (by rw [ey_18]; rfl) (by decide) rfl (fun ls hl => ?_)
          refine lv_goto (tgt := 58) hx hb dX12_transform_159 (by decide) ?_
          obtain rfl := Option.some.inj hF
          exact ih_58 _ hO_58 _ _ _ hP hD hS (lv_sub hl [1, 2, 3, 4, 5, 6, 0] rfl)
        have j73 : ∀ (x4 : Int32) (x5 : Int32) (x6 : Int32) (x7 : Int32), F_X12_transform_j73 n v0_0 x1 x2 x3 x4 x5 x6 x7 = some o_58 → ∀ (H : Heap) (locs : List Loc) (ls : Array Slot), va_P (dC, dI) vwCl (wd_X12_transform cI a0 v0_2 v0_3 v0_5 v0_12 v0_13 v0_16 v0_17 v0_21 v0_23 v0_24 v0_25 v0_26 v0_29 v0_30 v0_0 v0_1) H → va_D A (wd_X12_transform cI a0 v0_2 v0_3 v0_5 v0_12 v0_13 v0_16 v0_17 v0_21 v0_23 v0_24 v0_25 v0_26 v0_29 v0_30 v0_0 v0_1) → va_S A s.heap H locs → lv_has ls 8 [(0, .ref (a0 0)), (1, .int x1), (2, .int x2), (3, .int x3), (4, .int x4), (5, .int x5), (6, .int x6), (7, .int x7)] → W p l e (headSpec wz_X12_transform rm_X12_transform).room s m [.ref (a0 0), .int p1, .int p2, .int p3].toArray below meth c H locs 0 0 (MQ below (Q_X12_transform dC dI cI a0 v0_5 v0_12 v0_13 v0_16 v0_17 v0_21 v0_23 v0_24 v0_25 v0_26 v0_29 v0_30 u A) [.ref (a0 0), .int p1, .int p2, .int p3].toArray s 0 0 A) (F0 m 73 ls []) := by
          intro x4 x5 x6 x7 hF H locs ls hP hD hS hl
          unfold F_X12_transform_j73 at hF
          obtain ⟨x_73, hL_73, hE_73⟩ := obd_some hF
          have kl_73 : ∀ (k : Nat) (s73 : Int32 × Int32 × Int32), lpq (F_X12_transform_b73 v0_0 x1 x2 x3 x6) k s73 = some x_73 → ∀ (H : Heap) (locs : List Loc) (ls : Array Slot), va_P (dC, dI) vwCl (wd_X12_transform cI a0 v0_2 v0_3 v0_5 v0_12 v0_13 v0_16 v0_17 v0_21 v0_23 v0_24 v0_25 v0_26 v0_29 v0_30 v0_0 v0_1) H → va_D A (wd_X12_transform cI a0 v0_2 v0_3 v0_5 v0_12 v0_13 v0_16 v0_17 v0_21 v0_23 v0_24 v0_25 v0_26 v0_29 v0_30 v0_0 v0_1) → va_S A s.heap H locs → lv_has ls 8 [(0, .ref (a0 0)), (1, .int x1), (2, .int x2), (3, .int x3), (4, .int s73.1), (5, .int s73.2.1), (6, .int x6), (7, .int s73.2.2)] → W p l e (headSpec wz_X12_transform rm_X12_transform).room s m [.ref (a0 0), .int p1, .int p2, .int p3].toArray below meth c H locs 0 0 (MQ below (Q_X12_transform dC dI cI a0 v0_5 v0_12 v0_13 v0_16 v0_17 v0_21 v0_23 v0_24 v0_25 v0_26 v0_29 v0_30 u A) [.ref (a0 0), .int p1, .int p2, .int p3].toArray s 0 0 A) (F0 m 73 ls []) := by
            intro k
            induction k with
            | zero => intro s73 h; exact absurd h lpq_zero
            | succ k ih_73 =>
              intro s73 h H locs ls hP hD hS hl
              obtain ⟨o_73, hF, hO_73⟩ := lpq_succ h
              unfold F_X12_transform_b73 at hF
              have j145 : ∀ (x5 : Int32) (x7 : Int32) (t0 : Int32), F_X12_transform_j145 x5 x7 t0 = some o_73 → ∀ (H : Heap) (locs : List Loc) (ls : Array Slot), va_P (dC, dI) vwCl (wd_X12_transform cI a0 v0_2 v0_3 v0_5 v0_12 v0_13 v0_16 v0_17 v0_21 v0_23 v0_24 v0_25 v0_26 v0_29 v0_30 v0_0 v0_1) H → va_D A (wd_X12_transform cI a0 v0_2 v0_3 v0_5 v0_12 v0_13 v0_16 v0_17 v0_21 v0_23 v0_24 v0_25 v0_26 v0_29 v0_30 v0_0 v0_1) → va_S A s.heap H locs → lv_has ls 8 [(0, .ref (a0 0)), (1, .int x1), (2, .int x2), (3, .int x3), (5, .int x5), (6, .int x6), (7, .int x7)] → W p l e (headSpec wz_X12_transform rm_X12_transform).room s m [.ref (a0 0), .int p1, .int p2, .int p3].toArray below meth c H locs 0 0 (MQ below (Q_X12_transform dC dI cI a0 v0_5 v0_12 v0_13 v0_16 v0_17 v0_21 v0_23 v0_24 v0_25 v0_26 v0_29 v0_30 u A) [.ref (a0 0), .int p1, .int p2, .int p3].toArray s 0 0 A) (F0 m 145 ls [.int t0]) := by
                intro x5 x7 t0 hF H locs ls hP hD hS hl
                unfold F_X12_transform_j145 at hF
                refine lv_istore (lv' := [(4, .int t0), (0, .ref (a0 0)), (1, .int x1), (2, .int x2), (3, .int x3), (5, .int x5), (6, .int x6), (7, .int x7)]) hx hb dX12_transform_145 hl (by decide) rfl (fun ls hl => ?_)
                obtain ⟨y_19, ey_19, hF⟩ := lt_some hF
                refine lv_iinc (v := y_19) (lv' := [(5, .int y_19), (4, .int t0), (0, .ref (a0 0)), (1, .int x1), (2, .int x2), (3, .int x3), (6, .int x6), (7, .int x7)]) hx hb dX12_transform_147 hl (k := 5) rfl (by rw [ey_19]; rfl) (by decide) rfl (fun ls hl => ?_)
                obtain ⟨y_20, ey_20, hF⟩ := lt_some hF
                refine lv_iinc (v := y_20) (lv' := [(7, .int y_20), (5, .int y_19), (4, .int t0), (0, .ref (a0 0)), (1, .int x1), (2, .int x2), (3, .int x3), (6, .int x6)]) hx hb dX12_transform_150 hl (k := 7) rfl (by rw [ey_20]; rfl) (by decide) rfl (fun ls hl => ?_)
                refine lv_goto (tgt := 73) hx hb dX12_transform_153 (by decide) ?_
                obtain rfl := Option.some.inj hF
                exact ih_73 _ hO_73 _ _ _ hP hD hS (lv_sub hl [3, 4, 5, 6, 2, 1, 7, 0] rfl)
              have j144 : ∀ (x5 : Int32) (x7 : Int32), F_X12_transform_j144 x5 x7 = some o_73 → ∀ (H : Heap) (locs : List Loc) (ls : Array Slot), va_P (dC, dI) vwCl (wd_X12_transform cI a0 v0_2 v0_3 v0_5 v0_12 v0_13 v0_16 v0_17 v0_21 v0_23 v0_24 v0_25 v0_26 v0_29 v0_30 v0_0 v0_1) H → va_D A (wd_X12_transform cI a0 v0_2 v0_3 v0_5 v0_12 v0_13 v0_16 v0_17 v0_21 v0_23 v0_24 v0_25 v0_26 v0_29 v0_30 v0_0 v0_1) → va_S A s.heap H locs → lv_has ls 8 [(0, .ref (a0 0)), (1, .int x1), (2, .int x2), (3, .int x3), (5, .int x5), (6, .int x6), (7, .int x7)] → W p l e (headSpec wz_X12_transform rm_X12_transform).room s m [.ref (a0 0), .int p1, .int p2, .int p3].toArray below meth c H locs 0 0 (MQ below (Q_X12_transform dC dI cI a0 v0_5 v0_12 v0_13 v0_16 v0_17 v0_21 v0_23 v0_24 v0_25 v0_26 v0_29 v0_30 u A) [.ref (a0 0), .int p1, .int p2, .int p3].toArray s 0 0 A) (F0 m 144 ls []) := by
                intro x5 x7 hF H locs ls hP hD hS hl
                unfold F_X12_transform_j144 at hF
                refine lv_iconst (v := 0) hx hb dX12_transform_144 (by decide) ?_
                exact j145 x5 x7 0 hF _ _ _ hP hD hS (lv_sub hl [0, 1, 2, 3, 4, 5, 6] rfl)
              refine lv_iload hx hb dX12_transform_73 (lv_at hl 7 rfl) ?_
              refine lv_aload_n hx hb dX12_transform_75 rfl (lv_at hl 0 rfl) ?_
              refine lv_iload hx hb dX12_transform_76 (lv_at hl 6 rfl) ?_
              obtain ⟨u_21, hu_21, hF⟩ := obd_some hF
              have hPc := hP.sub (ws' := (wd_X12_points cI a0 v0_2 v0_3 v0_5 v0_12 v0_13 v0_16 v0_17 v0_21 v0_23 v0_24 v0_25 v0_26 v0_29 v0_30 v0_0)) [0, 1] rfl
              have hDc := hD.sub (ws' := (wd_X12_points cI a0 v0_2 v0_3 v0_5 v0_12 v0_13 v0_16 v0_17 v0_21 v0_23 v0_24 v0_25 v0_26 v0_29 v0_30 v0_0)) [0, 1] rfl rfl
              refine q_calli (wc := (wd_X12_points cI a0 v0_2 v0_3 v0_5 v0_12 v0_13 v0_16 v0_17 v0_21 v0_23 v0_24 v0_25 v0_26 v0_29 v0_30 v0_0)) (w1 := (wd_X12_points cI a0 v0_2 v0_3 v0_5 v0_12 v0_13 v0_16 v0_17 v0_21 v0_23 v0_24 v0_25 v0_26 v0_29 v0_30 v0_0)) (ws' := (wd_X12_transform cI a0 v0_2 v0_3 v0_5 v0_12 v0_13 v0_16 v0_17 v0_21 v0_23 v0_24 v0_25 v0_26 v0_29 v0_30 v0_0 v0_1)) hP hD hS hA [0, 1] [2] [1, 2, 0] rfl rfl rfl (by decide) rfl rfl (va_runV (As := [.int x6]) (rest := [.int s73.2.2]) ⟨hx, hb, hml, hown, hta⟩ (c_X12_points l dC dI cI H.size a0 v0_2 v0_3 v0_5 v0_12 v0_13 v0_16 v0_17 v0_21 v0_23 v0_24 v0_25 v0_26 v0_29 v0_30 v0_0 x6 u_21 hu_21) (cwV 1 hta (ga_V mA839 mA840 mA841 mA814 mA827) rfl rfl rfl (by decide +kernel) ⟨Nat.le_of_ble_eq_true rfl, Nat.le_of_ble_eq_true rfl⟩) ⟨q_fb, va_recv hK hP (ci := 11) (q0 := 0) rfl rfl, q_ps hPc hK hDc⟩ rfl rfl hl.1 rfl (lv_room (Nat.le_of_ble_eq_true rfl)) dX12_transform_78 ⟨Nat.zero_le _, Nat.zero_le _⟩) (fun H locs hP hD hS => ?_)
              refine lv_icmp_ge (tgt := 156) hx hb dX12_transform_81 (by decide) (fun c_22 => ?_) (fun c_22 => ?_)
              · have hF := it_t hF c_22
                obtain rfl := Option.some.inj hF
                obtain rfl := lpq_x hO_73
                have hF := hE_73
                exact j156 s73.1 s73.2.1 x6 hF _ _ _ hP hD hS (lv_sub hl [0, 1, 2, 3, 4, 5, 6] rfl)
              · have hF := it_f hF c_22
                refine lv_iload hx hb dX12_transform_84 (lv_at hl 4 rfl) ?_
                refine lv_if_eq (tgt := 144) hx hb dX12_transform_86 (by decide) (fun c_23 => ?_) (fun c_23 => ?_)
                · have hF := it_t hF c_23
                  exact j144 s73.2.1 s73.2.2 hF _ _ _ hP hD hS (lv_sub hl [0, 1, 2, 3, 5, 6, 7] rfl)
                · have hF := it_f hF c_23
                  refine lv_aload_n hx hb dX12_transform_89 rfl (lv_at hl 0 rfl) ?_
                  refine lv_iload hx hb dX12_transform_90 (lv_at hl 6 rfl) ?_
                  refine lv_iload hx hb dX12_transform_92 (lv_at hl 7 rfl) ?_
                  obtain ⟨u_24, hu_24, hF⟩ := obd_some hF
                  have hPc := hP.sub (ws' := (wd_X12_x cI a0 v0_2 v0_3 v0_5 v0_12 v0_13 v0_16 v0_17 v0_21 v0_23 v0_24 v0_25 v0_26 v0_29 v0_30 v0_0)) [0, 1] rfl
                  have hDc := hD.sub (ws' := (wd_X12_x cI a0 v0_2 v0_3 v0_5 v0_12 v0_13 v0_16 v0_17 v0_21 v0_23 v0_24 v0_25 v0_26 v0_29 v0_30 v0_0)) [0, 1] rfl rfl
                  refine q_calli (wc := (wd_X12_x cI a0 v0_2 v0_3 v0_5 v0_12 v0_13 v0_16 v0_17 v0_21 v0_23 v0_24 v0_25 v0_26 v0_29 v0_30 v0_0)) (w1 := (wd_X12_x cI a0 v0_2 v0_3 v0_5 v0_12 v0_13 v0_16 v0_17 v0_21 v0_23 v0_24 v0_25 v0_26 v0_29 v0_30 v0_0)) (ws' := (wd_X12_transform cI a0 v0_2 v0_3 v0_5 v0_12 v0_13 v0_16 v0_17 v0_21 v0_23 v0_24 v0_25 v0_26 v0_29 v0_30 v0_0 v0_1)) hP hD hS hA [0, 1] [2] [1, 2, 0] rfl rfl rfl (by decide) rfl rfl (va_runV (As := [.int x6, .int s73.2.2]) (rest := []) ⟨hx, hb, hml, hown, hta⟩ (c_X12_x l dC dI cI H.size a0 v0_2 v0_3 v0_5 v0_12 v0_13 v0_16 v0_17 v0_21 v0_23 v0_24 v0_25 v0_26 v0_29 v0_30 v0_0 x6 s73.2.2 u_24 hu_24) (cwV 2 hta (ga_V mA870 mA871 mA872 mA814 mA831) rfl rfl rfl (by decide +kernel) ⟨Nat.le_of_ble_eq_true rfl, Nat.le_of_ble_eq_true rfl⟩) ⟨q_fb, va_recv hK hP (ci := 11) (q0 := 0) rfl rfl, q_ps hPc hK hDc⟩ rfl rfl hl.1 rfl (lv_room (Nat.le_of_ble_eq_true rfl)) dX12_transform_94 ⟨Nat.zero_le _, Nat.zero_le _⟩) (fun H locs hP hD hS => ?_)
                  refine lv_aload_n hx hb dX12_transform_97 rfl (lv_at hl 0 rfl) ?_
                  refine lv_iload hx hb dX12_transform_98 (lv_at hl 6 rfl) ?_
                  refine lv_iload hx hb dX12_transform_100 (lv_at hl 7 rfl) ?_
                  obtain ⟨u_25, hu_25, hF⟩ := obd_some hF
                  have hPc := hP.sub (ws' := (wd_X12_y cI a0 v0_2 v0_3 v0_5 v0_12 v0_13 v0_16 v0_17 v0_21 v0_23 v0_24 v0_25 v0_26 v0_29 v0_30 v0_0)) [0, 1] rfl
                  have hDc := hD.sub (ws' := (wd_X12_y cI a0 v0_2 v0_3 v0_5 v0_12 v0_13 v0_16 v0_17 v0_21 v0_23 v0_24 v0_25 v0_26 v0_29 v0_30 v0_0)) [0, 1] rfl rfl
                  refine q_calli (wc := (wd_X12_y cI a0 v0_2 v0_3 v0_5 v0_12 v0_13 v0_16 v0_17 v0_21 v0_23 v0_24 v0_25 v0_26 v0_29 v0_30 v0_0)) (w1 := (wd_X12_y cI a0 v0_2 v0_3 v0_5 v0_12 v0_13 v0_16 v0_17 v0_21 v0_23 v0_24 v0_25 v0_26 v0_29 v0_30 v0_0)) (ws' := (wd_X12_transform cI a0 v0_2 v0_3 v0_5 v0_12 v0_13 v0_16 v0_17 v0_21 v0_23 v0_24 v0_25 v0_26 v0_29 v0_30 v0_0 v0_1)) hP hD hS hA [0, 1] [2] [1, 2, 0] rfl rfl rfl (by decide) rfl rfl (va_runV (As := [.int x6, .int s73.2.2]) (rest := [.int u_24]) ⟨hx, hb, hml, hown, hta⟩ (c_X12_y l dC dI cI H.size a0 v0_2 v0_3 v0_5 v0_12 v0_13 v0_16 v0_17 v0_21 v0_23 v0_24 v0_25 v0_26 v0_29 v0_30 v0_0 x6 s73.2.2 u_25 hu_25) (cwV 2 hta (ga_V mA873 mA874 mA875 mA814 mA832) rfl rfl rfl (by decide +kernel) ⟨Nat.le_of_ble_eq_true rfl, Nat.le_of_ble_eq_true rfl⟩) ⟨q_fb, va_recv hK hP (ci := 11) (q0 := 0) rfl rfl, q_ps hPc hK hDc⟩ rfl rfl hl.1 rfl (lv_room (Nat.le_of_ble_eq_true rfl)) dX12_transform_102 ⟨Nat.zero_le _, Nat.zero_le _⟩) (fun H locs hP hD hS => ?_)
                  refine lv_iload_n hx hb dX12_transform_105 rfl (lv_at hl 1 rfl) ?_
                  obtain ⟨u_26, hu_26, hF⟩ := lt_some hF
                  have hPc := hP.sub (ws' := ([] : va_W)) [] rfl
                  have hDc := hD.sub (ws' := ([] : va_W)) [] rfl rfl
                  refine q_calli (wc := ([] : va_W)) (w1 := ([] : va_W)) (ws' := (wd_X12_transform cI a0 v0_2 v0_3 v0_5 v0_12 v0_13 v0_16 v0_17 v0_21 v0_23 v0_24 v0_25 v0_26 v0_29 v0_30 v0_0 v0_1)) hP hD hS hA [] [0, 1, 2] [0, 1, 2] rfl rfl rfl (by decide) rfl rfl (va_runS (As := [.int u_24, .int u_25, .int x1]) (rest := []) ⟨hx, hb, hml, hown, hta⟩ (c_X12_turned l dC dI cI H.size u_24 u_25 x1 u_26 hu_26.symm) (va_cwS 3 hta (ga_S mA897 mA898 mA814 mA895) rfl rfl rfl (by decide +kernel) ⟨Nat.le_of_ble_eq_true rfl, Nat.le_of_ble_eq_true rfl⟩) ⟨q_fb, q_ps hPc hK hDc⟩ rfl rfl hl.1 rfl (lv_room (Nat.le_of_ble_eq_true rfl)) dX12_transform_106 ⟨Nat.zero_le _, Nat.zero_le _⟩) (fun H locs hP hD hS => ?_)
                  refine lv_iload_n hx hb dX12_transform_109 rfl (lv_at hl 2 rfl) ?_
                  refine lv_iadd hx hb dX12_transform_110 ?_
                  refine lv_aload_n hx hb dX12_transform_111 rfl (lv_at hl 0 rfl) ?_
                  refine lv_iload hx hb dX12_transform_112 (lv_at hl 6 rfl) ?_
                  refine lv_iload hx hb dX12_transform_114 (lv_at hl 7 rfl) ?_
                  obtain ⟨u_27, hu_27, hF⟩ := obd_some hF
                  have hPc := hP.sub (ws' := (wd_X12_y cI a0 v0_2 v0_3 v0_5 v0_12 v0_13 v0_16 v0_17 v0_21 v0_23 v0_24 v0_25 v0_26 v0_29 v0_30 v0_0)) [0, 1] rfl
                  have hDc := hD.sub (ws' := (wd_X12_y cI a0 v0_2 v0_3 v0_5 v0_12 v0_13 v0_16 v0_17 v0_21 v0_23 v0_24 v0_25 v0_26 v0_29 v0_30 v0_0)) [0, 1] rfl rfl
                  refine q_calli (wc := (wd_X12_y cI a0 v0_2 v0_3 v0_5 v0_12 v0_13 v0_16 v0_17 v0_21 v0_23 v0_24 v0_25 v0_26 v0_29 v0_30 v0_0)) (w1 := (wd_X12_y cI a0 v0_2 v0_3 v0_5 v0_12 v0_13 v0_16 v0_17 v0_21 v0_23 v0_24 v0_25 v0_26 v0_29 v0_30 v0_0)) (ws' := (wd_X12_transform cI a0 v0_2 v0_3 v0_5 v0_12 v0_13 v0_16 v0_17 v0_21 v0_23 v0_24 v0_25 v0_26 v0_29 v0_30 v0_0 v0_1)) hP hD hS hA [0, 1] [2] [1, 2, 0] rfl rfl rfl (by decide) rfl rfl (va_runV (As := [.int x6, .int s73.2.2]) (rest := [.int (u_26 + x2)]) ⟨hx, hb, hml, hown, hta⟩ (c_X12_y l dC dI cI H.size a0 v0_2 v0_3 v0_5 v0_12 v0_13 v0_16 v0_17 v0_21 v0_23 v0_24 v0_25 v0_26 v0_29 v0_30 v0_0 x6 s73.2.2 u_27 hu_27) (cwV 2 hta (ga_V mA873 mA874 mA875 mA814 mA832) rfl rfl rfl (by decide +kernel) ⟨Nat.le_of_ble_eq_true rfl, Nat.le_of_ble_eq_true rfl⟩) ⟨q_fb, va_recv hK hP (ci := 11) (q0 := 0) rfl rfl, q_ps hPc hK hDc⟩ rfl rfl hl.1 rfl (lv_room (Nat.le_of_ble_eq_true rfl)) dX12_transform_116 ⟨Nat.zero_le _, Nat.zero_le _⟩) (fun H locs hP hD hS => ?_)
                  refine lv_aload_n hx hb dX12_transform_119 rfl (lv_at hl 0 rfl) ?_
                  refine lv_iload hx hb dX12_transform_120 (lv_at hl 6 rfl) ?_
                  refine lv_iload hx hb dX12_transform_122 (lv_at hl 7 rfl) ?_
                  obtain ⟨u_28, hu_28, hF⟩ := obd_some hF
                  have hPc := hP.sub (ws' := (wd_X12_x cI a0 v0_2 v0_3 v0_5 v0_12 v0_13 v0_16 v0_17 v0_21 v0_23 v0_24 v0_25 v0_26 v0_29 v0_30 v0_0)) [0, 1] rfl
                  have hDc := hD.sub (ws' := (wd_X12_x cI a0 v0_2 v0_3 v0_5 v0_12 v0_13 v0_16 v0_17 v0_21 v0_23 v0_24 v0_25 v0_26 v0_29 v0_30 v0_0)) [0, 1] rfl rfl
                  refine q_calli (wc := (wd_X12_x cI a0 v0_2 v0_3 v0_5 v0_12 v0_13 v0_16 v0_17 v0_21 v0_23 v0_24 v0_25 v0_26 v0_29 v0_30 v0_0)) (w1 := (wd_X12_x cI a0 v0_2 v0_3 v0_5 v0_12 v0_13 v0_16 v0_17 v0_21 v0_23 v0_24 v0_25 v0_26 v0_29 v0_30 v0_0)) (ws' := (wd_X12_transform cI a0 v0_2 v0_3 v0_5 v0_12 v0_13 v0_16 v0_17 v0_21 v0_23 v0_24 v0_25 v0_26 v0_29 v0_30 v0_0 v0_1)) hP hD hS hA [0, 1] [2] [1, 2, 0] rfl rfl rfl (by decide) rfl rfl (va_runV (As := [.int x6, .int s73.2.2]) (rest := [.int u_27, .int (u_26 + x2)]) ⟨hx, hb, hml, hown, hta⟩ (c_X12_x l dC dI cI H.size a0 v0_2 v0_3 v0_5 v0_12 v0_13 v0_16 v0_17 v0_21 v0_23 v0_24 v0_25 v0_26 v0_29 v0_30 v0_0 x6 s73.2.2 u_28 hu_28) (cwV 2 hta (ga_V mA870 mA871 mA872 mA814 mA831) rfl rfl rfl (by decide +kernel) ⟨Nat.le_of_ble_eq_true rfl, Nat.le_of_ble_eq_true rfl⟩) ⟨q_fb, va_recv hK hP (ci := 11) (q0 := 0) rfl rfl, q_ps hPc hK hDc⟩ rfl rfl hl.1 rfl (lv_room (Nat.le_of_ble_eq_true rfl)) dX12_transform_124 ⟨Nat.zero_le _, Nat.zero_le _⟩) (fun H locs hP hD hS => ?_)
                  refine lv_ineg hx hb dX12_transform_127 ?_
                  refine lv_iload_n hx hb dX12_transform_128 rfl (lv_at hl 1 rfl) ?_
                  obtain ⟨u_29, hu_29, hF⟩ := lt_some hF
                  have hPc := hP.sub (ws' := ([] : va_W)) [] rfl
                  have hDc := hD.sub (ws' := ([] : va_W)) [] rfl rfl
                  refine q_calli (wc := ([] : va_W)) (w1 := ([] : va_W)) (ws' := (wd_X12_transform cI a0 v0_2 v0_3 v0_5 v0_12 v0_13 v0_16 v0_17 v0_21 v0_23 v0_24 v0_25 v0_26 v0_29 v0_30 v0_0 v0_1)) hP hD hS hA [] [0, 1, 2] [0, 1, 2] rfl rfl rfl (by decide) rfl rfl (va_runS (As := [.int u_27, .int (-u_28), .int x1]) (rest := [.int (u_26 + x2)]) ⟨hx, hb, hml, hown, hta⟩ (c_X12_turned l dC dI cI H.size u_27 (-u_28) x1 u_29 hu_29.symm) (va_cwS 3 hta (ga_S mA897 mA898 mA814 mA895) rfl rfl rfl (by decide +kernel) ⟨Nat.le_of_ble_eq_true rfl, Nat.le_of_ble_eq_true rfl⟩) ⟨q_fb, q_ps hPc hK hDc⟩ rfl rfl hl.1 rfl (lv_room (Nat.le_of_ble_eq_true rfl)) dX12_transform_129 ⟨Nat.zero_le _, Nat.zero_le _⟩) (fun H locs hP hD hS => ?_)
                  refine lv_iload_n hx hb dX12_transform_132 rfl (lv_at hl 3 rfl) ?_
                  refine lv_iadd hx hb dX12_transform_133 ?_
                  obtain ⟨u_30, hu_30, hF⟩ := lt_some hF
                  have hPc := hP.sub (ws' := ([] : va_W)) [] rfl
                  have hDc := hD.sub (ws' := ([] : va_W)) [] rfl rfl
                  refine q_callz (wc := ([] : va_W)) (w1 := ([] : va_W)) (ws' := (wd_X12_transform cI a0 v0_2 v0_3 v0_5 v0_12 v0_13 v0_16 v0_17 v0_21 v0_23 v0_24 v0_25 v0_26 v0_29 v0_30 v0_0 v0_1)) hP hD hS hA [] [0, 1, 2] [0, 1, 2] rfl rfl rfl (by decide) rfl rfl (va_runS (As := [.int (u_26 + x2), .int (u_29 + x3)]) (rest := []) ⟨hx, hb, hml, hown, hta⟩ (c_X12_isPlace l dC dI cI H.size (u_26 + x2) (u_29 + x3) u_30 hu_30.symm) (va_cwS 2 hta (ga_S mA843 mA844 mA814 mA811) rfl rfl rfl (by decide +kernel) ⟨Nat.le_of_ble_eq_true rfl, Nat.le_of_ble_eq_true rfl⟩) ⟨q_fb, q_ps hPc hK hDc⟩ rfl rfl hl.1 rfl (lv_room (Nat.le_of_ble_eq_true rfl)) dX12_transform_134 ⟨Nat.zero_le _, Nat.zero_le _⟩) (fun hzu_30 H locs hP hD hS => ?_)
                  refine lv_if_eq (tgt := 144) hx hb dX12_transform_137 (by decide) (fun c_31 => ?_) (fun c_31 => ?_)
                  · have hF := it_t hF c_31
                    exact j144 s73.2.1 s73.2.2 hF _ _ _ hP hD hS (lv_sub hl [0, 1, 2, 3, 5, 6, 7] rfl)
                  · have hF := it_f hF c_31
                    refine lv_iconst (v := 1) hx hb dX12_transform_140 (by decide) ?_
                    refine lv_goto (tgt := 145) hx hb dX12_transform_141 (by decide) ?_
                    exact j145 s73.2.1 s73.2.2 1 hF _ _ _ hP hD hS (lv_sub hl [0, 1, 2, 3, 5, 6, 7] rfl)
          exact kl_73 n _ hL_73 _ _ _ hP hD hS hl
        refine lv_iload hx hb dX12_transform_58 (lv_at hl 6 rfl) ?_
        refine lv_aload_n hx hb dX12_transform_60 rfl (lv_at hl 0 rfl) ?_
        refine va_get (D := (dC, dI)) (ci := 11) (v := .ref (a0 1)) (C := RX12) (T := TX12) (N := 31) hx hb hta uw_X12 hown hK hP 0 rfl rfl 0 (by decide) (hta _ mA790) (fun _ h9 => h9) rfl dX12_transform_61 ?_
        refine lv_bipush (v := 13) hx hb dX12_transform_64 (by decide) ?_
        obtain ⟨g_32, hF⟩ := gd_some hF
        refine va_iald hx hb hK hP 1 0 rfl rfl (vpi_in g_32) dX12_transform_66 ?_
        refine lv_icmp_ge (tgt := 162) hx hb dX12_transform_67 (by decide) (fun c_33 => ?_) (fun c_33 => ?_)
        · have hF := it_t hF c_33
          obtain rfl := Option.some.inj hF
          obtain rfl := lpq_x hO_58
          have hF := hE_58
          exact j162 v0_2 v0_3 v0_0 v0_1 x1 x2 x3 s58.1 s58.2.1 hF _ _ _ hP hD hS (lv_sub hl [0, 1, 2, 3, 4, 5] rfl)
        · have hF := it_f hF c_33
          refine lv_iconst (v := 0) hx hb dX12_transform_70 (by decide) ?_
          refine lv_istore (lv' := [(7, .int 0), (0, .ref (a0 0)), (1, .int x1), (2, .int x2), (3, .int x3), (4, .int s58.1), (5, .int s58.2.1), (6, .int s58.2.2)]) hx hb dX12_transform_71 hl (by decide) rfl (fun ls hl => ?_)
          exact j73 s58.1 s58.2.1 s58.2.2 0 hF _ _ _ hP hD hS (lv_sub hl [1, 2, 3, 4, 5, 6, 7, 0] rfl)
    exact kl_58 n _ hL_58 _ _ _ hP hD hS hl
  have j41 : ∀ (v0_2 : Int32) (v0_3 : Int32) (v0_0 : Nat → Int32) (v0_1 : Nat → Int32) (x1 : Int32) (x2 : Int32) (x3 : Int32) (t1 : Int32), F_X12_transform_j41 n v0_2 v0_0 v0_1 x1 x2 x3 t1 = some u → ∀ (H : Heap) (locs : List Loc) (ls : Array Slot), va_P (dC, dI) vwCl (wd_X12_transform cI a0 v0_2 v0_3 v0_5 v0_12 v0_13 v0_16 v0_17 v0_21 v0_23 v0_24 v0_25 v0_26 v0_29 v0_30 v0_0 v0_1) H → va_D A (wd_X12_transform cI a0 v0_2 v0_3 v0_5 v0_12 v0_13 v0_16 v0_17 v0_21 v0_23 v0_24 v0_25 v0_26 v0_29 v0_30 v0_0 v0_1) → va_S A s.heap H locs → lv_has ls 8 [(0, .ref (a0 0)), (1, .int x1), (2, .int x2), (3, .int x3)] → W p l e (headSpec wz_X12_transform rm_X12_transform).room s m [.ref (a0 0), .int p1, .int p2, .int p3].toArray below meth c H locs 0 0 (MQ below (Q_X12_transform dC dI cI a0 v0_5 v0_12 v0_13 v0_16 v0_17 v0_21 v0_23 v0_24 v0_25 v0_26 v0_29 v0_30 u A) [.ref (a0 0), .int p1, .int p2, .int p3].toArray s 0 0 A) (F0 m 41 ls [.int t1, .ref (a0 0)]) := by
    intro v0_2 v0_3 v0_0 v0_1 x1 x2 x3 t1 hF H locs ls hP hD hS hl
    unfold F_X12_transform_j41 at hF
    obtain ⟨u_34, hu_34, hF⟩ := lt_some hF
    have hPc := hP.sub (ws' := (wd_X12_refused cI a0 v0_2 v0_3 v0_5 v0_12 v0_13 v0_16 v0_17 v0_21 v0_23 v0_24 v0_25 v0_26 v0_29 v0_30)) [0] rfl
    have hDc := hD.sub (ws' := (wd_X12_refused cI a0 v0_2 v0_3 v0_5 v0_12 v0_13 v0_16 v0_17 v0_21 v0_23 v0_24 v0_25 v0_26 v0_29 v0_30)) [0] rfl rfl
    refine q_callz (wc := (wd_X12_refused cI a0 v0_2 v0_3 v0_5 v0_12 v0_13 v0_16 v0_17 v0_21 v0_23 v0_24 v0_25 v0_26 v0_29 v0_30)) (w1 := (wd_X12_refused cI a0 v0_2 u_34.2 v0_5 v0_12 v0_13 v0_16 v0_17 v0_21 v0_23 v0_24 v0_25 v0_26 v0_29 v0_30)) (ws' := (wd_X12_transform cI a0 v0_2 u_34.2 v0_5 v0_12 v0_13 v0_16 v0_17 v0_21 v0_23 v0_24 v0_25 v0_26 v0_29 v0_30 v0_0 v0_1)) hP hD hS hA [0] [1, 2] [2, 0, 1] rfl rfl rfl (by decide) rfl rfl (va_runV (As := [.int t1]) (rest := []) ⟨hx, hb, hml, hown, hta⟩ (c_X12_refused l dC dI cI H.size a0 v0_2 v0_3 v0_5 v0_12 v0_13 v0_16 v0_17 v0_21 v0_23 v0_24 v0_25 v0_26 v0_29 v0_30 t1 u_34 hu_34.symm) (cwV 1 hta (ga_V mA822 mA823 mA824 mA814 mA809) rfl rfl rfl (by decide +kernel) ⟨Nat.le_of_ble_eq_true rfl, Nat.le_of_ble_eq_true rfl⟩) ⟨q_fb, va_recv hK hP (ci := 11) (q0 := 0) rfl rfl, q_ps hPc hK hDc⟩ rfl rfl hl.1 rfl (lv_room (Nat.le_of_ble_eq_true rfl)) dX12_transform_41 ⟨Nat.zero_le _, Nat.zero_le _⟩) (fun hzu_34 H locs hP hD hS => ?_)
    refine lv_if_eq (tgt := 49) hx hb dX12_transform_44 (by decide) (fun c_35 => ?_) (fun c_35 => ?_)
    · have hF := it_t hF c_35
      refine lv_iconst (v := 1) hx hb dX12_transform_49 (by decide) ?_
      refine lv_istore (lv' := [(4, .int 1), (0, .ref (a0 0)), (1, .int x1), (2, .int x2), (3, .int x3)]) hx hb dX12_transform_50 hl (by decide) rfl (fun ls hl => ?_)
      refine lv_iconst (v := 0) hx hb dX12_transform_52 (by decide) ?_
      refine lv_istore (lv' := [(5, .int 0), (4, .int 1), (0, .ref (a0 0)), (1, .int x1), (2, .int x2), (3, .int x3)]) hx hb dX12_transform_53 hl (by decide) rfl (fun ls hl => ?_)
      refine lv_iconst (v := 0) hx hb dX12_transform_55 (by decide) ?_
      refine lv_istore (lv' := [(6, .int 0), (5, .int 0), (4, .int 1), (0, .ref (a0 0)), (1, .int x1), (2, .int x2), (3, .int x3)]) hx hb dX12_transform_56 hl (by decide) rfl (fun ls hl => ?_)
      exact j58 v0_2 u_34.2 v0_0 v0_1 x1 x2 x3 1 0 0 hF _ _ _ hP hD hS (lv_sub hl [3, 4, 5, 6, 2, 1, 0] rfl)
    · have hF := it_f hF c_35
      refine lv_iconst (v := 0) hx hb dX12_transform_47 (by decide) ?_
      obtain rfl := Option.some.inj hF
      exact W.iret (v := 0) hx hb hr (fun t ht hW => ⟨⟨0, (), rfl, rfl, by rw [ht]; exact hP, va_K.moved hW.alike hK, hD⟩, hS.F ht⟩) hS.2.2 dX12_transform_48
  have j40 : ∀ (v0_2 : Int32) (v0_3 : Int32) (v0_0 : Nat → Int32) (v0_1 : Nat → Int32) (x1 : Int32) (x2 : Int32) (x3 : Int32), F_X12_transform_j40 n v0_2 v0_0 v0_1 x1 x2 x3 = some u → ∀ (H : Heap) (locs : List Loc) (ls : Array Slot), va_P (dC, dI) vwCl (wd_X12_transform cI a0 v0_2 v0_3 v0_5 v0_12 v0_13 v0_16 v0_17 v0_21 v0_23 v0_24 v0_25 v0_26 v0_29 v0_30 v0_0 v0_1) H → va_D A (wd_X12_transform cI a0 v0_2 v0_3 v0_5 v0_12 v0_13 v0_16 v0_17 v0_21 v0_23 v0_24 v0_25 v0_26 v0_29 v0_30 v0_0 v0_1) → va_S A s.heap H locs → lv_has ls 8 [(0, .ref (a0 0)), (1, .int x1), (2, .int x2), (3, .int x3)] → W p l e (headSpec wz_X12_transform rm_X12_transform).room s m [.ref (a0 0), .int p1, .int p2, .int p3].toArray below meth c H locs 0 0 (MQ below (Q_X12_transform dC dI cI a0 v0_5 v0_12 v0_13 v0_16 v0_17 v0_21 v0_23 v0_24 v0_25 v0_26 v0_29 v0_30 u A) [.ref (a0 0), .int p1, .int p2, .int p3].toArray s 0 0 A) (F0 m 40 ls [.ref (a0 0)]) := by
    intro v0_2 v0_3 v0_0 v0_1 x1 x2 x3 hF H locs ls hP hD hS hl
    unfold F_X12_transform_j40 at hF
    refine lv_iconst (v := 1) hx hb dX12_transform_40 (by decide) ?_
    exact j41 v0_2 v0_3 v0_0 v0_1 x1 x2 x3 1 hF _ _ _ hP hD hS (lv_sub hl [0, 1, 2, 3] rfl)
  refine lv_aload_n hx hb dX12_transform_0 rfl (lv_at hl 0 rfl) ?_
  refine lv_iload_n hx hb dX12_transform_1 rfl (lv_at hl 1 rfl) ?_
  refine lv_iconst (v := 0) hx hb dX12_transform_2 (by decide) ?_
  refine lv_iconst (v := 3) hx hb dX12_transform_3 (by decide) ?_
  obtain ⟨u_36, hu_36, hF⟩ := lt_some hF
  have hPc := hP.sub (ws' := ([] : va_W)) [] rfl
  have hDc := hD.sub (ws' := ([] : va_W)) [] rfl rfl
  refine q_callz (wc := ([] : va_W)) (w1 := ([] : va_W)) (ws' := (wd_X12_transform cI a0 v0_2 v0_3 v0_5 v0_12 v0_13 v0_16 v0_17 v0_21 v0_23 v0_24 v0_25 v0_26 v0_29 v0_30 v0_0 v0_1)) hP hD hS hA [] [0, 1, 2] [0, 1, 2] rfl rfl rfl (by decide) rfl rfl (va_runS (As := [.int p1, .int 0, .int 3]) (rest := [.ref (a0 0)]) ⟨hx, hb, hml, hown, hta⟩ (c_X12_within l dC dI cI H.size p1 0 3 u_36 hu_36.symm) (va_cwS 3 hta (ga_S mA812 mA813 mA814 mA810) rfl rfl rfl (by decide +kernel) ⟨Nat.le_of_ble_eq_true rfl, Nat.le_of_ble_eq_true rfl⟩) ⟨q_fb, q_ps hPc hK hDc⟩ rfl rfl hl.1 rfl (lv_room (Nat.le_of_ble_eq_true rfl)) dX12_transform_4 ⟨Nat.zero_le _, Nat.zero_le _⟩) (fun hzu_36 H locs hP hD hS => ?_)
  refine lv_if_eq (tgt := 40) hx hb dX12_transform_7 (by decide) (fun c_37 => ?_) (fun c_37 => ?_)
  · have hF := it_t hF c_37
    exact j40 v0_2 v0_3 v0_0 v0_1 p1 p2 p3 hF _ _ _ hP hD hS (lv_sub hl [0, 1, 2, 3] rfl)
  · have hF := it_f hF c_37
    refine lv_iload_n hx hb dX12_transform_10 rfl (lv_at hl 2 rfl) ?_
    refine lv_sipush (v := (-200)) hx hb dX12_transform_11 (by decide) ?_
    refine lv_sipush (v := 200) hx hb dX12_transform_14 (by decide) ?_
    obtain ⟨u_38, hu_38, hF⟩ := lt_some hF
    have hPc := hP.sub (ws' := ([] : va_W)) [] rfl
    have hDc := hD.sub (ws' := ([] : va_W)) [] rfl rfl
    refine q_callz (wc := ([] : va_W)) (w1 := ([] : va_W)) (ws' := (wd_X12_transform cI a0 v0_2 v0_3 v0_5 v0_12 v0_13 v0_16 v0_17 v0_21 v0_23 v0_24 v0_25 v0_26 v0_29 v0_30 v0_0 v0_1)) hP hD hS hA [] [0, 1, 2] [0, 1, 2] rfl rfl rfl (by decide) rfl rfl (va_runS (As := [.int p2, .int (-200), .int 200]) (rest := [.ref (a0 0)]) ⟨hx, hb, hml, hown, hta⟩ (c_X12_within l dC dI cI H.size p2 (-200) 200 u_38 hu_38.symm) (va_cwS 3 hta (ga_S mA812 mA813 mA814 mA810) rfl rfl rfl (by decide +kernel) ⟨Nat.le_of_ble_eq_true rfl, Nat.le_of_ble_eq_true rfl⟩) ⟨q_fb, q_ps hPc hK hDc⟩ rfl rfl hl.1 rfl (lv_room (Nat.le_of_ble_eq_true rfl)) dX12_transform_17 ⟨Nat.zero_le _, Nat.zero_le _⟩) (fun hzu_38 H locs hP hD hS => ?_)
    refine lv_if_eq (tgt := 40) hx hb dX12_transform_20 (by decide) (fun c_39 => ?_) (fun c_39 => ?_)
    · have hF := it_t hF c_39
      exact j40 v0_2 v0_3 v0_0 v0_1 p1 p2 p3 hF _ _ _ hP hD hS (lv_sub hl [0, 1, 2, 3] rfl)
    · have hF := it_f hF c_39
      refine lv_iload_n hx hb dX12_transform_23 rfl (lv_at hl 3 rfl) ?_
      refine lv_sipush (v := (-200)) hx hb dX12_transform_24 (by decide) ?_
      refine lv_sipush (v := 200) hx hb dX12_transform_27 (by decide) ?_
      obtain ⟨u_40, hu_40, hF⟩ := lt_some hF
      have hPc := hP.sub (ws' := ([] : va_W)) [] rfl
      have hDc := hD.sub (ws' := ([] : va_W)) [] rfl rfl
      refine q_callz (wc := ([] : va_W)) (w1 := ([] : va_W)) (ws' := (wd_X12_transform cI a0 v0_2 v0_3 v0_5 v0_12 v0_13 v0_16 v0_17 v0_21 v0_23 v0_24 v0_25 v0_26 v0_29 v0_30 v0_0 v0_1)) hP hD hS hA [] [0, 1, 2] [0, 1, 2] rfl rfl rfl (by decide) rfl rfl (va_runS (As := [.int p3, .int (-200), .int 200]) (rest := [.ref (a0 0)]) ⟨hx, hb, hml, hown, hta⟩ (c_X12_within l dC dI cI H.size p3 (-200) 200 u_40 hu_40.symm) (va_cwS 3 hta (ga_S mA812 mA813 mA814 mA810) rfl rfl rfl (by decide +kernel) ⟨Nat.le_of_ble_eq_true rfl, Nat.le_of_ble_eq_true rfl⟩) ⟨q_fb, q_ps hPc hK hDc⟩ rfl rfl hl.1 rfl (lv_room (Nat.le_of_ble_eq_true rfl)) dX12_transform_30 ⟨Nat.zero_le _, Nat.zero_le _⟩) (fun hzu_40 H locs hP hD hS => ?_)
      refine lv_if_eq (tgt := 40) hx hb dX12_transform_33 (by decide) (fun c_41 => ?_) (fun c_41 => ?_)
      · have hF := it_t hF c_41
        exact j40 v0_2 v0_3 v0_0 v0_1 p1 p2 p3 hF _ _ _ hP hD hS (lv_sub hl [0, 1, 2, 3] rfl)
      · have hF := it_f hF c_41
        refine lv_iconst (v := 0) hx hb dX12_transform_36 (by decide) ?_
        refine lv_goto (tgt := 41) hx hb dX12_transform_37 (by decide) ?_
        exact j41 v0_2 v0_3 v0_0 v0_1 p1 p2 p3 0 hF _ _ _ hP hD hS (lv_sub hl [0, 1, 2, 3] rfl)

-- StrokeOutlinerModel.subpaths()I
def F_X12_subpaths (v0_0 : Nat → Int32) : Option (Int32 × Int32) :=
  gd (decide (vpi 13 86)) (some ((v0_0 (13 : Int32).toNatClampNeg), 0))
abbrev wd_X12_subpaths (cI : ClassId) (a0 : Nat → Nat) (v0_2 : Int32) (v0_3 : Int32) (v0_5 : Int32) (v0_12 : Int32) (v0_13 : Int32) (v0_16 : Int32) (v0_17 : Int32) (v0_21 : Int32) (v0_23 : Int32) (v0_24 : Int32) (v0_25 : Int32) (v0_26 : Int32) (v0_29 : Int32) (v0_30 : Int64) (v0_0 : Nat → Int32) : va_W := [(a0 0, .inr (11, [.ref (a0 1), .ref (a0 2), .int v0_2, .int v0_3, .ref (a0 5), .int v0_5, .ref (a0 7), .ref (a0 8), .ref (a0 9), .ref (a0 10), .ref (a0 11), .ref (a0 12), .int v0_12, .int v0_13, .ref (a0 15), .ref (a0 16), .int v0_16, .int v0_17, .ref (a0 19), .ref (a0 20), .ref (a0 21), .int v0_21, .ref (a0 23), .int v0_23, .int v0_24, .int v0_25, .int v0_26, .ref (a0 28), .ref (a0 29), .int v0_29, .long v0_30])), (a0 1, .inl (cI, 86, .inl v0_0))]
abbrev wz_X12_subpaths : List Cond := .code yX12_subpaths cX12_subpaths 1 (some .int) :: wALL
abbrev rm_X12_subpaths : Room := { frames := 0, cells := 0, slots := 0, locals := 0 }
abbrev Q_X12_subpaths (dC : Nat → ClassId) (dI : Nat → Nat → Nat) (cI : ClassId) (a0 : Nat → Nat) (v0_2 : Int32) (v0_5 : Int32) (v0_12 : Int32) (v0_13 : Int32) (v0_16 : Int32) (v0_17 : Int32) (v0_21 : Int32) (v0_23 : Int32) (v0_24 : Int32) (v0_25 : Int32) (v0_26 : Int32) (v0_29 : Int32) (v0_30 : Int64) (v0_0 : Nat → Int32) (u : (Int32 × Int32)) (A : Nat → Prop) : Array Value → State → Outcome → State → Prop := va_Qi (fun (r : Int32) (_ : Unit) => r = u.1) (fun _ => q_at dC dI cI A (wd_X12_subpaths cI a0 v0_2 u.2 v0_5 v0_12 v0_13 v0_16 v0_17 v0_21 v0_23 v0_24 v0_25 v0_26 v0_29 v0_30 v0_0)) A
set_option maxHeartbeats 4000000 in
set_option maxRecDepth 100000 in
theorem c_X12_subpaths (l : Launch) (dC : Nat → ClassId) (dI : Nat → Nat → Nat) (cI : ClassId) (sz : Nat) (a0 : Nat → Nat) (v0_2 : Int32) (v0_3 : Int32) (v0_5 : Int32) (v0_12 : Int32) (v0_13 : Int32) (v0_16 : Int32) (v0_17 : Int32) (v0_21 : Int32) (v0_23 : Int32) (v0_24 : Int32) (v0_25 : Int32) (v0_26 : Int32) (v0_29 : Int32) (v0_30 : Int64) (v0_0 : Nat → Int32) (u : (Int32 × Int32)) (hF : F_X12_subpaths v0_0 = some u) : Met l yX12_subpaths wz_X12_subpaths rm_X12_subpaths (va_Pc [.ref (a0 0)] (q_pre dC dI cI (wd_X12_subpaths cI a0 v0_2 v0_3 v0_5 v0_12 v0_13 v0_16 v0_17 v0_21 v0_23 v0_24 v0_25 v0_26 v0_29 v0_30 v0_0) sz)) (Q_X12_subpaths dC dI cI a0 v0_2 v0_5 v0_12 v0_13 v0_16 v0_17 v0_21 v0_23 v0_24 v0_25 v0_26 v0_29 v0_30 v0_0 u (va_A (wd_X12_subpaths cI a0 v0_2 v0_3 v0_5 v0_12 v0_13 v0_16 v0_17 v0_21 v0_23 v0_24 v0_25 v0_26 v0_29 v0_30 v0_0) sz)) 0 0 (va_A (wd_X12_subpaths cI a0 v0_2 v0_3 v0_5 v0_12 v0_13 v0_16 v0_17 v0_21 v0_23 v0_24 v0_25 v0_26 v0_29 v0_30 v0_0) sz) := by
  refine Met.ofW (cc := cX12_subpaths) (maxL := 1) (ret := (some .int)) (by decide) rfl ?_
  intro p e s m args below meth c s₁ B hml hv
  obtain ⟨rfl, hsz, hP, hK, hD0⟩ := hv
  have hx := B.exec
  have hb := B.bytes
  have hr := B.returns
  have hts := atoms_spec (ws := wz_X12_subpaths) B.pre
  have hta := wz_tl hts
  have hown : s.vm.findClass RX12 = some m.cls := findClass_of_methodNamed B.named
  have hlocks := B.notSynchronized
  subst hsz
  have hD := hD0.self (sz := s.heap.size)
  generalize hAe : va_A (wd_X12_subpaths cI a0 v0_2 v0_3 v0_5 v0_12 v0_13 v0_16 v0_17 v0_21 v0_23 v0_24 v0_25 v0_26 v0_29 v0_30 v0_0) s.heap.size = A at hD ⊢
  have hA : ∀ q : Nat, s.heap.size ≤ q → A q := fun q h => by rw [← hAe]; exact Or.inr h
  have hS : va_S A s.heap s.heap [] := va_S.rf
  have hP : va_P (dC, dI) vwCl (wd_X12_subpaths cI a0 v0_2 v0_3 v0_5 v0_12 v0_13 v0_16 v0_17 v0_21 v0_23 v0_24 v0_25 v0_26 v0_29 v0_30 v0_0) s.heap := hP
  have hl := lv_entry ([.ref (a0 0)]) (n := 1) (Nat.le_of_ble_eq_true rfl)
  rw [lg_entry_eq]
  generalize (lg_sl ([.ref (a0 0)]) ++ List.replicate (1 - (lg_sl ([.ref (a0 0)])).length) Slot.unset).toArray = ls at hl ⊢
  have hl : lv_has ls 1 [(0, .ref (a0 0))] := hl
  obtain ⟨H, hHe⟩ : ∃ H, H = s.heap := ⟨_, rfl⟩
  have hS : va_S A s.heap H [] := by rw [hHe]; exact hS
  have hP : va_P (dC, dI) vwCl (wd_X12_subpaths cI a0 v0_2 v0_3 v0_5 v0_12 v0_13 v0_16 v0_17 v0_21 v0_23 v0_24 v0_25 v0_26 v0_29 v0_30 v0_0) H := by rw [hHe]; exact hP
  rw [← hHe]
  unfold F_X12_subpaths at hF
  refine lv_aload_n hx hb dX12_subpaths_0 rfl (lv_at hl 0 rfl) ?_
  refine lv_iconst (v := 0) hx hb dX12_subpaths_1 (by decide) ?_
  refine va_put (D := (dC, dI)) (ci := 11) (v := .int 0) (ty := .int) (C := RX12) (T := TX12) (N := 31) hx hb hta uw_X12 tyX12 tyX12_ok nmX12 hown hK hP hD hS 0 rfl rfl 3 (by decide) (hta _ mA808) (fun _ h9 => h9) rfl (by decide +kernel) rfl rfl (Nat.le_of_ble_eq_true rfl) dX12_subpaths_2 (fun H locs hP hD hS => ?_)
  have hP : va_P (dC, dI) vwCl (wd_X12_subpaths cI a0 v0_2 0 v0_5 v0_12 v0_13 v0_16 v0_17 v0_21 v0_23 v0_24 v0_25 v0_26 v0_29 v0_30 v0_0) H := hP
  have hD : va_D A (wd_X12_subpaths cI a0 v0_2 0 v0_5 v0_12 v0_13 v0_16 v0_17 v0_21 v0_23 v0_24 v0_25 v0_26 v0_29 v0_30 v0_0) := hD
  refine lv_aload_n hx hb dX12_subpaths_5 rfl (lv_at hl 0 rfl) ?_
  refine va_get (D := (dC, dI)) (ci := 11) (v := .ref (a0 1)) (C := RX12) (T := TX12) (N := 31) hx hb hta uw_X12 hown hK hP 0 rfl rfl 0 (by decide) (hta _ mA790) (fun _ h9 => h9) rfl dX12_subpaths_6 ?_
  refine lv_bipush (v := 13) hx hb dX12_subpaths_9 (by decide) ?_
  obtain ⟨g_1, hF⟩ := gd_some hF
  refine va_iald hx hb hK hP 1 0 rfl rfl (vpi_in g_1) dX12_subpaths_11 ?_
  obtain rfl := Option.some.inj hF
  exact W.iret (v := (v0_0 (13 : Int32).toNatClampNeg)) hx hb hr (fun t ht hW => ⟨⟨(v0_0 (13 : Int32).toNatClampNeg), (), rfl, rfl, by rw [ht]; exact hP, va_K.moved hW.alike hK, hD⟩, hS.F ht⟩) hS.2.2 dX12_subpaths_12

-- StrokeOutlinerModel.alongX(II)I
def F_X12_alongX (v0_6 : Nat → Int32) (v0_8 : Nat → Int32) (v0_10 : Nat → Int32) (p1 : Int32) (p2 : Int32) : Option (Int32) :=
  gd (decide (vpi p1 8)) (gd (decide (vpi p1 8)) (gd (decide (vpi p1 8)) (obd (F_X12_round ((64 * (v0_6 p1.toNatClampNeg).toInt64) * p2.toInt64) ((v0_10 p1.toNatClampNeg).toInt64)) (fun u_4 => some ((64 * (v0_8 p1.toNatClampNeg)) + u_4)))))
abbrev wd_X12_alongX (cI : ClassId) (a0 : Nat → Nat) (v0_2 : Int32) (v0_3 : Int32) (v0_5 : Int32) (v0_12 : Int32) (v0_13 : Int32) (v0_16 : Int32) (v0_17 : Int32) (v0_21 : Int32) (v0_23 : Int32) (v0_24 : Int32) (v0_25 : Int32) (v0_26 : Int32) (v0_29 : Int32) (v0_30 : Int64) (v0_6 : Nat → Int32) (v0_8 : Nat → Int32) (v0_10 : Nat → Int32) : va_W := [(a0 0, .inr (11, [.ref (a0 1), .ref (a0 2), .int v0_2, .int v0_3, .ref (a0 5), .int v0_5, .ref (a0 7), .ref (a0 8), .ref (a0 9), .ref (a0 10), .ref (a0 11), .ref (a0 12), .int v0_12, .int v0_13, .ref (a0 15), .ref (a0 16), .int v0_16, .int v0_17, .ref (a0 19), .ref (a0 20), .ref (a0 21), .int v0_21, .ref (a0 23), .int v0_23, .int v0_24, .int v0_25, .int v0_26, .ref (a0 28), .ref (a0 29), .int v0_29, .long v0_30])), (a0 7, .inl (cI, 8, .inl v0_6)), (a0 9, .inl (cI, 8, .inl v0_8)), (a0 11, .inl (cI, 8, .inl v0_10))]
abbrev wz_X12_alongX : List Cond := .code yX12_alongX cX12_alongX 3 (some .int) :: wALL
abbrev rm_X12_alongX : Room := { frames := 1, cells := 0, slots := 0, locals := 27 }
abbrev Q_X12_alongX (dC : Nat → ClassId) (dI : Nat → Nat → Nat) (cI : ClassId) (a0 : Nat → Nat) (v0_2 : Int32) (v0_3 : Int32) (v0_5 : Int32) (v0_12 : Int32) (v0_13 : Int32) (v0_16 : Int32) (v0_17 : Int32) (v0_21 : Int32) (v0_23 : Int32) (v0_24 : Int32) (v0_25 : Int32) (v0_26 : Int32) (v0_29 : Int32) (v0_30 : Int64) (v0_6 : Nat → Int32) (v0_8 : Nat → Int32) (v0_10 : Nat → Int32) (u : (Int32)) (A : Nat → Prop) : Array Value → State → Outcome → State → Prop := va_Qi (fun (r : Int32) (_ : Unit) => r = u) (fun _ => q_at dC dI cI A (wd_X12_alongX cI a0 v0_2 v0_3 v0_5 v0_12 v0_13 v0_16 v0_17 v0_21 v0_23 v0_24 v0_25 v0_26 v0_29 v0_30 v0_6 v0_8 v0_10)) A
set_option maxHeartbeats 4000000 in
set_option maxRecDepth 100000 in
theorem c_X12_alongX (l : Launch) (dC : Nat → ClassId) (dI : Nat → Nat → Nat) (cI : ClassId) (sz : Nat) (a0 : Nat → Nat) (v0_2 : Int32) (v0_3 : Int32) (v0_5 : Int32) (v0_12 : Int32) (v0_13 : Int32) (v0_16 : Int32) (v0_17 : Int32) (v0_21 : Int32) (v0_23 : Int32) (v0_24 : Int32) (v0_25 : Int32) (v0_26 : Int32) (v0_29 : Int32) (v0_30 : Int64) (v0_6 : Nat → Int32) (v0_8 : Nat → Int32) (v0_10 : Nat → Int32) (p1 : Int32) (p2 : Int32) (u : (Int32)) (hF : F_X12_alongX v0_6 v0_8 v0_10 p1 p2 = some u) : Met l yX12_alongX wz_X12_alongX rm_X12_alongX (va_Pc [.ref (a0 0), .int p1, .int p2] (q_pre dC dI cI (wd_X12_alongX cI a0 v0_2 v0_3 v0_5 v0_12 v0_13 v0_16 v0_17 v0_21 v0_23 v0_24 v0_25 v0_26 v0_29 v0_30 v0_6 v0_8 v0_10) sz)) (Q_X12_alongX dC dI cI a0 v0_2 v0_3 v0_5 v0_12 v0_13 v0_16 v0_17 v0_21 v0_23 v0_24 v0_25 v0_26 v0_29 v0_30 v0_6 v0_8 v0_10 u (va_A (wd_X12_alongX cI a0 v0_2 v0_3 v0_5 v0_12 v0_13 v0_16 v0_17 v0_21 v0_23 v0_24 v0_25 v0_26 v0_29 v0_30 v0_6 v0_8 v0_10) sz)) 0 0 (va_A (wd_X12_alongX cI a0 v0_2 v0_3 v0_5 v0_12 v0_13 v0_16 v0_17 v0_21 v0_23 v0_24 v0_25 v0_26 v0_29 v0_30 v0_6 v0_8 v0_10) sz) := by
  refine Met.ofW (cc := cX12_alongX) (maxL := 3) (ret := (some .int)) (by decide) rfl ?_
  intro p e s m args below meth c s₁ B hml hv
  obtain ⟨rfl, hsz, hP, hK, hD0⟩ := hv
  have hx := B.exec
  have hb := B.bytes
  have hr := B.returns
  have hts := atoms_spec (ws := wz_X12_alongX) B.pre
  have hta := wz_tl hts
  have hown : s.vm.findClass RX12 = some m.cls := findClass_of_methodNamed B.named
  have hlocks := B.notSynchronized
  subst hsz
  have hD := hD0.self (sz := s.heap.size)
  generalize hAe : va_A (wd_X12_alongX cI a0 v0_2 v0_3 v0_5 v0_12 v0_13 v0_16 v0_17 v0_21 v0_23 v0_24 v0_25 v0_26 v0_29 v0_30 v0_6 v0_8 v0_10) s.heap.size = A at hD ⊢
  have hA : ∀ q : Nat, s.heap.size ≤ q → A q := fun q h => by rw [← hAe]; exact Or.inr h
  have hS : va_S A s.heap s.heap [] := va_S.rf
  have hP : va_P (dC, dI) vwCl (wd_X12_alongX cI a0 v0_2 v0_3 v0_5 v0_12 v0_13 v0_16 v0_17 v0_21 v0_23 v0_24 v0_25 v0_26 v0_29 v0_30 v0_6 v0_8 v0_10) s.heap := hP
  have hl := lv_entry ([.ref (a0 0), .int p1, .int p2]) (n := 3) (Nat.le_of_ble_eq_true rfl)
  rw [lg_entry_eq]
  generalize (lg_sl ([.ref (a0 0), .int p1, .int p2]) ++ List.replicate (3 - (lg_sl ([.ref (a0 0), .int p1, .int p2])).length) Slot.unset).toArray = ls at hl ⊢
  have hl : lv_has ls 3 [(0, .ref (a0 0)), (1, .int p1), (2, .int p2)] := hl
  obtain ⟨H, hHe⟩ : ∃ H, H = s.heap := ⟨_, rfl⟩
  have hS : va_S A s.heap H [] := by rw [hHe]; exact hS
  have hP : va_P (dC, dI) vwCl (wd_X12_alongX cI a0 v0_2 v0_3 v0_5 v0_12 v0_13 v0_16 v0_17 v0_21 v0_23 v0_24 v0_25 v0_26 v0_29 v0_30 v0_6 v0_8 v0_10) H := by rw [hHe]; exact hP
  rw [← hHe]
  unfold F_X12_alongX at hF
  refine lv_bipush (v := 64) hx hb dX12_alongX_0 (by decide) ?_
  refine lv_aload_n hx hb dX12_alongX_2 rfl (lv_at hl 0 rfl) ?_
  refine va_get (D := (dC, dI)) (ci := 11) (v := .ref (a0 9)) (C := RX12) (T := TX12) (N := 31) hx hb hta uw_X12 hown hK hP 0 rfl rfl 8 (by decide) (hta _ mA795) (fun _ h9 => h9) rfl dX12_alongX_3 ?_
  refine lv_iload_n hx hb dX12_alongX_6 rfl (lv_at hl 1 rfl) ?_
  obtain ⟨g_1, hF⟩ := gd_some hF
  refine va_iald hx hb hK hP 2 0 rfl rfl (vpi_in g_1) dX12_alongX_7 ?_
  refine lv_imul hx hb dX12_alongX_8 ?_
  refine lv_ldc2 (v := 64) hx hb hown (hta _ mA901) dX12_alongX_9 ?_
  refine lv_aload_n hx hb dX12_alongX_12 rfl (lv_at hl 0 rfl) ?_
  refine va_get (D := (dC, dI)) (ci := 11) (v := .ref (a0 7)) (C := RX12) (T := TX12) (N := 31) hx hb hta uw_X12 hown hK hP 0 rfl rfl 6 (by decide) (hta _ mA793) (fun _ h9 => h9) rfl dX12_alongX_13 ?_
  refine lv_iload_n hx hb dX12_alongX_16 rfl (lv_at hl 1 rfl) ?_
  obtain ⟨g_2, hF⟩ := gd_some hF
  refine va_iald hx hb hK hP 1 0 rfl rfl (vpi_in g_2) dX12_alongX_17 ?_
  refine lv_i2l hx hb dX12_alongX_18 rfl ?_
  refine lv_lmul hx hb dX12_alongX_19 ?_
  refine lv_iload_n hx hb dX12_alongX_20 rfl (lv_at hl 2 rfl) ?_
  refine lv_i2l hx hb dX12_alongX_21 rfl ?_
  refine lv_lmul hx hb dX12_alongX_22 ?_
  refine lv_aload_n hx hb dX12_alongX_23 rfl (lv_at hl 0 rfl) ?_
  refine va_get (D := (dC, dI)) (ci := 11) (v := .ref (a0 11)) (C := RX12) (T := TX12) (N := 31) hx hb hta uw_X12 hown hK hP 0 rfl rfl 10 (by decide) (hta _ mA797) (fun _ h9 => h9) rfl dX12_alongX_24 ?_
  refine lv_iload_n hx hb dX12_alongX_27 rfl (lv_at hl 1 rfl) ?_
  obtain ⟨g_3, hF⟩ := gd_some hF
  refine va_iald hx hb hK hP 3 0 rfl rfl (vpi_in g_3) dX12_alongX_28 ?_
  refine lv_i2l hx hb dX12_alongX_29 rfl ?_
  obtain ⟨u_4, hu_4, hF⟩ := obd_some hF
  have hPc := hP.sub (ws' := ([] : va_W)) [] rfl
  have hDc := hD.sub (ws' := ([] : va_W)) [] rfl rfl
  refine q_calli (wc := ([] : va_W)) (w1 := ([] : va_W)) (ws' := (wd_X12_alongX cI a0 v0_2 v0_3 v0_5 v0_12 v0_13 v0_16 v0_17 v0_21 v0_23 v0_24 v0_25 v0_26 v0_29 v0_30 v0_6 v0_8 v0_10)) hP hD hS hA [] [0, 1, 2, 3] [0, 1, 2, 3] rfl rfl rfl (by decide) rfl rfl (va_runS (As := [.long ((64 * (v0_6 p1.toNatClampNeg).toInt64) * p2.toInt64), .long ((v0_10 p1.toNatClampNeg).toInt64)]) (rest := [.int (64 * (v0_8 p1.toNatClampNeg))]) ⟨hx, hb, hml, hown, hta⟩ (c_X12_round l dC dI cI H.size ((64 * (v0_6 p1.toNatClampNeg).toInt64) * p2.toInt64) ((v0_10 p1.toNatClampNeg).toInt64) u_4 hu_4) (va_cwS 2 hta (ga_S mA902 mA903 mA814 mA815) rfl rfl rfl (by decide +kernel) ⟨Nat.le_of_ble_eq_true rfl, Nat.le_of_ble_eq_true rfl⟩) ⟨q_fb, q_ps hPc hK hDc⟩ rfl rfl hl.1 rfl (lv_room (Nat.le_of_ble_eq_true rfl)) dX12_alongX_30 ⟨Nat.zero_le _, Nat.zero_le _⟩) (fun H locs hP hD hS => ?_)
  refine lv_iadd hx hb dX12_alongX_33 ?_
  obtain rfl := Option.some.inj hF
  exact W.iret (v := ((64 * (v0_8 p1.toNatClampNeg)) + u_4)) hx hb hr (fun t ht hW => ⟨⟨((64 * (v0_8 p1.toNatClampNeg)) + u_4), (), rfl, rfl, by rw [ht]; exact hP, va_K.moved hW.alike hK, hD⟩, hS.F ht⟩) hS.2.2 dX12_alongX_34

-- StrokeOutlinerModel.alongY(II)I
def F_X12_alongY (v0_7 : Nat → Int32) (v0_9 : Nat → Int32) (v0_10 : Nat → Int32) (p1 : Int32) (p2 : Int32) : Option (Int32) :=
  gd (decide (vpi p1 8)) (gd (decide (vpi p1 8)) (gd (decide (vpi p1 8)) (obd (F_X12_round ((64 * (v0_7 p1.toNatClampNeg).toInt64) * p2.toInt64) ((v0_10 p1.toNatClampNeg).toInt64)) (fun u_4 => some ((64 * (v0_9 p1.toNatClampNeg)) + u_4)))))
abbrev wd_X12_alongY (cI : ClassId) (a0 : Nat → Nat) (v0_2 : Int32) (v0_3 : Int32) (v0_5 : Int32) (v0_12 : Int32) (v0_13 : Int32) (v0_16 : Int32) (v0_17 : Int32) (v0_21 : Int32) (v0_23 : Int32) (v0_24 : Int32) (v0_25 : Int32) (v0_26 : Int32) (v0_29 : Int32) (v0_30 : Int64) (v0_7 : Nat → Int32) (v0_9 : Nat → Int32) (v0_10 : Nat → Int32) : va_W := [(a0 0, .inr (11, [.ref (a0 1), .ref (a0 2), .int v0_2, .int v0_3, .ref (a0 5), .int v0_5, .ref (a0 7), .ref (a0 8), .ref (a0 9), .ref (a0 10), .ref (a0 11), .ref (a0 12), .int v0_12, .int v0_13, .ref (a0 15), .ref (a0 16), .int v0_16, .int v0_17, .ref (a0 19), .ref (a0 20), .ref (a0 21), .int v0_21, .ref (a0 23), .int v0_23, .int v0_24, .int v0_25, .int v0_26, .ref (a0 28), .ref (a0 29), .int v0_29, .long v0_30])), (a0 8, .inl (cI, 8, .inl v0_7)), (a0 10, .inl (cI, 8, .inl v0_9)), (a0 11, .inl (cI, 8, .inl v0_10))]
abbrev wz_X12_alongY : List Cond := .code yX12_alongY cX12_alongY 3 (some .int) :: wALL
abbrev rm_X12_alongY : Room := { frames := 1, cells := 0, slots := 0, locals := 27 }
abbrev Q_X12_alongY (dC : Nat → ClassId) (dI : Nat → Nat → Nat) (cI : ClassId) (a0 : Nat → Nat) (v0_2 : Int32) (v0_3 : Int32) (v0_5 : Int32) (v0_12 : Int32) (v0_13 : Int32) (v0_16 : Int32) (v0_17 : Int32) (v0_21 : Int32) (v0_23 : Int32) (v0_24 : Int32) (v0_25 : Int32) (v0_26 : Int32) (v0_29 : Int32) (v0_30 : Int64) (v0_7 : Nat → Int32) (v0_9 : Nat → Int32) (v0_10 : Nat → Int32) (u : (Int32)) (A : Nat → Prop) : Array Value → State → Outcome → State → Prop := va_Qi (fun (r : Int32) (_ : Unit) => r = u) (fun _ => q_at dC dI cI A (wd_X12_alongY cI a0 v0_2 v0_3 v0_5 v0_12 v0_13 v0_16 v0_17 v0_21 v0_23 v0_24 v0_25 v0_26 v0_29 v0_30 v0_7 v0_9 v0_10)) A
set_option maxHeartbeats 4000000 in
set_option maxRecDepth 100000 in
theorem c_X12_alongY (l : Launch) (dC : Nat → ClassId) (dI : Nat → Nat → Nat) (cI : ClassId) (sz : Nat) (a0 : Nat → Nat) (v0_2 : Int32) (v0_3 : Int32) (v0_5 : Int32) (v0_12 : Int32) (v0_13 : Int32) (v0_16 : Int32) (v0_17 : Int32) (v0_21 : Int32) (v0_23 : Int32) (v0_24 : Int32) (v0_25 : Int32) (v0_26 : Int32) (v0_29 : Int32) (v0_30 : Int64) (v0_7 : Nat → Int32) (v0_9 : Nat → Int32) (v0_10 : Nat → Int32) (p1 : Int32) (p2 : Int32) (u : (Int32)) (hF : F_X12_alongY v0_7 v0_9 v0_10 p1 p2 = some u) : Met l yX12_alongY wz_X12_alongY rm_X12_alongY (va_Pc [.ref (a0 0), .int p1, .int p2] (q_pre dC dI cI (wd_X12_alongY cI a0 v0_2 v0_3 v0_5 v0_12 v0_13 v0_16 v0_17 v0_21 v0_23 v0_24 v0_25 v0_26 v0_29 v0_30 v0_7 v0_9 v0_10) sz)) (Q_X12_alongY dC dI cI a0 v0_2 v0_3 v0_5 v0_12 v0_13 v0_16 v0_17 v0_21 v0_23 v0_24 v0_25 v0_26 v0_29 v0_30 v0_7 v0_9 v0_10 u (va_A (wd_X12_alongY cI a0 v0_2 v0_3 v0_5 v0_12 v0_13 v0_16 v0_17 v0_21 v0_23 v0_24 v0_25 v0_26 v0_29 v0_30 v0_7 v0_9 v0_10) sz)) 0 0 (va_A (wd_X12_alongY cI a0 v0_2 v0_3 v0_5 v0_12 v0_13 v0_16 v0_17 v0_21 v0_23 v0_24 v0_25 v0_26 v0_29 v0_30 v0_7 v0_9 v0_10) sz) := by
  refine Met.ofW (cc := cX12_alongY) (maxL := 3) (ret := (some .int)) (by decide) rfl ?_
  intro p e s m args below meth c s₁ B hml hv
  obtain ⟨rfl, hsz, hP, hK, hD0⟩ := hv
  have hx := B.exec
  have hb := B.bytes
  have hr := B.returns
  have hts := atoms_spec (ws := wz_X12_alongY) B.pre
  have hta := wz_tl hts
  have hown : s.vm.findClass RX12 = some m.cls := findClass_of_methodNamed B.named
  have hlocks := B.notSynchronized
  subst hsz
  have hD := hD0.self (sz := s.heap.size)
  generalize hAe : va_A (wd_X12_alongY cI a0 v0_2 v0_3 v0_5 v0_12 v0_13 v0_16 v0_17 v0_21 v0_23 v0_24 v0_25 v0_26 v0_29 v0_30 v0_7 v0_9 v0_10) s.heap.size = A at hD ⊢
  have hA : ∀ q : Nat, s.heap.size ≤ q → A q := fun q h => by rw [← hAe]; exact Or.inr h
  have hS : va_S A s.heap s.heap [] := va_S.rf
  have hP : va_P (dC, dI) vwCl (wd_X12_alongY cI a0 v0_2 v0_3 v0_5 v0_12 v0_13 v0_16 v0_17 v0_21 v0_23 v0_24 v0_25 v0_26 v0_29 v0_30 v0_7 v0_9 v0_10) s.heap := hP
  have hl := lv_entry ([.ref (a0 0), .int p1, .int p2]) (n := 3) (Nat.le_of_ble_eq_true rfl)
  rw [lg_entry_eq]
  generalize (lg_sl ([.ref (a0 0), .int p1, .int p2]) ++ List.replicate (3 - (lg_sl ([.ref (a0 0), .int p1, .int p2])).length) Slot.unset).toArray = ls at hl ⊢
  have hl : lv_has ls 3 [(0, .ref (a0 0)), (1, .int p1), (2, .int p2)] := hl
  obtain ⟨H, hHe⟩ : ∃ H, H = s.heap := ⟨_, rfl⟩
  have hS : va_S A s.heap H [] := by rw [hHe]; exact hS
  have hP : va_P (dC, dI) vwCl (wd_X12_alongY cI a0 v0_2 v0_3 v0_5 v0_12 v0_13 v0_16 v0_17 v0_21 v0_23 v0_24 v0_25 v0_26 v0_29 v0_30 v0_7 v0_9 v0_10) H := by rw [hHe]; exact hP
  rw [← hHe]
  unfold F_X12_alongY at hF
  refine lv_bipush (v := 64) hx hb dX12_alongY_0 (by decide) ?_
  refine lv_aload_n hx hb dX12_alongY_2 rfl (lv_at hl 0 rfl) ?_
  refine va_get (D := (dC, dI)) (ci := 11) (v := .ref (a0 10)) (C := RX12) (T := TX12) (N := 31) hx hb hta uw_X12 hown hK hP 0 rfl rfl 9 (by decide) (hta _ mA796) (fun _ h9 => h9) rfl dX12_alongY_3 ?_
  refine lv_iload_n hx hb dX12_alongY_6 rfl (lv_at hl 1 rfl) ?_
  obtain ⟨g_1, hF⟩ := gd_some hF
  refine va_iald hx hb hK hP 2 0 rfl rfl (vpi_in g_1) dX12_alongY_7 ?_
  refine lv_imul hx hb dX12_alongY_8 ?_
  refine lv_ldc2 (v := 64) hx hb hown (hta _ mA901) dX12_alongY_9 ?_
  refine lv_aload_n hx hb dX12_alongY_12 rfl (lv_at hl 0 rfl) ?_
  refine va_get (D := (dC, dI)) (ci := 11) (v := .ref (a0 8)) (C := RX12) (T := TX12) (N := 31) hx hb hta uw_X12 hown hK hP 0 rfl rfl 7 (by decide) (hta _ mA794) (fun _ h9 => h9) rfl dX12_alongY_13 ?_
  refine lv_iload_n hx hb dX12_alongY_16 rfl (lv_at hl 1 rfl) ?_
  obtain ⟨g_2, hF⟩ := gd_some hF
  refine va_iald hx hb hK hP 1 0 rfl rfl (vpi_in g_2) dX12_alongY_17 ?_
  refine lv_i2l hx hb dX12_alongY_18 rfl ?_
  refine lv_lmul hx hb dX12_alongY_19 ?_
  refine lv_iload_n hx hb dX12_alongY_20 rfl (lv_at hl 2 rfl) ?_
  refine lv_i2l hx hb dX12_alongY_21 rfl ?_
  refine lv_lmul hx hb dX12_alongY_22 ?_
  refine lv_aload_n hx hb dX12_alongY_23 rfl (lv_at hl 0 rfl) ?_
  refine va_get (D := (dC, dI)) (ci := 11) (v := .ref (a0 11)) (C := RX12) (T := TX12) (N := 31) hx hb hta uw_X12 hown hK hP 0 rfl rfl 10 (by decide) (hta _ mA797) (fun _ h9 => h9) rfl dX12_alongY_24 ?_
  refine lv_iload_n hx hb dX12_alongY_27 rfl (lv_at hl 1 rfl) ?_
  obtain ⟨g_3, hF⟩ := gd_some hF
  refine va_iald hx hb hK hP 3 0 rfl rfl (vpi_in g_3) dX12_alongY_28 ?_
  refine lv_i2l hx hb dX12_alongY_29 rfl ?_
  obtain ⟨u_4, hu_4, hF⟩ := obd_some hF
  have hPc := hP.sub (ws' := ([] : va_W)) [] rfl
  have hDc := hD.sub (ws' := ([] : va_W)) [] rfl rfl
  refine q_calli (wc := ([] : va_W)) (w1 := ([] : va_W)) (ws' := (wd_X12_alongY cI a0 v0_2 v0_3 v0_5 v0_12 v0_13 v0_16 v0_17 v0_21 v0_23 v0_24 v0_25 v0_26 v0_29 v0_30 v0_7 v0_9 v0_10)) hP hD hS hA [] [0, 1, 2, 3] [0, 1, 2, 3] rfl rfl rfl (by decide) rfl rfl (va_runS (As := [.long ((64 * (v0_7 p1.toNatClampNeg).toInt64) * p2.toInt64), .long ((v0_10 p1.toNatClampNeg).toInt64)]) (rest := [.int (64 * (v0_9 p1.toNatClampNeg))]) ⟨hx, hb, hml, hown, hta⟩ (c_X12_round l dC dI cI H.size ((64 * (v0_7 p1.toNatClampNeg).toInt64) * p2.toInt64) ((v0_10 p1.toNatClampNeg).toInt64) u_4 hu_4) (va_cwS 2 hta (ga_S mA902 mA903 mA814 mA815) rfl rfl rfl (by decide +kernel) ⟨Nat.le_of_ble_eq_true rfl, Nat.le_of_ble_eq_true rfl⟩) ⟨q_fb, q_ps hPc hK hDc⟩ rfl rfl hl.1 rfl (lv_room (Nat.le_of_ble_eq_true rfl)) dX12_alongY_30 ⟨Nat.zero_le _, Nat.zero_le _⟩) (fun H locs hP hD hS => ?_)
  refine lv_iadd hx hb dX12_alongY_33 ?_
  obtain rfl := Option.some.inj hF
  exact W.iret (v := ((64 * (v0_9 p1.toNatClampNeg)) + u_4)) hx hb hr (fun t ht hW => ⟨⟨((64 * (v0_9 p1.toNatClampNeg)) + u_4), (), rfl, rfl, by rw [ht]; exact hP, va_K.moved hW.alike hK, hD⟩, hS.F ht⟩) hS.2.2 dX12_alongY_34

-- StrokeOutlinerModel.tellSubpath(II)I
def F_X12_tellSubpath (n : Nat) (v0_0 : Nat → Int32) (v0_6 : Nat → Int32) (v0_7 : Nat → Int32) (v0_8 : Nat → Int32) (v0_9 : Nat → Int32) (v0_10 : Nat → Int32) (v0_11 : Nat → Int32) (p1 : Int32) (p2 : Int32) : Option (Int32 × Int32 × Int32 × (Nat → Int32) × (Nat → Int32) × (Nat → Int32) × (Nat → Int32) × (Nat → Int32) × (Nat → Int32)) :=
  obd (F_X12_laysSegments n v0_0 v0_6 v0_7 v0_8 v0_9 v0_10 v0_11 p1) (fun u_1 => if p2 = 0 then obd (F_X12_points v0_0 p1) (fun u_8 => some (u_8, u_1.1, u_1.2.1, u_1.2.2.1, u_1.2.2.2.1, u_1.2.2.2.2.1, u_1.2.2.2.2.2.1, u_1.2.2.2.2.2.2.1, u_1.2.2.2.2.2.2.2)) else if p2 = 1 then lt (F_X12_at p1) (fun u_5 => lt (u_5 + 1) (fun y_6 => gd (decide (vpi y_6 86)) (some ((v0_0 y_6.toNatClampNeg), u_1.1, u_1.2.1, u_1.2.2.1, u_1.2.2.2.1, u_1.2.2.2.2.1, u_1.2.2.2.2.2.1, u_1.2.2.2.2.2.2.1, u_1.2.2.2.2.2.2.2)))) else if p2 = 2 then some (u_1.1, u_1.1, u_1.2.1, u_1.2.2.1, u_1.2.2.2.1, u_1.2.2.2.2.1, u_1.2.2.2.2.2.1, u_1.2.2.2.2.2.2.1, u_1.2.2.2.2.2.2.2) else some (u_1.2.1, u_1.1, u_1.2.1, u_1.2.2.1, u_1.2.2.2.1, u_1.2.2.2.2.1, u_1.2.2.2.2.2.1, u_1.2.2.2.2.2.2.1, u_1.2.2.2.2.2.2.2))
abbrev wd_X12_tellSubpath (cI : ClassId) (a0 : Nat → Nat) (v0_2 : Int32) (v0_3 : Int32) (v0_5 : Int32) (v0_12 : Int32) (v0_13 : Int32) (v0_16 : Int32) (v0_17 : Int32) (v0_21 : Int32) (v0_23 : Int32) (v0_24 : Int32) (v0_25 : Int32) (v0_26 : Int32) (v0_29 : Int32) (v0_30 : Int64) (v0_0 : Nat → Int32) (v0_6 : Nat → Int32) (v0_7 : Nat → Int32) (v0_8 : Nat → Int32) (v0_9 : Nat → Int32) (v0_10 : Nat → Int32) (v0_11 : Nat → Int32) : va_W := [(a0 0, .inr (11, [.ref (a0 1), .ref (a0 2), .int v0_2, .int v0_3, .ref (a0 5), .int v0_5, .ref (a0 7), .ref (a0 8), .ref (a0 9), .ref (a0 10), .ref (a0 11), .ref (a0 12), .int v0_12, .int v0_13, .ref (a0 15), .ref (a0 16), .int v0_16, .int v0_17, .ref (a0 19), .ref (a0 20), .ref (a0 21), .int v0_21, .ref (a0 23), .int v0_23, .int v0_24, .int v0_25, .int v0_26, .ref (a0 28), .ref (a0 29), .int v0_29, .long v0_30])), (a0 1, .inl (cI, 86, .inl v0_0)), (a0 7, .inl (cI, 8, .inl v0_6)), (a0 8, .inl (cI, 8, .inl v0_7)), (a0 9, .inl (cI, 8, .inl v0_8)), (a0 10, .inl (cI, 8, .inl v0_9)), (a0 11, .inl (cI, 8, .inl v0_10)), (a0 12, .inl (cI, 8, .inl v0_11))]
abbrev wz_X12_tellSubpath : List Cond := .code yX12_tellSubpath cX12_tellSubpath 3 (some .int) :: wALL
abbrev rm_X12_tellSubpath : Room := { frames := 3, cells := 0, slots := 0, locals := 68 }
abbrev Q_X12_tellSubpath (dC : Nat → ClassId) (dI : Nat → Nat → Nat) (cI : ClassId) (a0 : Nat → Nat) (v0_2 : Int32) (v0_3 : Int32) (v0_5 : Int32) (v0_16 : Int32) (v0_17 : Int32) (v0_21 : Int32) (v0_23 : Int32) (v0_24 : Int32) (v0_25 : Int32) (v0_26 : Int32) (v0_29 : Int32) (v0_30 : Int64) (v0_0 : Nat → Int32) (u : (Int32 × Int32 × Int32 × (Nat → Int32) × (Nat → Int32) × (Nat → Int32) × (Nat → Int32) × (Nat → Int32) × (Nat → Int32))) (A : Nat → Prop) : Array Value → State → Outcome → State → Prop := va_Qi (fun (r : Int32) (_ : Unit) => r = u.1) (fun _ => q_at dC dI cI A (wd_X12_tellSubpath cI a0 v0_2 v0_3 v0_5 u.2.1 u.2.2.1 v0_16 v0_17 v0_21 v0_23 v0_24 v0_25 v0_26 v0_29 v0_30 v0_0 u.2.2.2.1 u.2.2.2.2.1 u.2.2.2.2.2.1 u.2.2.2.2.2.2.1 u.2.2.2.2.2.2.2.1 u.2.2.2.2.2.2.2.2)) A
set_option maxHeartbeats 4000000 in
set_option maxRecDepth 100000 in
theorem c_X12_tellSubpath (l : Launch) (dC : Nat → ClassId) (dI : Nat → Nat → Nat) (cI : ClassId) (sz : Nat) (a0 : Nat → Nat) (v0_2 : Int32) (v0_3 : Int32) (v0_5 : Int32) (v0_12 : Int32) (v0_13 : Int32) (v0_16 : Int32) (v0_17 : Int32) (v0_21 : Int32) (v0_23 : Int32) (v0_24 : Int32) (v0_25 : Int32) (v0_26 : Int32) (v0_29 : Int32) (v0_30 : Int64) (v0_0 : Nat → Int32) (v0_6 : Nat → Int32) (v0_7 : Nat → Int32) (v0_8 : Nat → Int32) (v0_9 : Nat → Int32) (v0_10 : Nat → Int32) (v0_11 : Nat → Int32) (p1 : Int32) (p2 : Int32) (n : Nat) (u : (Int32 × Int32 × Int32 × (Nat → Int32) × (Nat → Int32) × (Nat → Int32) × (Nat → Int32) × (Nat → Int32) × (Nat → Int32))) (hF : F_X12_tellSubpath n v0_0 v0_6 v0_7 v0_8 v0_9 v0_10 v0_11 p1 p2 = some u) : Met l yX12_tellSubpath wz_X12_tellSubpath rm_X12_tellSubpath (va_Pc [.ref (a0 0), .int p1, .int p2] (q_pre dC dI cI (wd_X12_tellSubpath cI a0 v0_2 v0_3 v0_5 v0_12 v0_13 v0_16 v0_17 v0_21 v0_23 v0_24 v0_25 v0_26 v0_29 v0_30 v0_0 v0_6 v0_7 v0_8 v0_9 v0_10 v0_11) sz)) (Q_X12_tellSubpath dC dI cI a0 v0_2 v0_3 v0_5 v0_16 v0_17 v0_21 v0_23 v0_24 v0_25 v0_26 v0_29 v0_30 v0_0 u (va_A (wd_X12_tellSubpath cI a0 v0_2 v0_3 v0_5 v0_12 v0_13 v0_16 v0_17 v0_21 v0_23 v0_24 v0_25 v0_26 v0_29 v0_30 v0_0 v0_6 v0_7 v0_8 v0_9 v0_10 v0_11) sz)) 0 0 (va_A (wd_X12_tellSubpath cI a0 v0_2 v0_3 v0_5 v0_12 v0_13 v0_16 v0_17 v0_21 v0_23 v0_24 v0_25 v0_26 v0_29 v0_30 v0_0 v0_6 v0_7 v0_8 v0_9 v0_10 v0_11) sz) := by
  refine Met.ofW (cc := cX12_tellSubpath) (maxL := 3) (ret := (some .int)) (by decide) rfl ?_
  intro p e s m args below meth c s₁ B hml hv
  obtain ⟨rfl, hsz, hP, hK, hD0⟩ := hv
  have hx := B.exec
  have hb := B.bytes
  have hr := B.returns
  have hts := atoms_spec (ws := wz_X12_tellSubpath) B.pre
  have hta := wz_tl hts
  have hown : s.vm.findClass RX12 = some m.cls := findClass_of_methodNamed B.named
  have hlocks := B.notSynchronized
  subst hsz
  have hD := hD0.self (sz := s.heap.size)
  generalize hAe : va_A (wd_X12_tellSubpath cI a0 v0_2 v0_3 v0_5 v0_12 v0_13 v0_16 v0_17 v0_21 v0_23 v0_24 v0_25 v0_26 v0_29 v0_30 v0_0 v0_6 v0_7 v0_8 v0_9 v0_10 v0_11) s.heap.size = A at hD ⊢
  have hA : ∀ q : Nat, s.heap.size ≤ q → A q := fun q h => by rw [← hAe]; exact Or.inr h
  have hS : va_S A s.heap s.heap [] := va_S.rf
  have hP : va_P (dC, dI) vwCl (wd_X12_tellSubpath cI a0 v0_2 v0_3 v0_5 v0_12 v0_13 v0_16 v0_17 v0_21 v0_23 v0_24 v0_25 v0_26 v0_29 v0_30 v0_0 v0_6 v0_7 v0_8 v0_9 v0_10 v0_11) s.heap := hP
  have hl := lv_entry ([.ref (a0 0), .int p1, .int p2]) (n := 3) (Nat.le_of_ble_eq_true rfl)
  rw [lg_entry_eq]
  generalize (lg_sl ([.ref (a0 0), .int p1, .int p2]) ++ List.replicate (3 - (lg_sl ([.ref (a0 0), .int p1, .int p2])).length) Slot.unset).toArray = ls at hl ⊢
  have hl : lv_has ls 3 [(0, .ref (a0 0)), (1, .int p1), (2, .int p2)] := hl
  obtain ⟨H, hHe⟩ : ∃ H, H = s.heap := ⟨_, rfl⟩
  have hS : va_S A s.heap H [] := by rw [hHe]; exact hS
  have hP : va_P (dC, dI) vwCl (wd_X12_tellSubpath cI a0 v0_2 v0_3 v0_5 v0_12 v0_13 v0_16 v0_17 v0_21 v0_23 v0_24 v0_25 v0_26 v0_29 v0_30 v0_0 v0_6 v0_7 v0_8 v0_9 v0_10 v0_11) H := by rw [hHe]; exact hP
  rw [← hHe]
  unfold F_X12_tellSubpath at hF
  refine lv_aload_n hx hb dX12_tellSubpath_0 rfl (lv_at hl 0 rfl) ?_
  refine lv_iload_n hx hb dX12_tellSubpath_1 rfl (lv_at hl 1 rfl) ?_
  obtain ⟨u_1, hu_1, hF⟩ := obd_some hF
  have hPc := hP.sub (ws' := (wd_X12_laysSegments cI a0 v0_2 v0_3 v0_5 v0_12 v0_13 v0_16 v0_17 v0_21 v0_23 v0_24 v0_25 v0_26 v0_29 v0_30 v0_0 v0_6 v0_7 v0_8 v0_9 v0_10 v0_11)) [0, 1, 2, 3, 4, 5, 6, 7] rfl
  have hDc := hD.sub (ws' := (wd_X12_laysSegments cI a0 v0_2 v0_3 v0_5 v0_12 v0_13 v0_16 v0_17 v0_21 v0_23 v0_24 v0_25 v0_26 v0_29 v0_30 v0_0 v0_6 v0_7 v0_8 v0_9 v0_10 v0_11)) [0, 1, 2, 3, 4, 5, 6, 7] rfl rfl
  refine q_callv (wc := (wd_X12_laysSegments cI a0 v0_2 v0_3 v0_5 v0_12 v0_13 v0_16 v0_17 v0_21 v0_23 v0_24 v0_25 v0_26 v0_29 v0_30 v0_0 v0_6 v0_7 v0_8 v0_9 v0_10 v0_11)) (w1 := (wd_X12_laysSegments cI a0 v0_2 v0_3 v0_5 u_1.1 u_1.2.1 v0_16 v0_17 v0_21 v0_23 v0_24 v0_25 v0_26 v0_29 v0_30 v0_0 u_1.2.2.1 u_1.2.2.2.1 u_1.2.2.2.2.1 u_1.2.2.2.2.2.1 u_1.2.2.2.2.2.2.1 u_1.2.2.2.2.2.2.2)) (ws' := (wd_X12_tellSubpath cI a0 v0_2 v0_3 v0_5 u_1.1 u_1.2.1 v0_16 v0_17 v0_21 v0_23 v0_24 v0_25 v0_26 v0_29 v0_30 v0_0 u_1.2.2.1 u_1.2.2.2.1 u_1.2.2.2.2.1 u_1.2.2.2.2.2.1 u_1.2.2.2.2.2.2.1 u_1.2.2.2.2.2.2.2)) hP hD hS hA [0, 1, 2, 3, 4, 5, 6, 7] [] [0, 1, 2, 3, 4, 5, 6, 7] rfl rfl rfl (by decide) rfl rfl (va_runV (As := [.int p1]) (rest := []) ⟨hx, hb, hml, hown, hta⟩ (c_X12_laysSegments l dC dI cI H.size a0 v0_2 v0_3 v0_5 v0_12 v0_13 v0_16 v0_17 v0_21 v0_23 v0_24 v0_25 v0_26 v0_29 v0_30 v0_0 v0_6 v0_7 v0_8 v0_9 v0_10 v0_11 p1 n u_1 hu_1) (cwV 1 hta (ga_V mA864 mA865 mA866 mA814 mA867) rfl rfl rfl (by decide +kernel) ⟨Nat.le_of_ble_eq_true rfl, Nat.le_of_ble_eq_true rfl⟩) ⟨q_fb, va_recv hK hP (ci := 11) (q0 := 0) rfl rfl, q_ps hPc hK hDc⟩ rfl rfl hl.1 rfl (lv_room (Nat.le_of_ble_eq_true rfl)) dX12_tellSubpath_2 ⟨Nat.zero_le _, Nat.zero_le _⟩) (fun H locs hP hD hS => ?_)
  refine lv_iload_n hx hb dX12_tellSubpath_5 rfl (lv_at hl 2 rfl) ?_
  refine lv_if_ne (tgt := 17) hx hb dX12_tellSubpath_6 (by decide) (fun c_2 => ?_) (fun c_2 => ?_)
  · have hF := it_f hF c_2
    refine lv_iload_n hx hb dX12_tellSubpath_17 rfl (lv_at hl 2 rfl) ?_
    refine lv_iconst (v := 1) hx hb dX12_tellSubpath_18 (by decide) ?_
    refine lv_icmp_ne (tgt := 36) hx hb dX12_tellSubpath_19 (by decide) (fun c_3 => ?_) (fun c_3 => ?_)
    · have hF := it_f hF c_3
      refine lv_iload_n hx hb dX12_tellSubpath_36 rfl (lv_at hl 2 rfl) ?_
      refine lv_iconst (v := 2) hx hb dX12_tellSubpath_37 (by decide) ?_
      refine lv_icmp_ne (tgt := 48) hx hb dX12_tellSubpath_38 (by decide) (fun c_4 => ?_) (fun c_4 => ?_)
      · have hF := it_f hF c_4
        refine lv_aload_n hx hb dX12_tellSubpath_48 rfl (lv_at hl 0 rfl) ?_
        refine va_get (D := (dC, dI)) (ci := 11) (v := .int u_1.2.1) (C := RX12) (T := TX12) (N := 31) hx hb hta uw_X12 hown hK hP 0 rfl rfl 13 (by decide) (hta _ mA868) (fun _ h9 => h9) rfl dX12_tellSubpath_49 ?_
        obtain rfl := Option.some.inj hF
        exact W.iret (v := u_1.2.1) hx hb hr (fun t ht hW => ⟨⟨u_1.2.1, (), rfl, rfl, by rw [ht]; exact hP, va_K.moved hW.alike hK, hD⟩, hS.F ht⟩) hS.2.2 dX12_tellSubpath_52
      · have hF := it_t hF c_4
        refine lv_aload_n hx hb dX12_tellSubpath_41 rfl (lv_at hl 0 rfl) ?_
        refine va_get (D := (dC, dI)) (ci := 11) (v := .int u_1.1) (C := RX12) (T := TX12) (N := 31) hx hb hta uw_X12 hown hK hP 0 rfl rfl 12 (by decide) (hta _ mA863) (fun _ h9 => h9) rfl dX12_tellSubpath_42 ?_
        refine lv_goto (tgt := 52) hx hb dX12_tellSubpath_45 (by decide) ?_
        obtain rfl := Option.some.inj hF
        exact W.iret (v := u_1.1) hx hb hr (fun t ht hW => ⟨⟨u_1.1, (), rfl, rfl, by rw [ht]; exact hP, va_K.moved hW.alike hK, hD⟩, hS.F ht⟩) hS.2.2 dX12_tellSubpath_52
    · have hF := it_t hF c_3
      refine lv_aload_n hx hb dX12_tellSubpath_22 rfl (lv_at hl 0 rfl) ?_
      refine va_get (D := (dC, dI)) (ci := 11) (v := .ref (a0 1)) (C := RX12) (T := TX12) (N := 31) hx hb hta uw_X12 hown hK hP 0 rfl rfl 0 (by decide) (hta _ mA790) (fun _ h9 => h9) rfl dX12_tellSubpath_23 ?_
      refine lv_iload_n hx hb dX12_tellSubpath_26 rfl (lv_at hl 1 rfl) ?_
      obtain ⟨u_5, hu_5, hF⟩ := lt_some hF
      have hPc := hP.sub (ws' := ([] : va_W)) [] rfl
      have hDc := hD.sub (ws' := ([] : va_W)) [] rfl rfl
      refine q_calli (wc := ([] : va_W)) (w1 := ([] : va_W)) (ws' := (wd_X12_tellSubpath cI a0 v0_2 v0_3 v0_5 u_1.1 u_1.2.1 v0_16 v0_17 v0_21 v0_23 v0_24 v0_25 v0_26 v0_29 v0_30 v0_0 u_1.2.2.1 u_1.2.2.2.1 u_1.2.2.2.2.1 u_1.2.2.2.2.2.1 u_1.2.2.2.2.2.2.1 u_1.2.2.2.2.2.2.2)) hP hD hS hA [] [0, 1, 2, 3, 4, 5, 6, 7] [0, 1, 2, 3, 4, 5, 6, 7] rfl rfl rfl (by decide) rfl rfl (va_runS (As := [.int p1]) (rest := [.ref (a0 1)]) ⟨hx, hb, hml, hown, hta⟩ (c_X12_at l dC dI cI H.size p1 u_5 hu_5.symm) (va_cwS 1 hta (ga_S mA828 mA829 mA814 mA825) rfl rfl rfl (by decide +kernel) ⟨Nat.le_of_ble_eq_true rfl, Nat.le_of_ble_eq_true rfl⟩) ⟨q_fb, q_ps hPc hK hDc⟩ rfl rfl hl.1 rfl (lv_room (Nat.le_of_ble_eq_true rfl)) dX12_tellSubpath_27 ⟨Nat.zero_le _, Nat.zero_le _⟩) (fun H locs hP hD hS => ?_)
      refine lv_iconst (v := 1) hx hb dX12_tellSubpath_30 (by decide) ?_
      refine lv_iadd hx hb dX12_tellSubpath_31 ?_
      obtain ⟨y_6, ey_6, hF⟩ := lt_some hF
      refine lv_eqi ey_6 ?_
      obtain ⟨g_7, hF⟩ := gd_some hF
      refine va_iald hx hb hK hP 1 0 rfl rfl (vpi_in g_7) dX12_tellSubpath_32 ?_
      refine lv_goto (tgt := 52) hx hb dX12_tellSubpath_33 (by decide) ?_
      obtain rfl := Option.some.inj hF
      exact W.iret (v := (v0_0 y_6.toNatClampNeg)) hx hb hr (fun t ht hW => ⟨⟨(v0_0 y_6.toNatClampNeg), (), rfl, rfl, by rw [ht]; exact hP, va_K.moved hW.alike hK, hD⟩, hS.F ht⟩) hS.2.2 dX12_tellSubpath_52
  · have hF := it_t hF c_2
    refine lv_aload_n hx hb dX12_tellSubpath_9 rfl (lv_at hl 0 rfl) ?_
    refine lv_iload_n hx hb dX12_tellSubpath_10 rfl (lv_at hl 1 rfl) ?_
    obtain ⟨u_8, hu_8, hF⟩ := obd_some hF
    have hPc := hP.sub (ws' := (wd_X12_points cI a0 v0_2 v0_3 v0_5 u_1.1 u_1.2.1 v0_16 v0_17 v0_21 v0_23 v0_24 v0_25 v0_26 v0_29 v0_30 v0_0)) [0, 1] rfl
    have hDc := hD.sub (ws' := (wd_X12_points cI a0 v0_2 v0_3 v0_5 u_1.1 u_1.2.1 v0_16 v0_17 v0_21 v0_23 v0_24 v0_25 v0_26 v0_29 v0_30 v0_0)) [0, 1] rfl rfl
    refine q_calli (wc := (wd_X12_points cI a0 v0_2 v0_3 v0_5 u_1.1 u_1.2.1 v0_16 v0_17 v0_21 v0_23 v0_24 v0_25 v0_26 v0_29 v0_30 v0_0)) (w1 := (wd_X12_points cI a0 v0_2 v0_3 v0_5 u_1.1 u_1.2.1 v0_16 v0_17 v0_21 v0_23 v0_24 v0_25 v0_26 v0_29 v0_30 v0_0)) (ws' := (wd_X12_tellSubpath cI a0 v0_2 v0_3 v0_5 u_1.1 u_1.2.1 v0_16 v0_17 v0_21 v0_23 v0_24 v0_25 v0_26 v0_29 v0_30 v0_0 u_1.2.2.1 u_1.2.2.2.1 u_1.2.2.2.2.1 u_1.2.2.2.2.2.1 u_1.2.2.2.2.2.2.1 u_1.2.2.2.2.2.2.2)) hP hD hS hA [0, 1] [2, 3, 4, 5, 6, 7] [6, 7, 0, 1, 2, 3, 4, 5] rfl rfl rfl (by decide) rfl rfl (va_runV (As := [.int p1]) (rest := []) ⟨hx, hb, hml, hown, hta⟩ (c_X12_points l dC dI cI H.size a0 v0_2 v0_3 v0_5 u_1.1 u_1.2.1 v0_16 v0_17 v0_21 v0_23 v0_24 v0_25 v0_26 v0_29 v0_30 v0_0 p1 u_8 hu_8) (cwV 1 hta (ga_V mA839 mA840 mA841 mA814 mA827) rfl rfl rfl (by decide +kernel) ⟨Nat.le_of_ble_eq_true rfl, Nat.le_of_ble_eq_true rfl⟩) ⟨q_fb, va_recv hK hP (ci := 11) (q0 := 0) rfl rfl, q_ps hPc hK hDc⟩ rfl rfl hl.1 rfl (lv_room (Nat.le_of_ble_eq_true rfl)) dX12_tellSubpath_11 ⟨Nat.zero_le _, Nat.zero_le _⟩) (fun H locs hP hD hS => ?_)
    refine lv_goto (tgt := 52) hx hb dX12_tellSubpath_14 (by decide) ?_
    obtain rfl := Option.some.inj hF
    exact W.iret (v := u_8) hx hb hr (fun t ht hW => ⟨⟨u_8, (), rfl, rfl, by rw [ht]; exact hP, va_K.moved hW.alike hK, hD⟩, hS.F ht⟩) hS.2.2 dX12_tellSubpath_52

-- StrokeOutlinerModel.subpath(II)I
def F_X12_subpath_j27 (n : Nat) (v0_12 : Int32) (v0_13 : Int32) (v0_0 : Nat → Int32) (v0_6 : Nat → Int32) (v0_7 : Nat → Int32) (v0_8 : Nat → Int32) (v0_9 : Nat → Int32) (v0_10 : Nat → Int32) (v0_11 : Nat → Int32) (x1 : Int32) (x2 : Int32) (t1 : Int32) : Option (Int32 × Int32 × Int32 × Int32 × (Nat → Int32) × (Nat → Int32) × (Nat → Int32) × (Nat → Int32) × (Nat → Int32) × (Nat → Int32)) :=
  lt (F_X12_refused t1) (fun u_1 => if u_1.1 = 0 then obd (F_X12_tellSubpath n v0_0 v0_6 v0_7 v0_8 v0_9 v0_10 v0_11 x1 x2) (fun u_3 => some (u_3.1, u_1.2, u_3.2.1, u_3.2.2.1, u_3.2.2.2.1, u_3.2.2.2.2.1, u_3.2.2.2.2.2.1, u_3.2.2.2.2.2.2.1, u_3.2.2.2.2.2.2.2.1, u_3.2.2.2.2.2.2.2.2)) else some (0, u_1.2, v0_12, v0_13, v0_6, v0_7, v0_8, v0_9, v0_10, v0_11))
def F_X12_subpath (n : Nat) (v0_12 : Int32) (v0_13 : Int32) (v0_0 : Nat → Int32) (v0_6 : Nat → Int32) (v0_7 : Nat → Int32) (v0_8 : Nat → Int32) (v0_9 : Nat → Int32) (v0_10 : Nat → Int32) (v0_11 : Nat → Int32) (p1 : Int32) (p2 : Int32) : Option (Int32 × Int32 × Int32 × Int32 × (Nat → Int32) × (Nat → Int32) × (Nat → Int32) × (Nat → Int32) × (Nat → Int32) × (Nat → Int32)) :=
  obd (F_X12_isSubpath v0_0 p1) (fun u_4 => if u_4 = 0 then F_X12_subpath_j27 n v0_12 v0_13 v0_0 v0_6 v0_7 v0_8 v0_9 v0_10 v0_11 p1 p2 1 else lt (F_X12_within p2 0 3) (fun u_6 => if u_6 = 0 then F_X12_subpath_j27 n v0_12 v0_13 v0_0 v0_6 v0_7 v0_8 v0_9 v0_10 v0_11 p1 p2 2 else F_X12_subpath_j27 n v0_12 v0_13 v0_0 v0_6 v0_7 v0_8 v0_9 v0_10 v0_11 p1 p2 0))
abbrev wd_X12_subpath (cI : ClassId) (a0 : Nat → Nat) (v0_2 : Int32) (v0_3 : Int32) (v0_5 : Int32) (v0_12 : Int32) (v0_13 : Int32) (v0_16 : Int32) (v0_17 : Int32) (v0_21 : Int32) (v0_23 : Int32) (v0_24 : Int32) (v0_25 : Int32) (v0_26 : Int32) (v0_29 : Int32) (v0_30 : Int64) (v0_0 : Nat → Int32) (v0_6 : Nat → Int32) (v0_7 : Nat → Int32) (v0_8 : Nat → Int32) (v0_9 : Nat → Int32) (v0_10 : Nat → Int32) (v0_11 : Nat → Int32) : va_W := [(a0 0, .inr (11, [.ref (a0 1), .ref (a0 2), .int v0_2, .int v0_3, .ref (a0 5), .int v0_5, .ref (a0 7), .ref (a0 8), .ref (a0 9), .ref (a0 10), .ref (a0 11), .ref (a0 12), .int v0_12, .int v0_13, .ref (a0 15), .ref (a0 16), .int v0_16, .int v0_17, .ref (a0 19), .ref (a0 20), .ref (a0 21), .int v0_21, .ref (a0 23), .int v0_23, .int v0_24, .int v0_25, .int v0_26, .ref (a0 28), .ref (a0 29), .int v0_29, .long v0_30])), (a0 1, .inl (cI, 86, .inl v0_0)), (a0 7, .inl (cI, 8, .inl v0_6)), (a0 8, .inl (cI, 8, .inl v0_7)), (a0 9, .inl (cI, 8, .inl v0_8)), (a0 10, .inl (cI, 8, .inl v0_9)), (a0 11, .inl (cI, 8, .inl v0_10)), (a0 12, .inl (cI, 8, .inl v0_11))]
abbrev wz_X12_subpath : List Cond := .code yX12_subpath cX12_subpath 3 (some .int) :: wALL
abbrev rm_X12_subpath : Room := { frames := 4, cells := 0, slots := 0, locals := 90 }
abbrev Q_X12_subpath (dC : Nat → ClassId) (dI : Nat → Nat → Nat) (cI : ClassId) (a0 : Nat → Nat) (v0_2 : Int32) (v0_5 : Int32) (v0_16 : Int32) (v0_17 : Int32) (v0_21 : Int32) (v0_23 : Int32) (v0_24 : Int32) (v0_25 : Int32) (v0_26 : Int32) (v0_29 : Int32) (v0_30 : Int64) (v0_0 : Nat → Int32) (u : (Int32 × Int32 × Int32 × Int32 × (Nat → Int32) × (Nat → Int32) × (Nat → Int32) × (Nat → Int32) × (Nat → Int32) × (Nat → Int32))) (A : Nat → Prop) : Array Value → State → Outcome → State → Prop := va_Qi (fun (r : Int32) (_ : Unit) => r = u.1) (fun _ => q_at dC dI cI A (wd_X12_subpath cI a0 v0_2 u.2.1 v0_5 u.2.2.1 u.2.2.2.1 v0_16 v0_17 v0_21 v0_23 v0_24 v0_25 v0_26 v0_29 v0_30 v0_0 u.2.2.2.2.1 u.2.2.2.2.2.1 u.2.2.2.2.2.2.1 u.2.2.2.2.2.2.2.1 u.2.2.2.2.2.2.2.2.1 u.2.2.2.2.2.2.2.2.2)) A
set_option maxHeartbeats 4000000 in
set_option maxRecDepth 100000 in
theorem c_X12_subpath (l : Launch) (dC : Nat → ClassId) (dI : Nat → Nat → Nat) (cI : ClassId) (sz : Nat) (a0 : Nat → Nat) (v0_2 : Int32) (v0_3 : Int32) (v0_5 : Int32) (v0_12 : Int32) (v0_13 : Int32) (v0_16 : Int32) (v0_17 : Int32) (v0_21 : Int32) (v0_23 : Int32) (v0_24 : Int32) (v0_25 : Int32) (v0_26 : Int32) (v0_29 : Int32) (v0_30 : Int64) (v0_0 : Nat → Int32) (v0_6 : Nat → Int32) (v0_7 : Nat → Int32) (v0_8 : Nat → Int32) (v0_9 : Nat → Int32) (v0_10 : Nat → Int32) (v0_11 : Nat → Int32) (p1 : Int32) (p2 : Int32) (n : Nat) (u : (Int32 × Int32 × Int32 × Int32 × (Nat → Int32) × (Nat → Int32) × (Nat → Int32) × (Nat → Int32) × (Nat → Int32) × (Nat → Int32))) (hF : F_X12_subpath n v0_12 v0_13 v0_0 v0_6 v0_7 v0_8 v0_9 v0_10 v0_11 p1 p2 = some u) : Met l yX12_subpath wz_X12_subpath rm_X12_subpath (va_Pc [.ref (a0 0), .int p1, .int p2] (q_pre dC dI cI (wd_X12_subpath cI a0 v0_2 v0_3 v0_5 v0_12 v0_13 v0_16 v0_17 v0_21 v0_23 v0_24 v0_25 v0_26 v0_29 v0_30 v0_0 v0_6 v0_7 v0_8 v0_9 v0_10 v0_11) sz)) (Q_X12_subpath dC dI cI a0 v0_2 v0_5 v0_16 v0_17 v0_21 v0_23 v0_24 v0_25 v0_26 v0_29 v0_30 v0_0 u (va_A (wd_X12_subpath cI a0 v0_2 v0_3 v0_5 v0_12 v0_13 v0_16 v0_17 v0_21 v0_23 v0_24 v0_25 v0_26 v0_29 v0_30 v0_0 v0_6 v0_7 v0_8 v0_9 v0_10 v0_11) sz)) 0 0 (va_A (wd_X12_subpath cI a0 v0_2 v0_3 v0_5 v0_12 v0_13 v0_16 v0_17 v0_21 v0_23 v0_24 v0_25 v0_26 v0_29 v0_30 v0_0 v0_6 v0_7 v0_8 v0_9 v0_10 v0_11) sz) := by
  refine Met.ofW (cc := cX12_subpath) (maxL := 3) (ret := (some .int)) (by decide) rfl ?_
  intro p e s m args below meth c s₁ B hml hv
  obtain ⟨rfl, hsz, hP, hK, hD0⟩ := hv
  have hx := B.exec
  have hb := B.bytes
  have hr := B.returns
  have hts := atoms_spec (ws := wz_X12_subpath) B.pre
  have hta := wz_tl hts
  have hown : s.vm.findClass RX12 = some m.cls := findClass_of_methodNamed B.named
  have hlocks := B.notSynchronized
  subst hsz
  have hD := hD0.self (sz := s.heap.size)
  generalize hAe : va_A (wd_X12_subpath cI a0 v0_2 v0_3 v0_5 v0_12 v0_13 v0_16 v0_17 v0_21 v0_23 v0_24 v0_25 v0_26 v0_29 v0_30 v0_0 v0_6 v0_7 v0_8 v0_9 v0_10 v0_11) s.heap.size = A at hD ⊢
  have hA : ∀ q : Nat, s.heap.size ≤ q → A q := fun q h => by rw [← hAe]; exact Or.inr h
  have hS : va_S A s.heap s.heap [] := va_S.rf
  have hP : va_P (dC, dI) vwCl (wd_X12_subpath cI a0 v0_2 v0_3 v0_5 v0_12 v0_13 v0_16 v0_17 v0_21 v0_23 v0_24 v0_25 v0_26 v0_29 v0_30 v0_0 v0_6 v0_7 v0_8 v0_9 v0_10 v0_11) s.heap := hP
  have hl := lv_entry ([.ref (a0 0), .int p1, .int p2]) (n := 3) (Nat.le_of_ble_eq_true rfl)
  rw [lg_entry_eq]
  generalize (lg_sl ([.ref (a0 0), .int p1, .int p2]) ++ List.replicate (3 - (lg_sl ([.ref (a0 0), .int p1, .int p2])).length) Slot.unset).toArray = ls at hl ⊢
  have hl : lv_has ls 3 [(0, .ref (a0 0)), (1, .int p1), (2, .int p2)] := hl
  obtain ⟨H, hHe⟩ : ∃ H, H = s.heap := ⟨_, rfl⟩
  have hS : va_S A s.heap H [] := by rw [hHe]; exact hS
  have hP : va_P (dC, dI) vwCl (wd_X12_subpath cI a0 v0_2 v0_3 v0_5 v0_12 v0_13 v0_16 v0_17 v0_21 v0_23 v0_24 v0_25 v0_26 v0_29 v0_30 v0_0 v0_6 v0_7 v0_8 v0_9 v0_10 v0_11) H := by rw [hHe]; exact hP
  rw [← hHe]
  unfold F_X12_subpath at hF
  have j27 : ∀ (v0_3 : Int32) (v0_12 : Int32) (v0_13 : Int32) (v0_6 : Nat → Int32) (v0_7 : Nat → Int32) (v0_8 : Nat → Int32) (v0_9 : Nat → Int32) (v0_10 : Nat → Int32) (v0_11 : Nat → Int32) (x1 : Int32) (x2 : Int32) (t1 : Int32), F_X12_subpath_j27 n v0_12 v0_13 v0_0 v0_6 v0_7 v0_8 v0_9 v0_10 v0_11 x1 x2 t1 = some u → ∀ (H : Heap) (locs : List Loc) (ls : Array Slot), va_P (dC, dI) vwCl (wd_X12_subpath cI a0 v0_2 v0_3 v0_5 v0_12 v0_13 v0_16 v0_17 v0_21 v0_23 v0_24 v0_25 v0_26 v0_29 v0_30 v0_0 v0_6 v0_7 v0_8 v0_9 v0_10 v0_11) H → va_D A (wd_X12_subpath cI a0 v0_2 v0_3 v0_5 v0_12 v0_13 v0_16 v0_17 v0_21 v0_23 v0_24 v0_25 v0_26 v0_29 v0_30 v0_0 v0_6 v0_7 v0_8 v0_9 v0_10 v0_11) → va_S A s.heap H locs → lv_has ls 3 [(0, .ref (a0 0)), (1, .int x1), (2, .int x2)] → W p l e (headSpec wz_X12_subpath rm_X12_subpath).room s m [.ref (a0 0), .int p1, .int p2].toArray below meth c H locs 0 0 (MQ below (Q_X12_subpath dC dI cI a0 v0_2 v0_5 v0_16 v0_17 v0_21 v0_23 v0_24 v0_25 v0_26 v0_29 v0_30 v0_0 u A) [.ref (a0 0), .int p1, .int p2].toArray s 0 0 A) (F0 m 27 ls [.int t1, .ref (a0 0)]) := by
    intro v0_3 v0_12 v0_13 v0_6 v0_7 v0_8 v0_9 v0_10 v0_11 x1 x2 t1 hF H locs ls hP hD hS hl
    unfold F_X12_subpath_j27 at hF
    obtain ⟨u_1, hu_1, hF⟩ := lt_some hF
    have hPc := hP.sub (ws' := (wd_X12_refused cI a0 v0_2 v0_3 v0_5 v0_12 v0_13 v0_16 v0_17 v0_21 v0_23 v0_24 v0_25 v0_26 v0_29 v0_30)) [0] rfl
    have hDc := hD.sub (ws' := (wd_X12_refused cI a0 v0_2 v0_3 v0_5 v0_12 v0_13 v0_16 v0_17 v0_21 v0_23 v0_24 v0_25 v0_26 v0_29 v0_30)) [0] rfl rfl
    refine q_callz (wc := (wd_X12_refused cI a0 v0_2 v0_3 v0_5 v0_12 v0_13 v0_16 v0_17 v0_21 v0_23 v0_24 v0_25 v0_26 v0_29 v0_30)) (w1 := (wd_X12_refused cI a0 v0_2 u_1.2 v0_5 v0_12 v0_13 v0_16 v0_17 v0_21 v0_23 v0_24 v0_25 v0_26 v0_29 v0_30)) (ws' := (wd_X12_subpath cI a0 v0_2 u_1.2 v0_5 v0_12 v0_13 v0_16 v0_17 v0_21 v0_23 v0_24 v0_25 v0_26 v0_29 v0_30 v0_0 v0_6 v0_7 v0_8 v0_9 v0_10 v0_11)) hP hD hS hA [0] [1, 2, 3, 4, 5, 6, 7] [7, 0, 1, 2, 3, 4, 5, 6] rfl rfl rfl (by decide) rfl rfl (va_runV (As := [.int t1]) (rest := []) ⟨hx, hb, hml, hown, hta⟩ (c_X12_refused l dC dI cI H.size a0 v0_2 v0_3 v0_5 v0_12 v0_13 v0_16 v0_17 v0_21 v0_23 v0_24 v0_25 v0_26 v0_29 v0_30 t1 u_1 hu_1.symm) (cwV 1 hta (ga_V mA822 mA823 mA824 mA814 mA809) rfl rfl rfl (by decide +kernel) ⟨Nat.le_of_ble_eq_true rfl, Nat.le_of_ble_eq_true rfl⟩) ⟨q_fb, va_recv hK hP (ci := 11) (q0 := 0) rfl rfl, q_ps hPc hK hDc⟩ rfl rfl hl.1 rfl (lv_room (Nat.le_of_ble_eq_true rfl)) dX12_subpath_27 ⟨Nat.zero_le _, Nat.zero_le _⟩) (fun hzu_1 H locs hP hD hS => ?_)
    refine lv_if_eq (tgt := 37) hx hb dX12_subpath_30 (by decide) (fun c_2 => ?_) (fun c_2 => ?_)
    · have hF := it_t hF c_2
      refine lv_aload_n hx hb dX12_subpath_37 rfl (lv_at hl 0 rfl) ?_
      refine lv_iload_n hx hb dX12_subpath_38 rfl (lv_at hl 1 rfl) ?_
      refine lv_iload_n hx hb dX12_subpath_39 rfl (lv_at hl 2 rfl) ?_
      obtain ⟨u_3, hu_3, hF⟩ := obd_some hF
      have hPc := hP.sub (ws' := (wd_X12_tellSubpath cI a0 v0_2 u_1.2 v0_5 v0_12 v0_13 v0_16 v0_17 v0_21 v0_23 v0_24 v0_25 v0_26 v0_29 v0_30 v0_0 v0_6 v0_7 v0_8 v0_9 v0_10 v0_11)) [0, 1, 2, 3, 4, 5, 6, 7] rfl
      have hDc := hD.sub (ws' := (wd_X12_tellSubpath cI a0 v0_2 u_1.2 v0_5 v0_12 v0_13 v0_16 v0_17 v0_21 v0_23 v0_24 v0_25 v0_26 v0_29 v0_30 v0_0 v0_6 v0_7 v0_8 v0_9 v0_10 v0_11)) [0, 1, 2, 3, 4, 5, 6, 7] rfl rfl
      refine q_calli (wc := (wd_X12_tellSubpath cI a0 v0_2 u_1.2 v0_5 v0_12 v0_13 v0_16 v0_17 v0_21 v0_23 v0_24 v0_25 v0_26 v0_29 v0_30 v0_0 v0_6 v0_7 v0_8 v0_9 v0_10 v0_11)) (w1 := (wd_X12_tellSubpath cI a0 v0_2 u_1.2 v0_5 u_3.2.1 u_3.2.2.1 v0_16 v0_17 v0_21 v0_23 v0_24 v0_25 v0_26 v0_29 v0_30 v0_0 u_3.2.2.2.1 u_3.2.2.2.2.1 u_3.2.2.2.2.2.1 u_3.2.2.2.2.2.2.1 u_3.2.2.2.2.2.2.2.1 u_3.2.2.2.2.2.2.2.2)) (ws' := (wd_X12_subpath cI a0 v0_2 u_1.2 v0_5 u_3.2.1 u_3.2.2.1 v0_16 v0_17 v0_21 v0_23 v0_24 v0_25 v0_26 v0_29 v0_30 v0_0 u_3.2.2.2.1 u_3.2.2.2.2.1 u_3.2.2.2.2.2.1 u_3.2.2.2.2.2.2.1 u_3.2.2.2.2.2.2.2.1 u_3.2.2.2.2.2.2.2.2)) hP hD hS hA [0, 1, 2, 3, 4, 5, 6, 7] [] [0, 1, 2, 3, 4, 5, 6, 7] rfl rfl rfl (by decide) rfl rfl (va_runV (As := [.int x1, .int x2]) (rest := []) ⟨hx, hb, hml, hown, hta⟩ (c_X12_tellSubpath l dC dI cI H.size a0 v0_2 u_1.2 v0_5 v0_12 v0_13 v0_16 v0_17 v0_21 v0_23 v0_24 v0_25 v0_26 v0_29 v0_30 v0_0 v0_6 v0_7 v0_8 v0_9 v0_10 v0_11 x1 x2 n u_3 hu_3) (cwV 2 hta (ga_V mA907 mA908 mA909 mA814 mA905) rfl rfl rfl (by decide +kernel) ⟨Nat.le_of_ble_eq_true rfl, Nat.le_of_ble_eq_true rfl⟩) ⟨q_fb, va_recv hK hP (ci := 11) (q0 := 0) rfl rfl, q_ps hPc hK hDc⟩ rfl rfl hl.1 rfl (lv_room (Nat.le_of_ble_eq_true rfl)) dX12_subpath_40 ⟨Nat.zero_le _, Nat.zero_le _⟩) (fun H locs hP hD hS => ?_)
      obtain rfl := Option.some.inj hF
      exact W.iret (v := u_3.1) hx hb hr (fun t ht hW => ⟨⟨u_3.1, (), rfl, rfl, by rw [ht]; exact hP, va_K.moved hW.alike hK, hD⟩, hS.F ht⟩) hS.2.2 dX12_subpath_43
    · have hF := it_f hF c_2
      refine lv_iconst (v := 0) hx hb dX12_subpath_33 (by decide) ?_
      refine lv_goto (tgt := 43) hx hb dX12_subpath_34 (by decide) ?_
      obtain rfl := Option.some.inj hF
      exact W.iret (v := 0) hx hb hr (fun t ht hW => ⟨⟨0, (), rfl, rfl, by rw [ht]; exact hP, va_K.moved hW.alike hK, hD⟩, hS.F ht⟩) hS.2.2 dX12_subpath_43
  refine lv_aload_n hx hb dX12_subpath_0 rfl (lv_at hl 0 rfl) ?_
  refine lv_aload_n hx hb dX12_subpath_1 rfl (lv_at hl 0 rfl) ?_
  refine lv_iload_n hx hb dX12_subpath_2 rfl (lv_at hl 1 rfl) ?_
  obtain ⟨u_4, hu_4, hF⟩ := obd_some hF
  have hPc := hP.sub (ws' := (wd_X12_isSubpath cI a0 v0_2 v0_3 v0_5 v0_12 v0_13 v0_16 v0_17 v0_21 v0_23 v0_24 v0_25 v0_26 v0_29 v0_30 v0_0)) [0, 1] rfl
  have hDc := hD.sub (ws' := (wd_X12_isSubpath cI a0 v0_2 v0_3 v0_5 v0_12 v0_13 v0_16 v0_17 v0_21 v0_23 v0_24 v0_25 v0_26 v0_29 v0_30 v0_0)) [0, 1] rfl rfl
  refine q_callz (wc := (wd_X12_isSubpath cI a0 v0_2 v0_3 v0_5 v0_12 v0_13 v0_16 v0_17 v0_21 v0_23 v0_24 v0_25 v0_26 v0_29 v0_30 v0_0)) (w1 := (wd_X12_isSubpath cI a0 v0_2 v0_3 v0_5 v0_12 v0_13 v0_16 v0_17 v0_21 v0_23 v0_24 v0_25 v0_26 v0_29 v0_30 v0_0)) (ws' := (wd_X12_subpath cI a0 v0_2 v0_3 v0_5 v0_12 v0_13 v0_16 v0_17 v0_21 v0_23 v0_24 v0_25 v0_26 v0_29 v0_30 v0_0 v0_6 v0_7 v0_8 v0_9 v0_10 v0_11)) hP hD hS hA [0, 1] [2, 3, 4, 5, 6, 7] [6, 7, 0, 1, 2, 3, 4, 5] rfl rfl rfl (by decide) rfl rfl (va_runV (As := [.int p1]) (rest := [.ref (a0 0)]) ⟨hx, hb, hml, hown, hta⟩ (c_X12_isSubpath l dC dI cI H.size a0 v0_2 v0_3 v0_5 v0_12 v0_13 v0_16 v0_17 v0_21 v0_23 v0_24 v0_25 v0_26 v0_29 v0_30 v0_0 p1 u_4 hu_4) (cwV 1 hta (ga_V mA879 mA880 mA881 mA814 mA826) rfl rfl rfl (by decide +kernel) ⟨Nat.le_of_ble_eq_true rfl, Nat.le_of_ble_eq_true rfl⟩) ⟨q_fb, va_recv hK hP (ci := 11) (q0 := 0) rfl rfl, q_ps hPc hK hDc⟩ rfl rfl hl.1 rfl (lv_room (Nat.le_of_ble_eq_true rfl)) dX12_subpath_3 ⟨Nat.zero_le _, Nat.zero_le _⟩) (fun hzu_4 H locs hP hD hS => ?_)
  refine lv_if_ne (tgt := 13) hx hb dX12_subpath_6 (by decide) (fun c_5 => ?_) (fun c_5 => ?_)
  · have hF := it_f hF c_5
    refine lv_iload_n hx hb dX12_subpath_13 rfl (lv_at hl 2 rfl) ?_
    refine lv_iconst (v := 0) hx hb dX12_subpath_14 (by decide) ?_
    refine lv_iconst (v := 3) hx hb dX12_subpath_15 (by decide) ?_
    obtain ⟨u_6, hu_6, hF⟩ := lt_some hF
    have hPc := hP.sub (ws' := ([] : va_W)) [] rfl
    have hDc := hD.sub (ws' := ([] : va_W)) [] rfl rfl
    refine q_callz (wc := ([] : va_W)) (w1 := ([] : va_W)) (ws' := (wd_X12_subpath cI a0 v0_2 v0_3 v0_5 v0_12 v0_13 v0_16 v0_17 v0_21 v0_23 v0_24 v0_25 v0_26 v0_29 v0_30 v0_0 v0_6 v0_7 v0_8 v0_9 v0_10 v0_11)) hP hD hS hA [] [0, 1, 2, 3, 4, 5, 6, 7] [0, 1, 2, 3, 4, 5, 6, 7] rfl rfl rfl (by decide) rfl rfl (va_runS (As := [.int p2, .int 0, .int 3]) (rest := [.ref (a0 0)]) ⟨hx, hb, hml, hown, hta⟩ (c_X12_within l dC dI cI H.size p2 0 3 u_6 hu_6.symm) (va_cwS 3 hta (ga_S mA812 mA813 mA814 mA810) rfl rfl rfl (by decide +kernel) ⟨Nat.le_of_ble_eq_true rfl, Nat.le_of_ble_eq_true rfl⟩) ⟨q_fb, q_ps hPc hK hDc⟩ rfl rfl hl.1 rfl (lv_room (Nat.le_of_ble_eq_true rfl)) dX12_subpath_16 ⟨Nat.zero_le _, Nat.zero_le _⟩) (fun hzu_6 H locs hP hD hS => ?_)
    refine lv_if_eq (tgt := 26) hx hb dX12_subpath_19 (by decide) (fun c_7 => ?_) (fun c_7 => ?_)
    · have hF := it_t hF c_7
      refine lv_iconst (v := 2) hx hb dX12_subpath_26 (by decide) ?_
      exact j27 v0_3 v0_12 v0_13 v0_6 v0_7 v0_8 v0_9 v0_10 v0_11 p1 p2 2 hF _ _ _ hP hD hS (lv_sub hl [0, 1, 2] rfl)
    · have hF := it_f hF c_7
      refine lv_iconst (v := 0) hx hb dX12_subpath_22 (by decide) ?_
      refine lv_goto (tgt := 27) hx hb dX12_subpath_23 (by decide) ?_
      exact j27 v0_3 v0_12 v0_13 v0_6 v0_7 v0_8 v0_9 v0_10 v0_11 p1 p2 0 hF _ _ _ hP hD hS (lv_sub hl [0, 1, 2] rfl)
  · have hF := it_t hF c_5
    refine lv_iconst (v := 1) hx hb dX12_subpath_9 (by decide) ?_
    refine lv_goto (tgt := 27) hx hb dX12_subpath_10 (by decide) ?_
    exact j27 v0_3 v0_12 v0_13 v0_6 v0_7 v0_8 v0_9 v0_10 v0_11 p1 p2 1 hF _ _ _ hP hD hS (lv_sub hl [0, 1, 2] rfl)

-- StrokeOutlinerModel.point(IIZ)I
def F_X12_point_j29 (v0_0 : Nat → Int32) (x1 : Int32) (x2 : Int32) (x3 : Int32) (t1 : Int32) : Option (Int32 × Int32) :=
  lt (F_X12_refused t1) (fun u_1 => if u_1.1 = 0 then if x3 = 0 then obd (F_X12_x v0_0 x1 x2) (fun u_4 => some (u_4, u_1.2)) else obd (F_X12_y v0_0 x1 x2) (fun u_5 => some (u_5, u_1.2)) else some (0, u_1.2))
def F_X12_point_j28 (v0_0 : Nat → Int32) (x1 : Int32) (x2 : Int32) (x3 : Int32) : Option (Int32 × Int32) :=
  F_X12_point_j29 v0_0 x1 x2 x3 1
def F_X12_point (v0_0 : Nat → Int32) (p1 : Int32) (p2 : Int32) (p3 : Int32) : Option (Int32 × Int32) :=
  obd (F_X12_isSubpath v0_0 p1) (fun u_6 => if u_6 = 0 then F_X12_point_j28 v0_0 p1 p2 p3 else obd (F_X12_points v0_0 p1) (fun u_8 => lt (F_X12_within p2 0 (u_8 - 1)) (fun u_9 => if u_9 = 0 then F_X12_point_j28 v0_0 p1 p2 p3 else F_X12_point_j29 v0_0 p1 p2 p3 0)))
abbrev wd_X12_point (cI : ClassId) (a0 : Nat → Nat) (v0_2 : Int32) (v0_3 : Int32) (v0_5 : Int32) (v0_12 : Int32) (v0_13 : Int32) (v0_16 : Int32) (v0_17 : Int32) (v0_21 : Int32) (v0_23 : Int32) (v0_24 : Int32) (v0_25 : Int32) (v0_26 : Int32) (v0_29 : Int32) (v0_30 : Int64) (v0_0 : Nat → Int32) : va_W := [(a0 0, .inr (11, [.ref (a0 1), .ref (a0 2), .int v0_2, .int v0_3, .ref (a0 5), .int v0_5, .ref (a0 7), .ref (a0 8), .ref (a0 9), .ref (a0 10), .ref (a0 11), .ref (a0 12), .int v0_12, .int v0_13, .ref (a0 15), .ref (a0 16), .int v0_16, .int v0_17, .ref (a0 19), .ref (a0 20), .ref (a0 21), .int v0_21, .ref (a0 23), .int v0_23, .int v0_24, .int v0_25, .int v0_26, .ref (a0 28), .ref (a0 29), .int v0_29, .long v0_30])), (a0 1, .inl (cI, 86, .inl v0_0))]
abbrev wz_X12_point : List Cond := .code yX12_point cX12_point 4 (some .int) :: wALL
abbrev rm_X12_point : Room := { frames := 2, cells := 0, slots := 0, locals := 43 }
abbrev Q_X12_point (dC : Nat → ClassId) (dI : Nat → Nat → Nat) (cI : ClassId) (a0 : Nat → Nat) (v0_2 : Int32) (v0_5 : Int32) (v0_12 : Int32) (v0_13 : Int32) (v0_16 : Int32) (v0_17 : Int32) (v0_21 : Int32) (v0_23 : Int32) (v0_24 : Int32) (v0_25 : Int32) (v0_26 : Int32) (v0_29 : Int32) (v0_30 : Int64) (v0_0 : Nat → Int32) (u : (Int32 × Int32)) (A : Nat → Prop) : Array Value → State → Outcome → State → Prop := va_Qi (fun (r : Int32) (_ : Unit) => r = u.1) (fun _ => q_at dC dI cI A (wd_X12_point cI a0 v0_2 u.2 v0_5 v0_12 v0_13 v0_16 v0_17 v0_21 v0_23 v0_24 v0_25 v0_26 v0_29 v0_30 v0_0)) A
set_option maxHeartbeats 4000000 in
set_option maxRecDepth 100000 in
theorem c_X12_point (l : Launch) (dC : Nat → ClassId) (dI : Nat → Nat → Nat) (cI : ClassId) (sz : Nat) (a0 : Nat → Nat) (v0_2 : Int32) (v0_3 : Int32) (v0_5 : Int32) (v0_12 : Int32) (v0_13 : Int32) (v0_16 : Int32) (v0_17 : Int32) (v0_21 : Int32) (v0_23 : Int32) (v0_24 : Int32) (v0_25 : Int32) (v0_26 : Int32) (v0_29 : Int32) (v0_30 : Int64) (v0_0 : Nat → Int32) (p1 : Int32) (p2 : Int32) (p3 : Int32) (u : (Int32 × Int32)) (hF : F_X12_point v0_0 p1 p2 p3 = some u) : Met l yX12_point wz_X12_point rm_X12_point (va_Pc [.ref (a0 0), .int p1, .int p2, .int p3] (q_pre dC dI cI (wd_X12_point cI a0 v0_2 v0_3 v0_5 v0_12 v0_13 v0_16 v0_17 v0_21 v0_23 v0_24 v0_25 v0_26 v0_29 v0_30 v0_0) sz)) (Q_X12_point dC dI cI a0 v0_2 v0_5 v0_12 v0_13 v0_16 v0_17 v0_21 v0_23 v0_24 v0_25 v0_26 v0_29 v0_30 v0_0 u (va_A (wd_X12_point cI a0 v0_2 v0_3 v0_5 v0_12 v0_13 v0_16 v0_17 v0_21 v0_23 v0_24 v0_25 v0_26 v0_29 v0_30 v0_0) sz)) 0 0 (va_A (wd_X12_point cI a0 v0_2 v0_3 v0_5 v0_12 v0_13 v0_16 v0_17 v0_21 v0_23 v0_24 v0_25 v0_26 v0_29 v0_30 v0_0) sz) := by
  refine Met.ofW (cc := cX12_point) (maxL := 4) (ret := (some .int)) (by decide) rfl ?_
  intro p e s m args below meth c s₁ B hml hv
  obtain ⟨rfl, hsz, hP, hK, hD0⟩ := hv
  have hx := B.exec
  have hb := B.bytes
  have hr := B.returns
  have hts := atoms_spec (ws := wz_X12_point) B.pre
  have hta := wz_tl hts
  have hown : s.vm.findClass RX12 = some m.cls := findClass_of_methodNamed B.named
  have hlocks := B.notSynchronized
  subst hsz
  have hD := hD0.self (sz := s.heap.size)
  generalize hAe : va_A (wd_X12_point cI a0 v0_2 v0_3 v0_5 v0_12 v0_13 v0_16 v0_17 v0_21 v0_23 v0_24 v0_25 v0_26 v0_29 v0_30 v0_0) s.heap.size = A at hD ⊢
  have hA : ∀ q : Nat, s.heap.size ≤ q → A q := fun q h => by rw [← hAe]; exact Or.inr h
  have hS : va_S A s.heap s.heap [] := va_S.rf
  have hP : va_P (dC, dI) vwCl (wd_X12_point cI a0 v0_2 v0_3 v0_5 v0_12 v0_13 v0_16 v0_17 v0_21 v0_23 v0_24 v0_25 v0_26 v0_29 v0_30 v0_0) s.heap := hP
  have hl := lv_entry ([.ref (a0 0), .int p1, .int p2, .int p3]) (n := 4) (Nat.le_of_ble_eq_true rfl)
  rw [lg_entry_eq]
  generalize (lg_sl ([.ref (a0 0), .int p1, .int p2, .int p3]) ++ List.replicate (4 - (lg_sl ([.ref (a0 0), .int p1, .int p2, .int p3])).length) Slot.unset).toArray = ls at hl ⊢
  have hl : lv_has ls 4 [(0, .ref (a0 0)), (1, .int p1), (2, .int p2), (3, .int p3)] := hl
  obtain ⟨H, hHe⟩ : ∃ H, H = s.heap := ⟨_, rfl⟩
  have hS : va_S A s.heap H [] := by rw [hHe]; exact hS
  have hP : va_P (dC, dI) vwCl (wd_X12_point cI a0 v0_2 v0_3 v0_5 v0_12 v0_13 v0_16 v0_17 v0_21 v0_23 v0_24 v0_25 v0_26 v0_29 v0_30 v0_0) H := by rw [hHe]; exact hP
  rw [← hHe]
  unfold F_X12_point at hF
  have j29 : ∀ (v0_3 : Int32) (x1 : Int32) (x2 : Int32) (x3 : Int32) (t1 : Int32), F_X12_point_j29 v0_0 x1 x2 x3 t1 = some u → ∀ (H : Heap) (locs : List Loc) (ls : Array Slot), va_P (dC, dI) vwCl (wd_X12_point cI a0 v0_2 v0_3 v0_5 v0_12 v0_13 v0_16 v0_17 v0_21 v0_23 v0_24 v0_25 v0_26 v0_29 v0_30 v0_0) H → va_D A (wd_X12_point cI a0 v0_2 v0_3 v0_5 v0_12 v0_13 v0_16 v0_17 v0_21 v0_23 v0_24 v0_25 v0_26 v0_29 v0_30 v0_0) → va_S A s.heap H locs → lv_has ls 4 [(0, .ref (a0 0)), (1, .int x1), (2, .int x2), (3, .int x3)] → W p l e (headSpec wz_X12_point rm_X12_point).room s m [.ref (a0 0), .int p1, .int p2, .int p3].toArray below meth c H locs 0 0 (MQ below (Q_X12_point dC dI cI a0 v0_2 v0_5 v0_12 v0_13 v0_16 v0_17 v0_21 v0_23 v0_24 v0_25 v0_26 v0_29 v0_30 v0_0 u A) [.ref (a0 0), .int p1, .int p2, .int p3].toArray s 0 0 A) (F0 m 29 ls [.int t1, .ref (a0 0)]) := by
    intro v0_3 x1 x2 x3 t1 hF H locs ls hP hD hS hl
    unfold F_X12_point_j29 at hF
    obtain ⟨u_1, hu_1, hF⟩ := lt_some hF
    have hPc := hP.sub (ws' := (wd_X12_refused cI a0 v0_2 v0_3 v0_5 v0_12 v0_13 v0_16 v0_17 v0_21 v0_23 v0_24 v0_25 v0_26 v0_29 v0_30)) [0] rfl
    have hDc := hD.sub (ws' := (wd_X12_refused cI a0 v0_2 v0_3 v0_5 v0_12 v0_13 v0_16 v0_17 v0_21 v0_23 v0_24 v0_25 v0_26 v0_29 v0_30)) [0] rfl rfl
    refine q_callz (wc := (wd_X12_refused cI a0 v0_2 v0_3 v0_5 v0_12 v0_13 v0_16 v0_17 v0_21 v0_23 v0_24 v0_25 v0_26 v0_29 v0_30)) (w1 := (wd_X12_refused cI a0 v0_2 u_1.2 v0_5 v0_12 v0_13 v0_16 v0_17 v0_21 v0_23 v0_24 v0_25 v0_26 v0_29 v0_30)) (ws' := (wd_X12_point cI a0 v0_2 u_1.2 v0_5 v0_12 v0_13 v0_16 v0_17 v0_21 v0_23 v0_24 v0_25 v0_26 v0_29 v0_30 v0_0)) hP hD hS hA [0] [1] [1, 0] rfl rfl rfl (by decide) rfl rfl (va_runV (As := [.int t1]) (rest := []) ⟨hx, hb, hml, hown, hta⟩ (c_X12_refused l dC dI cI H.size a0 v0_2 v0_3 v0_5 v0_12 v0_13 v0_16 v0_17 v0_21 v0_23 v0_24 v0_25 v0_26 v0_29 v0_30 t1 u_1 hu_1.symm) (cwV 1 hta (ga_V mA822 mA823 mA824 mA814 mA809) rfl rfl rfl (by decide +kernel) ⟨Nat.le_of_ble_eq_true rfl, Nat.le_of_ble_eq_true rfl⟩) ⟨q_fb, va_recv hK hP (ci := 11) (q0 := 0) rfl rfl, q_ps hPc hK hDc⟩ rfl rfl hl.1 rfl (lv_room (Nat.le_of_ble_eq_true rfl)) dX12_point_29 ⟨Nat.zero_le _, Nat.zero_le _⟩) (fun hzu_1 H locs hP hD hS => ?_)
    refine lv_if_eq (tgt := 37) hx hb dX12_point_32 (by decide) (fun c_2 => ?_) (fun c_2 => ?_)
    · have hF := it_t hF c_2
      refine lv_iload_n hx hb dX12_point_37 rfl (lv_at hl 3 rfl) ?_
      refine lv_if_eq (tgt := 50) hx hb dX12_point_38 (by decide) (fun c_3 => ?_) (fun c_3 => ?_)
      · have hF := it_t hF c_3
        refine lv_aload_n hx hb dX12_point_50 rfl (lv_at hl 0 rfl) ?_
        refine lv_iload_n hx hb dX12_point_51 rfl (lv_at hl 1 rfl) ?_
        refine lv_iload_n hx hb dX12_point_52 rfl (lv_at hl 2 rfl) ?_
        obtain ⟨u_4, hu_4, hF⟩ := obd_some hF
        have hPc := hP.sub (ws' := (wd_X12_x cI a0 v0_2 u_1.2 v0_5 v0_12 v0_13 v0_16 v0_17 v0_21 v0_23 v0_24 v0_25 v0_26 v0_29 v0_30 v0_0)) [0, 1] rfl
        have hDc := hD.sub (ws' := (wd_X12_x cI a0 v0_2 u_1.2 v0_5 v0_12 v0_13 v0_16 v0_17 v0_21 v0_23 v0_24 v0_25 v0_26 v0_29 v0_30 v0_0)) [0, 1] rfl rfl
        refine q_calli (wc := (wd_X12_x cI a0 v0_2 u_1.2 v0_5 v0_12 v0_13 v0_16 v0_17 v0_21 v0_23 v0_24 v0_25 v0_26 v0_29 v0_30 v0_0)) (w1 := (wd_X12_x cI a0 v0_2 u_1.2 v0_5 v0_12 v0_13 v0_16 v0_17 v0_21 v0_23 v0_24 v0_25 v0_26 v0_29 v0_30 v0_0)) (ws' := (wd_X12_point cI a0 v0_2 u_1.2 v0_5 v0_12 v0_13 v0_16 v0_17 v0_21 v0_23 v0_24 v0_25 v0_26 v0_29 v0_30 v0_0)) hP hD hS hA [0, 1] [] [0, 1] rfl rfl rfl (by decide) rfl rfl (va_runV (As := [.int x1, .int x2]) (rest := []) ⟨hx, hb, hml, hown, hta⟩ (c_X12_x l dC dI cI H.size a0 v0_2 u_1.2 v0_5 v0_12 v0_13 v0_16 v0_17 v0_21 v0_23 v0_24 v0_25 v0_26 v0_29 v0_30 v0_0 x1 x2 u_4 hu_4) (cwV 2 hta (ga_V mA870 mA871 mA872 mA814 mA831) rfl rfl rfl (by decide +kernel) ⟨Nat.le_of_ble_eq_true rfl, Nat.le_of_ble_eq_true rfl⟩) ⟨q_fb, va_recv hK hP (ci := 11) (q0 := 0) rfl rfl, q_ps hPc hK hDc⟩ rfl rfl hl.1 rfl (lv_room (Nat.le_of_ble_eq_true rfl)) dX12_point_53 ⟨Nat.zero_le _, Nat.zero_le _⟩) (fun H locs hP hD hS => ?_)
        obtain rfl := Option.some.inj hF
        exact W.iret (v := u_4) hx hb hr (fun t ht hW => ⟨⟨u_4, (), rfl, rfl, by rw [ht]; exact hP, va_K.moved hW.alike hK, hD⟩, hS.F ht⟩) hS.2.2 dX12_point_56
      · have hF := it_f hF c_3
        refine lv_aload_n hx hb dX12_point_41 rfl (lv_at hl 0 rfl) ?_
        refine lv_iload_n hx hb dX12_point_42 rfl (lv_at hl 1 rfl) ?_
        refine lv_iload_n hx hb dX12_point_43 rfl (lv_at hl 2 rfl) ?_
        obtain ⟨u_5, hu_5, hF⟩ := obd_some hF
        have hPc := hP.sub (ws' := (wd_X12_y cI a0 v0_2 u_1.2 v0_5 v0_12 v0_13 v0_16 v0_17 v0_21 v0_23 v0_24 v0_25 v0_26 v0_29 v0_30 v0_0)) [0, 1] rfl
        have hDc := hD.sub (ws' := (wd_X12_y cI a0 v0_2 u_1.2 v0_5 v0_12 v0_13 v0_16 v0_17 v0_21 v0_23 v0_24 v0_25 v0_26 v0_29 v0_30 v0_0)) [0, 1] rfl rfl
        refine q_calli (wc := (wd_X12_y cI a0 v0_2 u_1.2 v0_5 v0_12 v0_13 v0_16 v0_17 v0_21 v0_23 v0_24 v0_25 v0_26 v0_29 v0_30 v0_0)) (w1 := (wd_X12_y cI a0 v0_2 u_1.2 v0_5 v0_12 v0_13 v0_16 v0_17 v0_21 v0_23 v0_24 v0_25 v0_26 v0_29 v0_30 v0_0)) (ws' := (wd_X12_point cI a0 v0_2 u_1.2 v0_5 v0_12 v0_13 v0_16 v0_17 v0_21 v0_23 v0_24 v0_25 v0_26 v0_29 v0_30 v0_0)) hP hD hS hA [0, 1] [] [0, 1] rfl rfl rfl (by decide) rfl rfl (va_runV (As := [.int x1, .int x2]) (rest := []) ⟨hx, hb, hml, hown, hta⟩ (c_X12_y l dC dI cI H.size a0 v0_2 u_1.2 v0_5 v0_12 v0_13 v0_16 v0_17 v0_21 v0_23 v0_24 v0_25 v0_26 v0_29 v0_30 v0_0 x1 x2 u_5 hu_5) (cwV 2 hta (ga_V mA873 mA874 mA875 mA814 mA832) rfl rfl rfl (by decide +kernel) ⟨Nat.le_of_ble_eq_true rfl, Nat.le_of_ble_eq_true rfl⟩) ⟨q_fb, va_recv hK hP (ci := 11) (q0 := 0) rfl rfl, q_ps hPc hK hDc⟩ rfl rfl hl.1 rfl (lv_room (Nat.le_of_ble_eq_true rfl)) dX12_point_44 ⟨Nat.zero_le _, Nat.zero_le _⟩) (fun H locs hP hD hS => ?_)
        refine lv_goto (tgt := 56) hx hb dX12_point_47 (by decide) ?_
        obtain rfl := Option.some.inj hF
        exact W.iret (v := u_5) hx hb hr (fun t ht hW => ⟨⟨u_5, (), rfl, rfl, by rw [ht]; exact hP, va_K.moved hW.alike hK, hD⟩, hS.F ht⟩) hS.2.2 dX12_point_56
    · have hF := it_f hF c_2
      refine lv_iconst (v := 0) hx hb dX12_point_35 (by decide) ?_
      obtain rfl := Option.some.inj hF
      exact W.iret (v := 0) hx hb hr (fun t ht hW => ⟨⟨0, (), rfl, rfl, by rw [ht]; exact hP, va_K.moved hW.alike hK, hD⟩, hS.F ht⟩) hS.2.2 dX12_point_36
  have j28 : ∀ (v0_3 : Int32) (x1 : Int32) (x2 : Int32) (x3 : Int32), F_X12_point_j28 v0_0 x1 x2 x3 = some u → ∀ (H : Heap) (locs : List Loc) (ls : Array Slot), va_P (dC, dI) vwCl (wd_X12_point cI a0 v0_2 v0_3 v0_5 v0_12 v0_13 v0_16 v0_17 v0_21 v0_23 v0_24 v0_25 v0_26 v0_29 v0_30 v0_0) H → va_D A (wd_X12_point cI a0 v0_2 v0_3 v0_5 v0_12 v0_13 v0_16 v0_17 v0_21 v0_23 v0_24 v0_25 v0_26 v0_29 v0_30 v0_0) → va_S A s.heap H locs → lv_has ls 4 [(0, .ref (a0 0)), (1, .int x1), (2, .int x2), (3, .int x3)] → W p l e (headSpec wz_X12_point rm_X12_point).room s m [.ref (a0 0), .int p1, .int p2, .int p3].toArray below meth c H locs 0 0 (MQ below (Q_X12_point dC dI cI a0 v0_2 v0_5 v0_12 v0_13 v0_16 v0_17 v0_21 v0_23 v0_24 v0_25 v0_26 v0_29 v0_30 v0_0 u A) [.ref (a0 0), .int p1, .int p2, .int p3].toArray s 0 0 A) (F0 m 28 ls [.ref (a0 0)]) := by
    intro v0_3 x1 x2 x3 hF H locs ls hP hD hS hl
    unfold F_X12_point_j28 at hF
    refine lv_iconst (v := 1) hx hb dX12_point_28 (by decide) ?_
    exact j29 v0_3 x1 x2 x3 1 hF _ _ _ hP hD hS (lv_sub hl [0, 1, 2, 3] rfl)
  refine lv_aload_n hx hb dX12_point_0 rfl (lv_at hl 0 rfl) ?_
  refine lv_aload_n hx hb dX12_point_1 rfl (lv_at hl 0 rfl) ?_
  refine lv_iload_n hx hb dX12_point_2 rfl (lv_at hl 1 rfl) ?_
  obtain ⟨u_6, hu_6, hF⟩ := obd_some hF
  have hPc := hP.sub (ws' := (wd_X12_isSubpath cI a0 v0_2 v0_3 v0_5 v0_12 v0_13 v0_16 v0_17 v0_21 v0_23 v0_24 v0_25 v0_26 v0_29 v0_30 v0_0)) [0, 1] rfl
  have hDc := hD.sub (ws' := (wd_X12_isSubpath cI a0 v0_2 v0_3 v0_5 v0_12 v0_13 v0_16 v0_17 v0_21 v0_23 v0_24 v0_25 v0_26 v0_29 v0_30 v0_0)) [0, 1] rfl rfl
  refine q_callz (wc := (wd_X12_isSubpath cI a0 v0_2 v0_3 v0_5 v0_12 v0_13 v0_16 v0_17 v0_21 v0_23 v0_24 v0_25 v0_26 v0_29 v0_30 v0_0)) (w1 := (wd_X12_isSubpath cI a0 v0_2 v0_3 v0_5 v0_12 v0_13 v0_16 v0_17 v0_21 v0_23 v0_24 v0_25 v0_26 v0_29 v0_30 v0_0)) (ws' := (wd_X12_point cI a0 v0_2 v0_3 v0_5 v0_12 v0_13 v0_16 v0_17 v0_21 v0_23 v0_24 v0_25 v0_26 v0_29 v0_30 v0_0)) hP hD hS hA [0, 1] [] [0, 1] rfl rfl rfl (by decide) rfl rfl (va_runV (As := [.int p1]) (rest := [.ref (a0 0)]) ⟨hx, hb, hml, hown, hta⟩ (c_X12_isSubpath l dC dI cI H.size a0 v0_2 v0_3 v0_5 v0_12 v0_13 v0_16 v0_17 v0_21 v0_23 v0_24 v0_25 v0_26 v0_29 v0_30 v0_0 p1 u_6 hu_6) (cwV 1 hta (ga_V mA879 mA880 mA881 mA814 mA826) rfl rfl rfl (by decide +kernel) ⟨Nat.le_of_ble_eq_true rfl, Nat.le_of_ble_eq_true rfl⟩) ⟨q_fb, va_recv hK hP (ci := 11) (q0 := 0) rfl rfl, q_ps hPc hK hDc⟩ rfl rfl hl.1 rfl (lv_room (Nat.le_of_ble_eq_true rfl)) dX12_point_3 ⟨Nat.zero_le _, Nat.zero_le _⟩) (fun hzu_6 H locs hP hD hS => ?_)
  refine lv_if_eq (tgt := 28) hx hb dX12_point_6 (by decide) (fun c_7 => ?_) (fun c_7 => ?_)
  · have hF := it_t hF c_7
    exact j28 v0_3 p1 p2 p3 hF _ _ _ hP hD hS (lv_sub hl [0, 1, 2, 3] rfl)
  · have hF := it_f hF c_7
    refine lv_iload_n hx hb dX12_point_9 rfl (lv_at hl 2 rfl) ?_
    refine lv_iconst (v := 0) hx hb dX12_point_10 (by decide) ?_
    refine lv_aload_n hx hb dX12_point_11 rfl (lv_at hl 0 rfl) ?_
    refine lv_iload_n hx hb dX12_point_12 rfl (lv_at hl 1 rfl) ?_
    obtain ⟨u_8, hu_8, hF⟩ := obd_some hF
    have hPc := hP.sub (ws' := (wd_X12_points cI a0 v0_2 v0_3 v0_5 v0_12 v0_13 v0_16 v0_17 v0_21 v0_23 v0_24 v0_25 v0_26 v0_29 v0_30 v0_0)) [0, 1] rfl
    have hDc := hD.sub (ws' := (wd_X12_points cI a0 v0_2 v0_3 v0_5 v0_12 v0_13 v0_16 v0_17 v0_21 v0_23 v0_24 v0_25 v0_26 v0_29 v0_30 v0_0)) [0, 1] rfl rfl
    refine q_calli (wc := (wd_X12_points cI a0 v0_2 v0_3 v0_5 v0_12 v0_13 v0_16 v0_17 v0_21 v0_23 v0_24 v0_25 v0_26 v0_29 v0_30 v0_0)) (w1 := (wd_X12_points cI a0 v0_2 v0_3 v0_5 v0_12 v0_13 v0_16 v0_17 v0_21 v0_23 v0_24 v0_25 v0_26 v0_29 v0_30 v0_0)) (ws' := (wd_X12_point cI a0 v0_2 v0_3 v0_5 v0_12 v0_13 v0_16 v0_17 v0_21 v0_23 v0_24 v0_25 v0_26 v0_29 v0_30 v0_0)) hP hD hS hA [0, 1] [] [0, 1] rfl rfl rfl (by decide) rfl rfl (va_runV (As := [.int p1]) (rest := [.int 0, .int p2, .ref (a0 0)]) ⟨hx, hb, hml, hown, hta⟩ (c_X12_points l dC dI cI H.size a0 v0_2 v0_3 v0_5 v0_12 v0_13 v0_16 v0_17 v0_21 v0_23 v0_24 v0_25 v0_26 v0_29 v0_30 v0_0 p1 u_8 hu_8) (cwV 1 hta (ga_V mA839 mA840 mA841 mA814 mA827) rfl rfl rfl (by decide +kernel) ⟨Nat.le_of_ble_eq_true rfl, Nat.le_of_ble_eq_true rfl⟩) ⟨q_fb, va_recv hK hP (ci := 11) (q0 := 0) rfl rfl, q_ps hPc hK hDc⟩ rfl rfl hl.1 rfl (lv_room (Nat.le_of_ble_eq_true rfl)) dX12_point_13 ⟨Nat.zero_le _, Nat.zero_le _⟩) (fun H locs hP hD hS => ?_)
    refine lv_iconst (v := 1) hx hb dX12_point_16 (by decide) ?_
    refine lv_isub hx hb dX12_point_17 ?_
    obtain ⟨u_9, hu_9, hF⟩ := lt_some hF
    have hPc := hP.sub (ws' := ([] : va_W)) [] rfl
    have hDc := hD.sub (ws' := ([] : va_W)) [] rfl rfl
    refine q_callz (wc := ([] : va_W)) (w1 := ([] : va_W)) (ws' := (wd_X12_point cI a0 v0_2 v0_3 v0_5 v0_12 v0_13 v0_16 v0_17 v0_21 v0_23 v0_24 v0_25 v0_26 v0_29 v0_30 v0_0)) hP hD hS hA [] [0, 1] [0, 1] rfl rfl rfl (by decide) rfl rfl (va_runS (As := [.int p2, .int 0, .int (u_8 - 1)]) (rest := [.ref (a0 0)]) ⟨hx, hb, hml, hown, hta⟩ (c_X12_within l dC dI cI H.size p2 0 (u_8 - 1) u_9 hu_9.symm) (va_cwS 3 hta (ga_S mA812 mA813 mA814 mA810) rfl rfl rfl (by decide +kernel) ⟨Nat.le_of_ble_eq_true rfl, Nat.le_of_ble_eq_true rfl⟩) ⟨q_fb, q_ps hPc hK hDc⟩ rfl rfl hl.1 rfl (lv_room (Nat.le_of_ble_eq_true rfl)) dX12_point_18 ⟨Nat.zero_le _, Nat.zero_le _⟩) (fun hzu_9 H locs hP hD hS => ?_)
    refine lv_if_eq (tgt := 28) hx hb dX12_point_21 (by decide) (fun c_10 => ?_) (fun c_10 => ?_)
    · have hF := it_t hF c_10
      exact j28 v0_3 p1 p2 p3 hF _ _ _ hP hD hS (lv_sub hl [0, 1, 2, 3] rfl)
    · have hF := it_f hF c_10
      refine lv_iconst (v := 0) hx hb dX12_point_24 (by decide) ?_
      refine lv_goto (tgt := 29) hx hb dX12_point_25 (by decide) ?_
      exact j29 v0_3 p1 p2 p3 0 hF _ _ _ hP hD hS (lv_sub hl [0, 1, 2, 3] rfl)

-- StrokeOutlinerModel.pointAt(IIZ)I
def F_X12_pointAt_j98 (v0_3 : Int32) (v0_12 : Int32) (v0_13 : Int32) (v0_6 : Nat → Int32) (v0_7 : Nat → Int32) (v0_8 : Nat → Int32) (v0_9 : Nat → Int32) (v0_10 : Nat → Int32) (v0_11 : Nat → Int32) (x2 : Int32) (x3 : Int32) (x4 : Int32) : Option (Int32 × Int32 × Int32 × Int32 × (Nat → Int32) × (Nat → Int32) × (Nat → Int32) × (Nat → Int32) × (Nat → Int32) × (Nat → Int32)) :=
  if x3 = 0 then gd (decide (vpi x4 8)) (obd (F_X12_alongX v0_6 v0_8 v0_10 x4 (x2 - (v0_11 x4.toNatClampNeg))) (fun u_3 => some (u_3, v0_3, v0_12, v0_13, v0_6, v0_7, v0_8, v0_9, v0_10, v0_11))) else gd (decide (vpi x4 8)) (obd (F_X12_alongY v0_7 v0_9 v0_10 x4 (x2 - (v0_11 x4.toNatClampNeg))) (fun u_5 => some (u_5, v0_3, v0_12, v0_13, v0_6, v0_7, v0_8, v0_9, v0_10, v0_11)))
def F_X12_pointAt_b73 (v0_10 : Nat → Int32) (v0_11 : Nat → Int32) (x2 : Int32) (s73 : Int32) : Option (Sum (Int32) (Int32)) :=
  gd (decide (vpi s73 8)) (gd (decide (vpi s73 8)) (if x2 ≤ ((v0_11 s73.toNatClampNeg) + (v0_10 s73.toNatClampNeg)) then some (.inr s73) else lt (s73 + 1) (fun y_9 => some (.inl y_9))))
def F_X12_pointAt_j73 (n : Nat) (v0_3 : Int32) (v0_12 : Int32) (v0_13 : Int32) (v0_6 : Nat → Int32) (v0_7 : Nat → Int32) (v0_8 : Nat → Int32) (v0_9 : Nat → Int32) (v0_10 : Nat → Int32) (v0_11 : Nat → Int32) (x2 : Int32) (x3 : Int32) (x4 : Int32) : Option (Int32 × Int32 × Int32 × Int32 × (Nat → Int32) × (Nat → Int32) × (Nat → Int32) × (Nat → Int32) × (Nat → Int32) × (Nat → Int32)) :=
  obd (lpq (F_X12_pointAt_b73 v0_10 v0_11 x2) n x4) (fun x_73 => F_X12_pointAt_j98 v0_3 v0_12 v0_13 v0_6 v0_7 v0_8 v0_9 v0_10 v0_11 x2 x3 x_73)
def F_X12_pointAt_j68 (v0_3 : Int32) (v0_12 : Int32) (v0_13 : Int32) (v0_6 : Nat → Int32) (v0_7 : Nat → Int32) (v0_8 : Nat → Int32) (v0_9 : Nat → Int32) (v0_10 : Nat → Int32) (v0_11 : Nat → Int32) (t0 : Int32) (t1 : Int32) : Option (Int32 × Int32 × Int32 × Int32 × (Nat → Int32) × (Nat → Int32) × (Nat → Int32) × (Nat → Int32) × (Nat → Int32) × (Nat → Int32)) :=
  some ((t0 * t1), v0_3, v0_12, v0_13, v0_6, v0_7, v0_8, v0_9, v0_10, v0_11)
def F_X12_pointAt_j32 (n : Nat) (v0_12 : Int32) (v0_13 : Int32) (v0_0 : Nat → Int32) (v0_6 : Nat → Int32) (v0_7 : Nat → Int32) (v0_8 : Nat → Int32) (v0_9 : Nat → Int32) (v0_10 : Nat → Int32) (v0_11 : Nat → Int32) (x1 : Int32) (x2 : Int32) (x3 : Int32) (t1 : Int32) : Option (Int32 × Int32 × Int32 × Int32 × (Nat → Int32) × (Nat → Int32) × (Nat → Int32) × (Nat → Int32) × (Nat → Int32) × (Nat → Int32)) :=
  lt (F_X12_refused t1) (fun u_10 => if u_10.1 = 0 then if v0_12 = 0 then if x3 = 0 then obd (F_X12_x v0_0 x1 0) (fun u_14 => F_X12_pointAt_j68 u_10.2 v0_12 v0_13 v0_6 v0_7 v0_8 v0_9 v0_10 v0_11 64 u_14) else obd (F_X12_y v0_0 x1 0) (fun u_15 => F_X12_pointAt_j68 u_10.2 v0_12 v0_13 v0_6 v0_7 v0_8 v0_9 v0_10 v0_11 64 u_15) else F_X12_pointAt_j73 n u_10.2 v0_12 v0_13 v0_6 v0_7 v0_8 v0_9 v0_10 v0_11 x2 x3 0 else some (0, u_10.2, v0_12, v0_13, v0_6, v0_7, v0_8, v0_9, v0_10, v0_11))
def F_X12_pointAt (n : Nat) (v0_12 : Int32) (v0_13 : Int32) (v0_0 : Nat → Int32) (v0_6 : Nat → Int32) (v0_7 : Nat → Int32) (v0_8 : Nat → Int32) (v0_9 : Nat → Int32) (v0_10 : Nat → Int32) (v0_11 : Nat → Int32) (p1 : Int32) (p2 : Int32) (p3 : Int32) : Option (Int32 × Int32 × Int32 × Int32 × (Nat → Int32) × (Nat → Int32) × (Nat → Int32) × (Nat → Int32) × (Nat → Int32) × (Nat → Int32)) :=
  obd (F_X12_isSubpath v0_0 p1) (fun u_16 => if u_16 = 0 then F_X12_pointAt_j32 n v0_12 v0_13 v0_0 v0_6 v0_7 v0_8 v0_9 v0_10 v0_11 p1 p2 p3 1 else obd (F_X12_tellSubpath n v0_0 v0_6 v0_7 v0_8 v0_9 v0_10 v0_11 p1 3) (fun u_18 => lt (F_X12_within p2 0 u_18.1) (fun u_19 => if u_19 = 0 then F_X12_pointAt_j32 n u_18.2.1 u_18.2.2.1 v0_0 u_18.2.2.2.1 u_18.2.2.2.2.1 u_18.2.2.2.2.2.1 u_18.2.2.2.2.2.2.1 u_18.2.2.2.2.2.2.2.1 u_18.2.2.2.2.2.2.2.2 p1 p2 p3 2 else F_X12_pointAt_j32 n u_18.2.1 u_18.2.2.1 v0_0 u_18.2.2.2.1 u_18.2.2.2.2.1 u_18.2.2.2.2.2.1 u_18.2.2.2.2.2.2.1 u_18.2.2.2.2.2.2.2.1 u_18.2.2.2.2.2.2.2.2 p1 p2 p3 0)))
abbrev wd_X12_pointAt (cI : ClassId) (a0 : Nat → Nat) (v0_2 : Int32) (v0_3 : Int32) (v0_5 : Int32) (v0_12 : Int32) (v0_13 : Int32) (v0_16 : Int32) (v0_17 : Int32) (v0_21 : Int32) (v0_23 : Int32) (v0_24 : Int32) (v0_25 : Int32) (v0_26 : Int32) (v0_29 : Int32) (v0_30 : Int64) (v0_0 : Nat → Int32) (v0_6 : Nat → Int32) (v0_7 : Nat → Int32) (v0_8 : Nat → Int32) (v0_9 : Nat → Int32) (v0_10 : Nat → Int32) (v0_11 : Nat → Int32) : va_W := [(a0 0, .inr (11, [.ref (a0 1), .ref (a0 2), .int v0_2, .int v0_3, .ref (a0 5), .int v0_5, .ref (a0 7), .ref (a0 8), .ref (a0 9), .ref (a0 10), .ref (a0 11), .ref (a0 12), .int v0_12, .int v0_13, .ref (a0 15), .ref (a0 16), .int v0_16, .int v0_17, .ref (a0 19), .ref (a0 20), .ref (a0 21), .int v0_21, .ref (a0 23), .int v0_23, .int v0_24, .int v0_25, .int v0_26, .ref (a0 28), .ref (a0 29), .int v0_29, .long v0_30])), (a0 1, .inl (cI, 86, .inl v0_0)), (a0 7, .inl (cI, 8, .inl v0_6)), (a0 8, .inl (cI, 8, .inl v0_7)), (a0 9, .inl (cI, 8, .inl v0_8)), (a0 10, .inl (cI, 8, .inl v0_9)), (a0 11, .inl (cI, 8, .inl v0_10)), (a0 12, .inl (cI, 8, .inl v0_11))]
abbrev wz_X12_pointAt : List Cond := .code yX12_pointAt cX12_pointAt 5 (some .int) :: wALL
abbrev rm_X12_pointAt : Room := { frames := 4, cells := 0, slots := 0, locals := 90 }
abbrev Q_X12_pointAt (dC : Nat → ClassId) (dI : Nat → Nat → Nat) (cI : ClassId) (a0 : Nat → Nat) (v0_2 : Int32) (v0_5 : Int32) (v0_16 : Int32) (v0_17 : Int32) (v0_21 : Int32) (v0_23 : Int32) (v0_24 : Int32) (v0_25 : Int32) (v0_26 : Int32) (v0_29 : Int32) (v0_30 : Int64) (v0_0 : Nat → Int32) (u : (Int32 × Int32 × Int32 × Int32 × (Nat → Int32) × (Nat → Int32) × (Nat → Int32) × (Nat → Int32) × (Nat → Int32) × (Nat → Int32))) (A : Nat → Prop) : Array Value → State → Outcome → State → Prop := va_Qi (fun (r : Int32) (_ : Unit) => r = u.1) (fun _ => q_at dC dI cI A (wd_X12_pointAt cI a0 v0_2 u.2.1 v0_5 u.2.2.1 u.2.2.2.1 v0_16 v0_17 v0_21 v0_23 v0_24 v0_25 v0_26 v0_29 v0_30 v0_0 u.2.2.2.2.1 u.2.2.2.2.2.1 u.2.2.2.2.2.2.1 u.2.2.2.2.2.2.2.1 u.2.2.2.2.2.2.2.2.1 u.2.2.2.2.2.2.2.2.2)) A
set_option maxHeartbeats 4000000 in
set_option maxRecDepth 100000 in
theorem c_X12_pointAt (l : Launch) (dC : Nat → ClassId) (dI : Nat → Nat → Nat) (cI : ClassId) (sz : Nat) (a0 : Nat → Nat) (v0_2 : Int32) (v0_3 : Int32) (v0_5 : Int32) (v0_12 : Int32) (v0_13 : Int32) (v0_16 : Int32) (v0_17 : Int32) (v0_21 : Int32) (v0_23 : Int32) (v0_24 : Int32) (v0_25 : Int32) (v0_26 : Int32) (v0_29 : Int32) (v0_30 : Int64) (v0_0 : Nat → Int32) (v0_6 : Nat → Int32) (v0_7 : Nat → Int32) (v0_8 : Nat → Int32) (v0_9 : Nat → Int32) (v0_10 : Nat → Int32) (v0_11 : Nat → Int32) (p1 : Int32) (p2 : Int32) (p3 : Int32) (n : Nat) (u : (Int32 × Int32 × Int32 × Int32 × (Nat → Int32) × (Nat → Int32) × (Nat → Int32) × (Nat → Int32) × (Nat → Int32) × (Nat → Int32))) (hF : F_X12_pointAt n v0_12 v0_13 v0_0 v0_6 v0_7 v0_8 v0_9 v0_10 v0_11 p1 p2 p3 = some u) : Met l yX12_pointAt wz_X12_pointAt rm_X12_pointAt (va_Pc [.ref (a0 0), .int p1, .int p2, .int p3] (q_pre dC dI cI (wd_X12_pointAt cI a0 v0_2 v0_3 v0_5 v0_12 v0_13 v0_16 v0_17 v0_21 v0_23 v0_24 v0_25 v0_26 v0_29 v0_30 v0_0 v0_6 v0_7 v0_8 v0_9 v0_10 v0_11) sz)) (Q_X12_pointAt dC dI cI a0 v0_2 v0_5 v0_16 v0_17 v0_21 v0_23 v0_24 v0_25 v0_26 v0_29 v0_30 v0_0 u (va_A (wd_X12_pointAt cI a0 v0_2 v0_3 v0_5 v0_12 v0_13 v0_16 v0_17 v0_21 v0_23 v0_24 v0_25 v0_26 v0_29 v0_30 v0_0 v0_6 v0_7 v0_8 v0_9 v0_10 v0_11) sz)) 0 0 (va_A (wd_X12_pointAt cI a0 v0_2 v0_3 v0_5 v0_12 v0_13 v0_16 v0_17 v0_21 v0_23 v0_24 v0_25 v0_26 v0_29 v0_30 v0_0 v0_6 v0_7 v0_8 v0_9 v0_10 v0_11) sz) := by
  refine Met.ofW (cc := cX12_pointAt) (maxL := 5) (ret := (some .int)) (by decide) rfl ?_
  intro p e s m args below meth c s₁ B hml hv
  obtain ⟨rfl, hsz, hP, hK, hD0⟩ := hv
  have hx := B.exec
  have hb := B.bytes
  have hr := B.returns
  have hts := atoms_spec (ws := wz_X12_pointAt) B.pre
  have hta := wz_tl hts
  have hown : s.vm.findClass RX12 = some m.cls := findClass_of_methodNamed B.named
  have hlocks := B.notSynchronized
  subst hsz
  have hD := hD0.self (sz := s.heap.size)
  generalize hAe : va_A (wd_X12_pointAt cI a0 v0_2 v0_3 v0_5 v0_12 v0_13 v0_16 v0_17 v0_21 v0_23 v0_24 v0_25 v0_26 v0_29 v0_30 v0_0 v0_6 v0_7 v0_8 v0_9 v0_10 v0_11) s.heap.size = A at hD ⊢
  have hA : ∀ q : Nat, s.heap.size ≤ q → A q := fun q h => by rw [← hAe]; exact Or.inr h
  have hS : va_S A s.heap s.heap [] := va_S.rf
  have hP : va_P (dC, dI) vwCl (wd_X12_pointAt cI a0 v0_2 v0_3 v0_5 v0_12 v0_13 v0_16 v0_17 v0_21 v0_23 v0_24 v0_25 v0_26 v0_29 v0_30 v0_0 v0_6 v0_7 v0_8 v0_9 v0_10 v0_11) s.heap := hP
  have hl := lv_entry ([.ref (a0 0), .int p1, .int p2, .int p3]) (n := 5) (Nat.le_of_ble_eq_true rfl)
  rw [lg_entry_eq]
  generalize (lg_sl ([.ref (a0 0), .int p1, .int p2, .int p3]) ++ List.replicate (5 - (lg_sl ([.ref (a0 0), .int p1, .int p2, .int p3])).length) Slot.unset).toArray = ls at hl ⊢
  have hl : lv_has ls 5 [(0, .ref (a0 0)), (1, .int p1), (2, .int p2), (3, .int p3)] := hl
  obtain ⟨H, hHe⟩ : ∃ H, H = s.heap := ⟨_, rfl⟩
  have hS : va_S A s.heap H [] := by rw [hHe]; exact hS
  have hP : va_P (dC, dI) vwCl (wd_X12_pointAt cI a0 v0_2 v0_3 v0_5 v0_12 v0_13 v0_16 v0_17 v0_21 v0_23 v0_24 v0_25 v0_26 v0_29 v0_30 v0_0 v0_6 v0_7 v0_8 v0_9 v0_10 v0_11) H := by rw [hHe]; exact hP
  rw [← hHe]
  unfold F_X12_pointAt at hF
  have j98 : ∀ (v0_3 : Int32) (v0_12 : Int32) (v0_13 : Int32) (v0_6 : Nat → Int32) (v0_7 : Nat → Int32) (v0_8 : Nat → Int32) (v0_9 : Nat → Int32) (v0_10 : Nat → Int32) (v0_11 : Nat → Int32) (x2 : Int32) (x3 : Int32) (x4 : Int32), F_X12_pointAt_j98 v0_3 v0_12 v0_13 v0_6 v0_7 v0_8 v0_9 v0_10 v0_11 x2 x3 x4 = some u → ∀ (H : Heap) (locs : List Loc) (ls : Array Slot), va_P (dC, dI) vwCl (wd_X12_pointAt cI a0 v0_2 v0_3 v0_5 v0_12 v0_13 v0_16 v0_17 v0_21 v0_23 v0_24 v0_25 v0_26 v0_29 v0_30 v0_0 v0_6 v0_7 v0_8 v0_9 v0_10 v0_11) H → va_D A (wd_X12_pointAt cI a0 v0_2 v0_3 v0_5 v0_12 v0_13 v0_16 v0_17 v0_21 v0_23 v0_24 v0_25 v0_26 v0_29 v0_30 v0_0 v0_6 v0_7 v0_8 v0_9 v0_10 v0_11) → va_S A s.heap H locs → lv_has ls 5 [(0, .ref (a0 0)), (2, .int x2), (3, .int x3), (4, .int x4)] → W p l e (headSpec wz_X12_pointAt rm_X12_pointAt).room s m [.ref (a0 0), .int p1, .int p2, .int p3].toArray below meth c H locs 0 0 (MQ below (Q_X12_pointAt dC dI cI a0 v0_2 v0_5 v0_16 v0_17 v0_21 v0_23 v0_24 v0_25 v0_26 v0_29 v0_30 v0_0 u A) [.ref (a0 0), .int p1, .int p2, .int p3].toArray s 0 0 A) (F0 m 98 ls []) := by
    intro v0_3 v0_12 v0_13 v0_6 v0_7 v0_8 v0_9 v0_10 v0_11 x2 x3 x4 hF H locs ls hP hD hS hl
    unfold F_X12_pointAt_j98 at hF
    refine lv_iload_n hx hb dX12_pointAt_98 rfl (lv_at hl 2 rfl) ?_
    refine lv_if_eq (tgt := 120) hx hb dX12_pointAt_99 (by decide) (fun c_1 => ?_) (fun c_1 => ?_)
    · have hF := it_t hF c_1
      refine lv_aload_n hx hb dX12_pointAt_120 rfl (lv_at hl 0 rfl) ?_
      refine lv_iload hx hb dX12_pointAt_121 (lv_at hl 3 rfl) ?_
      refine lv_iload_n hx hb dX12_pointAt_123 rfl (lv_at hl 1 rfl) ?_
      refine lv_aload_n hx hb dX12_pointAt_124 rfl (lv_at hl 0 rfl) ?_
      refine va_get (D := (dC, dI)) (ci := 11) (v := .ref (a0 12)) (C := RX12) (T := TX12) (N := 31) hx hb hta uw_X12 hown hK hP 0 rfl rfl 11 (by decide) (hta _ mA798) (fun _ h9 => h9) rfl dX12_pointAt_125 ?_
      refine lv_iload hx hb dX12_pointAt_128 (lv_at hl 3 rfl) ?_
      obtain ⟨g_2, hF⟩ := gd_some hF
      refine va_iald hx hb hK hP 7 0 rfl rfl (vpi_in g_2) dX12_pointAt_130 ?_
      refine lv_isub hx hb dX12_pointAt_131 ?_
      obtain ⟨u_3, hu_3, hF⟩ := obd_some hF
      have hPc := hP.sub (ws' := (wd_X12_alongX cI a0 v0_2 v0_3 v0_5 v0_12 v0_13 v0_16 v0_17 v0_21 v0_23 v0_24 v0_25 v0_26 v0_29 v0_30 v0_6 v0_8 v0_10)) [0, 2, 4, 6] rfl
      have hDc := hD.sub (ws' := (wd_X12_alongX cI a0 v0_2 v0_3 v0_5 v0_12 v0_13 v0_16 v0_17 v0_21 v0_23 v0_24 v0_25 v0_26 v0_29 v0_30 v0_6 v0_8 v0_10)) [0, 2, 4, 6] rfl rfl
      refine q_calli (wc := (wd_X12_alongX cI a0 v0_2 v0_3 v0_5 v0_12 v0_13 v0_16 v0_17 v0_21 v0_23 v0_24 v0_25 v0_26 v0_29 v0_30 v0_6 v0_8 v0_10)) (w1 := (wd_X12_alongX cI a0 v0_2 v0_3 v0_5 v0_12 v0_13 v0_16 v0_17 v0_21 v0_23 v0_24 v0_25 v0_26 v0_29 v0_30 v0_6 v0_8 v0_10)) (ws' := (wd_X12_pointAt cI a0 v0_2 v0_3 v0_5 v0_12 v0_13 v0_16 v0_17 v0_21 v0_23 v0_24 v0_25 v0_26 v0_29 v0_30 v0_0 v0_6 v0_7 v0_8 v0_9 v0_10 v0_11)) hP hD hS hA [0, 2, 4, 6] [1, 3, 5, 7] [4, 0, 5, 1, 6, 2, 7, 3] rfl rfl rfl (by decide) rfl rfl (va_runV (As := [.int x4, .int (x2 - (v0_11 x4.toNatClampNeg))]) (rest := []) ⟨hx, hb, hml, hown, hta⟩ (c_X12_alongX l dC dI cI H.size a0 v0_2 v0_3 v0_5 v0_12 v0_13 v0_16 v0_17 v0_21 v0_23 v0_24 v0_25 v0_26 v0_29 v0_30 v0_6 v0_8 v0_10 x4 (x2 - (v0_11 x4.toNatClampNeg)) u_3 hu_3) (cwV 2 hta (ga_V mA915 mA916 mA917 mA814 mA900) rfl rfl rfl (by decide +kernel) ⟨Nat.le_of_ble_eq_true rfl, Nat.le_of_ble_eq_true rfl⟩) ⟨q_fb, va_recv hK hP (ci := 11) (q0 := 0) rfl rfl, q_ps hPc hK hDc⟩ rfl rfl hl.1 rfl (lv_room (Nat.le_of_ble_eq_true rfl)) dX12_pointAt_132 ⟨Nat.zero_le _, Nat.zero_le _⟩) (fun H locs hP hD hS => ?_)
      obtain rfl := Option.some.inj hF
      exact W.iret (v := u_3) hx hb hr (fun t ht hW => ⟨⟨u_3, (), rfl, rfl, by rw [ht]; exact hP, va_K.moved hW.alike hK, hD⟩, hS.F ht⟩) hS.2.2 dX12_pointAt_135
    · have hF := it_f hF c_1
      refine lv_aload_n hx hb dX12_pointAt_102 rfl (lv_at hl 0 rfl) ?_
      refine lv_iload hx hb dX12_pointAt_103 (lv_at hl 3 rfl) ?_
      refine lv_iload_n hx hb dX12_pointAt_105 rfl (lv_at hl 1 rfl) ?_
      refine lv_aload_n hx hb dX12_pointAt_106 rfl (lv_at hl 0 rfl) ?_
      refine va_get (D := (dC, dI)) (ci := 11) (v := .ref (a0 12)) (C := RX12) (T := TX12) (N := 31) hx hb hta uw_X12 hown hK hP 0 rfl rfl 11 (by decide) (hta _ mA798) (fun _ h9 => h9) rfl dX12_pointAt_107 ?_
      refine lv_iload hx hb dX12_pointAt_110 (lv_at hl 3 rfl) ?_
      obtain ⟨g_4, hF⟩ := gd_some hF
      refine va_iald hx hb hK hP 7 0 rfl rfl (vpi_in g_4) dX12_pointAt_112 ?_
      refine lv_isub hx hb dX12_pointAt_113 ?_
      obtain ⟨u_5, hu_5, hF⟩ := obd_some hF
      have hPc := hP.sub (ws' := (wd_X12_alongY cI a0 v0_2 v0_3 v0_5 v0_12 v0_13 v0_16 v0_17 v0_21 v0_23 v0_24 v0_25 v0_26 v0_29 v0_30 v0_7 v0_9 v0_10)) [0, 3, 5, 6] rfl
      have hDc := hD.sub (ws' := (wd_X12_alongY cI a0 v0_2 v0_3 v0_5 v0_12 v0_13 v0_16 v0_17 v0_21 v0_23 v0_24 v0_25 v0_26 v0_29 v0_30 v0_7 v0_9 v0_10)) [0, 3, 5, 6] rfl rfl
      refine q_calli (wc := (wd_X12_alongY cI a0 v0_2 v0_3 v0_5 v0_12 v0_13 v0_16 v0_17 v0_21 v0_23 v0_24 v0_25 v0_26 v0_29 v0_30 v0_7 v0_9 v0_10)) (w1 := (wd_X12_alongY cI a0 v0_2 v0_3 v0_5 v0_12 v0_13 v0_16 v0_17 v0_21 v0_23 v0_24 v0_25 v0_26 v0_29 v0_30 v0_7 v0_9 v0_10)) (ws' := (wd_X12_pointAt cI a0 v0_2 v0_3 v0_5 v0_12 v0_13 v0_16 v0_17 v0_21 v0_23 v0_24 v0_25 v0_26 v0_29 v0_30 v0_0 v0_6 v0_7 v0_8 v0_9 v0_10 v0_11)) hP hD hS hA [0, 3, 5, 6] [1, 2, 4, 7] [4, 0, 1, 5, 2, 6, 7, 3] rfl rfl rfl (by decide) rfl rfl (va_runV (As := [.int x4, .int (x2 - (v0_11 x4.toNatClampNeg))]) (rest := []) ⟨hx, hb, hml, hown, hta⟩ (c_X12_alongY l dC dI cI H.size a0 v0_2 v0_3 v0_5 v0_12 v0_13 v0_16 v0_17 v0_21 v0_23 v0_24 v0_25 v0_26 v0_29 v0_30 v0_7 v0_9 v0_10 x4 (x2 - (v0_11 x4.toNatClampNeg)) u_5 hu_5) (cwV 2 hta (ga_V mA912 mA913 mA914 mA814 mA904) rfl rfl rfl (by decide +kernel) ⟨Nat.le_of_ble_eq_true rfl, Nat.le_of_ble_eq_true rfl⟩) ⟨q_fb, va_recv hK hP (ci := 11) (q0 := 0) rfl rfl, q_ps hPc hK hDc⟩ rfl rfl hl.1 rfl (lv_room (Nat.le_of_ble_eq_true rfl)) dX12_pointAt_114 ⟨Nat.zero_le _, Nat.zero_le _⟩) (fun H locs hP hD hS => ?_)
      refine lv_goto (tgt := 135) hx hb dX12_pointAt_117 (by decide) ?_
      obtain rfl := Option.some.inj hF
      exact W.iret (v := u_5) hx hb hr (fun t ht hW => ⟨⟨u_5, (), rfl, rfl, by rw [ht]; exact hP, va_K.moved hW.alike hK, hD⟩, hS.F ht⟩) hS.2.2 dX12_pointAt_135
  have j73 : ∀ (v0_3 : Int32) (v0_12 : Int32) (v0_13 : Int32) (v0_6 : Nat → Int32) (v0_7 : Nat → Int32) (v0_8 : Nat → Int32) (v0_9 : Nat → Int32) (v0_10 : Nat → Int32) (v0_11 : Nat → Int32) (x2 : Int32) (x3 : Int32) (x4 : Int32), F_X12_pointAt_j73 n v0_3 v0_12 v0_13 v0_6 v0_7 v0_8 v0_9 v0_10 v0_11 x2 x3 x4 = some u → ∀ (H : Heap) (locs : List Loc) (ls : Array Slot), va_P (dC, dI) vwCl (wd_X12_pointAt cI a0 v0_2 v0_3 v0_5 v0_12 v0_13 v0_16 v0_17 v0_21 v0_23 v0_24 v0_25 v0_26 v0_29 v0_30 v0_0 v0_6 v0_7 v0_8 v0_9 v0_10 v0_11) H → va_D A (wd_X12_pointAt cI a0 v0_2 v0_3 v0_5 v0_12 v0_13 v0_16 v0_17 v0_21 v0_23 v0_24 v0_25 v0_26 v0_29 v0_30 v0_0 v0_6 v0_7 v0_8 v0_9 v0_10 v0_11) → va_S A s.heap H locs → lv_has ls 5 [(0, .ref (a0 0)), (2, .int x2), (3, .int x3), (4, .int x4)] → W p l e (headSpec wz_X12_pointAt rm_X12_pointAt).room s m [.ref (a0 0), .int p1, .int p2, .int p3].toArray below meth c H locs 0 0 (MQ below (Q_X12_pointAt dC dI cI a0 v0_2 v0_5 v0_16 v0_17 v0_21 v0_23 v0_24 v0_25 v0_26 v0_29 v0_30 v0_0 u A) [.ref (a0 0), .int p1, .int p2, .int p3].toArray s 0 0 A) (F0 m 73 ls []) := by
    intro v0_3 v0_12 v0_13 v0_6 v0_7 v0_8 v0_9 v0_10 v0_11 x2 x3 x4 hF H locs ls hP hD hS hl
    unfold F_X12_pointAt_j73 at hF
    obtain ⟨x_73, hL_73, hE_73⟩ := obd_some hF
    have kl_73 : ∀ (k : Nat) (s73 : Int32), lpq (F_X12_pointAt_b73 v0_10 v0_11 x2) k s73 = some x_73 → ∀ (H : Heap) (locs : List Loc) (ls : Array Slot), va_P (dC, dI) vwCl (wd_X12_pointAt cI a0 v0_2 v0_3 v0_5 v0_12 v0_13 v0_16 v0_17 v0_21 v0_23 v0_24 v0_25 v0_26 v0_29 v0_30 v0_0 v0_6 v0_7 v0_8 v0_9 v0_10 v0_11) H → va_D A (wd_X12_pointAt cI a0 v0_2 v0_3 v0_5 v0_12 v0_13 v0_16 v0_17 v0_21 v0_23 v0_24 v0_25 v0_26 v0_29 v0_30 v0_0 v0_6 v0_7 v0_8 v0_9 v0_10 v0_11) → va_S A s.heap H locs → lv_has ls 5 [(0, .ref (a0 0)), (2, .int x2), (3, .int x3), (4, .int s73)] → W p l e (headSpec wz_X12_pointAt rm_X12_pointAt).room s m [.ref (a0 0), .int p1, .int p2, .int p3].toArray below meth c H locs 0 0 (MQ below (Q_X12_pointAt dC dI cI a0 v0_2 v0_5 v0_16 v0_17 v0_21 v0_23 v0_24 v0_25 v0_26 v0_29 v0_30 v0_0 u A) [.ref (a0 0), .int p1, .int p2, .int p3].toArray s 0 0 A) (F0 m 73 ls []) := by
      intro k
      induction k with
      | zero => intro s73 h; exact absurd h lpq_zero
      | succ k ih_73 =>
        intro s73 h H locs ls hP hD hS hl
        obtain ⟨o_73, hF, hO_73⟩ := lpq_succ h
        unfold F_X12_pointAt_b73 at hF
        refine lv_iload_n hx hb dX12_pointAt_73 rfl (lv_at hl 1 rfl) ?_
        refine lv_aload_n hx hb dX12_pointAt_74 rfl (lv_at hl 0 rfl) ?_
        refine va_get (D := (dC, dI)) (ci := 11) (v := .ref (a0 12)) (C := RX12) (T := TX12) (N := 31) hx hb hta uw_X12 hown hK hP 0 rfl rfl 11 (by decide) (hta _ mA798) (fun _ h9 => h9) rfl dX12_pointAt_75 ?_
        refine lv_iload hx hb dX12_pointAt_78 (lv_at hl 3 rfl) ?_
        obtain ⟨g_6, hF⟩ := gd_some hF
        refine va_iald hx hb hK hP 7 0 rfl rfl (vpi_in g_6) dX12_pointAt_80 ?_
        refine lv_aload_n hx hb dX12_pointAt_81 rfl (lv_at hl 0 rfl) ?_
        refine va_get (D := (dC, dI)) (ci := 11) (v := .ref (a0 11)) (C := RX12) (T := TX12) (N := 31) hx hb hta uw_X12 hown hK hP 0 rfl rfl 10 (by decide) (hta _ mA797) (fun _ h9 => h9) rfl dX12_pointAt_82 ?_
        refine lv_iload hx hb dX12_pointAt_85 (lv_at hl 3 rfl) ?_
        obtain ⟨g_7, hF⟩ := gd_some hF
        refine va_iald hx hb hK hP 6 0 rfl rfl (vpi_in g_7) dX12_pointAt_87 ?_
        refine lv_iadd hx hb dX12_pointAt_88 ?_
        refine lv_icmp_le (tgt := 98) hx hb dX12_pointAt_89 (by decide) (fun c_8 => ?_) (fun c_8 => ?_)
        · have hF := it_t hF c_8
          obtain rfl := Option.some.inj hF
          obtain rfl := lpq_x hO_73
          have hF := hE_73
          exact j98 v0_3 v0_12 v0_13 v0_6 v0_7 v0_8 v0_9 v0_10 v0_11 x2 x3 s73 hF _ _ _ hP hD hS (lv_sub hl [0, 1, 2, 3] rfl)
        · have hF := it_f hF c_8
          obtain ⟨y_9, ey_9, hF⟩ := lt_some hF
          refine lv_iinc (v := y_9) (lv' := [(4, .int y_9), (0, .ref (a0 0)), (2, .int x2), (3, .int x3)]) hx hb dX12_pointAt_92 hl (k := 3) rfl (by rw [ey_9]; rfl) (by decide) rfl (fun ls hl => ?_)
          refine lv_goto (tgt := 73) hx hb dX12_pointAt_95 (by decide) ?_
          obtain rfl := Option.some.inj hF
          exact ih_73 _ hO_73 _ _ _ hP hD hS (lv_sub hl [1, 2, 3, 0] rfl)
    exact kl_73 n _ hL_73 _ _ _ hP hD hS hl
  have j68 : ∀ (v0_3 : Int32) (v0_12 : Int32) (v0_13 : Int32) (v0_6 : Nat → Int32) (v0_7 : Nat → Int32) (v0_8 : Nat → Int32) (v0_9 : Nat → Int32) (v0_10 : Nat → Int32) (v0_11 : Nat → Int32) (t0 : Int32) (t1 : Int32), F_X12_pointAt_j68 v0_3 v0_12 v0_13 v0_6 v0_7 v0_8 v0_9 v0_10 v0_11 t0 t1 = some u → ∀ (H : Heap) (locs : List Loc) (ls : Array Slot), va_P (dC, dI) vwCl (wd_X12_pointAt cI a0 v0_2 v0_3 v0_5 v0_12 v0_13 v0_16 v0_17 v0_21 v0_23 v0_24 v0_25 v0_26 v0_29 v0_30 v0_0 v0_6 v0_7 v0_8 v0_9 v0_10 v0_11) H → va_D A (wd_X12_pointAt cI a0 v0_2 v0_3 v0_5 v0_12 v0_13 v0_16 v0_17 v0_21 v0_23 v0_24 v0_25 v0_26 v0_29 v0_30 v0_0 v0_6 v0_7 v0_8 v0_9 v0_10 v0_11) → va_S A s.heap H locs → lv_has ls 5 [] → W p l e (headSpec wz_X12_pointAt rm_X12_pointAt).room s m [.ref (a0 0), .int p1, .int p2, .int p3].toArray below meth c H locs 0 0 (MQ below (Q_X12_pointAt dC dI cI a0 v0_2 v0_5 v0_16 v0_17 v0_21 v0_23 v0_24 v0_25 v0_26 v0_29 v0_30 v0_0 u A) [.ref (a0 0), .int p1, .int p2, .int p3].toArray s 0 0 A) (F0 m 68 ls [.int t1, .int t0]) := by
    intro v0_3 v0_12 v0_13 v0_6 v0_7 v0_8 v0_9 v0_10 v0_11 t0 t1 hF H locs ls hP hD hS hl
    unfold F_X12_pointAt_j68 at hF
    refine lv_imul hx hb dX12_pointAt_68 ?_
    obtain rfl := Option.some.inj hF
    exact W.iret (v := (t0 * t1)) hx hb hr (fun t ht hW => ⟨⟨(t0 * t1), (), rfl, rfl, by rw [ht]; exact hP, va_K.moved hW.alike hK, hD⟩, hS.F ht⟩) hS.2.2 dX12_pointAt_69
  have j32 : ∀ (v0_3 : Int32) (v0_12 : Int32) (v0_13 : Int32) (v0_6 : Nat → Int32) (v0_7 : Nat → Int32) (v0_8 : Nat → Int32) (v0_9 : Nat → Int32) (v0_10 : Nat → Int32) (v0_11 : Nat → Int32) (x1 : Int32) (x2 : Int32) (x3 : Int32) (t1 : Int32), F_X12_pointAt_j32 n v0_12 v0_13 v0_0 v0_6 v0_7 v0_8 v0_9 v0_10 v0_11 x1 x2 x3 t1 = some u → ∀ (H : Heap) (locs : List Loc) (ls : Array Slot), va_P (dC, dI) vwCl (wd_X12_pointAt cI a0 v0_2 v0_3 v0_5 v0_12 v0_13 v0_16 v0_17 v0_21 v0_23 v0_24 v0_25 v0_26 v0_29 v0_30 v0_0 v0_6 v0_7 v0_8 v0_9 v0_10 v0_11) H → va_D A (wd_X12_pointAt cI a0 v0_2 v0_3 v0_5 v0_12 v0_13 v0_16 v0_17 v0_21 v0_23 v0_24 v0_25 v0_26 v0_29 v0_30 v0_0 v0_6 v0_7 v0_8 v0_9 v0_10 v0_11) → va_S A s.heap H locs → lv_has ls 5 [(0, .ref (a0 0)), (1, .int x1), (2, .int x2), (3, .int x3)] → W p l e (headSpec wz_X12_pointAt rm_X12_pointAt).room s m [.ref (a0 0), .int p1, .int p2, .int p3].toArray below meth c H locs 0 0 (MQ below (Q_X12_pointAt dC dI cI a0 v0_2 v0_5 v0_16 v0_17 v0_21 v0_23 v0_24 v0_25 v0_26 v0_29 v0_30 v0_0 u A) [.ref (a0 0), .int p1, .int p2, .int p3].toArray s 0 0 A) (F0 m 32 ls [.int t1, .ref (a0 0)]) := by
    intro v0_3 v0_12 v0_13 v0_6 v0_7 v0_8 v0_9 v0_10 v0_11 x1 x2 x3 t1 hF H locs ls hP hD hS hl
    unfold F_X12_pointAt_j32 at hF
    obtain ⟨u_10, hu_10, hF⟩ := lt_some hF
    have hPc := hP.sub (ws' := (wd_X12_refused cI a0 v0_2 v0_3 v0_5 v0_12 v0_13 v0_16 v0_17 v0_21 v0_23 v0_24 v0_25 v0_26 v0_29 v0_30)) [0] rfl
    have hDc := hD.sub (ws' := (wd_X12_refused cI a0 v0_2 v0_3 v0_5 v0_12 v0_13 v0_16 v0_17 v0_21 v0_23 v0_24 v0_25 v0_26 v0_29 v0_30)) [0] rfl rfl
    refine q_callz (wc := (wd_X12_refused cI a0 v0_2 v0_3 v0_5 v0_12 v0_13 v0_16 v0_17 v0_21 v0_23 v0_24 v0_25 v0_26 v0_29 v0_30)) (w1 := (wd_X12_refused cI a0 v0_2 u_10.2 v0_5 v0_12 v0_13 v0_16 v0_17 v0_21 v0_23 v0_24 v0_25 v0_26 v0_29 v0_30)) (ws' := (wd_X12_pointAt cI a0 v0_2 u_10.2 v0_5 v0_12 v0_13 v0_16 v0_17 v0_21 v0_23 v0_24 v0_25 v0_26 v0_29 v0_30 v0_0 v0_6 v0_7 v0_8 v0_9 v0_10 v0_11)) hP hD hS hA [0] [1, 2, 3, 4, 5, 6, 7] [7, 0, 1, 2, 3, 4, 5, 6] rfl rfl rfl (by decide) rfl rfl (va_runV (As := [.int t1]) (rest := []) ⟨hx, hb, hml, hown, hta⟩ (c_X12_refused l dC dI cI H.size a0 v0_2 v0_3 v0_5 v0_12 v0_13 v0_16 v0_17 v0_21 v0_23 v0_24 v0_25 v0_26 v0_29 v0_30 t1 u_10 hu_10.symm) (cwV 1 hta (ga_V mA822 mA823 mA824 mA814 mA809) rfl rfl rfl (by decide +kernel) ⟨Nat.le_of_ble_eq_true rfl, Nat.le_of_ble_eq_true rfl⟩) ⟨q_fb, va_recv hK hP (ci := 11) (q0 := 0) rfl rfl, q_ps hPc hK hDc⟩ rfl rfl hl.1 rfl (lv_room (Nat.le_of_ble_eq_true rfl)) dX12_pointAt_32 ⟨Nat.zero_le _, Nat.zero_le _⟩) (fun hzu_10 H locs hP hD hS => ?_)
    refine lv_if_eq (tgt := 40) hx hb dX12_pointAt_35 (by decide) (fun c_11 => ?_) (fun c_11 => ?_)
    · have hF := it_t hF c_11
      refine lv_aload_n hx hb dX12_pointAt_40 rfl (lv_at hl 0 rfl) ?_
      refine va_get (D := (dC, dI)) (ci := 11) (v := .int v0_12) (C := RX12) (T := TX12) (N := 31) hx hb hta uw_X12 hown hK hP 0 rfl rfl 12 (by decide) (hta _ mA863) (fun _ h9 => h9) rfl dX12_pointAt_41 ?_
      refine lv_if_ne (tgt := 70) hx hb dX12_pointAt_44 (by decide) (fun c_12 => ?_) (fun c_12 => ?_)
      · have hF := it_f hF c_12
        refine lv_iconst (v := 0) hx hb dX12_pointAt_70 (by decide) ?_
        refine lv_istore (lv' := [(4, .int 0), (0, .ref (a0 0)), (1, .int x1), (2, .int x2), (3, .int x3)]) hx hb dX12_pointAt_71 hl (by decide) rfl (fun ls hl => ?_)
        exact j73 u_10.2 v0_12 v0_13 v0_6 v0_7 v0_8 v0_9 v0_10 v0_11 x2 x3 0 hF _ _ _ hP hD hS (lv_sub hl [1, 3, 4, 0] rfl)
      · have hF := it_t hF c_12
        refine lv_bipush (v := 64) hx hb dX12_pointAt_47 (by decide) ?_
        refine lv_iload_n hx hb dX12_pointAt_49 rfl (lv_at hl 3 rfl) ?_
        refine lv_if_eq (tgt := 62) hx hb dX12_pointAt_50 (by decide) (fun c_13 => ?_) (fun c_13 => ?_)
        · have hF := it_t hF c_13
          refine lv_aload_n hx hb dX12_pointAt_62 rfl (lv_at hl 0 rfl) ?_
          refine lv_iload_n hx hb dX12_pointAt_63 rfl (lv_at hl 1 rfl) ?_
          refine lv_iconst (v := 0) hx hb dX12_pointAt_64 (by decide) ?_
          obtain ⟨u_14, hu_14, hF⟩ := obd_some hF
          have hPc := hP.sub (ws' := (wd_X12_x cI a0 v0_2 u_10.2 v0_5 v0_12 v0_13 v0_16 v0_17 v0_21 v0_23 v0_24 v0_25 v0_26 v0_29 v0_30 v0_0)) [0, 1] rfl
          have hDc := hD.sub (ws' := (wd_X12_x cI a0 v0_2 u_10.2 v0_5 v0_12 v0_13 v0_16 v0_17 v0_21 v0_23 v0_24 v0_25 v0_26 v0_29 v0_30 v0_0)) [0, 1] rfl rfl
          refine q_calli (wc := (wd_X12_x cI a0 v0_2 u_10.2 v0_5 v0_12 v0_13 v0_16 v0_17 v0_21 v0_23 v0_24 v0_25 v0_26 v0_29 v0_30 v0_0)) (w1 := (wd_X12_x cI a0 v0_2 u_10.2 v0_5 v0_12 v0_13 v0_16 v0_17 v0_21 v0_23 v0_24 v0_25 v0_26 v0_29 v0_30 v0_0)) (ws' := (wd_X12_pointAt cI a0 v0_2 u_10.2 v0_5 v0_12 v0_13 v0_16 v0_17 v0_21 v0_23 v0_24 v0_25 v0_26 v0_29 v0_30 v0_0 v0_6 v0_7 v0_8 v0_9 v0_10 v0_11)) hP hD hS hA [0, 1] [2, 3, 4, 5, 6, 7] [6, 7, 0, 1, 2, 3, 4, 5] rfl rfl rfl (by decide) rfl rfl (va_runV (As := [.int x1, .int 0]) (rest := [.int 64]) ⟨hx, hb, hml, hown, hta⟩ (c_X12_x l dC dI cI H.size a0 v0_2 u_10.2 v0_5 v0_12 v0_13 v0_16 v0_17 v0_21 v0_23 v0_24 v0_25 v0_26 v0_29 v0_30 v0_0 x1 0 u_14 hu_14) (cwV 2 hta (ga_V mA870 mA871 mA872 mA814 mA831) rfl rfl rfl (by decide +kernel) ⟨Nat.le_of_ble_eq_true rfl, Nat.le_of_ble_eq_true rfl⟩) ⟨q_fb, va_recv hK hP (ci := 11) (q0 := 0) rfl rfl, q_ps hPc hK hDc⟩ rfl rfl hl.1 rfl (lv_room (Nat.le_of_ble_eq_true rfl)) dX12_pointAt_65 ⟨Nat.zero_le _, Nat.zero_le _⟩) (fun H locs hP hD hS => ?_)
          exact j68 u_10.2 v0_12 v0_13 v0_6 v0_7 v0_8 v0_9 v0_10 v0_11 64 u_14 hF _ _ _ hP hD hS (lv_sub hl [] rfl)
        · have hF := it_f hF c_13
          refine lv_aload_n hx hb dX12_pointAt_53 rfl (lv_at hl 0 rfl) ?_
          refine lv_iload_n hx hb dX12_pointAt_54 rfl (lv_at hl 1 rfl) ?_
          refine lv_iconst (v := 0) hx hb dX12_pointAt_55 (by decide) ?_
          obtain ⟨u_15, hu_15, hF⟩ := obd_some hF
          have hPc := hP.sub (ws' := (wd_X12_y cI a0 v0_2 u_10.2 v0_5 v0_12 v0_13 v0_16 v0_17 v0_21 v0_23 v0_24 v0_25 v0_26 v0_29 v0_30 v0_0)) [0, 1] rfl
          have hDc := hD.sub (ws' := (wd_X12_y cI a0 v0_2 u_10.2 v0_5 v0_12 v0_13 v0_16 v0_17 v0_21 v0_23 v0_24 v0_25 v0_26 v0_29 v0_30 v0_0)) [0, 1] rfl rfl
          refine q_calli (wc := (wd_X12_y cI a0 v0_2 u_10.2 v0_5 v0_12 v0_13 v0_16 v0_17 v0_21 v0_23 v0_24 v0_25 v0_26 v0_29 v0_30 v0_0)) (w1 := (wd_X12_y cI a0 v0_2 u_10.2 v0_5 v0_12 v0_13 v0_16 v0_17 v0_21 v0_23 v0_24 v0_25 v0_26 v0_29 v0_30 v0_0)) (ws' := (wd_X12_pointAt cI a0 v0_2 u_10.2 v0_5 v0_12 v0_13 v0_16 v0_17 v0_21 v0_23 v0_24 v0_25 v0_26 v0_29 v0_30 v0_0 v0_6 v0_7 v0_8 v0_9 v0_10 v0_11)) hP hD hS hA [0, 1] [2, 3, 4, 5, 6, 7] [6, 7, 0, 1, 2, 3, 4, 5] rfl rfl rfl (by decide) rfl rfl (va_runV (As := [.int x1, .int 0]) (rest := [.int 64]) ⟨hx, hb, hml, hown, hta⟩ (c_X12_y l dC dI cI H.size a0 v0_2 u_10.2 v0_5 v0_12 v0_13 v0_16 v0_17 v0_21 v0_23 v0_24 v0_25 v0_26 v0_29 v0_30 v0_0 x1 0 u_15 hu_15) (cwV 2 hta (ga_V mA873 mA874 mA875 mA814 mA832) rfl rfl rfl (by decide +kernel) ⟨Nat.le_of_ble_eq_true rfl, Nat.le_of_ble_eq_true rfl⟩) ⟨q_fb, va_recv hK hP (ci := 11) (q0 := 0) rfl rfl, q_ps hPc hK hDc⟩ rfl rfl hl.1 rfl (lv_room (Nat.le_of_ble_eq_true rfl)) dX12_pointAt_56 ⟨Nat.zero_le _, Nat.zero_le _⟩) (fun H locs hP hD hS => ?_)
          refine lv_goto (tgt := 68) hx hb dX12_pointAt_59 (by decide) ?_
          exact j68 u_10.2 v0_12 v0_13 v0_6 v0_7 v0_8 v0_9 v0_10 v0_11 64 u_15 hF _ _ _ hP hD hS (lv_sub hl [] rfl)
    · have hF := it_f hF c_11
      refine lv_iconst (v := 0) hx hb dX12_pointAt_38 (by decide) ?_
      obtain rfl := Option.some.inj hF
      exact W.iret (v := 0) hx hb hr (fun t ht hW => ⟨⟨0, (), rfl, rfl, by rw [ht]; exact hP, va_K.moved hW.alike hK, hD⟩, hS.F ht⟩) hS.2.2 dX12_pointAt_39
  refine lv_aload_n hx hb dX12_pointAt_0 rfl (lv_at hl 0 rfl) ?_
  refine lv_aload_n hx hb dX12_pointAt_1 rfl (lv_at hl 0 rfl) ?_
  refine lv_iload_n hx hb dX12_pointAt_2 rfl (lv_at hl 1 rfl) ?_
  obtain ⟨u_16, hu_16, hF⟩ := obd_some hF
  have hPc := hP.sub (ws' := (wd_X12_isSubpath cI a0 v0_2 v0_3 v0_5 v0_12 v0_13 v0_16 v0_17 v0_21 v0_23 v0_24 v0_25 v0_26 v0_29 v0_30 v0_0)) [0, 1] rfl
  have hDc := hD.sub (ws' := (wd_X12_isSubpath cI a0 v0_2 v0_3 v0_5 v0_12 v0_13 v0_16 v0_17 v0_21 v0_23 v0_24 v0_25 v0_26 v0_29 v0_30 v0_0)) [0, 1] rfl rfl
  refine q_callz (wc := (wd_X12_isSubpath cI a0 v0_2 v0_3 v0_5 v0_12 v0_13 v0_16 v0_17 v0_21 v0_23 v0_24 v0_25 v0_26 v0_29 v0_30 v0_0)) (w1 := (wd_X12_isSubpath cI a0 v0_2 v0_3 v0_5 v0_12 v0_13 v0_16 v0_17 v0_21 v0_23 v0_24 v0_25 v0_26 v0_29 v0_30 v0_0)) (ws' := (wd_X12_pointAt cI a0 v0_2 v0_3 v0_5 v0_12 v0_13 v0_16 v0_17 v0_21 v0_23 v0_24 v0_25 v0_26 v0_29 v0_30 v0_0 v0_6 v0_7 v0_8 v0_9 v0_10 v0_11)) hP hD hS hA [0, 1] [2, 3, 4, 5, 6, 7] [6, 7, 0, 1, 2, 3, 4, 5] rfl rfl rfl (by decide) rfl rfl (va_runV (As := [.int p1]) (rest := [.ref (a0 0)]) ⟨hx, hb, hml, hown, hta⟩ (c_X12_isSubpath l dC dI cI H.size a0 v0_2 v0_3 v0_5 v0_12 v0_13 v0_16 v0_17 v0_21 v0_23 v0_24 v0_25 v0_26 v0_29 v0_30 v0_0 p1 u_16 hu_16) (cwV 1 hta (ga_V mA879 mA880 mA881 mA814 mA826) rfl rfl rfl (by decide +kernel) ⟨Nat.le_of_ble_eq_true rfl, Nat.le_of_ble_eq_true rfl⟩) ⟨q_fb, va_recv hK hP (ci := 11) (q0 := 0) rfl rfl, q_ps hPc hK hDc⟩ rfl rfl hl.1 rfl (lv_room (Nat.le_of_ble_eq_true rfl)) dX12_pointAt_3 ⟨Nat.zero_le _, Nat.zero_le _⟩) (fun hzu_16 H locs hP hD hS => ?_)
  refine lv_if_ne (tgt := 13) hx hb dX12_pointAt_6 (by decide) (fun c_17 => ?_) (fun c_17 => ?_)
  · have hF := it_f hF c_17
    refine lv_iload_n hx hb dX12_pointAt_13 rfl (lv_at hl 2 rfl) ?_
    refine lv_iconst (v := 0) hx hb dX12_pointAt_14 (by decide) ?_
    refine lv_aload_n hx hb dX12_pointAt_15 rfl (lv_at hl 0 rfl) ?_
    refine lv_iload_n hx hb dX12_pointAt_16 rfl (lv_at hl 1 rfl) ?_
    refine lv_iconst (v := 3) hx hb dX12_pointAt_17 (by decide) ?_
    obtain ⟨u_18, hu_18, hF⟩ := obd_some hF
    have hPc := hP.sub (ws' := (wd_X12_tellSubpath cI a0 v0_2 v0_3 v0_5 v0_12 v0_13 v0_16 v0_17 v0_21 v0_23 v0_24 v0_25 v0_26 v0_29 v0_30 v0_0 v0_6 v0_7 v0_8 v0_9 v0_10 v0_11)) [0, 1, 2, 3, 4, 5, 6, 7] rfl
    have hDc := hD.sub (ws' := (wd_X12_tellSubpath cI a0 v0_2 v0_3 v0_5 v0_12 v0_13 v0_16 v0_17 v0_21 v0_23 v0_24 v0_25 v0_26 v0_29 v0_30 v0_0 v0_6 v0_7 v0_8 v0_9 v0_10 v0_11)) [0, 1, 2, 3, 4, 5, 6, 7] rfl rfl
    refine q_calli (wc := (wd_X12_tellSubpath cI a0 v0_2 v0_3 v0_5 v0_12 v0_13 v0_16 v0_17 v0_21 v0_23 v0_24 v0_25 v0_26 v0_29 v0_30 v0_0 v0_6 v0_7 v0_8 v0_9 v0_10 v0_11)) (w1 := (wd_X12_tellSubpath cI a0 v0_2 v0_3 v0_5 u_18.2.1 u_18.2.2.1 v0_16 v0_17 v0_21 v0_23 v0_24 v0_25 v0_26 v0_29 v0_30 v0_0 u_18.2.2.2.1 u_18.2.2.2.2.1 u_18.2.2.2.2.2.1 u_18.2.2.2.2.2.2.1 u_18.2.2.2.2.2.2.2.1 u_18.2.2.2.2.2.2.2.2)) (ws' := (wd_X12_pointAt cI a0 v0_2 v0_3 v0_5 u_18.2.1 u_18.2.2.1 v0_16 v0_17 v0_21 v0_23 v0_24 v0_25 v0_26 v0_29 v0_30 v0_0 u_18.2.2.2.1 u_18.2.2.2.2.1 u_18.2.2.2.2.2.1 u_18.2.2.2.2.2.2.1 u_18.2.2.2.2.2.2.2.1 u_18.2.2.2.2.2.2.2.2)) hP hD hS hA [0, 1, 2, 3, 4, 5, 6, 7] [] [0, 1, 2, 3, 4, 5, 6, 7] rfl rfl rfl (by decide) rfl rfl (va_runV (As := [.int p1, .int 3]) (rest := [.int 0, .int p2, .ref (a0 0)]) ⟨hx, hb, hml, hown, hta⟩ (c_X12_tellSubpath l dC dI cI H.size a0 v0_2 v0_3 v0_5 v0_12 v0_13 v0_16 v0_17 v0_21 v0_23 v0_24 v0_25 v0_26 v0_29 v0_30 v0_0 v0_6 v0_7 v0_8 v0_9 v0_10 v0_11 p1 3 n u_18 hu_18) (cwV 2 hta (ga_V mA907 mA908 mA909 mA814 mA905) rfl rfl rfl (by decide +kernel) ⟨Nat.le_of_ble_eq_true rfl, Nat.le_of_ble_eq_true rfl⟩) ⟨q_fb, va_recv hK hP (ci := 11) (q0 := 0) rfl rfl, q_ps hPc hK hDc⟩ rfl rfl hl.1 rfl (lv_room (Nat.le_of_ble_eq_true rfl)) dX12_pointAt_18 ⟨Nat.zero_le _, Nat.zero_le _⟩) (fun H locs hP hD hS => ?_)
    obtain ⟨u_19, hu_19, hF⟩ := lt_some hF
    have hPc := hP.sub (ws' := ([] : va_W)) [] rfl
    have hDc := hD.sub (ws' := ([] : va_W)) [] rfl rfl
    refine q_callz (wc := ([] : va_W)) (w1 := ([] : va_W)) (ws' := (wd_X12_pointAt cI a0 v0_2 v0_3 v0_5 u_18.2.1 u_18.2.2.1 v0_16 v0_17 v0_21 v0_23 v0_24 v0_25 v0_26 v0_29 v0_30 v0_0 u_18.2.2.2.1 u_18.2.2.2.2.1 u_18.2.2.2.2.2.1 u_18.2.2.2.2.2.2.1 u_18.2.2.2.2.2.2.2.1 u_18.2.2.2.2.2.2.2.2)) hP hD hS hA [] [0, 1, 2, 3, 4, 5, 6, 7] [0, 1, 2, 3, 4, 5, 6, 7] rfl rfl rfl (by decide) rfl rfl (va_runS (As := [.int p2, .int 0, .int u_18.1]) (rest := [.ref (a0 0)]) ⟨hx, hb, hml, hown, hta⟩ (c_X12_within l dC dI cI H.size p2 0 u_18.1 u_19 hu_19.symm) (va_cwS 3 hta (ga_S mA812 mA813 mA814 mA810) rfl rfl rfl (by decide +kernel) ⟨Nat.le_of_ble_eq_true rfl, Nat.le_of_ble_eq_true rfl⟩) ⟨q_fb, q_ps hPc hK hDc⟩ rfl rfl hl.1 rfl (lv_room (Nat.le_of_ble_eq_true rfl)) dX12_pointAt_21 ⟨Nat.zero_le _, Nat.zero_le _⟩) (fun hzu_19 H locs hP hD hS => ?_)
    refine lv_if_eq (tgt := 31) hx hb dX12_pointAt_24 (by decide) (fun c_20 => ?_) (fun c_20 => ?_)
    · have hF := it_t hF c_20
      refine lv_iconst (v := 2) hx hb dX12_pointAt_31 (by decide) ?_
      exact j32 v0_3 u_18.2.1 u_18.2.2.1 u_18.2.2.2.1 u_18.2.2.2.2.1 u_18.2.2.2.2.2.1 u_18.2.2.2.2.2.2.1 u_18.2.2.2.2.2.2.2.1 u_18.2.2.2.2.2.2.2.2 p1 p2 p3 2 hF _ _ _ hP hD hS (lv_sub hl [0, 1, 2, 3] rfl)
    · have hF := it_f hF c_20
      refine lv_iconst (v := 0) hx hb dX12_pointAt_27 (by decide) ?_
      refine lv_goto (tgt := 32) hx hb dX12_pointAt_28 (by decide) ?_
      exact j32 v0_3 u_18.2.1 u_18.2.2.1 u_18.2.2.2.1 u_18.2.2.2.2.1 u_18.2.2.2.2.2.1 u_18.2.2.2.2.2.2.1 u_18.2.2.2.2.2.2.2.1 u_18.2.2.2.2.2.2.2.2 p1 p2 p3 0 hF _ _ _ hP hD hS (lv_sub hl [0, 1, 2, 3] rfl)
  · have hF := it_t hF c_17
    refine lv_iconst (v := 1) hx hb dX12_pointAt_9 (by decide) ?_
    refine lv_goto (tgt := 32) hx hb dX12_pointAt_10 (by decide) ?_
    exact j32 v0_3 v0_12 v0_13 v0_6 v0_7 v0_8 v0_9 v0_10 v0_11 p1 p2 p3 1 hF _ _ _ hP hD hS (lv_sub hl [0, 1, 2, 3] rfl)

-- StrokeOutlinerModel.setStyle(IIII)I
def F_X12_setStyle_j45 (n : Nat) (v0_2 : Int32) (v0_0 : Nat → Int32) (v0_1 : Nat → Int32) (x1 : Int32) (x2 : Int32) (x3 : Int32) (x4 : Int32) (t1 : Int32) : Option (Int32 × Int32 × Int32 × (Nat → Int32) × (Nat → Int32)) :=
  lt (F_X12_refused t1) (fun u_1 => if u_1.1 = 0 then obd (F_X12_saves n v0_2 v0_0 v0_1) (fun u_3 => gd (decide (vpi 0 86)) (lt (v0_0 (0 : Int32).toNatClampNeg) (fun y_5 => gd (decide (vpi 0 86)) (lt (upd v0_0 (0 : Int32).toNatClampNeg x1) (fun y_7 => gd (decide (vpi 1 86)) (lt (upd y_7 (1 : Int32).toNatClampNeg x2) (fun y_9 => gd (decide (vpi 2 86)) (lt (upd y_9 (2 : Int32).toNatClampNeg x3) (fun y_11 => gd (decide (vpi 3 86)) (lt (upd y_11 (3 : Int32).toNatClampNeg x4) (fun y_13 => some (y_5, u_3.1, u_1.2, y_13, u_3.2)))))))))))) else some (0, v0_2, u_1.2, v0_0, v0_1))
def F_X12_setStyle_j44 (n : Nat) (v0_2 : Int32) (v0_0 : Nat → Int32) (v0_1 : Nat → Int32) (x1 : Int32) (x2 : Int32) (x3 : Int32) (x4 : Int32) : Option (Int32 × Int32 × Int32 × (Nat → Int32) × (Nat → Int32)) :=
  F_X12_setStyle_j45 n v0_2 v0_0 v0_1 x1 x2 x3 x4 1
def F_X12_setStyle (n : Nat) (v0_2 : Int32) (v0_0 : Nat → Int32) (v0_1 : Nat → Int32) (p1 : Int32) (p2 : Int32) (p3 : Int32) (p4 : Int32) : Option (Int32 × Int32 × Int32 × (Nat → Int32) × (Nat → Int32)) :=
  lt (F_X12_within p1 1 40) (fun u_14 => if u_14 = 0 then F_X12_setStyle_j44 n v0_2 v0_0 v0_1 p1 p2 p3 p4 else lt (F_X12_within p2 0 2) (fun u_16 => if u_16 = 0 then F_X12_setStyle_j44 n v0_2 v0_0 v0_1 p1 p2 p3 p4 else lt (F_X12_within p3 1 10) (fun u_18 => if u_18 = 0 then F_X12_setStyle_j44 n v0_2 v0_0 v0_1 p1 p2 p3 p4 else lt (F_X12_within p4 0 2) (fun u_20 => if u_20 = 0 then F_X12_setStyle_j44 n v0_2 v0_0 v0_1 p1 p2 p3 p4 else F_X12_setStyle_j45 n v0_2 v0_0 v0_1 p1 p2 p3 p4 0))))
abbrev wd_X12_setStyle (cI : ClassId) (a0 : Nat → Nat) (v0_2 : Int32) (v0_3 : Int32) (v0_5 : Int32) (v0_12 : Int32) (v0_13 : Int32) (v0_16 : Int32) (v0_17 : Int32) (v0_21 : Int32) (v0_23 : Int32) (v0_24 : Int32) (v0_25 : Int32) (v0_26 : Int32) (v0_29 : Int32) (v0_30 : Int64) (v0_0 : Nat → Int32) (v0_1 : Nat → Int32) : va_W := [(a0 0, .inr (11, [.ref (a0 1), .ref (a0 2), .int v0_2, .int v0_3, .ref (a0 5), .int v0_5, .ref (a0 7), .ref (a0 8), .ref (a0 9), .ref (a0 10), .ref (a0 11), .ref (a0 12), .int v0_12, .int v0_13, .ref (a0 15), .ref (a0 16), .int v0_16, .int v0_17, .ref (a0 19), .ref (a0 20), .ref (a0 21), .int v0_21, .ref (a0 23), .int v0_23, .int v0_24, .int v0_25, .int v0_26, .ref (a0 28), .ref (a0 29), .int v0_29, .long v0_30])), (a0 1, .inl (cI, 86, .inl v0_0)), (a0 2, .inl (cI, 344, .inl v0_1))]
abbrev wz_X12_setStyle : List Cond := .code yX12_setStyle cX12_setStyle 6 (some .int) :: wALL
abbrev rm_X12_setStyle : Room := { frames := 1, cells := 0, slots := 0, locals := 22 }
abbrev Q_X12_setStyle (dC : Nat → ClassId) (dI : Nat → Nat → Nat) (cI : ClassId) (a0 : Nat → Nat) (v0_5 : Int32) (v0_12 : Int32) (v0_13 : Int32) (v0_16 : Int32) (v0_17 : Int32) (v0_21 : Int32) (v0_23 : Int32) (v0_24 : Int32) (v0_25 : Int32) (v0_26 : Int32) (v0_29 : Int32) (v0_30 : Int64) (u : (Int32 × Int32 × Int32 × (Nat → Int32) × (Nat → Int32))) (A : Nat → Prop) : Array Value → State → Outcome → State → Prop := va_Qi (fun (r : Int32) (_ : Unit) => r = u.1) (fun _ => q_at dC dI cI A (wd_X12_setStyle cI a0 u.2.1 u.2.2.1 v0_5 v0_12 v0_13 v0_16 v0_17 v0_21 v0_23 v0_24 v0_25 v0_26 v0_29 v0_30 u.2.2.2.1 u.2.2.2.2)) A
set_option maxHeartbeats 4000000 in
set_option maxRecDepth 100000 in
theorem c_X12_setStyle (l : Launch) (dC : Nat → ClassId) (dI : Nat → Nat → Nat) (cI : ClassId) (sz : Nat) (a0 : Nat → Nat) (v0_2 : Int32) (v0_3 : Int32) (v0_5 : Int32) (v0_12 : Int32) (v0_13 : Int32) (v0_16 : Int32) (v0_17 : Int32) (v0_21 : Int32) (v0_23 : Int32) (v0_24 : Int32) (v0_25 : Int32) (v0_26 : Int32) (v0_29 : Int32) (v0_30 : Int64) (v0_0 : Nat → Int32) (v0_1 : Nat → Int32) (p1 : Int32) (p2 : Int32) (p3 : Int32) (p4 : Int32) (n : Nat) (u : (Int32 × Int32 × Int32 × (Nat → Int32) × (Nat → Int32))) (hF : F_X12_setStyle n v0_2 v0_0 v0_1 p1 p2 p3 p4 = some u) : Met l yX12_setStyle wz_X12_setStyle rm_X12_setStyle (va_Pc [.ref (a0 0), .int p1, .int p2, .int p3, .int p4] (q_pre dC dI cI (wd_X12_setStyle cI a0 v0_2 v0_3 v0_5 v0_12 v0_13 v0_16 v0_17 v0_21 v0_23 v0_24 v0_25 v0_26 v0_29 v0_30 v0_0 v0_1) sz)) (Q_X12_setStyle dC dI cI a0 v0_5 v0_12 v0_13 v0_16 v0_17 v0_21 v0_23 v0_24 v0_25 v0_26 v0_29 v0_30 u (va_A (wd_X12_setStyle cI a0 v0_2 v0_3 v0_5 v0_12 v0_13 v0_16 v0_17 v0_21 v0_23 v0_24 v0_25 v0_26 v0_29 v0_30 v0_0 v0_1) sz)) 0 0 (va_A (wd_X12_setStyle cI a0 v0_2 v0_3 v0_5 v0_12 v0_13 v0_16 v0_17 v0_21 v0_23 v0_24 v0_25 v0_26 v0_29 v0_30 v0_0 v0_1) sz) := by
  refine Met.ofW (cc := cX12_setStyle) (maxL := 6) (ret := (some .int)) (by decide) rfl ?_
  intro p e s m args below meth c s₁ B hml hv
  obtain ⟨rfl, hsz, hP, hK, hD0⟩ := hv
  have hx := B.exec
  have hb := B.bytes
  have hr := B.returns
  have hts := atoms_spec (ws := wz_X12_setStyle) B.pre
  have hta := wz_tl hts
  have hown : s.vm.findClass RX12 = some m.cls := findClass_of_methodNamed B.named
  have hlocks := B.notSynchronized
  subst hsz
  have hD := hD0.self (sz := s.heap.size)
  generalize hAe : va_A (wd_X12_setStyle cI a0 v0_2 v0_3 v0_5 v0_12 v0_13 v0_16 v0_17 v0_21 v0_23 v0_24 v0_25 v0_26 v0_29 v0_30 v0_0 v0_1) s.heap.size = A at hD ⊢
  have hA : ∀ q : Nat, s.heap.size ≤ q → A q := fun q h => by rw [← hAe]; exact Or.inr h
  have hS : va_S A s.heap s.heap [] := va_S.rf
  have hP : va_P (dC, dI) vwCl (wd_X12_setStyle cI a0 v0_2 v0_3 v0_5 v0_12 v0_13 v0_16 v0_17 v0_21 v0_23 v0_24 v0_25 v0_26 v0_29 v0_30 v0_0 v0_1) s.heap := hP
  have hl := lv_entry ([.ref (a0 0), .int p1, .int p2, .int p3, .int p4]) (n := 6) (Nat.le_of_ble_eq_true rfl)
  rw [lg_entry_eq]
  generalize (lg_sl ([.ref (a0 0), .int p1, .int p2, .int p3, .int p4]) ++ List.replicate (6 - (lg_sl ([.ref (a0 0), .int p1, .int p2, .int p3, .int p4])).length) Slot.unset).toArray = ls at hl ⊢
  have hl : lv_has ls 6 [(0, .ref (a0 0)), (1, .int p1), (2, .int p2), (3, .int p3), (4, .int p4)] := hl
  obtain ⟨H, hHe⟩ : ∃ H, H = s.heap := ⟨_, rfl⟩
  have hS : va_S A s.heap H [] := by rw [hHe]; exact hS
  have hP : va_P (dC, dI) vwCl (wd_X12_setStyle cI a0 v0_2 v0_3 v0_5 v0_12 v0_13 v0_16 v0_17 v0_21 v0_23 v0_24 v0_25 v0_26 v0_29 v0_30 v0_0 v0_1) H := by rw [hHe]; exact hP
  rw [← hHe]
  unfold F_X12_setStyle at hF
  have j45 : ∀ (v0_2 : Int32) (v0_3 : Int32) (v0_0 : Nat → Int32) (v0_1 : Nat → Int32) (x1 : Int32) (x2 : Int32) (x3 : Int32) (x4 : Int32) (t1 : Int32), F_X12_setStyle_j45 n v0_2 v0_0 v0_1 x1 x2 x3 x4 t1 = some u → ∀ (H : Heap) (locs : List Loc) (ls : Array Slot), va_P (dC, dI) vwCl (wd_X12_setStyle cI a0 v0_2 v0_3 v0_5 v0_12 v0_13 v0_16 v0_17 v0_21 v0_23 v0_24 v0_25 v0_26 v0_29 v0_30 v0_0 v0_1) H → va_D A (wd_X12_setStyle cI a0 v0_2 v0_3 v0_5 v0_12 v0_13 v0_16 v0_17 v0_21 v0_23 v0_24 v0_25 v0_26 v0_29 v0_30 v0_0 v0_1) → va_S A s.heap H locs → lv_has ls 6 [(0, .ref (a0 0)), (1, .int x1), (2, .int x2), (3, .int x3), (4, .int x4)] → W p l e (headSpec wz_X12_setStyle rm_X12_setStyle).room s m [.ref (a0 0), .int p1, .int p2, .int p3, .int p4].toArray below meth c H locs 0 0 (MQ below (Q_X12_setStyle dC dI cI a0 v0_5 v0_12 v0_13 v0_16 v0_17 v0_21 v0_23 v0_24 v0_25 v0_26 v0_29 v0_30 u A) [.ref (a0 0), .int p1, .int p2, .int p3, .int p4].toArray s 0 0 A) (F0 m 45 ls [.int t1, .ref (a0 0)]) := by
    intro v0_2 v0_3 v0_0 v0_1 x1 x2 x3 x4 t1 hF H locs ls hP hD hS hl
    unfold F_X12_setStyle_j45 at hF
    obtain ⟨u_1, hu_1, hF⟩ := lt_some hF
    have hPc := hP.sub (ws' := (wd_X12_refused cI a0 v0_2 v0_3 v0_5 v0_12 v0_13 v0_16 v0_17 v0_21 v0_23 v0_24 v0_25 v0_26 v0_29 v0_30)) [0] rfl
    have hDc := hD.sub (ws' := (wd_X12_refused cI a0 v0_2 v0_3 v0_5 v0_12 v0_13 v0_16 v0_17 v0_21 v0_23 v0_24 v0_25 v0_26 v0_29 v0_30)) [0] rfl rfl
    refine q_callz (wc := (wd_X12_refused cI a0 v0_2 v0_3 v0_5 v0_12 v0_13 v0_16 v0_17 v0_21 v0_23 v0_24 v0_25 v0_26 v0_29 v0_30)) (w1 := (wd_X12_refused cI a0 v0_2 u_1.2 v0_5 v0_12 v0_13 v0_16 v0_17 v0_21 v0_23 v0_24 v0_25 v0_26 v0_29 v0_30)) (ws' := (wd_X12_setStyle cI a0 v0_2 u_1.2 v0_5 v0_12 v0_13 v0_16 v0_17 v0_21 v0_23 v0_24 v0_25 v0_26 v0_29 v0_30 v0_0 v0_1)) hP hD hS hA [0] [1, 2] [2, 0, 1] rfl rfl rfl (by decide) rfl rfl (va_runV (As := [.int t1]) (rest := []) ⟨hx, hb, hml, hown, hta⟩ (c_X12_refused l dC dI cI H.size a0 v0_2 v0_3 v0_5 v0_12 v0_13 v0_16 v0_17 v0_21 v0_23 v0_24 v0_25 v0_26 v0_29 v0_30 t1 u_1 hu_1.symm) (cwV 1 hta (ga_V mA822 mA823 mA824 mA814 mA809) rfl rfl rfl (by decide +kernel) ⟨Nat.le_of_ble_eq_true rfl, Nat.le_of_ble_eq_true rfl⟩) ⟨q_fb, va_recv hK hP (ci := 11) (q0 := 0) rfl rfl, q_ps hPc hK hDc⟩ rfl rfl hl.1 rfl (lv_room (Nat.le_of_ble_eq_true rfl)) dX12_setStyle_45 ⟨Nat.zero_le _, Nat.zero_le _⟩) (fun hzu_1 H locs hP hD hS => ?_)
    refine lv_if_eq (tgt := 53) hx hb dX12_setStyle_48 (by decide) (fun c_2 => ?_) (fun c_2 => ?_)
    · have hF := it_t hF c_2
      refine lv_aload_n hx hb dX12_setStyle_53 rfl (lv_at hl 0 rfl) ?_
      obtain ⟨u_3, hu_3, hF⟩ := obd_some hF
      have hPc := hP.sub (ws' := (wd_X12_saves cI a0 v0_2 u_1.2 v0_5 v0_12 v0_13 v0_16 v0_17 v0_21 v0_23 v0_24 v0_25 v0_26 v0_29 v0_30 v0_0 v0_1)) [0, 1, 2] rfl
      have hDc := hD.sub (ws' := (wd_X12_saves cI a0 v0_2 u_1.2 v0_5 v0_12 v0_13 v0_16 v0_17 v0_21 v0_23 v0_24 v0_25 v0_26 v0_29 v0_30 v0_0 v0_1)) [0, 1, 2] rfl rfl
      refine q_callv (wc := (wd_X12_saves cI a0 v0_2 u_1.2 v0_5 v0_12 v0_13 v0_16 v0_17 v0_21 v0_23 v0_24 v0_25 v0_26 v0_29 v0_30 v0_0 v0_1)) (w1 := (wd_X12_saves cI a0 u_3.1 u_1.2 v0_5 v0_12 v0_13 v0_16 v0_17 v0_21 v0_23 v0_24 v0_25 v0_26 v0_29 v0_30 v0_0 u_3.2)) (ws' := (wd_X12_setStyle cI a0 u_3.1 u_1.2 v0_5 v0_12 v0_13 v0_16 v0_17 v0_21 v0_23 v0_24 v0_25 v0_26 v0_29 v0_30 v0_0 u_3.2)) hP hD hS hA [0, 1, 2] [] [0, 1, 2] rfl rfl rfl (by decide) rfl rfl (va_runV (As := []) (rest := []) ⟨hx, hb, hml, hown, hta⟩ (c_X12_saves l dC dI cI H.size a0 v0_2 u_1.2 v0_5 v0_12 v0_13 v0_16 v0_17 v0_21 v0_23 v0_24 v0_25 v0_26 v0_29 v0_30 v0_0 v0_1 n u_3 hu_3) (cwV 0 hta (ga_V mA845 mA846 mA847 mA814 mA819) rfl rfl rfl (by decide +kernel) ⟨Nat.le_of_ble_eq_true rfl, Nat.le_of_ble_eq_true rfl⟩) ⟨q_fb, va_recv hK hP (ci := 11) (q0 := 0) rfl rfl, q_ps hPc hK hDc⟩ rfl rfl hl.1 rfl (lv_room (Nat.le_of_ble_eq_true rfl)) dX12_setStyle_54 ⟨Nat.zero_le _, Nat.zero_le _⟩) (fun H locs hP hD hS => ?_)
      refine lv_aload_n hx hb dX12_setStyle_57 rfl (lv_at hl 0 rfl) ?_
      refine va_get (D := (dC, dI)) (ci := 11) (v := .ref (a0 1)) (C := RX12) (T := TX12) (N := 31) hx hb hta uw_X12 hown hK hP 0 rfl rfl 0 (by decide) (hta _ mA790) (fun _ h9 => h9) rfl dX12_setStyle_58 ?_
      refine lv_iconst (v := 0) hx hb dX12_setStyle_61 (by decide) ?_
      obtain ⟨g_4, hF⟩ := gd_some hF
      refine va_iald hx hb hK hP 1 0 rfl rfl (vpi_in g_4) dX12_setStyle_62 ?_
      obtain ⟨y_5, ey_5, hF⟩ := lt_some hF
      refine lv_eqi ey_5 ?_
      refine lv_istore (lv' := [(5, .int y_5), (0, .ref (a0 0)), (1, .int x1), (2, .int x2), (3, .int x3), (4, .int x4)]) hx hb dX12_setStyle_63 hl (by decide) rfl (fun ls hl => ?_)
      refine lv_aload_n hx hb dX12_setStyle_65 rfl (lv_at hl 1 rfl) ?_
      refine va_get (D := (dC, dI)) (ci := 11) (v := .ref (a0 1)) (C := RX12) (T := TX12) (N := 31) hx hb hta uw_X12 hown hK hP 0 rfl rfl 0 (by decide) (hta _ mA790) (fun _ h9 => h9) rfl dX12_setStyle_66 ?_
      refine lv_iconst (v := 0) hx hb dX12_setStyle_69 (by decide) ?_
      refine lv_iload_n hx hb dX12_setStyle_70 rfl (lv_at hl 2 rfl) ?_
      obtain ⟨g_6, hF⟩ := gd_some hF
      refine va_iast hx hb hK hP hD hS 1 0 rfl rfl (vpi_in g_6) dX12_setStyle_71 (fun H locs hP hD hS => ?_)
      obtain ⟨y_7, ey_7, hF⟩ := lt_some hF
      have hP : va_P (dC, dI) vwCl (wd_X12_setStyle cI a0 u_3.1 u_1.2 v0_5 v0_12 v0_13 v0_16 v0_17 v0_21 v0_23 v0_24 v0_25 v0_26 v0_29 v0_30 y_7 u_3.2) H := by rw [ey_7]; exact hP
      have hD : va_D A (wd_X12_setStyle cI a0 u_3.1 u_1.2 v0_5 v0_12 v0_13 v0_16 v0_17 v0_21 v0_23 v0_24 v0_25 v0_26 v0_29 v0_30 y_7 u_3.2) := by rw [ey_7]; exact hD
      refine lv_aload_n hx hb dX12_setStyle_72 rfl (lv_at hl 1 rfl) ?_
      refine va_get (D := (dC, dI)) (ci := 11) (v := .ref (a0 1)) (C := RX12) (T := TX12) (N := 31) hx hb hta uw_X12 hown hK hP 0 rfl rfl 0 (by decide) (hta _ mA790) (fun _ h9 => h9) rfl dX12_setStyle_73 ?_
      refine lv_iconst (v := 1) hx hb dX12_setStyle_76 (by decide) ?_
      refine lv_iload_n hx hb dX12_setStyle_77 rfl (lv_at hl 3 rfl) ?_
      obtain ⟨g_8, hF⟩ := gd_some hF
      refine va_iast hx hb hK hP hD hS 1 0 rfl rfl (vpi_in g_8) dX12_setStyle_78 (fun H locs hP hD hS => ?_)
      obtain ⟨y_9, ey_9, hF⟩ := lt_some hF
      have hP : va_P (dC, dI) vwCl (wd_X12_setStyle cI a0 u_3.1 u_1.2 v0_5 v0_12 v0_13 v0_16 v0_17 v0_21 v0_23 v0_24 v0_25 v0_26 v0_29 v0_30 y_9 u_3.2) H := by rw [ey_9]; exact hP
      have hD : va_D A (wd_X12_setStyle cI a0 u_3.1 u_1.2 v0_5 v0_12 v0_13 v0_16 v0_17 v0_21 v0_23 v0_24 v0_25 v0_26 v0_29 v0_30 y_9 u_3.2) := by rw [ey_9]; exact hD
      refine lv_aload_n hx hb dX12_setStyle_79 rfl (lv_at hl 1 rfl) ?_
      refine va_get (D := (dC, dI)) (ci := 11) (v := .ref (a0 1)) (C := RX12) (T := TX12) (N := 31) hx hb hta uw_X12 hown hK hP 0 rfl rfl 0 (by decide) (hta _ mA790) (fun _ h9 => h9) rfl dX12_setStyle_80 ?_
      refine lv_iconst (v := 2) hx hb dX12_setStyle_83 (by decide) ?_
      refine lv_iload_n hx hb dX12_setStyle_84 rfl (lv_at hl 4 rfl) ?_
      obtain ⟨g_10, hF⟩ := gd_some hF
      refine va_iast hx hb hK hP hD hS 1 0 rfl rfl (vpi_in g_10) dX12_setStyle_85 (fun H locs hP hD hS => ?_)
      obtain ⟨y_11, ey_11, hF⟩ := lt_some hF
      have hP : va_P (dC, dI) vwCl (wd_X12_setStyle cI a0 u_3.1 u_1.2 v0_5 v0_12 v0_13 v0_16 v0_17 v0_21 v0_23 v0_24 v0_25 v0_26 v0_29 v0_30 y_11 u_3.2) H := by rw [ey_11]; exact hP
      have hD : va_D A (wd_X12_setStyle cI a0 u_3.1 u_1.2 v0_5 v0_12 v0_13 v0_16 v0_17 v0_21 v0_23 v0_24 v0_25 v0_26 v0_29 v0_30 y_11 u_3.2) := by rw [ey_11]; exact hD
      refine lv_aload_n hx hb dX12_setStyle_86 rfl (lv_at hl 1 rfl) ?_
      refine va_get (D := (dC, dI)) (ci := 11) (v := .ref (a0 1)) (C := RX12) (T := TX12) (N := 31) hx hb hta uw_X12 hown hK hP 0 rfl rfl 0 (by decide) (hta _ mA790) (fun _ h9 => h9) rfl dX12_setStyle_87 ?_
      refine lv_iconst (v := 3) hx hb dX12_setStyle_90 (by decide) ?_
      refine lv_iload hx hb dX12_setStyle_91 (lv_at hl 5 rfl) ?_
      obtain ⟨g_12, hF⟩ := gd_some hF
      refine va_iast hx hb hK hP hD hS 1 0 rfl rfl (vpi_in g_12) dX12_setStyle_93 (fun H locs hP hD hS => ?_)
      obtain ⟨y_13, ey_13, hF⟩ := lt_some hF
      have hP : va_P (dC, dI) vwCl (wd_X12_setStyle cI a0 u_3.1 u_1.2 v0_5 v0_12 v0_13 v0_16 v0_17 v0_21 v0_23 v0_24 v0_25 v0_26 v0_29 v0_30 y_13 u_3.2) H := by rw [ey_13]; exact hP
      have hD : va_D A (wd_X12_setStyle cI a0 u_3.1 u_1.2 v0_5 v0_12 v0_13 v0_16 v0_17 v0_21 v0_23 v0_24 v0_25 v0_26 v0_29 v0_30 y_13 u_3.2) := by rw [ey_13]; exact hD
      refine lv_iload hx hb dX12_setStyle_94 (lv_at hl 0 rfl) ?_
      obtain rfl := Option.some.inj hF
      exact W.iret (v := y_5) hx hb hr (fun t ht hW => ⟨⟨y_5, (), rfl, rfl, by rw [ht]; exact hP, va_K.moved hW.alike hK, hD⟩, hS.F ht⟩) hS.2.2 dX12_setStyle_96
    · have hF := it_f hF c_2
      refine lv_iconst (v := 0) hx hb dX12_setStyle_51 (by decide) ?_
      obtain rfl := Option.some.inj hF
      exact W.iret (v := 0) hx hb hr (fun t ht hW => ⟨⟨0, (), rfl, rfl, by rw [ht]; exact hP, va_K.moved hW.alike hK, hD⟩, hS.F ht⟩) hS.2.2 dX12_setStyle_52
  have j44 : ∀ (v0_2 : Int32) (v0_3 : Int32) (v0_0 : Nat → Int32) (v0_1 : Nat → Int32) (x1 : Int32) (x2 : Int32) (x3 : Int32) (x4 : Int32), F_X12_setStyle_j44 n v0_2 v0_0 v0_1 x1 x2 x3 x4 = some u → ∀ (H : Heap) (locs : List Loc) (ls : Array Slot), va_P (dC, dI) vwCl (wd_X12_setStyle cI a0 v0_2 v0_3 v0_5 v0_12 v0_13 v0_16 v0_17 v0_21 v0_23 v0_24 v0_25 v0_26 v0_29 v0_30 v0_0 v0_1) H → va_D A (wd_X12_setStyle cI a0 v0_2 v0_3 v0_5 v0_12 v0_13 v0_16 v0_17 v0_21 v0_23 v0_24 v0_25 v0_26 v0_29 v0_30 v0_0 v0_1) → va_S A s.heap H locs → lv_has ls 6 [(0, .ref (a0 0)), (1, .int x1), (2, .int x2), (3, .int x3), (4, .int x4)] → W p l e (headSpec wz_X12_setStyle rm_X12_setStyle).room s m [.ref (a0 0), .int p1, .int p2, .int p3, .int p4].toArray below meth c H locs 0 0 (MQ below (Q_X12_setStyle dC dI cI a0 v0_5 v0_12 v0_13 v0_16 v0_17 v0_21 v0_23 v0_24 v0_25 v0_26 v0_29 v0_30 u A) [.ref (a0 0), .int p1, .int p2, .int p3, .int p4].toArray s 0 0 A) (F0 m 44 ls [.ref (a0 0)]) := by
    intro v0_2 v0_3 v0_0 v0_1 x1 x2 x3 x4 hF H locs ls hP hD hS hl
    unfold F_X12_setStyle_j44 at hF
    refine lv_iconst (v := 1) hx hb dX12_setStyle_44 (by decide) ?_
    exact j45 v0_2 v0_3 v0_0 v0_1 x1 x2 x3 x4 1 hF _ _ _ hP hD hS (lv_sub hl [0, 1, 2, 3, 4] rfl)
  refine lv_aload_n hx hb dX12_setStyle_0 rfl (lv_at hl 0 rfl) ?_
  refine lv_iload_n hx hb dX12_setStyle_1 rfl (lv_at hl 1 rfl) ?_
  refine lv_iconst (v := 1) hx hb dX12_setStyle_2 (by decide) ?_
  refine lv_bipush (v := 40) hx hb dX12_setStyle_3 (by decide) ?_
  obtain ⟨u_14, hu_14, hF⟩ := lt_some hF
  have hPc := hP.sub (ws' := ([] : va_W)) [] rfl
  have hDc := hD.sub (ws' := ([] : va_W)) [] rfl rfl
  refine q_callz (wc := ([] : va_W)) (w1 := ([] : va_W)) (ws' := (wd_X12_setStyle cI a0 v0_2 v0_3 v0_5 v0_12 v0_13 v0_16 v0_17 v0_21 v0_23 v0_24 v0_25 v0_26 v0_29 v0_30 v0_0 v0_1)) hP hD hS hA [] [0, 1, 2] [0, 1, 2] rfl rfl rfl (by decide) rfl rfl (va_runS (As := [.int p1, .int 1, .int 40]) (rest := [.ref (a0 0)]) ⟨hx, hb, hml, hown, hta⟩ (c_X12_within l dC dI cI H.size p1 1 40 u_14 hu_14.symm) (va_cwS 3 hta (ga_S mA812 mA813 mA814 mA810) rfl rfl rfl (by decide +kernel) ⟨Nat.le_of_ble_eq_true rfl, Nat.le_of_ble_eq_true rfl⟩) ⟨q_fb, q_ps hPc hK hDc⟩ rfl rfl hl.1 rfl (lv_room (Nat.le_of_ble_eq_true rfl)) dX12_setStyle_5 ⟨Nat.zero_le _, Nat.zero_le _⟩) (fun hzu_14 H locs hP hD hS => ?_)
  refine lv_if_eq (tgt := 44) hx hb dX12_setStyle_8 (by decide) (fun c_15 => ?_) (fun c_15 => ?_)
  · have hF := it_t hF c_15
    exact j44 v0_2 v0_3 v0_0 v0_1 p1 p2 p3 p4 hF _ _ _ hP hD hS (lv_sub hl [0, 1, 2, 3, 4] rfl)
  · have hF := it_f hF c_15
    refine lv_iload_n hx hb dX12_setStyle_11 rfl (lv_at hl 2 rfl) ?_
    refine lv_iconst (v := 0) hx hb dX12_setStyle_12 (by decide) ?_
    refine lv_iconst (v := 2) hx hb dX12_setStyle_13 (by decide) ?_
    obtain ⟨u_16, hu_16, hF⟩ := lt_some hF
    have hPc := hP.sub (ws' := ([] : va_W)) [] rfl
    have hDc := hD.sub (ws' := ([] : va_W)) [] rfl rfl
    refine q_callz (wc := ([] : va_W)) (w1 := ([] : va_W)) (ws' := (wd_X12_setStyle cI a0 v0_2 v0_3 v0_5 v0_12 v0_13 v0_16 v0_17 v0_21 v0_23 v0_24 v0_25 v0_26 v0_29 v0_30 v0_0 v0_1)) hP hD hS hA [] [0, 1, 2] [0, 1, 2] rfl rfl rfl (by decide) rfl rfl (va_runS (As := [.int p2, .int 0, .int 2]) (rest := [.ref (a0 0)]) ⟨hx, hb, hml, hown, hta⟩ (c_X12_within l dC dI cI H.size p2 0 2 u_16 hu_16.symm) (va_cwS 3 hta (ga_S mA812 mA813 mA814 mA810) rfl rfl rfl (by decide +kernel) ⟨Nat.le_of_ble_eq_true rfl, Nat.le_of_ble_eq_true rfl⟩) ⟨q_fb, q_ps hPc hK hDc⟩ rfl rfl hl.1 rfl (lv_room (Nat.le_of_ble_eq_true rfl)) dX12_setStyle_14 ⟨Nat.zero_le _, Nat.zero_le _⟩) (fun hzu_16 H locs hP hD hS => ?_)
    refine lv_if_eq (tgt := 44) hx hb dX12_setStyle_17 (by decide) (fun c_17 => ?_) (fun c_17 => ?_)
    · have hF := it_t hF c_17
      exact j44 v0_2 v0_3 v0_0 v0_1 p1 p2 p3 p4 hF _ _ _ hP hD hS (lv_sub hl [0, 1, 2, 3, 4] rfl)
    · have hF := it_f hF c_17
      refine lv_iload_n hx hb dX12_setStyle_20 rfl (lv_at hl 3 rfl) ?_
      refine lv_iconst (v := 1) hx hb dX12_setStyle_21 (by decide) ?_
      refine lv_bipush (v := 10) hx hb dX12_setStyle_22 (by decide) ?_
      obtain ⟨u_18, hu_18, hF⟩ := lt_some hF
      have hPc := hP.sub (ws' := ([] : va_W)) [] rfl
      have hDc := hD.sub (ws' := ([] : va_W)) [] rfl rfl
      refine q_callz (wc := ([] : va_W)) (w1 := ([] : va_W)) (ws' := (wd_X12_setStyle cI a0 v0_2 v0_3 v0_5 v0_12 v0_13 v0_16 v0_17 v0_21 v0_23 v0_24 v0_25 v0_26 v0_29 v0_30 v0_0 v0_1)) hP hD hS hA [] [0, 1, 2] [0, 1, 2] rfl rfl rfl (by decide) rfl rfl (va_runS (As := [.int p3, .int 1, .int 10]) (rest := [.ref (a0 0)]) ⟨hx, hb, hml, hown, hta⟩ (c_X12_within l dC dI cI H.size p3 1 10 u_18 hu_18.symm) (va_cwS 3 hta (ga_S mA812 mA813 mA814 mA810) rfl rfl rfl (by decide +kernel) ⟨Nat.le_of_ble_eq_true rfl, Nat.le_of_ble_eq_true rfl⟩) ⟨q_fb, q_ps hPc hK hDc⟩ rfl rfl hl.1 rfl (lv_room (Nat.le_of_ble_eq_true rfl)) dX12_setStyle_24 ⟨Nat.zero_le _, Nat.zero_le _⟩) (fun hzu_18 H locs hP hD hS => ?_)
      refine lv_if_eq (tgt := 44) hx hb dX12_setStyle_27 (by decide) (fun c_19 => ?_) (fun c_19 => ?_)
      · have hF := it_t hF c_19
        exact j44 v0_2 v0_3 v0_0 v0_1 p1 p2 p3 p4 hF _ _ _ hP hD hS (lv_sub hl [0, 1, 2, 3, 4] rfl)
      · have hF := it_f hF c_19
        refine lv_iload hx hb dX12_setStyle_30 (lv_at hl 4 rfl) ?_
        refine lv_iconst (v := 0) hx hb dX12_setStyle_32 (by decide) ?_
        refine lv_iconst (v := 2) hx hb dX12_setStyle_33 (by decide) ?_
        obtain ⟨u_20, hu_20, hF⟩ := lt_some hF
        have hPc := hP.sub (ws' := ([] : va_W)) [] rfl
        have hDc := hD.sub (ws' := ([] : va_W)) [] rfl rfl
        refine q_callz (wc := ([] : va_W)) (w1 := ([] : va_W)) (ws' := (wd_X12_setStyle cI a0 v0_2 v0_3 v0_5 v0_12 v0_13 v0_16 v0_17 v0_21 v0_23 v0_24 v0_25 v0_26 v0_29 v0_30 v0_0 v0_1)) hP hD hS hA [] [0, 1, 2] [0, 1, 2] rfl rfl rfl (by decide) rfl rfl (va_runS (As := [.int p4, .int 0, .int 2]) (rest := [.ref (a0 0)]) ⟨hx, hb, hml, hown, hta⟩ (c_X12_within l dC dI cI H.size p4 0 2 u_20 hu_20.symm) (va_cwS 3 hta (ga_S mA812 mA813 mA814 mA810) rfl rfl rfl (by decide +kernel) ⟨Nat.le_of_ble_eq_true rfl, Nat.le_of_ble_eq_true rfl⟩) ⟨q_fb, q_ps hPc hK hDc⟩ rfl rfl hl.1 rfl (lv_room (Nat.le_of_ble_eq_true rfl)) dX12_setStyle_34 ⟨Nat.zero_le _, Nat.zero_le _⟩) (fun hzu_20 H locs hP hD hS => ?_)
        refine lv_if_eq (tgt := 44) hx hb dX12_setStyle_37 (by decide) (fun c_21 => ?_) (fun c_21 => ?_)
        · have hF := it_t hF c_21
          exact j44 v0_2 v0_3 v0_0 v0_1 p1 p2 p3 p4 hF _ _ _ hP hD hS (lv_sub hl [0, 1, 2, 3, 4] rfl)
        · have hF := it_f hF c_21
          refine lv_iconst (v := 0) hx hb dX12_setStyle_40 (by decide) ?_
          refine lv_goto (tgt := 45) hx hb dX12_setStyle_41 (by decide) ?_
          exact j45 v0_2 v0_3 v0_0 v0_1 p1 p2 p3 p4 0 hF _ _ _ hP hD hS (lv_sub hl [0, 1, 2, 3, 4] rfl)

-- StrokeOutlinerModel.setDashes(IZ)I
def F_X12_setDashes_j66 (v0_2 : Int32) (v0_3 : Int32) (v0_0 : Nat → Int32) (v0_1 : Nat → Int32) (x3 : Int32) (t1 : Int32) (t2 : Int32) : Option (Int32 × Int32 × Int32 × (Nat → Int32) × (Nat → Int32)) :=
  gd (decide (vpi t1 86)) (lt (upd v0_0 t1.toNatClampNeg t2) (fun y_2 => some (x3, v0_2, v0_3, y_2, v0_1)))
def F_X12_setDashes_j17 (n : Nat) (v0_2 : Int32) (v0_0 : Nat → Int32) (v0_1 : Nat → Int32) (x1 : Int32) (x2 : Int32) (t1 : Int32) : Option (Int32 × Int32 × Int32 × (Nat → Int32) × (Nat → Int32)) :=
  lt (F_X12_refused t1) (fun u_3 => if u_3.1 = 0 then obd (F_X12_saves n v0_2 v0_0 v0_1) (fun u_5 => gd (decide (vpi 6 86)) (lt (v0_0 (6 : Int32).toNatClampNeg) (fun y_7 => gd (decide (vpi 6 86)) (lt (upd v0_0 (6 : Int32).toNatClampNeg 0) (fun y_9 => gd (decide (vpi 4 86)) (lt (upd y_9 (4 : Int32).toNatClampNeg x1) (fun y_11 => if x2 = 0 then F_X12_setDashes_j66 u_5.1 u_3.2 y_11 u_5.2 y_7 5 0 else F_X12_setDashes_j66 u_5.1 u_3.2 y_11 u_5.2 y_7 5 1))))))) else some (0, v0_2, u_3.2, v0_0, v0_1))
def F_X12_setDashes (n : Nat) (v0_2 : Int32) (v0_0 : Nat → Int32) (v0_1 : Nat → Int32) (p1 : Int32) (p2 : Int32) : Option (Int32 × Int32 × Int32 × (Nat → Int32) × (Nat → Int32)) :=
  lt (F_X12_within p1 0 600) (fun u_13 => if u_13 = 0 then F_X12_setDashes_j17 n v0_2 v0_0 v0_1 p1 p2 1 else F_X12_setDashes_j17 n v0_2 v0_0 v0_1 p1 p2 0)
abbrev wd_X12_setDashes (cI : ClassId) (a0 : Nat → Nat) (v0_2 : Int32) (v0_3 : Int32) (v0_5 : Int32) (v0_12 : Int32) (v0_13 : Int32) (v0_16 : Int32) (v0_17 : Int32) (v0_21 : Int32) (v0_23 : Int32) (v0_24 : Int32) (v0_25 : Int32) (v0_26 : Int32) (v0_29 : Int32) (v0_30 : Int64) (v0_0 : Nat → Int32) (v0_1 : Nat → Int32) : va_W := [(a0 0, .inr (11, [.ref (a0 1), .ref (a0 2), .int v0_2, .int v0_3, .ref (a0 5), .int v0_5, .ref (a0 7), .ref (a0 8), .ref (a0 9), .ref (a0 10), .ref (a0 11), .ref (a0 12), .int v0_12, .int v0_13, .ref (a0 15), .ref (a0 16), .int v0_16, .int v0_17, .ref (a0 19), .ref (a0 20), .ref (a0 21), .int v0_21, .ref (a0 23), .int v0_23, .int v0_24, .int v0_25, .int v0_26, .ref (a0 28), .ref (a0 29), .int v0_29, .long v0_30])), (a0 1, .inl (cI, 86, .inl v0_0)), (a0 2, .inl (cI, 344, .inl v0_1))]
abbrev wz_X12_setDashes : List Cond := .code yX12_setDashes cX12_setDashes 4 (some .int) :: wALL
abbrev rm_X12_setDashes : Room := { frames := 1, cells := 0, slots := 0, locals := 22 }
abbrev Q_X12_setDashes (dC : Nat → ClassId) (dI : Nat → Nat → Nat) (cI : ClassId) (a0 : Nat → Nat) (v0_5 : Int32) (v0_12 : Int32) (v0_13 : Int32) (v0_16 : Int32) (v0_17 : Int32) (v0_21 : Int32) (v0_23 : Int32) (v0_24 : Int32) (v0_25 : Int32) (v0_26 : Int32) (v0_29 : Int32) (v0_30 : Int64) (u : (Int32 × Int32 × Int32 × (Nat → Int32) × (Nat → Int32))) (A : Nat → Prop) : Array Value → State → Outcome → State → Prop := va_Qi (fun (r : Int32) (_ : Unit) => r = u.1) (fun _ => q_at dC dI cI A (wd_X12_setDashes cI a0 u.2.1 u.2.2.1 v0_5 v0_12 v0_13 v0_16 v0_17 v0_21 v0_23 v0_24 v0_25 v0_26 v0_29 v0_30 u.2.2.2.1 u.2.2.2.2)) A
set_option maxHeartbeats 4000000 in
set_option maxRecDepth 100000 in
theorem c_X12_setDashes (l : Launch) (dC : Nat → ClassId) (dI : Nat → Nat → Nat) (cI : ClassId) (sz : Nat) (a0 : Nat → Nat) (v0_2 : Int32) (v0_3 : Int32) (v0_5 : Int32) (v0_12 : Int32) (v0_13 : Int32) (v0_16 : Int32) (v0_17 : Int32) (v0_21 : Int32) (v0_23 : Int32) (v0_24 : Int32) (v0_25 : Int32) (v0_26 : Int32) (v0_29 : Int32) (v0_30 : Int64) (v0_0 : Nat → Int32) (v0_1 : Nat → Int32) (p1 : Int32) (p2 : Int32) (n : Nat) (u : (Int32 × Int32 × Int32 × (Nat → Int32) × (Nat → Int32))) (hF : F_X12_setDashes n v0_2 v0_0 v0_1 p1 p2 = some u) : Met l yX12_setDashes wz_X12_setDashes rm_X12_setDashes (va_Pc [.ref (a0 0), .int p1, .int p2] (q_pre dC dI cI (wd_X12_setDashes cI a0 v0_2 v0_3 v0_5 v0_12 v0_13 v0_16 v0_17 v0_21 v0_23 v0_24 v0_25 v0_26 v0_29 v0_30 v0_0 v0_1) sz)) (Q_X12_setDashes dC dI cI a0 v0_5 v0_12 v0_13 v0_16 v0_17 v0_21 v0_23 v0_24 v0_25 v0_26 v0_29 v0_30 u (va_A (wd_X12_setDashes cI a0 v0_2 v0_3 v0_5 v0_12 v0_13 v0_16 v0_17 v0_21 v0_23 v0_24 v0_25 v0_26 v0_29 v0_30 v0_0 v0_1) sz)) 0 0 (va_A (wd_X12_setDashes cI a0 v0_2 v0_3 v0_5 v0_12 v0_13 v0_16 v0_17 v0_21 v0_23 v0_24 v0_25 v0_26 v0_29 v0_30 v0_0 v0_1) sz) := by
  refine Met.ofW (cc := cX12_setDashes) (maxL := 4) (ret := (some .int)) (by decide) rfl ?_
  intro p e s m args below meth c s₁ B hml hv
  obtain ⟨rfl, hsz, hP, hK, hD0⟩ := hv
  have hx := B.exec
  have hb := B.bytes
  have hr := B.returns
  have hts := atoms_spec (ws := wz_X12_setDashes) B.pre
  have hta := wz_tl hts
  have hown : s.vm.findClass RX12 = some m.cls := findClass_of_methodNamed B.named
  have hlocks := B.notSynchronized
  subst hsz
  have hD := hD0.self (sz := s.heap.size)
  generalize hAe : va_A (wd_X12_setDashes cI a0 v0_2 v0_3 v0_5 v0_12 v0_13 v0_16 v0_17 v0_21 v0_23 v0_24 v0_25 v0_26 v0_29 v0_30 v0_0 v0_1) s.heap.size = A at hD ⊢
  have hA : ∀ q : Nat, s.heap.size ≤ q → A q := fun q h => by rw [← hAe]; exact Or.inr h
  have hS : va_S A s.heap s.heap [] := va_S.rf
  have hP : va_P (dC, dI) vwCl (wd_X12_setDashes cI a0 v0_2 v0_3 v0_5 v0_12 v0_13 v0_16 v0_17 v0_21 v0_23 v0_24 v0_25 v0_26 v0_29 v0_30 v0_0 v0_1) s.heap := hP
  have hl := lv_entry ([.ref (a0 0), .int p1, .int p2]) (n := 4) (Nat.le_of_ble_eq_true rfl)
  rw [lg_entry_eq]
  generalize (lg_sl ([.ref (a0 0), .int p1, .int p2]) ++ List.replicate (4 - (lg_sl ([.ref (a0 0), .int p1, .int p2])).length) Slot.unset).toArray = ls at hl ⊢
  have hl : lv_has ls 4 [(0, .ref (a0 0)), (1, .int p1), (2, .int p2)] := hl
  obtain ⟨H, hHe⟩ : ∃ H, H = s.heap := ⟨_, rfl⟩
  have hS : va_S A s.heap H [] := by rw [hHe]; exact hS
  have hP : va_P (dC, dI) vwCl (wd_X12_setDashes cI a0 v0_2 v0_3 v0_5 v0_12 v0_13 v0_16 v0_17 v0_21 v0_23 v0_24 v0_25 v0_26 v0_29 v0_30 v0_0 v0_1) H := by rw [hHe]; exact hP
  rw [← hHe]
  unfold F_X12_setDashes at hF
  have j66 : ∀ (v0_2 : Int32) (v0_3 : Int32) (v0_0 : Nat → Int32) (v0_1 : Nat → Int32) (x3 : Int32) (t1 : Int32) (t2 : Int32), F_X12_setDashes_j66 v0_2 v0_3 v0_0 v0_1 x3 t1 t2 = some u → ∀ (H : Heap) (locs : List Loc) (ls : Array Slot), va_P (dC, dI) vwCl (wd_X12_setDashes cI a0 v0_2 v0_3 v0_5 v0_12 v0_13 v0_16 v0_17 v0_21 v0_23 v0_24 v0_25 v0_26 v0_29 v0_30 v0_0 v0_1) H → va_D A (wd_X12_setDashes cI a0 v0_2 v0_3 v0_5 v0_12 v0_13 v0_16 v0_17 v0_21 v0_23 v0_24 v0_25 v0_26 v0_29 v0_30 v0_0 v0_1) → va_S A s.heap H locs → lv_has ls 4 [(3, .int x3)] → W p l e (headSpec wz_X12_setDashes rm_X12_setDashes).room s m [.ref (a0 0), .int p1, .int p2].toArray below meth c H locs 0 0 (MQ below (Q_X12_setDashes dC dI cI a0 v0_5 v0_12 v0_13 v0_16 v0_17 v0_21 v0_23 v0_24 v0_25 v0_26 v0_29 v0_30 u A) [.ref (a0 0), .int p1, .int p2].toArray s 0 0 A) (F0 m 66 ls [.int t2, .int t1, .ref (a0 1)]) := by
    intro v0_2 v0_3 v0_0 v0_1 x3 t1 t2 hF H locs ls hP hD hS hl
    unfold F_X12_setDashes_j66 at hF
    obtain ⟨g_1, hF⟩ := gd_some hF
    refine va_iast hx hb hK hP hD hS 1 0 rfl rfl (vpi_in g_1) dX12_setDashes_66 (fun H locs hP hD hS => ?_)
    obtain ⟨y_2, ey_2, hF⟩ := lt_some hF
    have hP : va_P (dC, dI) vwCl (wd_X12_setDashes cI a0 v0_2 v0_3 v0_5 v0_12 v0_13 v0_16 v0_17 v0_21 v0_23 v0_24 v0_25 v0_26 v0_29 v0_30 y_2 v0_1) H := by rw [ey_2]; exact hP
    have hD : va_D A (wd_X12_setDashes cI a0 v0_2 v0_3 v0_5 v0_12 v0_13 v0_16 v0_17 v0_21 v0_23 v0_24 v0_25 v0_26 v0_29 v0_30 y_2 v0_1) := by rw [ey_2]; exact hD
    refine lv_iload_n hx hb dX12_setDashes_67 rfl (lv_at hl 0 rfl) ?_
    obtain rfl := Option.some.inj hF
    exact W.iret (v := x3) hx hb hr (fun t ht hW => ⟨⟨x3, (), rfl, rfl, by rw [ht]; exact hP, va_K.moved hW.alike hK, hD⟩, hS.F ht⟩) hS.2.2 dX12_setDashes_68
  have j17 : ∀ (v0_2 : Int32) (v0_3 : Int32) (v0_0 : Nat → Int32) (v0_1 : Nat → Int32) (x1 : Int32) (x2 : Int32) (t1 : Int32), F_X12_setDashes_j17 n v0_2 v0_0 v0_1 x1 x2 t1 = some u → ∀ (H : Heap) (locs : List Loc) (ls : Array Slot), va_P (dC, dI) vwCl (wd_X12_setDashes cI a0 v0_2 v0_3 v0_5 v0_12 v0_13 v0_16 v0_17 v0_21 v0_23 v0_24 v0_25 v0_26 v0_29 v0_30 v0_0 v0_1) H → va_D A (wd_X12_setDashes cI a0 v0_2 v0_3 v0_5 v0_12 v0_13 v0_16 v0_17 v0_21 v0_23 v0_24 v0_25 v0_26 v0_29 v0_30 v0_0 v0_1) → va_S A s.heap H locs → lv_has ls 4 [(0, .ref (a0 0)), (1, .int x1), (2, .int x2)] → W p l e (headSpec wz_X12_setDashes rm_X12_setDashes).room s m [.ref (a0 0), .int p1, .int p2].toArray below meth c H locs 0 0 (MQ below (Q_X12_setDashes dC dI cI a0 v0_5 v0_12 v0_13 v0_16 v0_17 v0_21 v0_23 v0_24 v0_25 v0_26 v0_29 v0_30 u A) [.ref (a0 0), .int p1, .int p2].toArray s 0 0 A) (F0 m 17 ls [.int t1, .ref (a0 0)]) := by
    intro v0_2 v0_3 v0_0 v0_1 x1 x2 t1 hF H locs ls hP hD hS hl
    unfold F_X12_setDashes_j17 at hF
    obtain ⟨u_3, hu_3, hF⟩ := lt_some hF
    have hPc := hP.sub (ws' := (wd_X12_refused cI a0 v0_2 v0_3 v0_5 v0_12 v0_13 v0_16 v0_17 v0_21 v0_23 v0_24 v0_25 v0_26 v0_29 v0_30)) [0] rfl
    have hDc := hD.sub (ws' := (wd_X12_refused cI a0 v0_2 v0_3 v0_5 v0_12 v0_13 v0_16 v0_17 v0_21 v0_23 v0_24 v0_25 v0_26 v0_29 v0_30)) [0] rfl rfl
    refine q_callz (wc := (wd_X12_refused cI a0 v0_2 v0_3 v0_5 v0_12 v0_13 v0_16 v0_17 v0_21 v0_23 v0_24 v0_25 v0_26 v0_29 v0_30)) (w1 := (wd_X12_refused cI a0 v0_2 u_3.2 v0_5 v0_12 v0_13 v0_16 v0_17 v0_21 v0_23 v0_24 v0_25 v0_26 v0_29 v0_30)) (ws' := (wd_X12_setDashes cI a0 v0_2 u_3.2 v0_5 v0_12 v0_13 v0_16 v0_17 v0_21 v0_23 v0_24 v0_25 v0_26 v0_29 v0_30 v0_0 v0_1)) hP hD hS hA [0] [1, 2] [2, 0, 1] rfl rfl rfl (by decide) rfl rfl (va_runV (As := [.int t1]) (rest := []) ⟨hx, hb, hml, hown, hta⟩ (c_X12_refused l dC dI cI H.size a0 v0_2 v0_3 v0_5 v0_12 v0_13 v0_16 v0_17 v0_21 v0_23 v0_24 v0_25 v0_26 v0_29 v0_30 t1 u_3 hu_3.symm) (cwV 1 hta (ga_V mA822 mA823 mA824 mA814 mA809) rfl rfl rfl (by decide +kernel) ⟨Nat.le_of_ble_eq_true rfl, Nat.le_of_ble_eq_true rfl⟩) ⟨q_fb, va_recv hK hP (ci := 11) (q0 := 0) rfl rfl, q_ps hPc hK hDc⟩ rfl rfl hl.1 rfl (lv_room (Nat.le_of_ble_eq_true rfl)) dX12_setDashes_17 ⟨Nat.zero_le _, Nat.zero_le _⟩) (fun hzu_3 H locs hP hD hS => ?_)
    refine lv_if_eq (tgt := 25) hx hb dX12_setDashes_20 (by decide) (fun c_4 => ?_) (fun c_4 => ?_)
    · have hF := it_t hF c_4
      refine lv_aload_n hx hb dX12_setDashes_25 rfl (lv_at hl 0 rfl) ?_
      obtain ⟨u_5, hu_5, hF⟩ := obd_some hF
      have hPc := hP.sub (ws' := (wd_X12_saves cI a0 v0_2 u_3.2 v0_5 v0_12 v0_13 v0_16 v0_17 v0_21 v0_23 v0_24 v0_25 v0_26 v0_29 v0_30 v0_0 v0_1)) [0, 1, 2] rfl
      have hDc := hD.sub (ws' := (wd_X12_saves cI a0 v0_2 u_3.2 v0_5 v0_12 v0_13 v0_16 v0_17 v0_21 v0_23 v0_24 v0_25 v0_26 v0_29 v0_30 v0_0 v0_1)) [0, 1, 2] rfl rfl
      refine q_callv (wc := (wd_X12_saves cI a0 v0_2 u_3.2 v0_5 v0_12 v0_13 v0_16 v0_17 v0_21 v0_23 v0_24 v0_25 v0_26 v0_29 v0_30 v0_0 v0_1)) (w1 := (wd_X12_saves cI a0 u_5.1 u_3.2 v0_5 v0_12 v0_13 v0_16 v0_17 v0_21 v0_23 v0_24 v0_25 v0_26 v0_29 v0_30 v0_0 u_5.2)) (ws' := (wd_X12_setDashes cI a0 u_5.1 u_3.2 v0_5 v0_12 v0_13 v0_16 v0_17 v0_21 v0_23 v0_24 v0_25 v0_26 v0_29 v0_30 v0_0 u_5.2)) hP hD hS hA [0, 1, 2] [] [0, 1, 2] rfl rfl rfl (by decide) rfl rfl (va_runV (As := []) (rest := []) ⟨hx, hb, hml, hown, hta⟩ (c_X12_saves l dC dI cI H.size a0 v0_2 u_3.2 v0_5 v0_12 v0_13 v0_16 v0_17 v0_21 v0_23 v0_24 v0_25 v0_26 v0_29 v0_30 v0_0 v0_1 n u_5 hu_5) (cwV 0 hta (ga_V mA845 mA846 mA847 mA814 mA819) rfl rfl rfl (by decide +kernel) ⟨Nat.le_of_ble_eq_true rfl, Nat.le_of_ble_eq_true rfl⟩) ⟨q_fb, va_recv hK hP (ci := 11) (q0 := 0) rfl rfl, q_ps hPc hK hDc⟩ rfl rfl hl.1 rfl (lv_room (Nat.le_of_ble_eq_true rfl)) dX12_setDashes_26 ⟨Nat.zero_le _, Nat.zero_le _⟩) (fun H locs hP hD hS => ?_)
      refine lv_aload_n hx hb dX12_setDashes_29 rfl (lv_at hl 0 rfl) ?_
      refine va_get (D := (dC, dI)) (ci := 11) (v := .ref (a0 1)) (C := RX12) (T := TX12) (N := 31) hx hb hta uw_X12 hown hK hP 0 rfl rfl 0 (by decide) (hta _ mA790) (fun _ h9 => h9) rfl dX12_setDashes_30 ?_
      refine lv_bipush (v := 6) hx hb dX12_setDashes_33 (by decide) ?_
      obtain ⟨g_6, hF⟩ := gd_some hF
      refine va_iald hx hb hK hP 1 0 rfl rfl (vpi_in g_6) dX12_setDashes_35 ?_
      obtain ⟨y_7, ey_7, hF⟩ := lt_some hF
      refine lv_eqi ey_7 ?_
      refine lv_istore_n (lv' := [(3, .int y_7), (0, .ref (a0 0)), (1, .int x1), (2, .int x2)]) hx hb dX12_setDashes_36 rfl hl (by decide) rfl (fun ls hl => ?_)
      refine lv_aload_n hx hb dX12_setDashes_37 rfl (lv_at hl 1 rfl) ?_
      refine va_get (D := (dC, dI)) (ci := 11) (v := .ref (a0 1)) (C := RX12) (T := TX12) (N := 31) hx hb hta uw_X12 hown hK hP 0 rfl rfl 0 (by decide) (hta _ mA790) (fun _ h9 => h9) rfl dX12_setDashes_38 ?_
      refine lv_bipush (v := 6) hx hb dX12_setDashes_41 (by decide) ?_
      refine lv_iconst (v := 0) hx hb dX12_setDashes_43 (by decide) ?_
      obtain ⟨g_8, hF⟩ := gd_some hF
      refine va_iast hx hb hK hP hD hS 1 0 rfl rfl (vpi_in g_8) dX12_setDashes_44 (fun H locs hP hD hS => ?_)
      obtain ⟨y_9, ey_9, hF⟩ := lt_some hF
      have hP : va_P (dC, dI) vwCl (wd_X12_setDashes cI a0 u_5.1 u_3.2 v0_5 v0_12 v0_13 v0_16 v0_17 v0_21 v0_23 v0_24 v0_25 v0_26 v0_29 v0_30 y_9 u_5.2) H := by rw [ey_9]; exact hP
      have hD : va_D A (wd_X12_setDashes cI a0 u_5.1 u_3.2 v0_5 v0_12 v0_13 v0_16 v0_17 v0_21 v0_23 v0_24 v0_25 v0_26 v0_29 v0_30 y_9 u_5.2) := by rw [ey_9]; exact hD
      refine lv_aload_n hx hb dX12_setDashes_45 rfl (lv_at hl 1 rfl) ?_
      refine va_get (D := (dC, dI)) (ci := 11) (v := .ref (a0 1)) (C := RX12) (T := TX12) (N := 31) hx hb hta uw_X12 hown hK hP 0 rfl rfl 0 (by decide) (hta _ mA790) (fun _ h9 => h9) rfl dX12_setDashes_46 ?_
      refine lv_iconst (v := 4) hx hb dX12_setDashes_49 (by decide) ?_
      refine lv_iload_n hx hb dX12_setDashes_50 rfl (lv_at hl 2 rfl) ?_
      obtain ⟨g_10, hF⟩ := gd_some hF
      refine va_iast hx hb hK hP hD hS 1 0 rfl rfl (vpi_in g_10) dX12_setDashes_51 (fun H locs hP hD hS => ?_)
      obtain ⟨y_11, ey_11, hF⟩ := lt_some hF
      have hP : va_P (dC, dI) vwCl (wd_X12_setDashes cI a0 u_5.1 u_3.2 v0_5 v0_12 v0_13 v0_16 v0_17 v0_21 v0_23 v0_24 v0_25 v0_26 v0_29 v0_30 y_11 u_5.2) H := by rw [ey_11]; exact hP
      have hD : va_D A (wd_X12_setDashes cI a0 u_5.1 u_3.2 v0_5 v0_12 v0_13 v0_16 v0_17 v0_21 v0_23 v0_24 v0_25 v0_26 v0_29 v0_30 y_11 u_5.2) := by rw [ey_11]; exact hD
      refine lv_aload_n hx hb dX12_setDashes_52 rfl (lv_at hl 1 rfl) ?_
      refine va_get (D := (dC, dI)) (ci := 11) (v := .ref (a0 1)) (C := RX12) (T := TX12) (N := 31) hx hb hta uw_X12 hown hK hP 0 rfl rfl 0 (by decide) (hta _ mA790) (fun _ h9 => h9) rfl dX12_setDashes_53 ?_
      refine lv_iconst (v := 5) hx hb dX12_setDashes_56 (by decide) ?_
      refine lv_iload_n hx hb dX12_setDashes_57 rfl (lv_at hl 3 rfl) ?_
      refine lv_if_eq (tgt := 65) hx hb dX12_setDashes_58 (by decide) (fun c_12 => ?_) (fun c_12 => ?_)
      · have hF := it_t hF c_12
        refine lv_iconst (v := 0) hx hb dX12_setDashes_65 (by decide) ?_
        exact j66 u_5.1 u_3.2 y_11 u_5.2 y_7 5 0 hF _ _ _ hP hD hS (lv_sub hl [0] rfl)
      · have hF := it_f hF c_12
        refine lv_iconst (v := 1) hx hb dX12_setDashes_61 (by decide) ?_
        refine lv_goto (tgt := 66) hx hb dX12_setDashes_62 (by decide) ?_
        exact j66 u_5.1 u_3.2 y_11 u_5.2 y_7 5 1 hF _ _ _ hP hD hS (lv_sub hl [0] rfl)
    · have hF := it_f hF c_4
      refine lv_iconst (v := 0) hx hb dX12_setDashes_23 (by decide) ?_
      obtain rfl := Option.some.inj hF
      exact W.iret (v := 0) hx hb hr (fun t ht hW => ⟨⟨0, (), rfl, rfl, by rw [ht]; exact hP, va_K.moved hW.alike hK, hD⟩, hS.F ht⟩) hS.2.2 dX12_setDashes_24
  refine lv_aload_n hx hb dX12_setDashes_0 rfl (lv_at hl 0 rfl) ?_
  refine lv_iload_n hx hb dX12_setDashes_1 rfl (lv_at hl 1 rfl) ?_
  refine lv_iconst (v := 0) hx hb dX12_setDashes_2 (by decide) ?_
  refine lv_sipush (v := 600) hx hb dX12_setDashes_3 (by decide) ?_
  obtain ⟨u_13, hu_13, hF⟩ := lt_some hF
  have hPc := hP.sub (ws' := ([] : va_W)) [] rfl
  have hDc := hD.sub (ws' := ([] : va_W)) [] rfl rfl
  refine q_callz (wc := ([] : va_W)) (w1 := ([] : va_W)) (ws' := (wd_X12_setDashes cI a0 v0_2 v0_3 v0_5 v0_12 v0_13 v0_16 v0_17 v0_21 v0_23 v0_24 v0_25 v0_26 v0_29 v0_30 v0_0 v0_1)) hP hD hS hA [] [0, 1, 2] [0, 1, 2] rfl rfl rfl (by decide) rfl rfl (va_runS (As := [.int p1, .int 0, .int 600]) (rest := [.ref (a0 0)]) ⟨hx, hb, hml, hown, hta⟩ (c_X12_within l dC dI cI H.size p1 0 600 u_13 hu_13.symm) (va_cwS 3 hta (ga_S mA812 mA813 mA814 mA810) rfl rfl rfl (by decide +kernel) ⟨Nat.le_of_ble_eq_true rfl, Nat.le_of_ble_eq_true rfl⟩) ⟨q_fb, q_ps hPc hK hDc⟩ rfl rfl hl.1 rfl (lv_room (Nat.le_of_ble_eq_true rfl)) dX12_setDashes_6 ⟨Nat.zero_le _, Nat.zero_le _⟩) (fun hzu_13 H locs hP hD hS => ?_)
  refine lv_if_eq (tgt := 16) hx hb dX12_setDashes_9 (by decide) (fun c_14 => ?_) (fun c_14 => ?_)
  · have hF := it_t hF c_14
    refine lv_iconst (v := 1) hx hb dX12_setDashes_16 (by decide) ?_
    exact j17 v0_2 v0_3 v0_0 v0_1 p1 p2 1 hF _ _ _ hP hD hS (lv_sub hl [0, 1, 2] rfl)
  · have hF := it_f hF c_14
    refine lv_iconst (v := 0) hx hb dX12_setDashes_12 (by decide) ?_
    refine lv_goto (tgt := 17) hx hb dX12_setDashes_13 (by decide) ?_
    exact j17 v0_2 v0_3 v0_0 v0_1 p1 p2 0 hF _ _ _ hP hD hS (lv_sub hl [0, 1, 2] rfl)

-- StrokeOutlinerModel.addDash(I)I
def F_X12_addDash_j32 (n : Nat) (v0_2 : Int32) (v0_0 : Nat → Int32) (v0_1 : Nat → Int32) (x1 : Int32) (t1 : Int32) : Option (Int32 × Int32 × Int32 × (Nat → Int32) × (Nat → Int32)) :=
  lt (F_X12_refused t1) (fun u_1 => if u_1.1 = 0 then obd (F_X12_saves n v0_2 v0_0 v0_1) (fun u_3 => gd (decide (vpi 6 86)) (lt (7 + (v0_0 (6 : Int32).toNatClampNeg)) (fun y_5 => gd (decide (vpi y_5 86)) (lt (upd v0_0 y_5.toNatClampNeg x1) (fun y_7 => gd (decide (vpi 6 86)) (lt ((y_7 (6 : Int32).toNatClampNeg) + 1) (fun y_9 => gd (decide (vpi 6 86)) (lt (upd y_7 (6 : Int32).toNatClampNeg y_9) (fun y_11 => gd (decide (vpi 6 86)) (some ((y_11 (6 : Int32).toNatClampNeg), u_3.1, u_1.2, y_11, u_3.2))))))))))) else some (0, v0_2, u_1.2, v0_0, v0_1))
def F_X12_addDash (n : Nat) (v0_2 : Int32) (v0_0 : Nat → Int32) (v0_1 : Nat → Int32) (p1 : Int32) : Option (Int32 × Int32 × Int32 × (Nat → Int32) × (Nat → Int32)) :=
  lt (F_X12_within p1 5 100) (fun u_13 => if u_13 = 0 then F_X12_addDash_j32 n v0_2 v0_0 v0_1 p1 1 else gd (decide (vpi 6 86)) (if (v0_0 (6 : Int32).toNatClampNeg) = 6 then F_X12_addDash_j32 n v0_2 v0_0 v0_1 p1 2 else F_X12_addDash_j32 n v0_2 v0_0 v0_1 p1 0))
abbrev wd_X12_addDash (cI : ClassId) (a0 : Nat → Nat) (v0_2 : Int32) (v0_3 : Int32) (v0_5 : Int32) (v0_12 : Int32) (v0_13 : Int32) (v0_16 : Int32) (v0_17 : Int32) (v0_21 : Int32) (v0_23 : Int32) (v0_24 : Int32) (v0_25 : Int32) (v0_26 : Int32) (v0_29 : Int32) (v0_30 : Int64) (v0_0 : Nat → Int32) (v0_1 : Nat → Int32) : va_W := [(a0 0, .inr (11, [.ref (a0 1), .ref (a0 2), .int v0_2, .int v0_3, .ref (a0 5), .int v0_5, .ref (a0 7), .ref (a0 8), .ref (a0 9), .ref (a0 10), .ref (a0 11), .ref (a0 12), .int v0_12, .int v0_13, .ref (a0 15), .ref (a0 16), .int v0_16, .int v0_17, .ref (a0 19), .ref (a0 20), .ref (a0 21), .int v0_21, .ref (a0 23), .int v0_23, .int v0_24, .int v0_25, .int v0_26, .ref (a0 28), .ref (a0 29), .int v0_29, .long v0_30])), (a0 1, .inl (cI, 86, .inl v0_0)), (a0 2, .inl (cI, 344, .inl v0_1))]
abbrev wz_X12_addDash : List Cond := .code yX12_addDash cX12_addDash 2 (some .int) :: wALL
abbrev rm_X12_addDash : Room := { frames := 1, cells := 0, slots := 0, locals := 22 }
abbrev Q_X12_addDash (dC : Nat → ClassId) (dI : Nat → Nat → Nat) (cI : ClassId) (a0 : Nat → Nat) (v0_5 : Int32) (v0_12 : Int32) (v0_13 : Int32) (v0_16 : Int32) (v0_17 : Int32) (v0_21 : Int32) (v0_23 : Int32) (v0_24 : Int32) (v0_25 : Int32) (v0_26 : Int32) (v0_29 : Int32) (v0_30 : Int64) (u : (Int32 × Int32 × Int32 × (Nat → Int32) × (Nat → Int32))) (A : Nat → Prop) : Array Value → State → Outcome → State → Prop := va_Qi (fun (r : Int32) (_ : Unit) => r = u.1) (fun _ => q_at dC dI cI A (wd_X12_addDash cI a0 u.2.1 u.2.2.1 v0_5 v0_12 v0_13 v0_16 v0_17 v0_21 v0_23 v0_24 v0_25 v0_26 v0_29 v0_30 u.2.2.2.1 u.2.2.2.2)) A
set_option maxHeartbeats 4000000 in
set_option maxRecDepth 100000 in
theorem c_X12_addDash (l : Launch) (dC : Nat → ClassId) (dI : Nat → Nat → Nat) (cI : ClassId) (sz : Nat) (a0 : Nat → Nat) (v0_2 : Int32) (v0_3 : Int32) (v0_5 : Int32) (v0_12 : Int32) (v0_13 : Int32) (v0_16 : Int32) (v0_17 : Int32) (v0_21 : Int32) (v0_23 : Int32) (v0_24 : Int32) (v0_25 : Int32) (v0_26 : Int32) (v0_29 : Int32) (v0_30 : Int64) (v0_0 : Nat → Int32) (v0_1 : Nat → Int32) (p1 : Int32) (n : Nat) (u : (Int32 × Int32 × Int32 × (Nat → Int32) × (Nat → Int32))) (hF : F_X12_addDash n v0_2 v0_0 v0_1 p1 = some u) : Met l yX12_addDash wz_X12_addDash rm_X12_addDash (va_Pc [.ref (a0 0), .int p1] (q_pre dC dI cI (wd_X12_addDash cI a0 v0_2 v0_3 v0_5 v0_12 v0_13 v0_16 v0_17 v0_21 v0_23 v0_24 v0_25 v0_26 v0_29 v0_30 v0_0 v0_1) sz)) (Q_X12_addDash dC dI cI a0 v0_5 v0_12 v0_13 v0_16 v0_17 v0_21 v0_23 v0_24 v0_25 v0_26 v0_29 v0_30 u (va_A (wd_X12_addDash cI a0 v0_2 v0_3 v0_5 v0_12 v0_13 v0_16 v0_17 v0_21 v0_23 v0_24 v0_25 v0_26 v0_29 v0_30 v0_0 v0_1) sz)) 0 0 (va_A (wd_X12_addDash cI a0 v0_2 v0_3 v0_5 v0_12 v0_13 v0_16 v0_17 v0_21 v0_23 v0_24 v0_25 v0_26 v0_29 v0_30 v0_0 v0_1) sz) := by
  refine Met.ofW (cc := cX12_addDash) (maxL := 2) (ret := (some .int)) (by decide) rfl ?_
  intro p e s m args below meth c s₁ B hml hv
  obtain ⟨rfl, hsz, hP, hK, hD0⟩ := hv
  have hx := B.exec
  have hb := B.bytes
  have hr := B.returns
  have hts := atoms_spec (ws := wz_X12_addDash) B.pre
  have hta := wz_tl hts
  have hown : s.vm.findClass RX12 = some m.cls := findClass_of_methodNamed B.named
  have hlocks := B.notSynchronized
  subst hsz
  have hD := hD0.self (sz := s.heap.size)
  generalize hAe : va_A (wd_X12_addDash cI a0 v0_2 v0_3 v0_5 v0_12 v0_13 v0_16 v0_17 v0_21 v0_23 v0_24 v0_25 v0_26 v0_29 v0_30 v0_0 v0_1) s.heap.size = A at hD ⊢
  have hA : ∀ q : Nat, s.heap.size ≤ q → A q := fun q h => by rw [← hAe]; exact Or.inr h
  have hS : va_S A s.heap s.heap [] := va_S.rf
  have hP : va_P (dC, dI) vwCl (wd_X12_addDash cI a0 v0_2 v0_3 v0_5 v0_12 v0_13 v0_16 v0_17 v0_21 v0_23 v0_24 v0_25 v0_26 v0_29 v0_30 v0_0 v0_1) s.heap := hP
  have hl := lv_entry ([.ref (a0 0), .int p1]) (n := 2) (Nat.le_of_ble_eq_true rfl)
  rw [lg_entry_eq]
  generalize (lg_sl ([.ref (a0 0), .int p1]) ++ List.replicate (2 - (lg_sl ([.ref (a0 0), .int p1])).length) Slot.unset).toArray = ls at hl ⊢
  have hl : lv_has ls 2 [(0, .ref (a0 0)), (1, .int p1)] := hl
  obtain ⟨H, hHe⟩ : ∃ H, H = s.heap := ⟨_, rfl⟩
  have hS : va_S A s.heap H [] := by rw [hHe]; exact hS
  have hP : va_P (dC, dI) vwCl (wd_X12_addDash cI a0 v0_2 v0_3 v0_5 v0_12 v0_13 v0_16 v0_17 v0_21 v0_23 v0_24 v0_25 v0_26 v0_29 v0_30 v0_0 v0_1) H := by rw [hHe]; exact hP
  rw [← hHe]
  unfold F_X12_addDash at hF
  have j32 : ∀ (v0_2 : Int32) (v0_3 : Int32) (v0_0 : Nat → Int32) (v0_1 : Nat → Int32) (x1 : Int32) (t1 : Int32), F_X12_addDash_j32 n v0_2 v0_0 v0_1 x1 t1 = some u → ∀ (H : Heap) (locs : List Loc) (ls : Array Slot), va_P (dC, dI) vwCl (wd_X12_addDash cI a0 v0_2 v0_3 v0_5 v0_12 v0_13 v0_16 v0_17 v0_21 v0_23 v0_24 v0_25 v0_26 v0_29 v0_30 v0_0 v0_1) H → va_D A (wd_X12_addDash cI a0 v0_2 v0_3 v0_5 v0_12 v0_13 v0_16 v0_17 v0_21 v0_23 v0_24 v0_25 v0_26 v0_29 v0_30 v0_0 v0_1) → va_S A s.heap H locs → lv_has ls 2 [(0, .ref (a0 0)), (1, .int x1)] → W p l e (headSpec wz_X12_addDash rm_X12_addDash).room s m [.ref (a0 0), .int p1].toArray below meth c H locs 0 0 (MQ below (Q_X12_addDash dC dI cI a0 v0_5 v0_12 v0_13 v0_16 v0_17 v0_21 v0_23 v0_24 v0_25 v0_26 v0_29 v0_30 u A) [.ref (a0 0), .int p1].toArray s 0 0 A) (F0 m 32 ls [.int t1, .ref (a0 0)]) := by
    intro v0_2 v0_3 v0_0 v0_1 x1 t1 hF H locs ls hP hD hS hl
    unfold F_X12_addDash_j32 at hF
    obtain ⟨u_1, hu_1, hF⟩ := lt_some hF
    have hPc := hP.sub (ws' := (wd_X12_refused cI a0 v0_2 v0_3 v0_5 v0_12 v0_13 v0_16 v0_17 v0_21 v0_23 v0_24 v0_25 v0_26 v0_29 v0_30)) [0] rfl
    have hDc := hD.sub (ws' := (wd_X12_refused cI a0 v0_2 v0_3 v0_5 v0_12 v0_13 v0_16 v0_17 v0_21 v0_23 v0_24 v0_25 v0_26 v0_29 v0_30)) [0] rfl rfl
    refine q_callz (wc := (wd_X12_refused cI a0 v0_2 v0_3 v0_5 v0_12 v0_13 v0_16 v0_17 v0_21 v0_23 v0_24 v0_25 v0_26 v0_29 v0_30)) (w1 := (wd_X12_refused cI a0 v0_2 u_1.2 v0_5 v0_12 v0_13 v0_16 v0_17 v0_21 v0_23 v0_24 v0_25 v0_26 v0_29 v0_30)) (ws' := (wd_X12_addDash cI a0 v0_2 u_1.2 v0_5 v0_12 v0_13 v0_16 v0_17 v0_21 v0_23 v0_24 v0_25 v0_26 v0_29 v0_30 v0_0 v0_1)) hP hD hS hA [0] [1, 2] [2, 0, 1] rfl rfl rfl (by decide) rfl rfl (va_runV (As := [.int t1]) (rest := []) ⟨hx, hb, hml, hown, hta⟩ (c_X12_refused l dC dI cI H.size a0 v0_2 v0_3 v0_5 v0_12 v0_13 v0_16 v0_17 v0_21 v0_23 v0_24 v0_25 v0_26 v0_29 v0_30 t1 u_1 hu_1.symm) (cwV 1 hta (ga_V mA822 mA823 mA824 mA814 mA809) rfl rfl rfl (by decide +kernel) ⟨Nat.le_of_ble_eq_true rfl, Nat.le_of_ble_eq_true rfl⟩) ⟨q_fb, va_recv hK hP (ci := 11) (q0 := 0) rfl rfl, q_ps hPc hK hDc⟩ rfl rfl hl.1 rfl (lv_room (Nat.le_of_ble_eq_true rfl)) dX12_addDash_32 ⟨Nat.zero_le _, Nat.zero_le _⟩) (fun hzu_1 H locs hP hD hS => ?_)
    refine lv_if_eq (tgt := 40) hx hb dX12_addDash_35 (by decide) (fun c_2 => ?_) (fun c_2 => ?_)
    · have hF := it_t hF c_2
      refine lv_aload_n hx hb dX12_addDash_40 rfl (lv_at hl 0 rfl) ?_
      obtain ⟨u_3, hu_3, hF⟩ := obd_some hF
      have hPc := hP.sub (ws' := (wd_X12_saves cI a0 v0_2 u_1.2 v0_5 v0_12 v0_13 v0_16 v0_17 v0_21 v0_23 v0_24 v0_25 v0_26 v0_29 v0_30 v0_0 v0_1)) [0, 1, 2] rfl
      have hDc := hD.sub (ws' := (wd_X12_saves cI a0 v0_2 u_1.2 v0_5 v0_12 v0_13 v0_16 v0_17 v0_21 v0_23 v0_24 v0_25 v0_26 v0_29 v0_30 v0_0 v0_1)) [0, 1, 2] rfl rfl
      refine q_callv (wc := (wd_X12_saves cI a0 v0_2 u_1.2 v0_5 v0_12 v0_13 v0_16 v0_17 v0_21 v0_23 v0_24 v0_25 v0_26 v0_29 v0_30 v0_0 v0_1)) (w1 := (wd_X12_saves cI a0 u_3.1 u_1.2 v0_5 v0_12 v0_13 v0_16 v0_17 v0_21 v0_23 v0_24 v0_25 v0_26 v0_29 v0_30 v0_0 u_3.2)) (ws' := (wd_X12_addDash cI a0 u_3.1 u_1.2 v0_5 v0_12 v0_13 v0_16 v0_17 v0_21 v0_23 v0_24 v0_25 v0_26 v0_29 v0_30 v0_0 u_3.2)) hP hD hS hA [0, 1, 2] [] [0, 1, 2] rfl rfl rfl (by decide) rfl rfl (va_runV (As := []) (rest := []) ⟨hx, hb, hml, hown, hta⟩ (c_X12_saves l dC dI cI H.size a0 v0_2 u_1.2 v0_5 v0_12 v0_13 v0_16 v0_17 v0_21 v0_23 v0_24 v0_25 v0_26 v0_29 v0_30 v0_0 v0_1 n u_3 hu_3) (cwV 0 hta (ga_V mA845 mA846 mA847 mA814 mA819) rfl rfl rfl (by decide +kernel) ⟨Nat.le_of_ble_eq_true rfl, Nat.le_of_ble_eq_true rfl⟩) ⟨q_fb, va_recv hK hP (ci := 11) (q0 := 0) rfl rfl, q_ps hPc hK hDc⟩ rfl rfl hl.1 rfl (lv_room (Nat.le_of_ble_eq_true rfl)) dX12_addDash_41 ⟨Nat.zero_le _, Nat.zero_le _⟩) (fun H locs hP hD hS => ?_)
      refine lv_aload_n hx hb dX12_addDash_44 rfl (lv_at hl 0 rfl) ?_
      refine va_get (D := (dC, dI)) (ci := 11) (v := .ref (a0 1)) (C := RX12) (T := TX12) (N := 31) hx hb hta uw_X12 hown hK hP 0 rfl rfl 0 (by decide) (hta _ mA790) (fun _ h9 => h9) rfl dX12_addDash_45 ?_
      refine lv_bipush (v := 7) hx hb dX12_addDash_48 (by decide) ?_
      refine lv_aload_n hx hb dX12_addDash_50 rfl (lv_at hl 0 rfl) ?_
      refine va_get (D := (dC, dI)) (ci := 11) (v := .ref (a0 1)) (C := RX12) (T := TX12) (N := 31) hx hb hta uw_X12 hown hK hP 0 rfl rfl 0 (by decide) (hta _ mA790) (fun _ h9 => h9) rfl dX12_addDash_51 ?_
      refine lv_bipush (v := 6) hx hb dX12_addDash_54 (by decide) ?_
      obtain ⟨g_4, hF⟩ := gd_some hF
      refine va_iald hx hb hK hP 1 0 rfl rfl (vpi_in g_4) dX12_addDash_56 ?_
      refine lv_iadd hx hb dX12_addDash_57 ?_
      refine lv_iload_n hx hb dX12_addDash_58 rfl (lv_at hl 1 rfl) ?_
      obtain ⟨y_5, ey_5, hF⟩ := lt_some hF
      refine lv_eq2i ey_5 ?_
      obtain ⟨g_6, hF⟩ := gd_some hF
      refine va_iast hx hb hK hP hD hS 1 0 rfl rfl (vpi_in g_6) dX12_addDash_59 (fun H locs hP hD hS => ?_)
      obtain ⟨y_7, ey_7, hF⟩ := lt_some hF
      have hP : va_P (dC, dI) vwCl (wd_X12_addDash cI a0 u_3.1 u_1.2 v0_5 v0_12 v0_13 v0_16 v0_17 v0_21 v0_23 v0_24 v0_25 v0_26 v0_29 v0_30 y_7 u_3.2) H := by rw [ey_7]; exact hP
      have hD : va_D A (wd_X12_addDash cI a0 u_3.1 u_1.2 v0_5 v0_12 v0_13 v0_16 v0_17 v0_21 v0_23 v0_24 v0_25 v0_26 v0_29 v0_30 y_7 u_3.2) := by rw [ey_7]; exact hD
      refine lv_aload_n hx hb dX12_addDash_60 rfl (lv_at hl 0 rfl) ?_
      refine va_get (D := (dC, dI)) (ci := 11) (v := .ref (a0 1)) (C := RX12) (T := TX12) (N := 31) hx hb hta uw_X12 hown hK hP 0 rfl rfl 0 (by decide) (hta _ mA790) (fun _ h9 => h9) rfl dX12_addDash_61 ?_
      refine lv_bipush (v := 6) hx hb dX12_addDash_64 (by decide) ?_
      refine lv_dup2_11 hx hb dX12_addDash_66 rfl rfl ?_
      obtain ⟨g_8, hF⟩ := gd_some hF
      refine va_iald hx hb hK hP 1 0 rfl rfl (vpi_in g_8) dX12_addDash_67 ?_
      refine lv_iconst (v := 1) hx hb dX12_addDash_68 (by decide) ?_
      refine lv_iadd hx hb dX12_addDash_69 ?_
      obtain ⟨y_9, ey_9, hF⟩ := lt_some hF
      refine lv_eqi ey_9 ?_
      obtain ⟨g_10, hF⟩ := gd_some hF
      refine va_iast hx hb hK hP hD hS 1 0 rfl rfl (vpi_in g_10) dX12_addDash_70 (fun H locs hP hD hS => ?_)
      obtain ⟨y_11, ey_11, hF⟩ := lt_some hF
      have hP : va_P (dC, dI) vwCl (wd_X12_addDash cI a0 u_3.1 u_1.2 v0_5 v0_12 v0_13 v0_16 v0_17 v0_21 v0_23 v0_24 v0_25 v0_26 v0_29 v0_30 y_11 u_3.2) H := by rw [ey_11]; exact hP
      have hD : va_D A (wd_X12_addDash cI a0 u_3.1 u_1.2 v0_5 v0_12 v0_13 v0_16 v0_17 v0_21 v0_23 v0_24 v0_25 v0_26 v0_29 v0_30 y_11 u_3.2) := by rw [ey_11]; exact hD
      refine lv_aload_n hx hb dX12_addDash_71 rfl (lv_at hl 0 rfl) ?_
      refine va_get (D := (dC, dI)) (ci := 11) (v := .ref (a0 1)) (C := RX12) (T := TX12) (N := 31) hx hb hta uw_X12 hown hK hP 0 rfl rfl 0 (by decide) (hta _ mA790) (fun _ h9 => h9) rfl dX12_addDash_72 ?_
      refine lv_bipush (v := 6) hx hb dX12_addDash_75 (by decide) ?_
      obtain ⟨g_12, hF⟩ := gd_some hF
      refine va_iald hx hb hK hP 1 0 rfl rfl (vpi_in g_12) dX12_addDash_77 ?_
      obtain rfl := Option.some.inj hF
      exact W.iret (v := (y_11 (6 : Int32).toNatClampNeg)) hx hb hr (fun t ht hW => ⟨⟨(y_11 (6 : Int32).toNatClampNeg), (), rfl, rfl, by rw [ht]; exact hP, va_K.moved hW.alike hK, hD⟩, hS.F ht⟩) hS.2.2 dX12_addDash_78
    · have hF := it_f hF c_2
      refine lv_iconst (v := 0) hx hb dX12_addDash_38 (by decide) ?_
      obtain rfl := Option.some.inj hF
      exact W.iret (v := 0) hx hb hr (fun t ht hW => ⟨⟨0, (), rfl, rfl, by rw [ht]; exact hP, va_K.moved hW.alike hK, hD⟩, hS.F ht⟩) hS.2.2 dX12_addDash_39
  refine lv_aload_n hx hb dX12_addDash_0 rfl (lv_at hl 0 rfl) ?_
  refine lv_iload_n hx hb dX12_addDash_1 rfl (lv_at hl 1 rfl) ?_
  refine lv_iconst (v := 5) hx hb dX12_addDash_2 (by decide) ?_
  refine lv_bipush (v := 100) hx hb dX12_addDash_3 (by decide) ?_
  obtain ⟨u_13, hu_13, hF⟩ := lt_some hF
  have hPc := hP.sub (ws' := ([] : va_W)) [] rfl
  have hDc := hD.sub (ws' := ([] : va_W)) [] rfl rfl
  refine q_callz (wc := ([] : va_W)) (w1 := ([] : va_W)) (ws' := (wd_X12_addDash cI a0 v0_2 v0_3 v0_5 v0_12 v0_13 v0_16 v0_17 v0_21 v0_23 v0_24 v0_25 v0_26 v0_29 v0_30 v0_0 v0_1)) hP hD hS hA [] [0, 1, 2] [0, 1, 2] rfl rfl rfl (by decide) rfl rfl (va_runS (As := [.int p1, .int 5, .int 100]) (rest := [.ref (a0 0)]) ⟨hx, hb, hml, hown, hta⟩ (c_X12_within l dC dI cI H.size p1 5 100 u_13 hu_13.symm) (va_cwS 3 hta (ga_S mA812 mA813 mA814 mA810) rfl rfl rfl (by decide +kernel) ⟨Nat.le_of_ble_eq_true rfl, Nat.le_of_ble_eq_true rfl⟩) ⟨q_fb, q_ps hPc hK hDc⟩ rfl rfl hl.1 rfl (lv_room (Nat.le_of_ble_eq_true rfl)) dX12_addDash_5 ⟨Nat.zero_le _, Nat.zero_le _⟩) (fun hzu_13 H locs hP hD hS => ?_)
  refine lv_if_ne (tgt := 15) hx hb dX12_addDash_8 (by decide) (fun c_14 => ?_) (fun c_14 => ?_)
  · have hF := it_f hF c_14
    refine lv_aload_n hx hb dX12_addDash_15 rfl (lv_at hl 0 rfl) ?_
    refine va_get (D := (dC, dI)) (ci := 11) (v := .ref (a0 1)) (C := RX12) (T := TX12) (N := 31) hx hb hta uw_X12 hown hK hP 0 rfl rfl 0 (by decide) (hta _ mA790) (fun _ h9 => h9) rfl dX12_addDash_16 ?_
    refine lv_bipush (v := 6) hx hb dX12_addDash_19 (by decide) ?_
    obtain ⟨g_15, hF⟩ := gd_some hF
    refine va_iald hx hb hK hP 1 0 rfl rfl (vpi_in g_15) dX12_addDash_21 ?_
    refine lv_bipush (v := 6) hx hb dX12_addDash_22 (by decide) ?_
    refine lv_icmp_ne (tgt := 31) hx hb dX12_addDash_24 (by decide) (fun c_16 => ?_) (fun c_16 => ?_)
    · have hF := it_f hF c_16
      refine lv_iconst (v := 0) hx hb dX12_addDash_31 (by decide) ?_
      exact j32 v0_2 v0_3 v0_0 v0_1 p1 0 hF _ _ _ hP hD hS (lv_sub hl [0, 1] rfl)
    · have hF := it_t hF c_16
      refine lv_iconst (v := 2) hx hb dX12_addDash_27 (by decide) ?_
      refine lv_goto (tgt := 32) hx hb dX12_addDash_28 (by decide) ?_
      exact j32 v0_2 v0_3 v0_0 v0_1 p1 2 hF _ _ _ hP hD hS (lv_sub hl [0, 1] rfl)
  · have hF := it_t hF c_14
    refine lv_iconst (v := 1) hx hb dX12_addDash_11 (by decide) ?_
    refine lv_goto (tgt := 32) hx hb dX12_addDash_12 (by decide) ?_
    exact j32 v0_2 v0_3 v0_0 v0_1 p1 1 hF _ _ _ hP hD hS (lv_sub hl [0, 1] rfl)

-- StrokeOutlinerModel.stretch(I)I
def F_X12_stretch_j97 (v0_0 : Nat → Int32) (x2 : Int32) (x4 : Int32) (x5 : Int32) : Option (Int32) :=
  gd (decide (¬ (x2 : Int32) = 0)) (lt (7 + (x5 - x5 / x2 * x2)) (fun y_2 => gd (decide (vpi y_2 86)) (lt ((64 * (v0_0 y_2.toNatClampNeg)) - x4) (fun y_4 => if (x5 - x5 / 2 * 2) = 0 then some y_4 else some (-y_4)))))
def F_X12_stretch_b51 (v0_0 : Nat → Int32) (x2 : Int32) (s51 : Int32 × Int32) : Option (Sum (Int32 × Int32) (Int32 × Int32)) :=
  gd (decide (¬ (x2 : Int32) = 0)) (lt (7 + (s51.2 - s51.2 / x2 * x2)) (fun y_7 => gd (decide (vpi y_7 86)) (if s51.1 < (64 * (v0_0 y_7.toNatClampNeg)) then some (.inr (s51.1, s51.2)) else gd (decide (¬ (x2 : Int32) = 0)) (lt (7 + (s51.2 - s51.2 / x2 * x2)) (fun y_11 => gd (decide (vpi y_11 86)) (lt (s51.1 - (64 * (v0_0 y_11.toNatClampNeg))) (fun y_13 => lt (s51.2 + 1) (fun y_14 => some (.inl (y_13, y_14))))))))))
def F_X12_stretch_j51 (n : Nat) (v0_0 : Nat → Int32) (x2 : Int32) (x4 : Int32) (x5 : Int32) : Option (Int32) :=
  obd (lpq (F_X12_stretch_b51 v0_0 x2) n (x4, x5)) (fun x_51 => F_X12_stretch_j97 v0_0 x2 x_51.1 x_51.2)
def F_X12_stretch_j41 (n : Nat) (v0_0 : Nat → Int32) (x1 : Int32) (x2 : Int32) (x3 : Int32) : Option (Int32) :=
  lt (2 * x3) (fun y_15 => gd (decide (¬ (y_15 : Int32) = 0)) (lt (x1 - x1 / y_15 * y_15) (fun y_17 => F_X12_stretch_j51 n v0_0 x2 y_17 0)))
def F_X12_stretch_b13 (v0_0 : Nat → Int32) (x2 : Int32) (s13 : Int32 × Int32) : Option (Sum (Int32 × Int32) (Int32)) :=
  if x2 ≤ s13.2 then some (.inr s13.1) else lt (7 + s13.2) (fun y_19 => gd (decide (vpi y_19 86)) (lt (s13.1 + (64 * (v0_0 y_19.toNatClampNeg))) (fun y_21 => lt (s13.2 + 1) (fun y_22 => some (.inl (y_21, y_22))))))
def F_X12_stretch_j13 (n : Nat) (v0_0 : Nat → Int32) (x1 : Int32) (x2 : Int32) (x3 : Int32) (x4 : Int32) : Option (Int32) :=
  obd (lpq (F_X12_stretch_b13 v0_0 x2) n (x3, x4)) (fun x_13 => F_X12_stretch_j41 n v0_0 x1 x2 x_13)
def F_X12_stretch (n : Nat) (v0_0 : Nat → Int32) (p1 : Int32) : Option (Int32) :=
  gd (decide (vpi 6 86)) (lt (v0_0 (6 : Int32).toNatClampNeg) (fun y_24 => F_X12_stretch_j13 n v0_0 p1 y_24 0 0))
abbrev wd_X12_stretch (cI : ClassId) (a0 : Nat → Nat) (v0_2 : Int32) (v0_3 : Int32) (v0_5 : Int32) (v0_12 : Int32) (v0_13 : Int32) (v0_16 : Int32) (v0_17 : Int32) (v0_21 : Int32) (v0_23 : Int32) (v0_24 : Int32) (v0_25 : Int32) (v0_26 : Int32) (v0_29 : Int32) (v0_30 : Int64) (v0_0 : Nat → Int32) : va_W := [(a0 0, .inr (11, [.ref (a0 1), .ref (a0 2), .int v0_2, .int v0_3, .ref (a0 5), .int v0_5, .ref (a0 7), .ref (a0 8), .ref (a0 9), .ref (a0 10), .ref (a0 11), .ref (a0 12), .int v0_12, .int v0_13, .ref (a0 15), .ref (a0 16), .int v0_16, .int v0_17, .ref (a0 19), .ref (a0 20), .ref (a0 21), .int v0_21, .ref (a0 23), .int v0_23, .int v0_24, .int v0_25, .int v0_26, .ref (a0 28), .ref (a0 29), .int v0_29, .long v0_30])), (a0 1, .inl (cI, 86, .inl v0_0))]
abbrev wz_X12_stretch : List Cond := .code yX12_stretch cX12_stretch 7 (some .int) :: wALL
abbrev rm_X12_stretch : Room := { frames := 0, cells := 0, slots := 0, locals := 0 }
abbrev Q_X12_stretch (dC : Nat → ClassId) (dI : Nat → Nat → Nat) (cI : ClassId) (a0 : Nat → Nat) (v0_2 : Int32) (v0_3 : Int32) (v0_5 : Int32) (v0_12 : Int32) (v0_13 : Int32) (v0_16 : Int32) (v0_17 : Int32) (v0_21 : Int32) (v0_23 : Int32) (v0_24 : Int32) (v0_25 : Int32) (v0_26 : Int32) (v0_29 : Int32) (v0_30 : Int64) (v0_0 : Nat → Int32) (u : (Int32)) (A : Nat → Prop) : Array Value → State → Outcome → State → Prop := va_Qi (fun (r : Int32) (_ : Unit) => r = u) (fun _ => q_at dC dI cI A (wd_X12_stretch cI a0 v0_2 v0_3 v0_5 v0_12 v0_13 v0_16 v0_17 v0_21 v0_23 v0_24 v0_25 v0_26 v0_29 v0_30 v0_0)) A
set_option maxHeartbeats 4000000 in
set_option maxRecDepth 100000 in
theorem c_X12_stretch (l : Launch) (dC : Nat → ClassId) (dI : Nat → Nat → Nat) (cI : ClassId) (sz : Nat) (a0 : Nat → Nat) (v0_2 : Int32) (v0_3 : Int32) (v0_5 : Int32) (v0_12 : Int32) (v0_13 : Int32) (v0_16 : Int32) (v0_17 : Int32) (v0_21 : Int32) (v0_23 : Int32) (v0_24 : Int32) (v0_25 : Int32) (v0_26 : Int32) (v0_29 : Int32) (v0_30 : Int64) (v0_0 : Nat → Int32) (p1 : Int32) (n : Nat) (u : (Int32)) (hF : F_X12_stretch n v0_0 p1 = some u) : Met l yX12_stretch wz_X12_stretch rm_X12_stretch (va_Pc [.ref (a0 0), .int p1] (q_pre dC dI cI (wd_X12_stretch cI a0 v0_2 v0_3 v0_5 v0_12 v0_13 v0_16 v0_17 v0_21 v0_23 v0_24 v0_25 v0_26 v0_29 v0_30 v0_0) sz)) (Q_X12_stretch dC dI cI a0 v0_2 v0_3 v0_5 v0_12 v0_13 v0_16 v0_17 v0_21 v0_23 v0_24 v0_25 v0_26 v0_29 v0_30 v0_0 u (va_A (wd_X12_stretch cI a0 v0_2 v0_3 v0_5 v0_12 v0_13 v0_16 v0_17 v0_21 v0_23 v0_24 v0_25 v0_26 v0_29 v0_30 v0_0) sz)) 0 0 (va_A (wd_X12_stretch cI a0 v0_2 v0_3 v0_5 v0_12 v0_13 v0_16 v0_17 v0_21 v0_23 v0_24 v0_25 v0_26 v0_29 v0_30 v0_0) sz) := by
  refine Met.ofW (cc := cX12_stretch) (maxL := 7) (ret := (some .int)) (by decide) rfl ?_
  intro p e s m args below meth c s₁ B hml hv
  obtain ⟨rfl, hsz, hP, hK, hD0⟩ := hv
  have hx := B.exec
  have hb := B.bytes
  have hr := B.returns
  have hts := atoms_spec (ws := wz_X12_stretch) B.pre
  have hta := wz_tl hts
  have hown : s.vm.findClass RX12 = some m.cls := findClass_of_methodNamed B.named
  have hlocks := B.notSynchronized
  subst hsz
  have hD := hD0.self (sz := s.heap.size)
  generalize hAe : va_A (wd_X12_stretch cI a0 v0_2 v0_3 v0_5 v0_12 v0_13 v0_16 v0_17 v0_21 v0_23 v0_24 v0_25 v0_26 v0_29 v0_30 v0_0) s.heap.size = A at hD ⊢
  have hA : ∀ q : Nat, s.heap.size ≤ q → A q := fun q h => by rw [← hAe]; exact Or.inr h
  have hS : va_S A s.heap s.heap [] := va_S.rf
  have hP : va_P (dC, dI) vwCl (wd_X12_stretch cI a0 v0_2 v0_3 v0_5 v0_12 v0_13 v0_16 v0_17 v0_21 v0_23 v0_24 v0_25 v0_26 v0_29 v0_30 v0_0) s.heap := hP
  have hl := lv_entry ([.ref (a0 0), .int p1]) (n := 7) (Nat.le_of_ble_eq_true rfl)
  rw [lg_entry_eq]
  generalize (lg_sl ([.ref (a0 0), .int p1]) ++ List.replicate (7 - (lg_sl ([.ref (a0 0), .int p1])).length) Slot.unset).toArray = ls at hl ⊢
  have hl : lv_has ls 7 [(0, .ref (a0 0)), (1, .int p1)] := hl
  obtain ⟨H, hHe⟩ : ∃ H, H = s.heap := ⟨_, rfl⟩
  have hS : va_S A s.heap H [] := by rw [hHe]; exact hS
  have hP : va_P (dC, dI) vwCl (wd_X12_stretch cI a0 v0_2 v0_3 v0_5 v0_12 v0_13 v0_16 v0_17 v0_21 v0_23 v0_24 v0_25 v0_26 v0_29 v0_30 v0_0) H := by rw [hHe]; exact hP
  rw [← hHe]
  unfold F_X12_stretch at hF
  have j97 : ∀ (x2 : Int32) (x4 : Int32) (x5 : Int32), F_X12_stretch_j97 v0_0 x2 x4 x5 = some u → ∀ (H : Heap) (locs : List Loc) (ls : Array Slot), va_P (dC, dI) vwCl (wd_X12_stretch cI a0 v0_2 v0_3 v0_5 v0_12 v0_13 v0_16 v0_17 v0_21 v0_23 v0_24 v0_25 v0_26 v0_29 v0_30 v0_0) H → va_D A (wd_X12_stretch cI a0 v0_2 v0_3 v0_5 v0_12 v0_13 v0_16 v0_17 v0_21 v0_23 v0_24 v0_25 v0_26 v0_29 v0_30 v0_0) → va_S A s.heap H locs → lv_has ls 7 [(0, .ref (a0 0)), (2, .int x2), (4, .int x4), (5, .int x5)] → W p l e (headSpec wz_X12_stretch rm_X12_stretch).room s m [.ref (a0 0), .int p1].toArray below meth c H locs 0 0 (MQ below (Q_X12_stretch dC dI cI a0 v0_2 v0_3 v0_5 v0_12 v0_13 v0_16 v0_17 v0_21 v0_23 v0_24 v0_25 v0_26 v0_29 v0_30 v0_0 u A) [.ref (a0 0), .int p1].toArray s 0 0 A) (F0 m 97 ls []) := by
    intro x2 x4 x5 hF H locs ls hP hD hS hl
    unfold F_X12_stretch_j97 at hF
    refine lv_bipush (v := 64) hx hb dX12_stretch_97 (by decide) ?_
    refine lv_aload_n hx hb dX12_stretch_99 rfl (lv_at hl 0 rfl) ?_
    refine va_get (D := (dC, dI)) (ci := 11) (v := .ref (a0 1)) (C := RX12) (T := TX12) (N := 31) hx hb hta uw_X12 hown hK hP 0 rfl rfl 0 (by decide) (hta _ mA790) (fun _ h9 => h9) rfl dX12_stretch_100 ?_
    refine lv_bipush (v := 7) hx hb dX12_stretch_103 (by decide) ?_
    refine lv_iload hx hb dX12_stretch_105 (lv_at hl 3 rfl) ?_
    refine lv_iload_n hx hb dX12_stretch_107 rfl (lv_at hl 1 rfl) ?_
    obtain ⟨g_1, hF⟩ := gd_some hF
    refine lv_irem hx hb dX12_stretch_108 g_1 ?_
    refine lv_iadd hx hb dX12_stretch_109 ?_
    obtain ⟨y_2, ey_2, hF⟩ := lt_some hF
    refine lv_eqi ey_2 ?_
    obtain ⟨g_3, hF⟩ := gd_some hF
    refine va_iald hx hb hK hP 1 0 rfl rfl (vpi_in g_3) dX12_stretch_110 ?_
    refine lv_imul hx hb dX12_stretch_111 ?_
    refine lv_iload hx hb dX12_stretch_112 (lv_at hl 2 rfl) ?_
    refine lv_isub hx hb dX12_stretch_114 ?_
    obtain ⟨y_4, ey_4, hF⟩ := lt_some hF
    refine lv_eqi ey_4 ?_
    refine lv_istore (lv' := [(6, .int y_4), (0, .ref (a0 0)), (2, .int x2), (4, .int x4), (5, .int x5)]) hx hb dX12_stretch_115 hl (by decide) rfl (fun ls hl => ?_)
    refine lv_iload hx hb dX12_stretch_117 (lv_at hl 4 rfl) ?_
    refine lv_iconst (v := 2) hx hb dX12_stretch_119 (by decide) ?_
    refine lv_irem hx hb dX12_stretch_120 (by decide) ?_
    refine lv_if_ne (tgt := 129) hx hb dX12_stretch_121 (by decide) (fun c_5 => ?_) (fun c_5 => ?_)
    · have hF := it_f hF c_5
      refine lv_iload hx hb dX12_stretch_129 (lv_at hl 0 rfl) ?_
      refine lv_ineg hx hb dX12_stretch_131 ?_
      obtain rfl := Option.some.inj hF
      exact W.iret (v := (-y_4)) hx hb hr (fun t ht hW => ⟨⟨(-y_4), (), rfl, rfl, by rw [ht]; exact hP, va_K.moved hW.alike hK, hD⟩, hS.F ht⟩) hS.2.2 dX12_stretch_132
    · have hF := it_t hF c_5
      refine lv_iload hx hb dX12_stretch_124 (lv_at hl 0 rfl) ?_
      refine lv_goto (tgt := 132) hx hb dX12_stretch_126 (by decide) ?_
      obtain rfl := Option.some.inj hF
      exact W.iret (v := y_4) hx hb hr (fun t ht hW => ⟨⟨y_4, (), rfl, rfl, by rw [ht]; exact hP, va_K.moved hW.alike hK, hD⟩, hS.F ht⟩) hS.2.2 dX12_stretch_132
  have j51 : ∀ (x2 : Int32) (x4 : Int32) (x5 : Int32), F_X12_stretch_j51 n v0_0 x2 x4 x5 = some u → ∀ (H : Heap) (locs : List Loc) (ls : Array Slot), va_P (dC, dI) vwCl (wd_X12_stretch cI a0 v0_2 v0_3 v0_5 v0_12 v0_13 v0_16 v0_17 v0_21 v0_23 v0_24 v0_25 v0_26 v0_29 v0_30 v0_0) H → va_D A (wd_X12_stretch cI a0 v0_2 v0_3 v0_5 v0_12 v0_13 v0_16 v0_17 v0_21 v0_23 v0_24 v0_25 v0_26 v0_29 v0_30 v0_0) → va_S A s.heap H locs → lv_has ls 7 [(0, .ref (a0 0)), (2, .int x2), (4, .int x4), (5, .int x5)] → W p l e (headSpec wz_X12_stretch rm_X12_stretch).room s m [.ref (a0 0), .int p1].toArray below meth c H locs 0 0 (MQ below (Q_X12_stretch dC dI cI a0 v0_2 v0_3 v0_5 v0_12 v0_13 v0_16 v0_17 v0_21 v0_23 v0_24 v0_25 v0_26 v0_29 v0_30 v0_0 u A) [.ref (a0 0), .int p1].toArray s 0 0 A) (F0 m 51 ls []) := by
    intro x2 x4 x5 hF H locs ls hP hD hS hl
    unfold F_X12_stretch_j51 at hF
    obtain ⟨x_51, hL_51, hE_51⟩ := obd_some hF
    have kl_51 : ∀ (k : Nat) (s51 : Int32 × Int32), lpq (F_X12_stretch_b51 v0_0 x2) k s51 = some x_51 → ∀ (H : Heap) (locs : List Loc) (ls : Array Slot), va_P (dC, dI) vwCl (wd_X12_stretch cI a0 v0_2 v0_3 v0_5 v0_12 v0_13 v0_16 v0_17 v0_21 v0_23 v0_24 v0_25 v0_26 v0_29 v0_30 v0_0) H → va_D A (wd_X12_stretch cI a0 v0_2 v0_3 v0_5 v0_12 v0_13 v0_16 v0_17 v0_21 v0_23 v0_24 v0_25 v0_26 v0_29 v0_30 v0_0) → va_S A s.heap H locs → lv_has ls 7 [(0, .ref (a0 0)), (2, .int x2), (4, .int s51.1), (5, .int s51.2)] → W p l e (headSpec wz_X12_stretch rm_X12_stretch).room s m [.ref (a0 0), .int p1].toArray below meth c H locs 0 0 (MQ below (Q_X12_stretch dC dI cI a0 v0_2 v0_3 v0_5 v0_12 v0_13 v0_16 v0_17 v0_21 v0_23 v0_24 v0_25 v0_26 v0_29 v0_30 v0_0 u A) [.ref (a0 0), .int p1].toArray s 0 0 A) (F0 m 51 ls []) := by
      intro k
      induction k with
      | zero => intro s51 h; exact absurd h lpq_zero
      | succ k ih_51 =>
        intro s51 h H locs ls hP hD hS hl
        obtain ⟨o_51, hF, hO_51⟩ := lpq_succ h
        unfold F_X12_stretch_b51 at hF
        refine lv_iload hx hb dX12_stretch_51 (lv_at hl 2 rfl) ?_
        refine lv_bipush (v := 64) hx hb dX12_stretch_53 (by decide) ?_
        refine lv_aload_n hx hb dX12_stretch_55 rfl (lv_at hl 0 rfl) ?_
        refine va_get (D := (dC, dI)) (ci := 11) (v := .ref (a0 1)) (C := RX12) (T := TX12) (N := 31) hx hb hta uw_X12 hown hK hP 0 rfl rfl 0 (by decide) (hta _ mA790) (fun _ h9 => h9) rfl dX12_stretch_56 ?_
        refine lv_bipush (v := 7) hx hb dX12_stretch_59 (by decide) ?_
        refine lv_iload hx hb dX12_stretch_61 (lv_at hl 3 rfl) ?_
        refine lv_iload_n hx hb dX12_stretch_63 rfl (lv_at hl 1 rfl) ?_
        obtain ⟨g_6, hF⟩ := gd_some hF
        refine lv_irem hx hb dX12_stretch_64 g_6 ?_
        refine lv_iadd hx hb dX12_stretch_65 ?_
        obtain ⟨y_7, ey_7, hF⟩ := lt_some hF
        refine lv_eqi ey_7 ?_
        obtain ⟨g_8, hF⟩ := gd_some hF
        refine va_iald hx hb hK hP 1 0 rfl rfl (vpi_in g_8) dX12_stretch_66 ?_
        refine lv_imul hx hb dX12_stretch_67 ?_
        refine lv_icmp_lt (tgt := 97) hx hb dX12_stretch_68 (by decide) (fun c_9 => ?_) (fun c_9 => ?_)
        · have hF := it_t hF c_9
          obtain rfl := Option.some.inj hF
          obtain rfl := lpq_x hO_51
          have hF := hE_51
          exact j97 x2 s51.1 s51.2 hF _ _ _ hP hD hS (lv_sub hl [0, 1, 2, 3] rfl)
        · have hF := it_f hF c_9
          refine lv_iload hx hb dX12_stretch_71 (lv_at hl 2 rfl) ?_
          refine lv_bipush (v := 64) hx hb dX12_stretch_73 (by decide) ?_
          refine lv_aload_n hx hb dX12_stretch_75 rfl (lv_at hl 0 rfl) ?_
          refine va_get (D := (dC, dI)) (ci := 11) (v := .ref (a0 1)) (C := RX12) (T := TX12) (N := 31) hx hb hta uw_X12 hown hK hP 0 rfl rfl 0 (by decide) (hta _ mA790) (fun _ h9 => h9) rfl dX12_stretch_76 ?_
          refine lv_bipush (v := 7) hx hb dX12_stretch_79 (by decide) ?_
          refine lv_iload hx hb dX12_stretch_81 (lv_at hl 3 rfl) ?_
          refine lv_iload_n hx hb dX12_stretch_83 rfl (lv_at hl 1 rfl) ?_
          obtain ⟨g_10, hF⟩ := gd_some hF
          refine lv_irem hx hb dX12_stretch_84 g_10 ?_
          refine lv_iadd hx hb dX12_stretch_85 ?_
          obtain ⟨y_11, ey_11, hF⟩ := lt_some hF
          refine lv_eqi ey_11 ?_
          obtain ⟨g_12, hF⟩ := gd_some hF
          refine va_iald hx hb hK hP 1 0 rfl rfl (vpi_in g_12) dX12_stretch_86 ?_
          refine lv_imul hx hb dX12_stretch_87 ?_
          refine lv_isub hx hb dX12_stretch_88 ?_
          obtain ⟨y_13, ey_13, hF⟩ := lt_some hF
          refine lv_eqi ey_13 ?_
          refine lv_istore (lv' := [(4, .int y_13), (0, .ref (a0 0)), (2, .int x2), (5, .int s51.2)]) hx hb dX12_stretch_89 hl (by decide) rfl (fun ls hl => ?_)
          obtain ⟨y_14, ey_14, hF⟩ := lt_some hF
          refine lv_iinc (v := y_14) (lv' := [(5, .int y_14), (4, .int y_13), (0, .ref (a0 0)), (2, .int x2)]) hx hb dX12_stretch_91 hl (k := 3) rfl (by rw [ey_14]; rfl) (by decide) rfl (fun ls hl => ?_)
          refine lv_goto (tgt := 51) hx hb dX12_stretch_94 (by decide) ?_
          obtain rfl := Option.some.inj hF
          exact ih_51 _ hO_51 _ _ _ hP hD hS (lv_sub hl [2, 3, 1, 0] rfl)
    exact kl_51 n _ hL_51 _ _ _ hP hD hS hl
  have j41 : ∀ (x1 : Int32) (x2 : Int32) (x3 : Int32), F_X12_stretch_j41 n v0_0 x1 x2 x3 = some u → ∀ (H : Heap) (locs : List Loc) (ls : Array Slot), va_P (dC, dI) vwCl (wd_X12_stretch cI a0 v0_2 v0_3 v0_5 v0_12 v0_13 v0_16 v0_17 v0_21 v0_23 v0_24 v0_25 v0_26 v0_29 v0_30 v0_0) H → va_D A (wd_X12_stretch cI a0 v0_2 v0_3 v0_5 v0_12 v0_13 v0_16 v0_17 v0_21 v0_23 v0_24 v0_25 v0_26 v0_29 v0_30 v0_0) → va_S A s.heap H locs → lv_has ls 7 [(0, .ref (a0 0)), (1, .int x1), (2, .int x2), (3, .int x3)] → W p l e (headSpec wz_X12_stretch rm_X12_stretch).room s m [.ref (a0 0), .int p1].toArray below meth c H locs 0 0 (MQ below (Q_X12_stretch dC dI cI a0 v0_2 v0_3 v0_5 v0_12 v0_13 v0_16 v0_17 v0_21 v0_23 v0_24 v0_25 v0_26 v0_29 v0_30 v0_0 u A) [.ref (a0 0), .int p1].toArray s 0 0 A) (F0 m 41 ls []) := by
    intro x1 x2 x3 hF H locs ls hP hD hS hl
    unfold F_X12_stretch_j41 at hF
    refine lv_iload_n hx hb dX12_stretch_41 rfl (lv_at hl 1 rfl) ?_
    refine lv_iconst (v := 2) hx hb dX12_stretch_42 (by decide) ?_
    refine lv_iload_n hx hb dX12_stretch_43 rfl (lv_at hl 3 rfl) ?_
    refine lv_imul hx hb dX12_stretch_44 ?_
    obtain ⟨y_15, ey_15, hF⟩ := lt_some hF
    refine lv_eqi ey_15 ?_
    obtain ⟨g_16, hF⟩ := gd_some hF
    refine lv_irem hx hb dX12_stretch_45 g_16 ?_
    obtain ⟨y_17, ey_17, hF⟩ := lt_some hF
    refine lv_eqi ey_17 ?_
    refine lv_istore (lv' := [(4, .int y_17), (0, .ref (a0 0)), (1, .int x1), (2, .int x2), (3, .int x3)]) hx hb dX12_stretch_46 hl (by decide) rfl (fun ls hl => ?_)
    refine lv_iconst (v := 0) hx hb dX12_stretch_48 (by decide) ?_
    refine lv_istore (lv' := [(5, .int 0), (4, .int y_17), (0, .ref (a0 0)), (1, .int x1), (2, .int x2), (3, .int x3)]) hx hb dX12_stretch_49 hl (by decide) rfl (fun ls hl => ?_)
    exact j51 x2 y_17 0 hF _ _ _ hP hD hS (lv_sub hl [2, 4, 1, 0] rfl)
  have j13 : ∀ (x1 : Int32) (x2 : Int32) (x3 : Int32) (x4 : Int32), F_X12_stretch_j13 n v0_0 x1 x2 x3 x4 = some u → ∀ (H : Heap) (locs : List Loc) (ls : Array Slot), va_P (dC, dI) vwCl (wd_X12_stretch cI a0 v0_2 v0_3 v0_5 v0_12 v0_13 v0_16 v0_17 v0_21 v0_23 v0_24 v0_25 v0_26 v0_29 v0_30 v0_0) H → va_D A (wd_X12_stretch cI a0 v0_2 v0_3 v0_5 v0_12 v0_13 v0_16 v0_17 v0_21 v0_23 v0_24 v0_25 v0_26 v0_29 v0_30 v0_0) → va_S A s.heap H locs → lv_has ls 7 [(0, .ref (a0 0)), (1, .int x1), (2, .int x2), (3, .int x3), (4, .int x4)] → W p l e (headSpec wz_X12_stretch rm_X12_stretch).room s m [.ref (a0 0), .int p1].toArray below meth c H locs 0 0 (MQ below (Q_X12_stretch dC dI cI a0 v0_2 v0_3 v0_5 v0_12 v0_13 v0_16 v0_17 v0_21 v0_23 v0_24 v0_25 v0_26 v0_29 v0_30 v0_0 u A) [.ref (a0 0), .int p1].toArray s 0 0 A) (F0 m 13 ls []) := by
    intro x1 x2 x3 x4 hF H locs ls hP hD hS hl
    unfold F_X12_stretch_j13 at hF
    obtain ⟨x_13, hL_13, hE_13⟩ := obd_some hF
    have kl_13 : ∀ (k : Nat) (s13 : Int32 × Int32), lpq (F_X12_stretch_b13 v0_0 x2) k s13 = some x_13 → ∀ (H : Heap) (locs : List Loc) (ls : Array Slot), va_P (dC, dI) vwCl (wd_X12_stretch cI a0 v0_2 v0_3 v0_5 v0_12 v0_13 v0_16 v0_17 v0_21 v0_23 v0_24 v0_25 v0_26 v0_29 v0_30 v0_0) H → va_D A (wd_X12_stretch cI a0 v0_2 v0_3 v0_5 v0_12 v0_13 v0_16 v0_17 v0_21 v0_23 v0_24 v0_25 v0_26 v0_29 v0_30 v0_0) → va_S A s.heap H locs → lv_has ls 7 [(0, .ref (a0 0)), (1, .int x1), (2, .int x2), (3, .int s13.1), (4, .int s13.2)] → W p l e (headSpec wz_X12_stretch rm_X12_stretch).room s m [.ref (a0 0), .int p1].toArray below meth c H locs 0 0 (MQ below (Q_X12_stretch dC dI cI a0 v0_2 v0_3 v0_5 v0_12 v0_13 v0_16 v0_17 v0_21 v0_23 v0_24 v0_25 v0_26 v0_29 v0_30 v0_0 u A) [.ref (a0 0), .int p1].toArray s 0 0 A) (F0 m 13 ls []) := by
      intro k
      induction k with
      | zero => intro s13 h; exact absurd h lpq_zero
      | succ k ih_13 =>
        intro s13 h H locs ls hP hD hS hl
        obtain ⟨o_13, hF, hO_13⟩ := lpq_succ h
        unfold F_X12_stretch_b13 at hF
        refine lv_iload hx hb dX12_stretch_13 (lv_at hl 4 rfl) ?_
        refine lv_iload_n hx hb dX12_stretch_15 rfl (lv_at hl 2 rfl) ?_
        refine lv_icmp_ge (tgt := 41) hx hb dX12_stretch_16 (by decide) (fun c_18 => ?_) (fun c_18 => ?_)
        · have hF := it_t hF c_18
          obtain rfl := Option.some.inj hF
          obtain rfl := lpq_x hO_13
          have hF := hE_13
          exact j41 x1 x2 s13.1 hF _ _ _ hP hD hS (lv_sub hl [0, 1, 2, 3] rfl)
        · have hF := it_f hF c_18
          refine lv_iload_n hx hb dX12_stretch_19 rfl (lv_at hl 3 rfl) ?_
          refine lv_bipush (v := 64) hx hb dX12_stretch_20 (by decide) ?_
          refine lv_aload_n hx hb dX12_stretch_22 rfl (lv_at hl 0 rfl) ?_
          refine va_get (D := (dC, dI)) (ci := 11) (v := .ref (a0 1)) (C := RX12) (T := TX12) (N := 31) hx hb hta uw_X12 hown hK hP 0 rfl rfl 0 (by decide) (hta _ mA790) (fun _ h9 => h9) rfl dX12_stretch_23 ?_
          refine lv_bipush (v := 7) hx hb dX12_stretch_26 (by decide) ?_
          refine lv_iload hx hb dX12_stretch_28 (lv_at hl 4 rfl) ?_
          refine lv_iadd hx hb dX12_stretch_30 ?_
          obtain ⟨y_19, ey_19, hF⟩ := lt_some hF
          refine lv_eqi ey_19 ?_
          obtain ⟨g_20, hF⟩ := gd_some hF
          refine va_iald hx hb hK hP 1 0 rfl rfl (vpi_in g_20) dX12_stretch_31 ?_
          refine lv_imul hx hb dX12_stretch_32 ?_
          refine lv_iadd hx hb dX12_stretch_33 ?_
          obtain ⟨y_21, ey_21, hF⟩ := lt_some hF
          refine lv_eqi ey_21 ?_
          refine lv_istore_n (lv' := [(3, .int y_21), (0, .ref (a0 0)), (1, .int x1), (2, .int x2), (4, .int s13.2)]) hx hb dX12_stretch_34 rfl hl (by decide) rfl (fun ls hl => ?_)
          obtain ⟨y_22, ey_22, hF⟩ := lt_some hF
          refine lv_iinc (v := y_22) (lv' := [(4, .int y_22), (3, .int y_21), (0, .ref (a0 0)), (1, .int x1), (2, .int x2)]) hx hb dX12_stretch_35 hl (k := 4) rfl (by rw [ey_22]; rfl) (by decide) rfl (fun ls hl => ?_)
          refine lv_goto (tgt := 13) hx hb dX12_stretch_38 (by decide) ?_
          obtain rfl := Option.some.inj hF
          exact ih_13 _ hO_13 _ _ _ hP hD hS (lv_sub hl [2, 3, 4, 1, 0] rfl)
    exact kl_13 n _ hL_13 _ _ _ hP hD hS hl
  refine lv_aload_n hx hb dX12_stretch_0 rfl (lv_at hl 0 rfl) ?_
  refine va_get (D := (dC, dI)) (ci := 11) (v := .ref (a0 1)) (C := RX12) (T := TX12) (N := 31) hx hb hta uw_X12 hown hK hP 0 rfl rfl 0 (by decide) (hta _ mA790) (fun _ h9 => h9) rfl dX12_stretch_1 ?_
  refine lv_bipush (v := 6) hx hb dX12_stretch_4 (by decide) ?_
  obtain ⟨g_23, hF⟩ := gd_some hF
  refine va_iald hx hb hK hP 1 0 rfl rfl (vpi_in g_23) dX12_stretch_6 ?_
  obtain ⟨y_24, ey_24, hF⟩ := lt_some hF
  refine lv_eqi ey_24 ?_
  refine lv_istore_n (lv' := [(2, .int y_24), (0, .ref (a0 0)), (1, .int p1)]) hx hb dX12_stretch_7 rfl hl (by decide) rfl (fun ls hl => ?_)
  refine lv_iconst (v := 0) hx hb dX12_stretch_8 (by decide) ?_
  refine lv_istore_n (lv' := [(3, .int 0), (2, .int y_24), (0, .ref (a0 0)), (1, .int p1)]) hx hb dX12_stretch_9 rfl hl (by decide) rfl (fun ls hl => ?_)
  refine lv_iconst (v := 0) hx hb dX12_stretch_10 (by decide) ?_
  refine lv_istore (lv' := [(4, .int 0), (3, .int 0), (2, .int y_24), (0, .ref (a0 0)), (1, .int p1)]) hx hb dX12_stretch_11 hl (by decide) rfl (fun ls hl => ?_)
  exact j13 p1 y_24 0 0 hF _ _ _ hP hD hS (lv_sub hl [3, 4, 2, 1, 0] rfl)

-- StrokeOutlinerModel.ahead(I)I
def F_X12_ahead_j27 (v0_12 : Int32) (v0_13 : Int32) (v0_6 : Nat → Int32) (v0_7 : Nat → Int32) (v0_8 : Nat → Int32) (v0_9 : Nat → Int32) (v0_10 : Nat → Int32) (v0_11 : Nat → Int32) (x2 : Int32) : Option (Int32 × Int32 × Int32 × (Nat → Int32) × (Nat → Int32) × (Nat → Int32) × (Nat → Int32) × (Nat → Int32) × (Nat → Int32)) :=
  some (x2, v0_12, v0_13, v0_6, v0_7, v0_8, v0_9, v0_10, v0_11)
def F_X12_ahead_b4 (n : Nat) (v0_0 : Nat → Int32) (x1 : Int32) (s4 : Int32 × Int32 × Int32 × Int32 × (Nat → Int32) × (Nat → Int32) × (Nat → Int32) × (Nat → Int32) × (Nat → Int32) × (Nat → Int32)) : Option (Sum (Int32 × Int32 × Int32 × Int32 × (Nat → Int32) × (Nat → Int32) × (Nat → Int32) × (Nat → Int32) × (Nat → Int32) × (Nat → Int32)) (Int32 × Int32 × Int32 × (Nat → Int32) × (Nat → Int32) × (Nat → Int32) × (Nat → Int32) × (Nat → Int32) × (Nat → Int32))) :=
  if x1 ≤ s4.2.1 then some (.inr (s4.1, s4.2.2.1, s4.2.2.2.1, s4.2.2.2.2.1, s4.2.2.2.2.2.1, s4.2.2.2.2.2.2.1, s4.2.2.2.2.2.2.2.1, s4.2.2.2.2.2.2.2.2.1, s4.2.2.2.2.2.2.2.2.2)) else obd (F_X12_laysSegments n v0_0 s4.2.2.2.2.1 s4.2.2.2.2.2.1 s4.2.2.2.2.2.2.1 s4.2.2.2.2.2.2.2.1 s4.2.2.2.2.2.2.2.2.1 s4.2.2.2.2.2.2.2.2.2 s4.2.1) (fun u_2 => lt (s4.1 + u_2.2.1) (fun y_3 => lt (s4.2.1 + 1) (fun y_4 => some (.inl (y_3, y_4, u_2.1, u_2.2.1, u_2.2.2.1, u_2.2.2.2.1, u_2.2.2.2.2.1, u_2.2.2.2.2.2.1, u_2.2.2.2.2.2.2.1, u_2.2.2.2.2.2.2.2)))))
def F_X12_ahead_j4 (n : Nat) (v0_12 : Int32) (v0_13 : Int32) (v0_0 : Nat → Int32) (v0_6 : Nat → Int32) (v0_7 : Nat → Int32) (v0_8 : Nat → Int32) (v0_9 : Nat → Int32) (v0_10 : Nat → Int32) (v0_11 : Nat → Int32) (x1 : Int32) (x2 : Int32) (x3 : Int32) : Option (Int32 × Int32 × Int32 × (Nat → Int32) × (Nat → Int32) × (Nat → Int32) × (Nat → Int32) × (Nat → Int32) × (Nat → Int32)) :=
  obd (lpq (F_X12_ahead_b4 n v0_0 x1) n (x2, x3, v0_12, v0_13, v0_6, v0_7, v0_8, v0_9, v0_10, v0_11)) (fun x_4 => F_X12_ahead_j27 x_4.2.1 x_4.2.2.1 x_4.2.2.2.1 x_4.2.2.2.2.1 x_4.2.2.2.2.2.1 x_4.2.2.2.2.2.2.1 x_4.2.2.2.2.2.2.2.1 x_4.2.2.2.2.2.2.2.2 x_4.1)
def F_X12_ahead (n : Nat) (v0_12 : Int32) (v0_13 : Int32) (v0_0 : Nat → Int32) (v0_6 : Nat → Int32) (v0_7 : Nat → Int32) (v0_8 : Nat → Int32) (v0_9 : Nat → Int32) (v0_10 : Nat → Int32) (v0_11 : Nat → Int32) (p1 : Int32) : Option (Int32 × Int32 × Int32 × (Nat → Int32) × (Nat → Int32) × (Nat → Int32) × (Nat → Int32) × (Nat → Int32) × (Nat → Int32)) :=
  F_X12_ahead_j4 n v0_12 v0_13 v0_0 v0_6 v0_7 v0_8 v0_9 v0_10 v0_11 p1 0 0
abbrev wd_X12_ahead (cI : ClassId) (a0 : Nat → Nat) (v0_2 : Int32) (v0_3 : Int32) (v0_5 : Int32) (v0_12 : Int32) (v0_13 : Int32) (v0_16 : Int32) (v0_17 : Int32) (v0_21 : Int32) (v0_23 : Int32) (v0_24 : Int32) (v0_25 : Int32) (v0_26 : Int32) (v0_29 : Int32) (v0_30 : Int64) (v0_0 : Nat → Int32) (v0_6 : Nat → Int32) (v0_7 : Nat → Int32) (v0_8 : Nat → Int32) (v0_9 : Nat → Int32) (v0_10 : Nat → Int32) (v0_11 : Nat → Int32) : va_W := [(a0 0, .inr (11, [.ref (a0 1), .ref (a0 2), .int v0_2, .int v0_3, .ref (a0 5), .int v0_5, .ref (a0 7), .ref (a0 8), .ref (a0 9), .ref (a0 10), .ref (a0 11), .ref (a0 12), .int v0_12, .int v0_13, .ref (a0 15), .ref (a0 16), .int v0_16, .int v0_17, .ref (a0 19), .ref (a0 20), .ref (a0 21), .int v0_21, .ref (a0 23), .int v0_23, .int v0_24, .int v0_25, .int v0_26, .ref (a0 28), .ref (a0 29), .int v0_29, .long v0_30])), (a0 1, .inl (cI, 86, .inl v0_0)), (a0 7, .inl (cI, 8, .inl v0_6)), (a0 8, .inl (cI, 8, .inl v0_7)), (a0 9, .inl (cI, 8, .inl v0_8)), (a0 10, .inl (cI, 8, .inl v0_9)), (a0 11, .inl (cI, 8, .inl v0_10)), (a0 12, .inl (cI, 8, .inl v0_11))]
abbrev wz_X12_ahead : List Cond := .code yX12_ahead cX12_ahead 4 (some .int) :: wALL
abbrev rm_X12_ahead : Room := { frames := 3, cells := 0, slots := 0, locals := 68 }
abbrev Q_X12_ahead (dC : Nat → ClassId) (dI : Nat → Nat → Nat) (cI : ClassId) (a0 : Nat → Nat) (v0_2 : Int32) (v0_3 : Int32) (v0_5 : Int32) (v0_16 : Int32) (v0_17 : Int32) (v0_21 : Int32) (v0_23 : Int32) (v0_24 : Int32) (v0_25 : Int32) (v0_26 : Int32) (v0_29 : Int32) (v0_30 : Int64) (v0_0 : Nat → Int32) (u : (Int32 × Int32 × Int32 × (Nat → Int32) × (Nat → Int32) × (Nat → Int32) × (Nat → Int32) × (Nat → Int32) × (Nat → Int32))) (A : Nat → Prop) : Array Value → State → Outcome → State → Prop := va_Qi (fun (r : Int32) (_ : Unit) => r = u.1) (fun _ => q_at dC dI cI A (wd_X12_ahead cI a0 v0_2 v0_3 v0_5 u.2.1 u.2.2.1 v0_16 v0_17 v0_21 v0_23 v0_24 v0_25 v0_26 v0_29 v0_30 v0_0 u.2.2.2.1 u.2.2.2.2.1 u.2.2.2.2.2.1 u.2.2.2.2.2.2.1 u.2.2.2.2.2.2.2.1 u.2.2.2.2.2.2.2.2)) A
set_option maxHeartbeats 4000000 in
set_option maxRecDepth 100000 in
theorem c_X12_ahead (l : Launch) (dC : Nat → ClassId) (dI : Nat → Nat → Nat) (cI : ClassId) (sz : Nat) (a0 : Nat → Nat) (v0_2 : Int32) (v0_3 : Int32) (v0_5 : Int32) (v0_12 : Int32) (v0_13 : Int32) (v0_16 : Int32) (v0_17 : Int32) (v0_21 : Int32) (v0_23 : Int32) (v0_24 : Int32) (v0_25 : Int32) (v0_26 : Int32) (v0_29 : Int32) (v0_30 : Int64) (v0_0 : Nat → Int32) (v0_6 : Nat → Int32) (v0_7 : Nat → Int32) (v0_8 : Nat → Int32) (v0_9 : Nat → Int32) (v0_10 : Nat → Int32) (v0_11 : Nat → Int32) (p1 : Int32) (n : Nat) (u : (Int32 × Int32 × Int32 × (Nat → Int32) × (Nat → Int32) × (Nat → Int32) × (Nat → Int32) × (Nat → Int32) × (Nat → Int32))) (hF : F_X12_ahead n v0_12 v0_13 v0_0 v0_6 v0_7 v0_8 v0_9 v0_10 v0_11 p1 = some u) : Met l yX12_ahead wz_X12_ahead rm_X12_ahead (va_Pc [.ref (a0 0), .int p1] (q_pre dC dI cI (wd_X12_ahead cI a0 v0_2 v0_3 v0_5 v0_12 v0_13 v0_16 v0_17 v0_21 v0_23 v0_24 v0_25 v0_26 v0_29 v0_30 v0_0 v0_6 v0_7 v0_8 v0_9 v0_10 v0_11) sz)) (Q_X12_ahead dC dI cI a0 v0_2 v0_3 v0_5 v0_16 v0_17 v0_21 v0_23 v0_24 v0_25 v0_26 v0_29 v0_30 v0_0 u (va_A (wd_X12_ahead cI a0 v0_2 v0_3 v0_5 v0_12 v0_13 v0_16 v0_17 v0_21 v0_23 v0_24 v0_25 v0_26 v0_29 v0_30 v0_0 v0_6 v0_7 v0_8 v0_9 v0_10 v0_11) sz)) 0 0 (va_A (wd_X12_ahead cI a0 v0_2 v0_3 v0_5 v0_12 v0_13 v0_16 v0_17 v0_21 v0_23 v0_24 v0_25 v0_26 v0_29 v0_30 v0_0 v0_6 v0_7 v0_8 v0_9 v0_10 v0_11) sz) := by
  refine Met.ofW (cc := cX12_ahead) (maxL := 4) (ret := (some .int)) (by decide) rfl ?_
  intro p e s m args below meth c s₁ B hml hv
  obtain ⟨rfl, hsz, hP, hK, hD0⟩ := hv
  have hx := B.exec
  have hb := B.bytes
  have hr := B.returns
  have hts := atoms_spec (ws := wz_X12_ahead) B.pre
  have hta := wz_tl hts
  have hown : s.vm.findClass RX12 = some m.cls := findClass_of_methodNamed B.named
  have hlocks := B.notSynchronized
  subst hsz
  have hD := hD0.self (sz := s.heap.size)
  generalize hAe : va_A (wd_X12_ahead cI a0 v0_2 v0_3 v0_5 v0_12 v0_13 v0_16 v0_17 v0_21 v0_23 v0_24 v0_25 v0_26 v0_29 v0_30 v0_0 v0_6 v0_7 v0_8 v0_9 v0_10 v0_11) s.heap.size = A at hD ⊢
  have hA : ∀ q : Nat, s.heap.size ≤ q → A q := fun q h => by rw [← hAe]; exact Or.inr h
  have hS : va_S A s.heap s.heap [] := va_S.rf
  have hP : va_P (dC, dI) vwCl (wd_X12_ahead cI a0 v0_2 v0_3 v0_5 v0_12 v0_13 v0_16 v0_17 v0_21 v0_23 v0_24 v0_25 v0_26 v0_29 v0_30 v0_0 v0_6 v0_7 v0_8 v0_9 v0_10 v0_11) s.heap := hP
  have hl := lv_entry ([.ref (a0 0), .int p1]) (n := 4) (Nat.le_of_ble_eq_true rfl)
  rw [lg_entry_eq]
  generalize (lg_sl ([.ref (a0 0), .int p1]) ++ List.replicate (4 - (lg_sl ([.ref (a0 0), .int p1])).length) Slot.unset).toArray = ls at hl ⊢
  have hl : lv_has ls 4 [(0, .ref (a0 0)), (1, .int p1)] := hl
  obtain ⟨H, hHe⟩ : ∃ H, H = s.heap := ⟨_, rfl⟩
  have hS : va_S A s.heap H [] := by rw [hHe]; exact hS
  have hP : va_P (dC, dI) vwCl (wd_X12_ahead cI a0 v0_2 v0_3 v0_5 v0_12 v0_13 v0_16 v0_17 v0_21 v0_23 v0_24 v0_25 v0_26 v0_29 v0_30 v0_0 v0_6 v0_7 v0_8 v0_9 v0_10 v0_11) H := by rw [hHe]; exact hP
  rw [← hHe]
  unfold F_X12_ahead at hF
  have j27 : ∀ (v0_12 : Int32) (v0_13 : Int32) (v0_6 : Nat → Int32) (v0_7 : Nat → Int32) (v0_8 : Nat → Int32) (v0_9 : Nat → Int32) (v0_10 : Nat → Int32) (v0_11 : Nat → Int32) (x2 : Int32), F_X12_ahead_j27 v0_12 v0_13 v0_6 v0_7 v0_8 v0_9 v0_10 v0_11 x2 = some u → ∀ (H : Heap) (locs : List Loc) (ls : Array Slot), va_P (dC, dI) vwCl (wd_X12_ahead cI a0 v0_2 v0_3 v0_5 v0_12 v0_13 v0_16 v0_17 v0_21 v0_23 v0_24 v0_25 v0_26 v0_29 v0_30 v0_0 v0_6 v0_7 v0_8 v0_9 v0_10 v0_11) H → va_D A (wd_X12_ahead cI a0 v0_2 v0_3 v0_5 v0_12 v0_13 v0_16 v0_17 v0_21 v0_23 v0_24 v0_25 v0_26 v0_29 v0_30 v0_0 v0_6 v0_7 v0_8 v0_9 v0_10 v0_11) → va_S A s.heap H locs → lv_has ls 4 [(2, .int x2)] → W p l e (headSpec wz_X12_ahead rm_X12_ahead).room s m [.ref (a0 0), .int p1].toArray below meth c H locs 0 0 (MQ below (Q_X12_ahead dC dI cI a0 v0_2 v0_3 v0_5 v0_16 v0_17 v0_21 v0_23 v0_24 v0_25 v0_26 v0_29 v0_30 v0_0 u A) [.ref (a0 0), .int p1].toArray s 0 0 A) (F0 m 27 ls []) := by
    intro v0_12 v0_13 v0_6 v0_7 v0_8 v0_9 v0_10 v0_11 x2 hF H locs ls hP hD hS hl
    unfold F_X12_ahead_j27 at hF
    refine lv_iload_n hx hb dX12_ahead_27 rfl (lv_at hl 0 rfl) ?_
    obtain rfl := Option.some.inj hF
    exact W.iret (v := x2) hx hb hr (fun t ht hW => ⟨⟨x2, (), rfl, rfl, by rw [ht]; exact hP, va_K.moved hW.alike hK, hD⟩, hS.F ht⟩) hS.2.2 dX12_ahead_28
  have j4 : ∀ (v0_12 : Int32) (v0_13 : Int32) (v0_6 : Nat → Int32) (v0_7 : Nat → Int32) (v0_8 : Nat → Int32) (v0_9 : Nat → Int32) (v0_10 : Nat → Int32) (v0_11 : Nat → Int32) (x1 : Int32) (x2 : Int32) (x3 : Int32), F_X12_ahead_j4 n v0_12 v0_13 v0_0 v0_6 v0_7 v0_8 v0_9 v0_10 v0_11 x1 x2 x3 = some u → ∀ (H : Heap) (locs : List Loc) (ls : Array Slot), va_P (dC, dI) vwCl (wd_X12_ahead cI a0 v0_2 v0_3 v0_5 v0_12 v0_13 v0_16 v0_17 v0_21 v0_23 v0_24 v0_25 v0_26 v0_29 v0_30 v0_0 v0_6 v0_7 v0_8 v0_9 v0_10 v0_11) H → va_D A (wd_X12_ahead cI a0 v0_2 v0_3 v0_5 v0_12 v0_13 v0_16 v0_17 v0_21 v0_23 v0_24 v0_25 v0_26 v0_29 v0_30 v0_0 v0_6 v0_7 v0_8 v0_9 v0_10 v0_11) → va_S A s.heap H locs → lv_has ls 4 [(0, .ref (a0 0)), (1, .int x1), (2, .int x2), (3, .int x3)] → W p l e (headSpec wz_X12_ahead rm_X12_ahead).room s m [.ref (a0 0), .int p1].toArray below meth c H locs 0 0 (MQ below (Q_X12_ahead dC dI cI a0 v0_2 v0_3 v0_5 v0_16 v0_17 v0_21 v0_23 v0_24 v0_25 v0_26 v0_29 v0_30 v0_0 u A) [.ref (a0 0), .int p1].toArray s 0 0 A) (F0 m 4 ls []) := by
    intro v0_12 v0_13 v0_6 v0_7 v0_8 v0_9 v0_10 v0_11 x1 x2 x3 hF H locs ls hP hD hS hl
    unfold F_X12_ahead_j4 at hF
    obtain ⟨x_4, hL_4, hE_4⟩ := obd_some hF
    have kl_4 : ∀ (k : Nat) (s4 : Int32 × Int32 × Int32 × Int32 × (Nat → Int32) × (Nat → Int32) × (Nat → Int32) × (Nat → Int32) × (Nat → Int32) × (Nat → Int32)), lpq (F_X12_ahead_b4 n v0_0 x1) k s4 = some x_4 → ∀ (H : Heap) (locs : List Loc) (ls : Array Slot), va_P (dC, dI) vwCl (wd_X12_ahead cI a0 v0_2 v0_3 v0_5 s4.2.2.1 s4.2.2.2.1 v0_16 v0_17 v0_21 v0_23 v0_24 v0_25 v0_26 v0_29 v0_30 v0_0 s4.2.2.2.2.1 s4.2.2.2.2.2.1 s4.2.2.2.2.2.2.1 s4.2.2.2.2.2.2.2.1 s4.2.2.2.2.2.2.2.2.1 s4.2.2.2.2.2.2.2.2.2) H → va_D A (wd_X12_ahead cI a0 v0_2 v0_3 v0_5 s4.2.2.1 s4.2.2.2.1 v0_16 v0_17 v0_21 v0_23 v0_24 v0_25 v0_26 v0_29 v0_30 v0_0 s4.2.2.2.2.1 s4.2.2.2.2.2.1 s4.2.2.2.2.2.2.1 s4.2.2.2.2.2.2.2.1 s4.2.2.2.2.2.2.2.2.1 s4.2.2.2.2.2.2.2.2.2) → va_S A s.heap H locs → lv_has ls 4 [(0, .ref (a0 0)), (1, .int x1), (2, .int s4.1), (3, .int s4.2.1)] → W p l e (headSpec wz_X12_ahead rm_X12_ahead).room s m [.ref (a0 0), .int p1].toArray below meth c H locs 0 0 (MQ below (Q_X12_ahead dC dI cI a0 v0_2 v0_3 v0_5 v0_16 v0_17 v0_21 v0_23 v0_24 v0_25 v0_26 v0_29 v0_30 v0_0 u A) [.ref (a0 0), .int p1].toArray s 0 0 A) (F0 m 4 ls []) := by
      intro k
      induction k with
      | zero => intro s4 h; exact absurd h lpq_zero
      | succ k ih_4 =>
        intro s4 h H locs ls hP hD hS hl
        obtain ⟨o_4, hF, hO_4⟩ := lpq_succ h
        unfold F_X12_ahead_b4 at hF
        refine lv_iload_n hx hb dX12_ahead_4 rfl (lv_at hl 3 rfl) ?_
        refine lv_iload_n hx hb dX12_ahead_5 rfl (lv_at hl 1 rfl) ?_
        refine lv_icmp_ge (tgt := 27) hx hb dX12_ahead_6 (by decide) (fun c_1 => ?_) (fun c_1 => ?_)
        · have hF := it_t hF c_1
          obtain rfl := Option.some.inj hF
          obtain rfl := lpq_x hO_4
          have hF := hE_4
          exact j27 s4.2.2.1 s4.2.2.2.1 s4.2.2.2.2.1 s4.2.2.2.2.2.1 s4.2.2.2.2.2.2.1 s4.2.2.2.2.2.2.2.1 s4.2.2.2.2.2.2.2.2.1 s4.2.2.2.2.2.2.2.2.2 s4.1 hF _ _ _ hP hD hS (lv_sub hl [2] rfl)
        · have hF := it_f hF c_1
          refine lv_aload_n hx hb dX12_ahead_9 rfl (lv_at hl 0 rfl) ?_
          refine lv_iload_n hx hb dX12_ahead_10 rfl (lv_at hl 3 rfl) ?_
          obtain ⟨u_2, hu_2, hF⟩ := obd_some hF
          have hPc := hP.sub (ws' := (wd_X12_laysSegments cI a0 v0_2 v0_3 v0_5 s4.2.2.1 s4.2.2.2.1 v0_16 v0_17 v0_21 v0_23 v0_24 v0_25 v0_26 v0_29 v0_30 v0_0 s4.2.2.2.2.1 s4.2.2.2.2.2.1 s4.2.2.2.2.2.2.1 s4.2.2.2.2.2.2.2.1 s4.2.2.2.2.2.2.2.2.1 s4.2.2.2.2.2.2.2.2.2)) [0, 1, 2, 3, 4, 5, 6, 7] rfl
          have hDc := hD.sub (ws' := (wd_X12_laysSegments cI a0 v0_2 v0_3 v0_5 s4.2.2.1 s4.2.2.2.1 v0_16 v0_17 v0_21 v0_23 v0_24 v0_25 v0_26 v0_29 v0_30 v0_0 s4.2.2.2.2.1 s4.2.2.2.2.2.1 s4.2.2.2.2.2.2.1 s4.2.2.2.2.2.2.2.1 s4.2.2.2.2.2.2.2.2.1 s4.2.2.2.2.2.2.2.2.2)) [0, 1, 2, 3, 4, 5, 6, 7] rfl rfl
          refine q_callv (wc := (wd_X12_laysSegments cI a0 v0_2 v0_3 v0_5 s4.2.2.1 s4.2.2.2.1 v0_16 v0_17 v0_21 v0_23 v0_24 v0_25 v0_26 v0_29 v0_30 v0_0 s4.2.2.2.2.1 s4.2.2.2.2.2.1 s4.2.2.2.2.2.2.1 s4.2.2.2.2.2.2.2.1 s4.2.2.2.2.2.2.2.2.1 s4.2.2.2.2.2.2.2.2.2)) (w1 := (wd_X12_laysSegments cI a0 v0_2 v0_3 v0_5 u_2.1 u_2.2.1 v0_16 v0_17 v0_21 v0_23 v0_24 v0_25 v0_26 v0_29 v0_30 v0_0 u_2.2.2.1 u_2.2.2.2.1 u_2.2.2.2.2.1 u_2.2.2.2.2.2.1 u_2.2.2.2.2.2.2.1 u_2.2.2.2.2.2.2.2)) (ws' := (wd_X12_ahead cI a0 v0_2 v0_3 v0_5 u_2.1 u_2.2.1 v0_16 v0_17 v0_21 v0_23 v0_24 v0_25 v0_26 v0_29 v0_30 v0_0 u_2.2.2.1 u_2.2.2.2.1 u_2.2.2.2.2.1 u_2.2.2.2.2.2.1 u_2.2.2.2.2.2.2.1 u_2.2.2.2.2.2.2.2)) hP hD hS hA [0, 1, 2, 3, 4, 5, 6, 7] [] [0, 1, 2, 3, 4, 5, 6, 7] rfl rfl rfl (by decide) rfl rfl (va_runV (As := [.int s4.2.1]) (rest := []) ⟨hx, hb, hml, hown, hta⟩ (c_X12_laysSegments l dC dI cI H.size a0 v0_2 v0_3 v0_5 s4.2.2.1 s4.2.2.2.1 v0_16 v0_17 v0_21 v0_23 v0_24 v0_25 v0_26 v0_29 v0_30 v0_0 s4.2.2.2.2.1 s4.2.2.2.2.2.1 s4.2.2.2.2.2.2.1 s4.2.2.2.2.2.2.2.1 s4.2.2.2.2.2.2.2.2.1 s4.2.2.2.2.2.2.2.2.2 s4.2.1 n u_2 hu_2) (cwV 1 hta (ga_V mA864 mA865 mA866 mA814 mA867) rfl rfl rfl (by decide +kernel) ⟨Nat.le_of_ble_eq_true rfl, Nat.le_of_ble_eq_true rfl⟩) ⟨q_fb, va_recv hK hP (ci := 11) (q0 := 0) rfl rfl, q_ps hPc hK hDc⟩ rfl rfl hl.1 rfl (lv_room (Nat.le_of_ble_eq_true rfl)) dX12_ahead_11 ⟨Nat.zero_le _, Nat.zero_le _⟩) (fun H locs hP hD hS => ?_)
          refine lv_iload_n hx hb dX12_ahead_14 rfl (lv_at hl 2 rfl) ?_
          refine lv_aload_n hx hb dX12_ahead_15 rfl (lv_at hl 0 rfl) ?_
          refine va_get (D := (dC, dI)) (ci := 11) (v := .int u_2.2.1) (C := RX12) (T := TX12) (N := 31) hx hb hta uw_X12 hown hK hP 0 rfl rfl 13 (by decide) (hta _ mA868) (fun _ h9 => h9) rfl dX12_ahead_16 ?_
          refine lv_iadd hx hb dX12_ahead_19 ?_
          obtain ⟨y_3, ey_3, hF⟩ := lt_some hF
          refine lv_eqi ey_3 ?_
          refine lv_istore_n (lv' := [(2, .int y_3), (0, .ref (a0 0)), (1, .int x1), (3, .int s4.2.1)]) hx hb dX12_ahead_20 rfl hl (by decide) rfl (fun ls hl => ?_)
          obtain ⟨y_4, ey_4, hF⟩ := lt_some hF
          refine lv_iinc (v := y_4) (lv' := [(3, .int y_4), (2, .int y_3), (0, .ref (a0 0)), (1, .int x1)]) hx hb dX12_ahead_21 hl (k := 3) rfl (by rw [ey_4]; rfl) (by decide) rfl (fun ls hl => ?_)
          refine lv_goto (tgt := 4) hx hb dX12_ahead_24 (by decide) ?_
          obtain rfl := Option.some.inj hF
          exact ih_4 _ hO_4 _ _ _ hP hD hS (lv_sub hl [2, 3, 1, 0] rfl)
    exact kl_4 n _ hL_4 _ _ _ hP hD hS hl
  refine lv_iconst (v := 0) hx hb dX12_ahead_0 (by decide) ?_
  refine lv_istore_n (lv' := [(2, .int 0), (0, .ref (a0 0)), (1, .int p1)]) hx hb dX12_ahead_1 rfl hl (by decide) rfl (fun ls hl => ?_)
  refine lv_iconst (v := 0) hx hb dX12_ahead_2 (by decide) ?_
  refine lv_istore_n (lv' := [(3, .int 0), (2, .int 0), (0, .ref (a0 0)), (1, .int p1)]) hx hb dX12_ahead_3 rfl hl (by decide) rfl (fun ls hl => ?_)
  exact j4 v0_12 v0_13 v0_6 v0_7 v0_8 v0_9 v0_10 v0_11 p1 0 0 hF _ _ _ hP hD hS (lv_sub hl [2, 3, 1, 0] rfl)

-- StrokeOutlinerModel.laysRuns(I)V
def F_X12_laysRuns_j244 (v0_12 : Int32) (v0_13 : Int32) (v0_16 : Int32) (v0_6 : Nat → Int32) (v0_7 : Nat → Int32) (v0_8 : Nat → Int32) (v0_9 : Nat → Int32) (v0_10 : Nat → Int32) (v0_11 : Nat → Int32) (v0_14 : Nat → Int32) (v0_15 : Nat → Int32) (x4 : Int32) (t1 : Int32) : Option (Int32 × Int32 × Int32 × Int32 × (Nat → Int32) × (Nat → Int32) × (Nat → Int32) × (Nat → Int32) × (Nat → Int32) × (Nat → Int32) × (Nat → Int32) × (Nat → Int32)) :=
  gd (decide (t1 = 0 ∨ t1 = 1)) (if x4 = 0 then some (v0_12, v0_13, v0_16, t1, v0_6, v0_7, v0_8, v0_9, v0_10, v0_11, v0_14, v0_15) else if v0_16 ≤ 1 then some (v0_12, v0_13, v0_16, t1, v0_6, v0_7, v0_8, v0_9, v0_10, v0_11, v0_14, v0_15) else lt (v0_16 - 1) (fun y_4 => gd (decide (vpi y_4 240)) (lt (v0_14 y_4.toNatClampNeg) (fun y_6 => gd (decide (vpi 0 240)) (lt (upd v0_14 (0 : Int32).toNatClampNeg y_6) (fun y_8 => gd (decide (vpi 0 240)) (gd (decide (vpi y_4 240)) (lt ((v0_15 (0 : Int32).toNatClampNeg) + (v0_15 y_4.toNatClampNeg)) (fun y_11 => gd (decide (vpi 0 240)) (lt (upd v0_15 (0 : Int32).toNatClampNeg y_11) (fun y_13 => some (v0_12, v0_13, y_4, t1, v0_6, v0_7, v0_8, v0_9, v0_10, v0_11, y_8, y_13))))))))))))
def F_X12_laysRuns_j243 (v0_12 : Int32) (v0_13 : Int32) (v0_16 : Int32) (v0_6 : Nat → Int32) (v0_7 : Nat → Int32) (v0_8 : Nat → Int32) (v0_9 : Nat → Int32) (v0_10 : Nat → Int32) (v0_11 : Nat → Int32) (v0_14 : Nat → Int32) (v0_15 : Nat → Int32) (x4 : Int32) : Option (Int32 × Int32 × Int32 × Int32 × (Nat → Int32) × (Nat → Int32) × (Nat → Int32) × (Nat → Int32) × (Nat → Int32) × (Nat → Int32) × (Nat → Int32) × (Nat → Int32)) :=
  F_X12_laysRuns_j244 v0_12 v0_13 v0_16 v0_6 v0_7 v0_8 v0_9 v0_10 v0_11 v0_14 v0_15 x4 0
def F_X12_laysRuns_j223 (v0_12 : Int32) (v0_13 : Int32) (v0_16 : Int32) (v0_6 : Nat → Int32) (v0_7 : Nat → Int32) (v0_8 : Nat → Int32) (v0_9 : Nat → Int32) (v0_10 : Nat → Int32) (v0_11 : Nat → Int32) (v0_14 : Nat → Int32) (v0_15 : Nat → Int32) (t0 : Int32) : Option (Int32 × Int32 × Int32 × Int32 × (Nat → Int32) × (Nat → Int32) × (Nat → Int32) × (Nat → Int32) × (Nat → Int32) × (Nat → Int32) × (Nat → Int32) × (Nat → Int32)) :=
  if t0 = 0 then F_X12_laysRuns_j243 v0_12 v0_13 v0_16 v0_6 v0_7 v0_8 v0_9 v0_10 v0_11 v0_14 v0_15 t0 else if v0_16 = 1 then F_X12_laysRuns_j244 v0_12 v0_13 v0_16 v0_6 v0_7 v0_8 v0_9 v0_10 v0_11 v0_14 v0_15 t0 1 else F_X12_laysRuns_j243 v0_12 v0_13 v0_16 v0_6 v0_7 v0_8 v0_9 v0_10 v0_11 v0_14 v0_15 t0
def F_X12_laysRuns_j222 (v0_12 : Int32) (v0_13 : Int32) (v0_16 : Int32) (v0_6 : Nat → Int32) (v0_7 : Nat → Int32) (v0_8 : Nat → Int32) (v0_9 : Nat → Int32) (v0_10 : Nat → Int32) (v0_11 : Nat → Int32) (v0_14 : Nat → Int32) (v0_15 : Nat → Int32) : Option (Int32 × Int32 × Int32 × Int32 × (Nat → Int32) × (Nat → Int32) × (Nat → Int32) × (Nat → Int32) × (Nat → Int32) × (Nat → Int32) × (Nat → Int32) × (Nat → Int32)) :=
  F_X12_laysRuns_j223 v0_12 v0_13 v0_16 v0_6 v0_7 v0_8 v0_9 v0_10 v0_11 v0_14 v0_15 0
def F_X12_laysRuns_j164 (v0_12 : Int32) (v0_13 : Int32) (v0_16 : Int32) (v0_0 : Nat → Int32) (v0_6 : Nat → Int32) (v0_7 : Nat → Int32) (v0_8 : Nat → Int32) (v0_9 : Nat → Int32) (v0_10 : Nat → Int32) (v0_11 : Nat → Int32) (v0_14 : Nat → Int32) (v0_15 : Nat → Int32) (x1 : Int32) : Option (Int32 × Int32 × Int32 × Int32 × (Nat → Int32) × (Nat → Int32) × (Nat → Int32) × (Nat → Int32) × (Nat → Int32) × (Nat → Int32) × (Nat → Int32) × (Nat → Int32)) :=
  obd (F_X12_isClosed v0_0 x1) (fun u_16 => if u_16 = 0 then F_X12_laysRuns_j222 v0_12 v0_13 v0_16 v0_6 v0_7 v0_8 v0_9 v0_10 v0_11 v0_14 v0_15 else if v0_16 ≤ 0 then F_X12_laysRuns_j222 v0_12 v0_13 v0_16 v0_6 v0_7 v0_8 v0_9 v0_10 v0_11 v0_14 v0_15 else gd (decide (vpi 0 240)) (if (v0_14 (0 : Int32).toNatClampNeg) = 0 then lt (v0_16 - 1) (fun y_21 => gd (decide (vpi y_21 240)) (lt (v0_16 - 1) (fun y_23 => gd (decide (vpi y_23 240)) (if ((v0_14 y_21.toNatClampNeg) + (v0_15 y_23.toNatClampNeg)) = v0_13 then F_X12_laysRuns_j223 v0_12 v0_13 v0_16 v0_6 v0_7 v0_8 v0_9 v0_10 v0_11 v0_14 v0_15 1 else F_X12_laysRuns_j222 v0_12 v0_13 v0_16 v0_6 v0_7 v0_8 v0_9 v0_10 v0_11 v0_14 v0_15)))) else F_X12_laysRuns_j222 v0_12 v0_13 v0_16 v0_6 v0_7 v0_8 v0_9 v0_10 v0_11 v0_14 v0_15))
def F_X12_laysRuns_j156 (v0_16 : Int32) (v0_14 : Nat → Int32) (v0_15 : Nat → Int32) (x3 : Int32) (x5 : Int32) : Option (Sum (Int32 × Int32 × (Nat → Int32) × (Nat → Int32)) (Int32 × (Nat → Int32) × (Nat → Int32))) :=
  lt (x3 + x5) (fun y_26 => some (.inl (y_26, v0_16, v0_14, v0_15)))
def F_X12_laysRuns_j118 (v0_16 : Int32) (v0_14 : Nat → Int32) (v0_15 : Nat → Int32) (x3 : Int32) (x4 : Int32) (t0 : Int32) : Option (Sum (Int32 × Int32 × (Nat → Int32) × (Nat → Int32)) (Int32 × (Nat → Int32) × (Nat → Int32))) :=
  if x4 ≤ 0 then F_X12_laysRuns_j156 v0_16 v0_14 v0_15 x3 t0 else gd (decide (vpi v0_16 240)) (lt (upd v0_14 v0_16.toNatClampNeg x3) (fun y_29 => gd (decide (vpi v0_16 240)) (lt (upd v0_15 v0_16.toNatClampNeg t0) (fun y_31 => lt (v0_16 + 1) (fun y_32 => F_X12_laysRuns_j156 y_32 y_29 y_31 x3 t0)))))
def F_X12_laysRuns_j94 (v0_13 : Int32) (v0_16 : Int32) (v0_14 : Nat → Int32) (v0_15 : Nat → Int32) (x3 : Int32) (x4 : Int32) (t0 : Int32) : Option (Sum (Int32 × Int32 × (Nat → Int32) × (Nat → Int32)) (Int32 × (Nat → Int32) × (Nat → Int32))) :=
  if (v0_13 - x3) ≤ t0 then F_X12_laysRuns_j118 v0_16 v0_14 v0_15 x3 x4 (v0_13 - x3) else F_X12_laysRuns_j118 v0_16 v0_14 v0_15 x3 x4 t0
def F_X12_laysRuns_j79 (v0_13 : Int32) (v0_16 : Int32) (v0_14 : Nat → Int32) (v0_15 : Nat → Int32) (x3 : Int32) (t0 : Int32) : Option (Sum (Int32 × Int32 × (Nat → Int32) × (Nat → Int32)) (Int32 × (Nat → Int32) × (Nat → Int32))) :=
  if 0 ≤ t0 then F_X12_laysRuns_j94 v0_13 v0_16 v0_14 v0_15 x3 t0 t0 else F_X12_laysRuns_j94 v0_13 v0_16 v0_14 v0_15 x3 t0 (-t0)
def F_X12_laysRuns_b47 (n : Nat) (v0_13 : Int32) (v0_0 : Nat → Int32) (x2 : Int32) (s47 : Int32 × Int32 × (Nat → Int32) × (Nat → Int32)) : Option (Sum (Int32 × Int32 × (Nat → Int32) × (Nat → Int32)) (Int32 × (Nat → Int32) × (Nat → Int32))) :=
  if v0_13 ≤ s47.1 then some (.inr (s47.2.1, s47.2.2.1, s47.2.2.2)) else gd (decide (vpi 6 86)) (if (v0_0 (6 : Int32).toNatClampNeg) = 0 then F_X12_laysRuns_j79 v0_13 s47.2.1 s47.2.2.1 s47.2.2.2 s47.1 v0_13 else obd (F_X12_stretch n v0_0 (x2 + s47.1)) (fun u_38 => F_X12_laysRuns_j79 v0_13 s47.2.1 s47.2.2.1 s47.2.2.2 s47.1 u_38))
def F_X12_laysRuns_j47 (n : Nat) (v0_12 : Int32) (v0_13 : Int32) (v0_16 : Int32) (v0_0 : Nat → Int32) (v0_6 : Nat → Int32) (v0_7 : Nat → Int32) (v0_8 : Nat → Int32) (v0_9 : Nat → Int32) (v0_10 : Nat → Int32) (v0_11 : Nat → Int32) (v0_14 : Nat → Int32) (v0_15 : Nat → Int32) (x1 : Int32) (x2 : Int32) (x3 : Int32) : Option (Int32 × Int32 × Int32 × Int32 × (Nat → Int32) × (Nat → Int32) × (Nat → Int32) × (Nat → Int32) × (Nat → Int32) × (Nat → Int32) × (Nat → Int32) × (Nat → Int32)) :=
  obd (lpq (F_X12_laysRuns_b47 n v0_13 v0_0 x2) n (x3, v0_16, v0_14, v0_15)) (fun x_47 => F_X12_laysRuns_j164 v0_12 v0_13 x_47.1 v0_0 v0_6 v0_7 v0_8 v0_9 v0_10 v0_11 x_47.2.1 x_47.2.2 x1)
def F_X12_laysRuns_j28 (n : Nat) (v0_0 : Nat → Int32) (v0_6 : Nat → Int32) (v0_7 : Nat → Int32) (v0_8 : Nat → Int32) (v0_9 : Nat → Int32) (v0_10 : Nat → Int32) (v0_11 : Nat → Int32) (v0_14 : Nat → Int32) (v0_15 : Nat → Int32) (x1 : Int32) (t0 : Int32) (t1 : Int32) : Option (Int32 × Int32 × Int32 × Int32 × (Nat → Int32) × (Nat → Int32) × (Nat → Int32) × (Nat → Int32) × (Nat → Int32) × (Nat → Int32) × (Nat → Int32) × (Nat → Int32)) :=
  lt (t0 + t1) (fun y_39 => obd (F_X12_laysSegments n v0_0 v0_6 v0_7 v0_8 v0_9 v0_10 v0_11 x1) (fun u_40 => F_X12_laysRuns_j47 n u_40.1 u_40.2.1 0 v0_0 u_40.2.2.1 u_40.2.2.2.1 u_40.2.2.2.2.1 u_40.2.2.2.2.2.1 u_40.2.2.2.2.2.2.1 u_40.2.2.2.2.2.2.2 v0_14 v0_15 x1 y_39 0))
def F_X12_laysRuns (n : Nat) (v0_12 : Int32) (v0_13 : Int32) (v0_0 : Nat → Int32) (v0_6 : Nat → Int32) (v0_7 : Nat → Int32) (v0_8 : Nat → Int32) (v0_9 : Nat → Int32) (v0_10 : Nat → Int32) (v0_11 : Nat → Int32) (v0_14 : Nat → Int32) (v0_15 : Nat → Int32) (p1 : Int32) : Option (Int32 × Int32 × Int32 × Int32 × (Nat → Int32) × (Nat → Int32) × (Nat → Int32) × (Nat → Int32) × (Nat → Int32) × (Nat → Int32) × (Nat → Int32) × (Nat → Int32)) :=
  gd (decide (vpi 4 86)) (gd (decide (vpi 5 86)) (if (v0_0 (5 : Int32).toNatClampNeg) = 1 then obd (F_X12_ahead n v0_12 v0_13 v0_0 v0_6 v0_7 v0_8 v0_9 v0_10 v0_11 p1) (fun u_44 => F_X12_laysRuns_j28 n v0_0 u_44.2.2.2.1 u_44.2.2.2.2.1 u_44.2.2.2.2.2.1 u_44.2.2.2.2.2.2.1 u_44.2.2.2.2.2.2.2.1 u_44.2.2.2.2.2.2.2.2 v0_14 v0_15 p1 (64 * (v0_0 (4 : Int32).toNatClampNeg)) u_44.1) else F_X12_laysRuns_j28 n v0_0 v0_6 v0_7 v0_8 v0_9 v0_10 v0_11 v0_14 v0_15 p1 (64 * (v0_0 (4 : Int32).toNatClampNeg)) 0))
abbrev wd_X12_laysRuns (cI : ClassId) (a0 : Nat → Nat) (v0_2 : Int32) (v0_3 : Int32) (v0_5 : Int32) (v0_12 : Int32) (v0_13 : Int32) (v0_16 : Int32) (v0_17 : Int32) (v0_21 : Int32) (v0_23 : Int32) (v0_24 : Int32) (v0_25 : Int32) (v0_26 : Int32) (v0_29 : Int32) (v0_30 : Int64) (v0_0 : Nat → Int32) (v0_6 : Nat → Int32) (v0_7 : Nat → Int32) (v0_8 : Nat → Int32) (v0_9 : Nat → Int32) (v0_10 : Nat → Int32) (v0_11 : Nat → Int32) (v0_14 : Nat → Int32) (v0_15 : Nat → Int32) : va_W := [(a0 0, .inr (11, [.ref (a0 1), .ref (a0 2), .int v0_2, .int v0_3, .ref (a0 5), .int v0_5, .ref (a0 7), .ref (a0 8), .ref (a0 9), .ref (a0 10), .ref (a0 11), .ref (a0 12), .int v0_12, .int v0_13, .ref (a0 15), .ref (a0 16), .int v0_16, .int v0_17, .ref (a0 19), .ref (a0 20), .ref (a0 21), .int v0_21, .ref (a0 23), .int v0_23, .int v0_24, .int v0_25, .int v0_26, .ref (a0 28), .ref (a0 29), .int v0_29, .long v0_30])), (a0 1, .inl (cI, 86, .inl v0_0)), (a0 7, .inl (cI, 8, .inl v0_6)), (a0 8, .inl (cI, 8, .inl v0_7)), (a0 9, .inl (cI, 8, .inl v0_8)), (a0 10, .inl (cI, 8, .inl v0_9)), (a0 11, .inl (cI, 8, .inl v0_10)), (a0 12, .inl (cI, 8, .inl v0_11)), (a0 15, .inl (cI, 240, .inl v0_14)), (a0 16, .inl (cI, 240, .inl v0_15))]
abbrev wz_X12_laysRuns : List Cond := .code yX12_laysRuns cX12_laysRuns 6 none :: wALL
abbrev rm_X12_laysRuns : Room := { frames := 4, cells := 0, slots := 0, locals := 91 }
abbrev Q_X12_laysRuns (dC : Nat → ClassId) (dI : Nat → Nat → Nat) (cI : ClassId) (a0 : Nat → Nat) (v0_2 : Int32) (v0_3 : Int32) (v0_5 : Int32) (v0_21 : Int32) (v0_23 : Int32) (v0_24 : Int32) (v0_25 : Int32) (v0_26 : Int32) (v0_29 : Int32) (v0_30 : Int64) (v0_0 : Nat → Int32) (u : (Int32 × Int32 × Int32 × Int32 × (Nat → Int32) × (Nat → Int32) × (Nat → Int32) × (Nat → Int32) × (Nat → Int32) × (Nat → Int32) × (Nat → Int32) × (Nat → Int32))) (A : Nat → Prop) : Array Value → State → Outcome → State → Prop := va_Qv (fun (_ : Unit) => True) (fun _ => q_at dC dI cI A (wd_X12_laysRuns cI a0 v0_2 v0_3 v0_5 u.1 u.2.1 u.2.2.1 u.2.2.2.1 v0_21 v0_23 v0_24 v0_25 v0_26 v0_29 v0_30 v0_0 u.2.2.2.2.1 u.2.2.2.2.2.1 u.2.2.2.2.2.2.1 u.2.2.2.2.2.2.2.1 u.2.2.2.2.2.2.2.2.1 u.2.2.2.2.2.2.2.2.2.1 u.2.2.2.2.2.2.2.2.2.2.1 u.2.2.2.2.2.2.2.2.2.2.2)) A
set_option maxHeartbeats 4000000 in
set_option maxRecDepth 100000 in
theorem c_X12_laysRuns (l : Launch) (dC : Nat → ClassId) (dI : Nat → Nat → Nat) (cI : ClassId) (sz : Nat) (a0 : Nat → Nat) (v0_2 : Int32) (v0_3 : Int32) (v0_5 : Int32) (v0_12 : Int32) (v0_13 : Int32) (v0_16 : Int32) (v0_17 : Int32) (v0_21 : Int32) (v0_23 : Int32) (v0_24 : Int32) (v0_25 : Int32) (v0_26 : Int32) (v0_29 : Int32) (v0_30 : Int64) (v0_0 : Nat → Int32) (v0_6 : Nat → Int32) (v0_7 : Nat → Int32) (v0_8 : Nat → Int32) (v0_9 : Nat → Int32) (v0_10 : Nat → Int32) (v0_11 : Nat → Int32) (v0_14 : Nat → Int32) (v0_15 : Nat → Int32) (p1 : Int32) (n : Nat) (u : (Int32 × Int32 × Int32 × Int32 × (Nat → Int32) × (Nat → Int32) × (Nat → Int32) × (Nat → Int32) × (Nat → Int32) × (Nat → Int32) × (Nat → Int32) × (Nat → Int32))) (hF : F_X12_laysRuns n v0_12 v0_13 v0_0 v0_6 v0_7 v0_8 v0_9 v0_10 v0_11 v0_14 v0_15 p1 = some u) : Met l yX12_laysRuns wz_X12_laysRuns rm_X12_laysRuns (va_Pc [.ref (a0 0), .int p1] (q_pre dC dI cI (wd_X12_laysRuns cI a0 v0_2 v0_3 v0_5 v0_12 v0_13 v0_16 v0_17 v0_21 v0_23 v0_24 v0_25 v0_26 v0_29 v0_30 v0_0 v0_6 v0_7 v0_8 v0_9 v0_10 v0_11 v0_14 v0_15) sz)) (Q_X12_laysRuns dC dI cI a0 v0_2 v0_3 v0_5 v0_21 v0_23 v0_24 v0_25 v0_26 v0_29 v0_30 v0_0 u (va_A (wd_X12_laysRuns cI a0 v0_2 v0_3 v0_5 v0_12 v0_13 v0_16 v0_17 v0_21 v0_23 v0_24 v0_25 v0_26 v0_29 v0_30 v0_0 v0_6 v0_7 v0_8 v0_9 v0_10 v0_11 v0_14 v0_15) sz)) 0 0 (va_A (wd_X12_laysRuns cI a0 v0_2 v0_3 v0_5 v0_12 v0_13 v0_16 v0_17 v0_21 v0_23 v0_24 v0_25 v0_26 v0_29 v0_30 v0_0 v0_6 v0_7 v0_8 v0_9 v0_10 v0_11 v0_14 v0_15) sz) := by
  refine Met.ofW (cc := cX12_laysRuns) (maxL := 6) (ret := none) (by decide) rfl ?_
  intro p e s m args below meth c s₁ B hml hv
  obtain ⟨rfl, hsz, hP, hK, hD0⟩ := hv
  have hx := B.exec
  have hb := B.bytes
  have hr := B.returns
  have hts := atoms_spec (ws := wz_X12_laysRuns) B.pre
  have hta := wz_tl hts
  have hown : s.vm.findClass RX12 = some m.cls := findClass_of_methodNamed B.named
  have hlocks := B.notSynchronized
  subst hsz
  have hD := hD0.self (sz := s.heap.size)
  generalize hAe : va_A (wd_X12_laysRuns cI a0 v0_2 v0_3 v0_5 v0_12 v0_13 v0_16 v0_17 v0_21 v0_23 v0_24 v0_25 v0_26 v0_29 v0_30 v0_0 v0_6 v0_7 v0_8 v0_9 v0_10 v0_11 v0_14 v0_15) s.heap.size = A at hD ⊢
  have hA : ∀ q : Nat, s.heap.size ≤ q → A q := fun q h => by rw [← hAe]; exact Or.inr h
  have hS : va_S A s.heap s.heap [] := va_S.rf
  have hP : va_P (dC, dI) vwCl (wd_X12_laysRuns cI a0 v0_2 v0_3 v0_5 v0_12 v0_13 v0_16 v0_17 v0_21 v0_23 v0_24 v0_25 v0_26 v0_29 v0_30 v0_0 v0_6 v0_7 v0_8 v0_9 v0_10 v0_11 v0_14 v0_15) s.heap := hP
  have hl := lv_entry ([.ref (a0 0), .int p1]) (n := 6) (Nat.le_of_ble_eq_true rfl)
  rw [lg_entry_eq]
  generalize (lg_sl ([.ref (a0 0), .int p1]) ++ List.replicate (6 - (lg_sl ([.ref (a0 0), .int p1])).length) Slot.unset).toArray = ls at hl ⊢
  have hl : lv_has ls 6 [(0, .ref (a0 0)), (1, .int p1)] := hl
  obtain ⟨H, hHe⟩ : ∃ H, H = s.heap := ⟨_, rfl⟩
  have hS : va_S A s.heap H [] := by rw [hHe]; exact hS
  have hP : va_P (dC, dI) vwCl (wd_X12_laysRuns cI a0 v0_2 v0_3 v0_5 v0_12 v0_13 v0_16 v0_17 v0_21 v0_23 v0_24 v0_25 v0_26 v0_29 v0_30 v0_0 v0_6 v0_7 v0_8 v0_9 v0_10 v0_11 v0_14 v0_15) H := by rw [hHe]; exact hP
  rw [← hHe]
  unfold F_X12_laysRuns at hF
  have j244 : ∀ (v0_12 : Int32) (v0_13 : Int32) (v0_16 : Int32) (v0_17 : Int32) (v0_6 : Nat → Int32) (v0_7 : Nat → Int32) (v0_8 : Nat → Int32) (v0_9 : Nat → Int32) (v0_10 : Nat → Int32) (v0_11 : Nat → Int32) (v0_14 : Nat → Int32) (v0_15 : Nat → Int32) (x4 : Int32) (t1 : Int32), F_X12_laysRuns_j244 v0_12 v0_13 v0_16 v0_6 v0_7 v0_8 v0_9 v0_10 v0_11 v0_14 v0_15 x4 t1 = some u → ∀ (H : Heap) (locs : List Loc) (ls : Array Slot), va_P (dC, dI) vwCl (wd_X12_laysRuns cI a0 v0_2 v0_3 v0_5 v0_12 v0_13 v0_16 v0_17 v0_21 v0_23 v0_24 v0_25 v0_26 v0_29 v0_30 v0_0 v0_6 v0_7 v0_8 v0_9 v0_10 v0_11 v0_14 v0_15) H → va_D A (wd_X12_laysRuns cI a0 v0_2 v0_3 v0_5 v0_12 v0_13 v0_16 v0_17 v0_21 v0_23 v0_24 v0_25 v0_26 v0_29 v0_30 v0_0 v0_6 v0_7 v0_8 v0_9 v0_10 v0_11 v0_14 v0_15) → va_S A s.heap H locs → lv_has ls 6 [(0, .ref (a0 0)), (4, .int x4)] → W p l e (headSpec wz_X12_laysRuns rm_X12_laysRuns).room s m [.ref (a0 0), .int p1].toArray below meth c H locs 0 0 (MQ below (Q_X12_laysRuns dC dI cI a0 v0_2 v0_3 v0_5 v0_21 v0_23 v0_24 v0_25 v0_26 v0_29 v0_30 v0_0 u A) [.ref (a0 0), .int p1].toArray s 0 0 A) (F0 m 244 ls [.int t1, .ref (a0 0)]) := by
    intro v0_12 v0_13 v0_16 v0_17 v0_6 v0_7 v0_8 v0_9 v0_10 v0_11 v0_14 v0_15 x4 t1 hF H locs ls hP hD hS hl
    unfold F_X12_laysRuns_j244 at hF
    obtain ⟨g_1, hF⟩ := gd_some hF
    refine va_put (D := (dC, dI)) (ci := 11) (v := .int t1) (ty := .boolean) (C := RX12) (T := TX12) (N := 31) hx hb hta uw_X12 tyX12 tyX12_ok nmX12 hown hK hP hD hS 0 rfl rfl 17 (by decide) (hta _ mA925) (fun _ h9 => h9) rfl (by decide +kernel) (z_nar g_1) (z_fit g_1) (Nat.le_of_ble_eq_true rfl) dX12_laysRuns_244 (fun H locs hP hD hS => ?_)
    have hP : va_P (dC, dI) vwCl (wd_X12_laysRuns cI a0 v0_2 v0_3 v0_5 v0_12 v0_13 v0_16 t1 v0_21 v0_23 v0_24 v0_25 v0_26 v0_29 v0_30 v0_0 v0_6 v0_7 v0_8 v0_9 v0_10 v0_11 v0_14 v0_15) H := hP
    have hD : va_D A (wd_X12_laysRuns cI a0 v0_2 v0_3 v0_5 v0_12 v0_13 v0_16 t1 v0_21 v0_23 v0_24 v0_25 v0_26 v0_29 v0_30 v0_0 v0_6 v0_7 v0_8 v0_9 v0_10 v0_11 v0_14 v0_15) := hD
    refine lv_iload hx hb dX12_laysRuns_247 (lv_at hl 1 rfl) ?_
    refine lv_if_eq (tgt := 303) hx hb dX12_laysRuns_249 (by decide) (fun c_2 => ?_) (fun c_2 => ?_)
    · have hF := it_t hF c_2
      obtain rfl := Option.some.inj hF
      exact W.vret hx hb hr (fun t ht hW => ⟨⟨(), rfl, trivial, by rw [ht]; exact hP, va_K.moved hW.alike hK, hD⟩, hS.F ht⟩) hS.2.2 dX12_laysRuns_303
    · have hF := it_f hF c_2
      refine lv_aload_n hx hb dX12_laysRuns_252 rfl (lv_at hl 0 rfl) ?_
      refine va_get (D := (dC, dI)) (ci := 11) (v := .int v0_16) (C := RX12) (T := TX12) (N := 31) hx hb hta uw_X12 hown hK hP 0 rfl rfl 16 (by decide) (hta _ mA924) (fun _ h9 => h9) rfl dX12_laysRuns_253 ?_
      refine lv_iconst (v := 1) hx hb dX12_laysRuns_256 (by decide) ?_
      refine lv_icmp_le (tgt := 303) hx hb dX12_laysRuns_257 (by decide) (fun c_3 => ?_) (fun c_3 => ?_)
      · have hF := it_t hF c_3
        obtain rfl := Option.some.inj hF
        exact W.vret hx hb hr (fun t ht hW => ⟨⟨(), rfl, trivial, by rw [ht]; exact hP, va_K.moved hW.alike hK, hD⟩, hS.F ht⟩) hS.2.2 dX12_laysRuns_303
      · have hF := it_f hF c_3
        refine lv_aload_n hx hb dX12_laysRuns_260 rfl (lv_at hl 0 rfl) ?_
        refine lv_dup hx hb dX12_laysRuns_261 rfl ?_
        refine va_get (D := (dC, dI)) (ci := 11) (v := .int v0_16) (C := RX12) (T := TX12) (N := 31) hx hb hta uw_X12 hown hK hP 0 rfl rfl 16 (by decide) (hta _ mA924) (fun _ h9 => h9) rfl dX12_laysRuns_262 ?_
        refine lv_iconst (v := 1) hx hb dX12_laysRuns_265 (by decide) ?_
        refine lv_isub hx hb dX12_laysRuns_266 ?_
        obtain ⟨y_4, ey_4, hF⟩ := lt_some hF
        refine lv_eqi ey_4 ?_
        refine va_put (D := (dC, dI)) (ci := 11) (v := .int y_4) (ty := .int) (C := RX12) (T := TX12) (N := 31) hx hb hta uw_X12 tyX12 tyX12_ok nmX12 hown hK hP hD hS 0 rfl rfl 16 (by decide) (hta _ mA924) (fun _ h9 => h9) rfl (by decide +kernel) rfl rfl (Nat.le_of_ble_eq_true rfl) dX12_laysRuns_267 (fun H locs hP hD hS => ?_)
        have hP : va_P (dC, dI) vwCl (wd_X12_laysRuns cI a0 v0_2 v0_3 v0_5 v0_12 v0_13 y_4 t1 v0_21 v0_23 v0_24 v0_25 v0_26 v0_29 v0_30 v0_0 v0_6 v0_7 v0_8 v0_9 v0_10 v0_11 v0_14 v0_15) H := hP
        have hD : va_D A (wd_X12_laysRuns cI a0 v0_2 v0_3 v0_5 v0_12 v0_13 y_4 t1 v0_21 v0_23 v0_24 v0_25 v0_26 v0_29 v0_30 v0_0 v0_6 v0_7 v0_8 v0_9 v0_10 v0_11 v0_14 v0_15) := hD
        refine lv_aload_n hx hb dX12_laysRuns_270 rfl (lv_at hl 0 rfl) ?_
        refine va_get (D := (dC, dI)) (ci := 11) (v := .ref (a0 15)) (C := RX12) (T := TX12) (N := 31) hx hb hta uw_X12 hown hK hP 0 rfl rfl 14 (by decide) (hta _ mA799) (fun _ h9 => h9) rfl dX12_laysRuns_271 ?_
        refine lv_iconst (v := 0) hx hb dX12_laysRuns_274 (by decide) ?_
        refine lv_aload_n hx hb dX12_laysRuns_275 rfl (lv_at hl 0 rfl) ?_
        refine va_get (D := (dC, dI)) (ci := 11) (v := .ref (a0 15)) (C := RX12) (T := TX12) (N := 31) hx hb hta uw_X12 hown hK hP 0 rfl rfl 14 (by decide) (hta _ mA799) (fun _ h9 => h9) rfl dX12_laysRuns_276 ?_
        refine lv_aload_n hx hb dX12_laysRuns_279 rfl (lv_at hl 0 rfl) ?_
        refine va_get (D := (dC, dI)) (ci := 11) (v := .int y_4) (C := RX12) (T := TX12) (N := 31) hx hb hta uw_X12 hown hK hP 0 rfl rfl 16 (by decide) (hta _ mA924) (fun _ h9 => h9) rfl dX12_laysRuns_280 ?_
        obtain ⟨g_5, hF⟩ := gd_some hF
        refine va_iald hx hb hK hP 8 0 rfl rfl (vpi_in g_5) dX12_laysRuns_283 ?_
        obtain ⟨y_6, ey_6, hF⟩ := lt_some hF
        refine lv_eqi ey_6 ?_
        obtain ⟨g_7, hF⟩ := gd_some hF
        refine va_iast hx hb hK hP hD hS 8 0 rfl rfl (vpi_in g_7) dX12_laysRuns_284 (fun H locs hP hD hS => ?_)
        obtain ⟨y_8, ey_8, hF⟩ := lt_some hF
        have hP : va_P (dC, dI) vwCl (wd_X12_laysRuns cI a0 v0_2 v0_3 v0_5 v0_12 v0_13 y_4 t1 v0_21 v0_23 v0_24 v0_25 v0_26 v0_29 v0_30 v0_0 v0_6 v0_7 v0_8 v0_9 v0_10 v0_11 y_8 v0_15) H := by rw [ey_8]; exact hP
        have hD : va_D A (wd_X12_laysRuns cI a0 v0_2 v0_3 v0_5 v0_12 v0_13 y_4 t1 v0_21 v0_23 v0_24 v0_25 v0_26 v0_29 v0_30 v0_0 v0_6 v0_7 v0_8 v0_9 v0_10 v0_11 y_8 v0_15) := by rw [ey_8]; exact hD
        refine lv_aload_n hx hb dX12_laysRuns_285 rfl (lv_at hl 0 rfl) ?_
        refine va_get (D := (dC, dI)) (ci := 11) (v := .ref (a0 16)) (C := RX12) (T := TX12) (N := 31) hx hb hta uw_X12 hown hK hP 0 rfl rfl 15 (by decide) (hta _ mA800) (fun _ h9 => h9) rfl dX12_laysRuns_286 ?_
        refine lv_iconst (v := 0) hx hb dX12_laysRuns_289 (by decide) ?_
        refine lv_dup2_11 hx hb dX12_laysRuns_290 rfl rfl ?_
        obtain ⟨g_9, hF⟩ := gd_some hF
        refine va_iald hx hb hK hP 9 0 rfl rfl (vpi_in g_9) dX12_laysRuns_291 ?_
        refine lv_aload_n hx hb dX12_laysRuns_292 rfl (lv_at hl 0 rfl) ?_
        refine va_get (D := (dC, dI)) (ci := 11) (v := .ref (a0 16)) (C := RX12) (T := TX12) (N := 31) hx hb hta uw_X12 hown hK hP 0 rfl rfl 15 (by decide) (hta _ mA800) (fun _ h9 => h9) rfl dX12_laysRuns_293 ?_
        refine lv_aload_n hx hb dX12_laysRuns_296 rfl (lv_at hl 0 rfl) ?_
        refine va_get (D := (dC, dI)) (ci := 11) (v := .int y_4) (C := RX12) (T := TX12) (N := 31) hx hb hta uw_X12 hown hK hP 0 rfl rfl 16 (by decide) (hta _ mA924) (fun _ h9 => h9) rfl dX12_laysRuns_297 ?_
        obtain ⟨g_10, hF⟩ := gd_some hF
        refine va_iald hx hb hK hP 9 0 rfl rfl (vpi_in g_10) dX12_laysRuns_300 ?_
        refine lv_iadd hx hb dX12_laysRuns_301 ?_
        obtain ⟨y_11, ey_11, hF⟩ := lt_some hF
        refine lv_eqi ey_11 ?_
        obtain ⟨g_12, hF⟩ := gd_some hF
        refine va_iast hx hb hK hP hD hS 9 0 rfl rfl (vpi_in g_12) dX12_laysRuns_302 (fun H locs hP hD hS => ?_)
        obtain ⟨y_13, ey_13, hF⟩ := lt_some hF
        have hP : va_P (dC, dI) vwCl (wd_X12_laysRuns cI a0 v0_2 v0_3 v0_5 v0_12 v0_13 y_4 t1 v0_21 v0_23 v0_24 v0_25 v0_26 v0_29 v0_30 v0_0 v0_6 v0_7 v0_8 v0_9 v0_10 v0_11 y_8 y_13) H := by rw [ey_13]; exact hP
        have hD : va_D A (wd_X12_laysRuns cI a0 v0_2 v0_3 v0_5 v0_12 v0_13 y_4 t1 v0_21 v0_23 v0_24 v0_25 v0_26 v0_29 v0_30 v0_0 v0_6 v0_7 v0_8 v0_9 v0_10 v0_11 y_8 y_13) := by rw [ey_13]; exact hD
        obtain rfl := Option.some.inj hF
        exact W.vret hx hb hr (fun t ht hW => ⟨⟨(), rfl, trivial, by rw [ht]; exact hP, va_K.moved hW.alike hK, hD⟩, hS.F ht⟩) hS.2.2 dX12_laysRuns_303
  have j243 : ∀ (v0_12 : Int32) (v0_13 : Int32) (v0_16 : Int32) (v0_17 : Int32) (v0_6 : Nat → Int32) (v0_7 : Nat → Int32) (v0_8 : Nat → Int32) (v0_9 : Nat → Int32) (v0_10 : Nat → Int32) (v0_11 : Nat → Int32) (v0_14 : Nat → Int32) (v0_15 : Nat → Int32) (x4 : Int32), F_X12_laysRuns_j243 v0_12 v0_13 v0_16 v0_6 v0_7 v0_8 v0_9 v0_10 v0_11 v0_14 v0_15 x4 = some u → ∀ (H : Heap) (locs : List Loc) (ls : Array Slot), va_P (dC, dI) vwCl (wd_X12_laysRuns cI a0 v0_2 v0_3 v0_5 v0_12 v0_13 v0_16 v0_17 v0_21 v0_23 v0_24 v0_25 v0_26 v0_29 v0_30 v0_0 v0_6 v0_7 v0_8 v0_9 v0_10 v0_11 v0_14 v0_15) H → va_D A (wd_X12_laysRuns cI a0 v0_2 v0_3 v0_5 v0_12 v0_13 v0_16 v0_17 v0_21 v0_23 v0_24 v0_25 v0_26 v0_29 v0_30 v0_0 v0_6 v0_7 v0_8 v0_9 v0_10 v0_11 v0_14 v0_15) → va_S A s.heap H locs → lv_has ls 6 [(0, .ref (a0 0)), (4, .int x4)] → W p l e (headSpec wz_X12_laysRuns rm_X12_laysRuns).room s m [.ref (a0 0), .int p1].toArray below meth c H locs 0 0 (MQ below (Q_X12_laysRuns dC dI cI a0 v0_2 v0_3 v0_5 v0_21 v0_23 v0_24 v0_25 v0_26 v0_29 v0_30 v0_0 u A) [.ref (a0 0), .int p1].toArray s 0 0 A) (F0 m 243 ls [.ref (a0 0)]) := by
    intro v0_12 v0_13 v0_16 v0_17 v0_6 v0_7 v0_8 v0_9 v0_10 v0_11 v0_14 v0_15 x4 hF H locs ls hP hD hS hl
    unfold F_X12_laysRuns_j243 at hF
    refine lv_iconst (v := 0) hx hb dX12_laysRuns_243 (by decide) ?_
    exact j244 v0_12 v0_13 v0_16 v0_17 v0_6 v0_7 v0_8 v0_9 v0_10 v0_11 v0_14 v0_15 x4 0 hF _ _ _ hP hD hS (lv_sub hl [0, 1] rfl)
  have j223 : ∀ (v0_12 : Int32) (v0_13 : Int32) (v0_16 : Int32) (v0_17 : Int32) (v0_6 : Nat → Int32) (v0_7 : Nat → Int32) (v0_8 : Nat → Int32) (v0_9 : Nat → Int32) (v0_10 : Nat → Int32) (v0_11 : Nat → Int32) (v0_14 : Nat → Int32) (v0_15 : Nat → Int32) (t0 : Int32), F_X12_laysRuns_j223 v0_12 v0_13 v0_16 v0_6 v0_7 v0_8 v0_9 v0_10 v0_11 v0_14 v0_15 t0 = some u → ∀ (H : Heap) (locs : List Loc) (ls : Array Slot), va_P (dC, dI) vwCl (wd_X12_laysRuns cI a0 v0_2 v0_3 v0_5 v0_12 v0_13 v0_16 v0_17 v0_21 v0_23 v0_24 v0_25 v0_26 v0_29 v0_30 v0_0 v0_6 v0_7 v0_8 v0_9 v0_10 v0_11 v0_14 v0_15) H → va_D A (wd_X12_laysRuns cI a0 v0_2 v0_3 v0_5 v0_12 v0_13 v0_16 v0_17 v0_21 v0_23 v0_24 v0_25 v0_26 v0_29 v0_30 v0_0 v0_6 v0_7 v0_8 v0_9 v0_10 v0_11 v0_14 v0_15) → va_S A s.heap H locs → lv_has ls 6 [(0, .ref (a0 0))] → W p l e (headSpec wz_X12_laysRuns rm_X12_laysRuns).room s m [.ref (a0 0), .int p1].toArray below meth c H locs 0 0 (MQ below (Q_X12_laysRuns dC dI cI a0 v0_2 v0_3 v0_5 v0_21 v0_23 v0_24 v0_25 v0_26 v0_29 v0_30 v0_0 u A) [.ref (a0 0), .int p1].toArray s 0 0 A) (F0 m 223 ls [.int t0]) := by
    intro v0_12 v0_13 v0_16 v0_17 v0_6 v0_7 v0_8 v0_9 v0_10 v0_11 v0_14 v0_15 t0 hF H locs ls hP hD hS hl
    unfold F_X12_laysRuns_j223 at hF
    refine lv_istore (lv' := [(4, .int t0), (0, .ref (a0 0))]) hx hb dX12_laysRuns_223 hl (by decide) rfl (fun ls hl => ?_)
    refine lv_aload_n hx hb dX12_laysRuns_225 rfl (lv_at hl 1 rfl) ?_
    refine lv_iload hx hb dX12_laysRuns_226 (lv_at hl 0 rfl) ?_
    refine lv_if_eq (tgt := 243) hx hb dX12_laysRuns_228 (by decide) (fun c_14 => ?_) (fun c_14 => ?_)
    · have hF := it_t hF c_14
      exact j243 v0_12 v0_13 v0_16 v0_17 v0_6 v0_7 v0_8 v0_9 v0_10 v0_11 v0_14 v0_15 t0 hF _ _ _ hP hD hS (lv_sub hl [1, 0] rfl)
    · have hF := it_f hF c_14
      refine lv_aload_n hx hb dX12_laysRuns_231 rfl (lv_at hl 1 rfl) ?_
      refine va_get (D := (dC, dI)) (ci := 11) (v := .int v0_16) (C := RX12) (T := TX12) (N := 31) hx hb hta uw_X12 hown hK hP 0 rfl rfl 16 (by decide) (hta _ mA924) (fun _ h9 => h9) rfl dX12_laysRuns_232 ?_
      refine lv_iconst (v := 1) hx hb dX12_laysRuns_235 (by decide) ?_
      refine lv_icmp_ne (tgt := 243) hx hb dX12_laysRuns_236 (by decide) (fun c_15 => ?_) (fun c_15 => ?_)
      · have hF := it_f hF c_15
        exact j243 v0_12 v0_13 v0_16 v0_17 v0_6 v0_7 v0_8 v0_9 v0_10 v0_11 v0_14 v0_15 t0 hF _ _ _ hP hD hS (lv_sub hl [1, 0] rfl)
      · have hF := it_t hF c_15
        refine lv_iconst (v := 1) hx hb dX12_laysRuns_239 (by decide) ?_
        refine lv_goto (tgt := 244) hx hb dX12_laysRuns_240 (by decide) ?_
        exact j244 v0_12 v0_13 v0_16 v0_17 v0_6 v0_7 v0_8 v0_9 v0_10 v0_11 v0_14 v0_15 t0 1 hF _ _ _ hP hD hS (lv_sub hl [1, 0] rfl)
  have j222 : ∀ (v0_12 : Int32) (v0_13 : Int32) (v0_16 : Int32) (v0_17 : Int32) (v0_6 : Nat → Int32) (v0_7 : Nat → Int32) (v0_8 : Nat → Int32) (v0_9 : Nat → Int32) (v0_10 : Nat → Int32) (v0_11 : Nat → Int32) (v0_14 : Nat → Int32) (v0_15 : Nat → Int32), F_X12_laysRuns_j222 v0_12 v0_13 v0_16 v0_6 v0_7 v0_8 v0_9 v0_10 v0_11 v0_14 v0_15 = some u → ∀ (H : Heap) (locs : List Loc) (ls : Array Slot), va_P (dC, dI) vwCl (wd_X12_laysRuns cI a0 v0_2 v0_3 v0_5 v0_12 v0_13 v0_16 v0_17 v0_21 v0_23 v0_24 v0_25 v0_26 v0_29 v0_30 v0_0 v0_6 v0_7 v0_8 v0_9 v0_10 v0_11 v0_14 v0_15) H → va_D A (wd_X12_laysRuns cI a0 v0_2 v0_3 v0_5 v0_12 v0_13 v0_16 v0_17 v0_21 v0_23 v0_24 v0_25 v0_26 v0_29 v0_30 v0_0 v0_6 v0_7 v0_8 v0_9 v0_10 v0_11 v0_14 v0_15) → va_S A s.heap H locs → lv_has ls 6 [(0, .ref (a0 0))] → W p l e (headSpec wz_X12_laysRuns rm_X12_laysRuns).room s m [.ref (a0 0), .int p1].toArray below meth c H locs 0 0 (MQ below (Q_X12_laysRuns dC dI cI a0 v0_2 v0_3 v0_5 v0_21 v0_23 v0_24 v0_25 v0_26 v0_29 v0_30 v0_0 u A) [.ref (a0 0), .int p1].toArray s 0 0 A) (F0 m 222 ls []) := by
    intro v0_12 v0_13 v0_16 v0_17 v0_6 v0_7 v0_8 v0_9 v0_10 v0_11 v0_14 v0_15 hF H locs ls hP hD hS hl
    unfold F_X12_laysRuns_j222 at hF
    refine lv_iconst (v := 0) hx hb dX12_laysRuns_222 (by decide) ?_
    exact j223 v0_12 v0_13 v0_16 v0_17 v0_6 v0_7 v0_8 v0_9 v0_10 v0_11 v0_14 v0_15 0 hF _ _ _ hP hD hS (lv_sub hl [0] rfl)
  have j164 : ∀ (v0_12 : Int32) (v0_13 : Int32) (v0_16 : Int32) (v0_17 : Int32) (v0_6 : Nat → Int32) (v0_7 : Nat → Int32) (v0_8 : Nat → Int32) (v0_9 : Nat → Int32) (v0_10 : Nat → Int32) (v0_11 : Nat → Int32) (v0_14 : Nat → Int32) (v0_15 : Nat → Int32) (x1 : Int32), F_X12_laysRuns_j164 v0_12 v0_13 v0_16 v0_0 v0_6 v0_7 v0_8 v0_9 v0_10 v0_11 v0_14 v0_15 x1 = some u → ∀ (H : Heap) (locs : List Loc) (ls : Array Slot), va_P (dC, dI) vwCl (wd_X12_laysRuns cI a0 v0_2 v0_3 v0_5 v0_12 v0_13 v0_16 v0_17 v0_21 v0_23 v0_24 v0_25 v0_26 v0_29 v0_30 v0_0 v0_6 v0_7 v0_8 v0_9 v0_10 v0_11 v0_14 v0_15) H → va_D A (wd_X12_laysRuns cI a0 v0_2 v0_3 v0_5 v0_12 v0_13 v0_16 v0_17 v0_21 v0_23 v0_24 v0_25 v0_26 v0_29 v0_30 v0_0 v0_6 v0_7 v0_8 v0_9 v0_10 v0_11 v0_14 v0_15) → va_S A s.heap H locs → lv_has ls 6 [(0, .ref (a0 0)), (1, .int x1)] → W p l e (headSpec wz_X12_laysRuns rm_X12_laysRuns).room s m [.ref (a0 0), .int p1].toArray below meth c H locs 0 0 (MQ below (Q_X12_laysRuns dC dI cI a0 v0_2 v0_3 v0_5 v0_21 v0_23 v0_24 v0_25 v0_26 v0_29 v0_30 v0_0 u A) [.ref (a0 0), .int p1].toArray s 0 0 A) (F0 m 164 ls []) := by
    intro v0_12 v0_13 v0_16 v0_17 v0_6 v0_7 v0_8 v0_9 v0_10 v0_11 v0_14 v0_15 x1 hF H locs ls hP hD hS hl
    unfold F_X12_laysRuns_j164 at hF
    refine lv_aload_n hx hb dX12_laysRuns_164 rfl (lv_at hl 0 rfl) ?_
    refine lv_iload_n hx hb dX12_laysRuns_165 rfl (lv_at hl 1 rfl) ?_
    obtain ⟨u_16, hu_16, hF⟩ := obd_some hF
    have hPc := hP.sub (ws' := (wd_X12_isClosed cI a0 v0_2 v0_3 v0_5 v0_12 v0_13 v0_16 v0_17 v0_21 v0_23 v0_24 v0_25 v0_26 v0_29 v0_30 v0_0)) [0, 1] rfl
    have hDc := hD.sub (ws' := (wd_X12_isClosed cI a0 v0_2 v0_3 v0_5 v0_12 v0_13 v0_16 v0_17 v0_21 v0_23 v0_24 v0_25 v0_26 v0_29 v0_30 v0_0)) [0, 1] rfl rfl
    refine q_callz (wc := (wd_X12_isClosed cI a0 v0_2 v0_3 v0_5 v0_12 v0_13 v0_16 v0_17 v0_21 v0_23 v0_24 v0_25 v0_26 v0_29 v0_30 v0_0)) (w1 := (wd_X12_isClosed cI a0 v0_2 v0_3 v0_5 v0_12 v0_13 v0_16 v0_17 v0_21 v0_23 v0_24 v0_25 v0_26 v0_29 v0_30 v0_0)) (ws' := (wd_X12_laysRuns cI a0 v0_2 v0_3 v0_5 v0_12 v0_13 v0_16 v0_17 v0_21 v0_23 v0_24 v0_25 v0_26 v0_29 v0_30 v0_0 v0_6 v0_7 v0_8 v0_9 v0_10 v0_11 v0_14 v0_15)) hP hD hS hA [0, 1] [2, 3, 4, 5, 6, 7, 8, 9] [8, 9, 0, 1, 2, 3, 4, 5, 6, 7] rfl rfl rfl (by decide) rfl rfl (va_runV (As := [.int x1]) (rest := []) ⟨hx, hb, hml, hown, hta⟩ (c_X12_isClosed l dC dI cI H.size a0 v0_2 v0_3 v0_5 v0_12 v0_13 v0_16 v0_17 v0_21 v0_23 v0_24 v0_25 v0_26 v0_29 v0_30 v0_0 x1 u_16 hu_16) (cwV 1 hta (ga_V mA852 mA853 mA854 mA814 mA830) rfl rfl rfl (by decide +kernel) ⟨Nat.le_of_ble_eq_true rfl, Nat.le_of_ble_eq_true rfl⟩) ⟨q_fb, va_recv hK hP (ci := 11) (q0 := 0) rfl rfl, q_ps hPc hK hDc⟩ rfl rfl hl.1 rfl (lv_room (Nat.le_of_ble_eq_true rfl)) dX12_laysRuns_166 ⟨Nat.zero_le _, Nat.zero_le _⟩) (fun hzu_16 H locs hP hD hS => ?_)
    refine lv_if_eq (tgt := 222) hx hb dX12_laysRuns_169 (by decide) (fun c_17 => ?_) (fun c_17 => ?_)
    · have hF := it_t hF c_17
      exact j222 v0_12 v0_13 v0_16 v0_17 v0_6 v0_7 v0_8 v0_9 v0_10 v0_11 v0_14 v0_15 hF _ _ _ hP hD hS (lv_sub hl [0] rfl)
    · have hF := it_f hF c_17
      refine lv_aload_n hx hb dX12_laysRuns_172 rfl (lv_at hl 0 rfl) ?_
      refine va_get (D := (dC, dI)) (ci := 11) (v := .int v0_16) (C := RX12) (T := TX12) (N := 31) hx hb hta uw_X12 hown hK hP 0 rfl rfl 16 (by decide) (hta _ mA924) (fun _ h9 => h9) rfl dX12_laysRuns_173 ?_
      refine lv_if_le (tgt := 222) hx hb dX12_laysRuns_176 (by decide) (fun c_18 => ?_) (fun c_18 => ?_)
      · have hF := it_t hF c_18
        exact j222 v0_12 v0_13 v0_16 v0_17 v0_6 v0_7 v0_8 v0_9 v0_10 v0_11 v0_14 v0_15 hF _ _ _ hP hD hS (lv_sub hl [0] rfl)
      · have hF := it_f hF c_18
        refine lv_aload_n hx hb dX12_laysRuns_179 rfl (lv_at hl 0 rfl) ?_
        refine va_get (D := (dC, dI)) (ci := 11) (v := .ref (a0 15)) (C := RX12) (T := TX12) (N := 31) hx hb hta uw_X12 hown hK hP 0 rfl rfl 14 (by decide) (hta _ mA799) (fun _ h9 => h9) rfl dX12_laysRuns_180 ?_
        refine lv_iconst (v := 0) hx hb dX12_laysRuns_183 (by decide) ?_
        obtain ⟨g_19, hF⟩ := gd_some hF
        refine va_iald hx hb hK hP 8 0 rfl rfl (vpi_in g_19) dX12_laysRuns_184 ?_
        refine lv_if_ne (tgt := 222) hx hb dX12_laysRuns_185 (by decide) (fun c_20 => ?_) (fun c_20 => ?_)
        · have hF := it_f hF c_20
          exact j222 v0_12 v0_13 v0_16 v0_17 v0_6 v0_7 v0_8 v0_9 v0_10 v0_11 v0_14 v0_15 hF _ _ _ hP hD hS (lv_sub hl [0] rfl)
        · have hF := it_t hF c_20
          refine lv_aload_n hx hb dX12_laysRuns_188 rfl (lv_at hl 0 rfl) ?_
          refine va_get (D := (dC, dI)) (ci := 11) (v := .ref (a0 15)) (C := RX12) (T := TX12) (N := 31) hx hb hta uw_X12 hown hK hP 0 rfl rfl 14 (by decide) (hta _ mA799) (fun _ h9 => h9) rfl dX12_laysRuns_189 ?_
          refine lv_aload_n hx hb dX12_laysRuns_192 rfl (lv_at hl 0 rfl) ?_
          refine va_get (D := (dC, dI)) (ci := 11) (v := .int v0_16) (C := RX12) (T := TX12) (N := 31) hx hb hta uw_X12 hown hK hP 0 rfl rfl 16 (by decide) (hta _ mA924) (fun _ h9 => h9) rfl dX12_laysRuns_193 ?_
          refine lv_iconst (v := 1) hx hb dX12_laysRuns_196 (by decide) ?_
          refine lv_isub hx hb dX12_laysRuns_197 ?_
          obtain ⟨y_21, ey_21, hF⟩ := lt_some hF
          refine lv_eqi ey_21 ?_
          obtain ⟨g_22, hF⟩ := gd_some hF
          refine va_iald hx hb hK hP 8 0 rfl rfl (vpi_in g_22) dX12_laysRuns_198 ?_
          refine lv_aload_n hx hb dX12_laysRuns_199 rfl (lv_at hl 0 rfl) ?_
          refine va_get (D := (dC, dI)) (ci := 11) (v := .ref (a0 16)) (C := RX12) (T := TX12) (N := 31) hx hb hta uw_X12 hown hK hP 0 rfl rfl 15 (by decide) (hta _ mA800) (fun _ h9 => h9) rfl dX12_laysRuns_200 ?_
          refine lv_aload_n hx hb dX12_laysRuns_203 rfl (lv_at hl 0 rfl) ?_
          refine va_get (D := (dC, dI)) (ci := 11) (v := .int v0_16) (C := RX12) (T := TX12) (N := 31) hx hb hta uw_X12 hown hK hP 0 rfl rfl 16 (by decide) (hta _ mA924) (fun _ h9 => h9) rfl dX12_laysRuns_204 ?_
          refine lv_iconst (v := 1) hx hb dX12_laysRuns_207 (by decide) ?_
          refine lv_isub hx hb dX12_laysRuns_208 ?_
          obtain ⟨y_23, ey_23, hF⟩ := lt_some hF
          refine lv_eqi ey_23 ?_
          obtain ⟨g_24, hF⟩ := gd_some hF
          refine va_iald hx hb hK hP 9 0 rfl rfl (vpi_in g_24) dX12_laysRuns_209 ?_
          refine lv_iadd hx hb dX12_laysRuns_210 ?_
          refine lv_aload_n hx hb dX12_laysRuns_211 rfl (lv_at hl 0 rfl) ?_
          refine va_get (D := (dC, dI)) (ci := 11) (v := .int v0_13) (C := RX12) (T := TX12) (N := 31) hx hb hta uw_X12 hown hK hP 0 rfl rfl 13 (by decide) (hta _ mA868) (fun _ h9 => h9) rfl dX12_laysRuns_212 ?_
          refine lv_icmp_ne (tgt := 222) hx hb dX12_laysRuns_215 (by decide) (fun c_25 => ?_) (fun c_25 => ?_)
          · have hF := it_f hF c_25
            exact j222 v0_12 v0_13 v0_16 v0_17 v0_6 v0_7 v0_8 v0_9 v0_10 v0_11 v0_14 v0_15 hF _ _ _ hP hD hS (lv_sub hl [0] rfl)
          · have hF := it_t hF c_25
            refine lv_iconst (v := 1) hx hb dX12_laysRuns_218 (by decide) ?_
            refine lv_goto (tgt := 223) hx hb dX12_laysRuns_219 (by decide) ?_
            exact j223 v0_12 v0_13 v0_16 v0_17 v0_6 v0_7 v0_8 v0_9 v0_10 v0_11 v0_14 v0_15 1 hF _ _ _ hP hD hS (lv_sub hl [0] rfl)
  have j47 : ∀ (v0_12 : Int32) (v0_13 : Int32) (v0_16 : Int32) (v0_17 : Int32) (v0_6 : Nat → Int32) (v0_7 : Nat → Int32) (v0_8 : Nat → Int32) (v0_9 : Nat → Int32) (v0_10 : Nat → Int32) (v0_11 : Nat → Int32) (v0_14 : Nat → Int32) (v0_15 : Nat → Int32) (x1 : Int32) (x2 : Int32) (x3 : Int32), F_X12_laysRuns_j47 n v0_12 v0_13 v0_16 v0_0 v0_6 v0_7 v0_8 v0_9 v0_10 v0_11 v0_14 v0_15 x1 x2 x3 = some u → ∀ (H : Heap) (locs : List Loc) (ls : Array Slot), va_P (dC, dI) vwCl (wd_X12_laysRuns cI a0 v0_2 v0_3 v0_5 v0_12 v0_13 v0_16 v0_17 v0_21 v0_23 v0_24 v0_25 v0_26 v0_29 v0_30 v0_0 v0_6 v0_7 v0_8 v0_9 v0_10 v0_11 v0_14 v0_15) H → va_D A (wd_X12_laysRuns cI a0 v0_2 v0_3 v0_5 v0_12 v0_13 v0_16 v0_17 v0_21 v0_23 v0_24 v0_25 v0_26 v0_29 v0_30 v0_0 v0_6 v0_7 v0_8 v0_9 v0_10 v0_11 v0_14 v0_15) → va_S A s.heap H locs → lv_has ls 6 [(0, .ref (a0 0)), (1, .int x1), (2, .int x2), (3, .int x3)] → W p l e (headSpec wz_X12_laysRuns rm_X12_laysRuns).room s m [.ref (a0 0), .int p1].toArray below meth c H locs 0 0 (MQ below (Q_X12_laysRuns dC dI cI a0 v0_2 v0_3 v0_5 v0_21 v0_23 v0_24 v0_25 v0_26 v0_29 v0_30 v0_0 u A) [.ref (a0 0), .int p1].toArray s 0 0 A) (F0 m 47 ls []) := by
    intro v0_12 v0_13 v0_16 v0_17 v0_6 v0_7 v0_8 v0_9 v0_10 v0_11 v0_14 v0_15 x1 x2 x3 hF H locs ls hP hD hS hl
    unfold F_X12_laysRuns_j47 at hF
    obtain ⟨x_47, hL_47, hE_47⟩ := obd_some hF
    have kl_47 : ∀ (k : Nat) (s47 : Int32 × Int32 × (Nat → Int32) × (Nat → Int32)), lpq (F_X12_laysRuns_b47 n v0_13 v0_0 x2) k s47 = some x_47 → ∀ (H : Heap) (locs : List Loc) (ls : Array Slot), va_P (dC, dI) vwCl (wd_X12_laysRuns cI a0 v0_2 v0_3 v0_5 v0_12 v0_13 s47.2.1 v0_17 v0_21 v0_23 v0_24 v0_25 v0_26 v0_29 v0_30 v0_0 v0_6 v0_7 v0_8 v0_9 v0_10 v0_11 s47.2.2.1 s47.2.2.2) H → va_D A (wd_X12_laysRuns cI a0 v0_2 v0_3 v0_5 v0_12 v0_13 s47.2.1 v0_17 v0_21 v0_23 v0_24 v0_25 v0_26 v0_29 v0_30 v0_0 v0_6 v0_7 v0_8 v0_9 v0_10 v0_11 s47.2.2.1 s47.2.2.2) → va_S A s.heap H locs → lv_has ls 6 [(0, .ref (a0 0)), (1, .int x1), (2, .int x2), (3, .int s47.1)] → W p l e (headSpec wz_X12_laysRuns rm_X12_laysRuns).room s m [.ref (a0 0), .int p1].toArray below meth c H locs 0 0 (MQ below (Q_X12_laysRuns dC dI cI a0 v0_2 v0_3 v0_5 v0_21 v0_23 v0_24 v0_25 v0_26 v0_29 v0_30 v0_0 u A) [.ref (a0 0), .int p1].toArray s 0 0 A) (F0 m 47 ls []) := by
      intro k
      induction k with
      | zero => intro s47 h; exact absurd h lpq_zero
      | succ k ih_47 =>
        intro s47 h H locs ls hP hD hS hl
        obtain ⟨o_47, hF, hO_47⟩ := lpq_succ h
        unfold F_X12_laysRuns_b47 at hF
        have j156 : ∀ (v0_16 : Int32) (v0_14 : Nat → Int32) (v0_15 : Nat → Int32) (x3 : Int32) (x5 : Int32), F_X12_laysRuns_j156 v0_16 v0_14 v0_15 x3 x5 = some o_47 → ∀ (H : Heap) (locs : List Loc) (ls : Array Slot), va_P (dC, dI) vwCl (wd_X12_laysRuns cI a0 v0_2 v0_3 v0_5 v0_12 v0_13 v0_16 v0_17 v0_21 v0_23 v0_24 v0_25 v0_26 v0_29 v0_30 v0_0 v0_6 v0_7 v0_8 v0_9 v0_10 v0_11 v0_14 v0_15) H → va_D A (wd_X12_laysRuns cI a0 v0_2 v0_3 v0_5 v0_12 v0_13 v0_16 v0_17 v0_21 v0_23 v0_24 v0_25 v0_26 v0_29 v0_30 v0_0 v0_6 v0_7 v0_8 v0_9 v0_10 v0_11 v0_14 v0_15) → va_S A s.heap H locs → lv_has ls 6 [(0, .ref (a0 0)), (1, .int x1), (2, .int x2), (3, .int x3), (5, .int x5)] → W p l e (headSpec wz_X12_laysRuns rm_X12_laysRuns).room s m [.ref (a0 0), .int p1].toArray below meth c H locs 0 0 (MQ below (Q_X12_laysRuns dC dI cI a0 v0_2 v0_3 v0_5 v0_21 v0_23 v0_24 v0_25 v0_26 v0_29 v0_30 v0_0 u A) [.ref (a0 0), .int p1].toArray s 0 0 A) (F0 m 156 ls []) := by
          intro v0_16 v0_14 v0_15 x3 x5 hF H locs ls hP hD hS hl
          unfold F_X12_laysRuns_j156 at hF
          refine lv_iload_n hx hb dX12_laysRuns_156 rfl (lv_at hl 3 rfl) ?_
          refine lv_iload hx hb dX12_laysRuns_157 (lv_at hl 4 rfl) ?_
          refine lv_iadd hx hb dX12_laysRuns_159 ?_
          obtain ⟨y_26, ey_26, hF⟩ := lt_some hF
          refine lv_eqi ey_26 ?_
          refine lv_istore_n (lv' := [(3, .int y_26), (0, .ref (a0 0)), (1, .int x1), (2, .int x2), (5, .int x5)]) hx hb dX12_laysRuns_160 rfl hl (by decide) rfl (fun ls hl => ?_)
          refine lv_goto (tgt := 47) hx hb dX12_laysRuns_161 (by decide) ?_
          obtain rfl := Option.some.inj hF
          exact ih_47 _ hO_47 _ _ _ hP hD hS (lv_sub hl [1, 2, 3, 0] rfl)
        have j118 : ∀ (v0_16 : Int32) (v0_14 : Nat → Int32) (v0_15 : Nat → Int32) (x3 : Int32) (x4 : Int32) (t0 : Int32), F_X12_laysRuns_j118 v0_16 v0_14 v0_15 x3 x4 t0 = some o_47 → ∀ (H : Heap) (locs : List Loc) (ls : Array Slot), va_P (dC, dI) vwCl (wd_X12_laysRuns cI a0 v0_2 v0_3 v0_5 v0_12 v0_13 v0_16 v0_17 v0_21 v0_23 v0_24 v0_25 v0_26 v0_29 v0_30 v0_0 v0_6 v0_7 v0_8 v0_9 v0_10 v0_11 v0_14 v0_15) H → va_D A (wd_X12_laysRuns cI a0 v0_2 v0_3 v0_5 v0_12 v0_13 v0_16 v0_17 v0_21 v0_23 v0_24 v0_25 v0_26 v0_29 v0_30 v0_0 v0_6 v0_7 v0_8 v0_9 v0_10 v0_11 v0_14 v0_15) → va_S A s.heap H locs → lv_has ls 6 [(0, .ref (a0 0)), (1, .int x1), (2, .int x2), (3, .int x3), (4, .int x4)] → W p l e (headSpec wz_X12_laysRuns rm_X12_laysRuns).room s m [.ref (a0 0), .int p1].toArray below meth c H locs 0 0 (MQ below (Q_X12_laysRuns dC dI cI a0 v0_2 v0_3 v0_5 v0_21 v0_23 v0_24 v0_25 v0_26 v0_29 v0_30 v0_0 u A) [.ref (a0 0), .int p1].toArray s 0 0 A) (F0 m 118 ls [.int t0]) := by
          intro v0_16 v0_14 v0_15 x3 x4 t0 hF H locs ls hP hD hS hl
          unfold F_X12_laysRuns_j118 at hF
          refine lv_istore (lv' := [(5, .int t0), (0, .ref (a0 0)), (1, .int x1), (2, .int x2), (3, .int x3), (4, .int x4)]) hx hb dX12_laysRuns_118 hl (by decide) rfl (fun ls hl => ?_)
          refine lv_iload hx hb dX12_laysRuns_120 (lv_at hl 5 rfl) ?_
          refine lv_if_le (tgt := 156) hx hb dX12_laysRuns_122 (by decide) (fun c_27 => ?_) (fun c_27 => ?_)
          · have hF := it_t hF c_27
            exact j156 v0_16 v0_14 v0_15 x3 t0 hF _ _ _ hP hD hS (lv_sub hl [1, 2, 3, 4, 0] rfl)
          · have hF := it_f hF c_27
            refine lv_aload_n hx hb dX12_laysRuns_125 rfl (lv_at hl 1 rfl) ?_
            refine va_get (D := (dC, dI)) (ci := 11) (v := .ref (a0 15)) (C := RX12) (T := TX12) (N := 31) hx hb hta uw_X12 hown hK hP 0 rfl rfl 14 (by decide) (hta _ mA799) (fun _ h9 => h9) rfl dX12_laysRuns_126 ?_
            refine lv_aload_n hx hb dX12_laysRuns_129 rfl (lv_at hl 1 rfl) ?_
            refine va_get (D := (dC, dI)) (ci := 11) (v := .int v0_16) (C := RX12) (T := TX12) (N := 31) hx hb hta uw_X12 hown hK hP 0 rfl rfl 16 (by decide) (hta _ mA924) (fun _ h9 => h9) rfl dX12_laysRuns_130 ?_
            refine lv_iload_n hx hb dX12_laysRuns_133 rfl (lv_at hl 4 rfl) ?_
            obtain ⟨g_28, hF⟩ := gd_some hF
            refine va_iast hx hb hK hP hD hS 8 0 rfl rfl (vpi_in g_28) dX12_laysRuns_134 (fun H locs hP hD hS => ?_)
            obtain ⟨y_29, ey_29, hF⟩ := lt_some hF
            have hP : va_P (dC, dI) vwCl (wd_X12_laysRuns cI a0 v0_2 v0_3 v0_5 v0_12 v0_13 v0_16 v0_17 v0_21 v0_23 v0_24 v0_25 v0_26 v0_29 v0_30 v0_0 v0_6 v0_7 v0_8 v0_9 v0_10 v0_11 y_29 v0_15) H := by rw [ey_29]; exact hP
            have hD : va_D A (wd_X12_laysRuns cI a0 v0_2 v0_3 v0_5 v0_12 v0_13 v0_16 v0_17 v0_21 v0_23 v0_24 v0_25 v0_26 v0_29 v0_30 v0_0 v0_6 v0_7 v0_8 v0_9 v0_10 v0_11 y_29 v0_15) := by rw [ey_29]; exact hD
            refine lv_aload_n hx hb dX12_laysRuns_135 rfl (lv_at hl 1 rfl) ?_
            refine va_get (D := (dC, dI)) (ci := 11) (v := .ref (a0 16)) (C := RX12) (T := TX12) (N := 31) hx hb hta uw_X12 hown hK hP 0 rfl rfl 15 (by decide) (hta _ mA800) (fun _ h9 => h9) rfl dX12_laysRuns_136 ?_
            refine lv_aload_n hx hb dX12_laysRuns_139 rfl (lv_at hl 1 rfl) ?_
            refine va_get (D := (dC, dI)) (ci := 11) (v := .int v0_16) (C := RX12) (T := TX12) (N := 31) hx hb hta uw_X12 hown hK hP 0 rfl rfl 16 (by decide) (hta _ mA924) (fun _ h9 => h9) rfl dX12_laysRuns_140 ?_
            refine lv_iload hx hb dX12_laysRuns_143 (lv_at hl 0 rfl) ?_
            obtain ⟨g_30, hF⟩ := gd_some hF
            refine va_iast hx hb hK hP hD hS 9 0 rfl rfl (vpi_in g_30) dX12_laysRuns_145 (fun H locs hP hD hS => ?_)
            obtain ⟨y_31, ey_31, hF⟩ := lt_some hF
            have hP : va_P (dC, dI) vwCl (wd_X12_laysRuns cI a0 v0_2 v0_3 v0_5 v0_12 v0_13 v0_16 v0_17 v0_21 v0_23 v0_24 v0_25 v0_26 v0_29 v0_30 v0_0 v0_6 v0_7 v0_8 v0_9 v0_10 v0_11 y_29 y_31) H := by rw [ey_31]; exact hP
            have hD : va_D A (wd_X12_laysRuns cI a0 v0_2 v0_3 v0_5 v0_12 v0_13 v0_16 v0_17 v0_21 v0_23 v0_24 v0_25 v0_26 v0_29 v0_30 v0_0 v0_6 v0_7 v0_8 v0_9 v0_10 v0_11 y_29 y_31) := by rw [ey_31]; exact hD
            refine lv_aload_n hx hb dX12_laysRuns_146 rfl (lv_at hl 1 rfl) ?_
            refine lv_dup hx hb dX12_laysRuns_147 rfl ?_
            refine va_get (D := (dC, dI)) (ci := 11) (v := .int v0_16) (C := RX12) (T := TX12) (N := 31) hx hb hta uw_X12 hown hK hP 0 rfl rfl 16 (by decide) (hta _ mA924) (fun _ h9 => h9) rfl dX12_laysRuns_148 ?_
            refine lv_iconst (v := 1) hx hb dX12_laysRuns_151 (by decide) ?_
            refine lv_iadd hx hb dX12_laysRuns_152 ?_
            obtain ⟨y_32, ey_32, hF⟩ := lt_some hF
            refine lv_eqi ey_32 ?_
            refine va_put (D := (dC, dI)) (ci := 11) (v := .int y_32) (ty := .int) (C := RX12) (T := TX12) (N := 31) hx hb hta uw_X12 tyX12 tyX12_ok nmX12 hown hK hP hD hS 0 rfl rfl 16 (by decide) (hta _ mA924) (fun _ h9 => h9) rfl (by decide +kernel) rfl rfl (Nat.le_of_ble_eq_true rfl) dX12_laysRuns_153 (fun H locs hP hD hS => ?_)
            have hP : va_P (dC, dI) vwCl (wd_X12_laysRuns cI a0 v0_2 v0_3 v0_5 v0_12 v0_13 y_32 v0_17 v0_21 v0_23 v0_24 v0_25 v0_26 v0_29 v0_30 v0_0 v0_6 v0_7 v0_8 v0_9 v0_10 v0_11 y_29 y_31) H := hP
            have hD : va_D A (wd_X12_laysRuns cI a0 v0_2 v0_3 v0_5 v0_12 v0_13 y_32 v0_17 v0_21 v0_23 v0_24 v0_25 v0_26 v0_29 v0_30 v0_0 v0_6 v0_7 v0_8 v0_9 v0_10 v0_11 y_29 y_31) := hD
            exact j156 y_32 y_29 y_31 x3 t0 hF _ _ _ hP hD hS (lv_sub hl [1, 2, 3, 4, 0] rfl)
        have j94 : ∀ (v0_16 : Int32) (v0_14 : Nat → Int32) (v0_15 : Nat → Int32) (x3 : Int32) (x4 : Int32) (t0 : Int32), F_X12_laysRuns_j94 v0_13 v0_16 v0_14 v0_15 x3 x4 t0 = some o_47 → ∀ (H : Heap) (locs : List Loc) (ls : Array Slot), va_P (dC, dI) vwCl (wd_X12_laysRuns cI a0 v0_2 v0_3 v0_5 v0_12 v0_13 v0_16 v0_17 v0_21 v0_23 v0_24 v0_25 v0_26 v0_29 v0_30 v0_0 v0_6 v0_7 v0_8 v0_9 v0_10 v0_11 v0_14 v0_15) H → va_D A (wd_X12_laysRuns cI a0 v0_2 v0_3 v0_5 v0_12 v0_13 v0_16 v0_17 v0_21 v0_23 v0_24 v0_25 v0_26 v0_29 v0_30 v0_0 v0_6 v0_7 v0_8 v0_9 v0_10 v0_11 v0_14 v0_15) → va_S A s.heap H locs → lv_has ls 6 [(0, .ref (a0 0)), (1, .int x1), (2, .int x2), (3, .int x3), (4, .int x4)] → W p l e (headSpec wz_X12_laysRuns rm_X12_laysRuns).room s m [.ref (a0 0), .int p1].toArray below meth c H locs 0 0 (MQ below (Q_X12_laysRuns dC dI cI a0 v0_2 v0_3 v0_5 v0_21 v0_23 v0_24 v0_25 v0_26 v0_29 v0_30 v0_0 u A) [.ref (a0 0), .int p1].toArray s 0 0 A) (F0 m 94 ls [.int t0]) := by
          intro v0_16 v0_14 v0_15 x3 x4 t0 hF H locs ls hP hD hS hl
          unfold F_X12_laysRuns_j94 at hF
          refine lv_istore (lv' := [(5, .int t0), (0, .ref (a0 0)), (1, .int x1), (2, .int x2), (3, .int x3), (4, .int x4)]) hx hb dX12_laysRuns_94 hl (by decide) rfl (fun ls hl => ?_)
          refine lv_iload hx hb dX12_laysRuns_96 (lv_at hl 0 rfl) ?_
          refine lv_aload_n hx hb dX12_laysRuns_98 rfl (lv_at hl 1 rfl) ?_
          refine va_get (D := (dC, dI)) (ci := 11) (v := .int v0_13) (C := RX12) (T := TX12) (N := 31) hx hb hta uw_X12 hown hK hP 0 rfl rfl 13 (by decide) (hta _ mA868) (fun _ h9 => h9) rfl dX12_laysRuns_99 ?_
          refine lv_iload_n hx hb dX12_laysRuns_102 rfl (lv_at hl 4 rfl) ?_
          refine lv_isub hx hb dX12_laysRuns_103 ?_
          refine lv_icmp_ge (tgt := 112) hx hb dX12_laysRuns_104 (by decide) (fun c_33 => ?_) (fun c_33 => ?_)
          · have hF := it_t hF c_33
            refine lv_aload_n hx hb dX12_laysRuns_112 rfl (lv_at hl 1 rfl) ?_
            refine va_get (D := (dC, dI)) (ci := 11) (v := .int v0_13) (C := RX12) (T := TX12) (N := 31) hx hb hta uw_X12 hown hK hP 0 rfl rfl 13 (by decide) (hta _ mA868) (fun _ h9 => h9) rfl dX12_laysRuns_113 ?_
            refine lv_iload_n hx hb dX12_laysRuns_116 rfl (lv_at hl 4 rfl) ?_
            refine lv_isub hx hb dX12_laysRuns_117 ?_
            exact j118 v0_16 v0_14 v0_15 x3 x4 (v0_13 - x3) hF _ _ _ hP hD hS (lv_sub hl [1, 2, 3, 4, 5] rfl)
          · have hF := it_f hF c_33
            refine lv_iload hx hb dX12_laysRuns_107 (lv_at hl 0 rfl) ?_
            refine lv_goto (tgt := 118) hx hb dX12_laysRuns_109 (by decide) ?_
            exact j118 v0_16 v0_14 v0_15 x3 x4 t0 hF _ _ _ hP hD hS (lv_sub hl [1, 2, 3, 4, 5] rfl)
        have j79 : ∀ (v0_16 : Int32) (v0_14 : Nat → Int32) (v0_15 : Nat → Int32) (x3 : Int32) (t0 : Int32), F_X12_laysRuns_j79 v0_13 v0_16 v0_14 v0_15 x3 t0 = some o_47 → ∀ (H : Heap) (locs : List Loc) (ls : Array Slot), va_P (dC, dI) vwCl (wd_X12_laysRuns cI a0 v0_2 v0_3 v0_5 v0_12 v0_13 v0_16 v0_17 v0_21 v0_23 v0_24 v0_25 v0_26 v0_29 v0_30 v0_0 v0_6 v0_7 v0_8 v0_9 v0_10 v0_11 v0_14 v0_15) H → va_D A (wd_X12_laysRuns cI a0 v0_2 v0_3 v0_5 v0_12 v0_13 v0_16 v0_17 v0_21 v0_23 v0_24 v0_25 v0_26 v0_29 v0_30 v0_0 v0_6 v0_7 v0_8 v0_9 v0_10 v0_11 v0_14 v0_15) → va_S A s.heap H locs → lv_has ls 6 [(0, .ref (a0 0)), (1, .int x1), (2, .int x2), (3, .int x3)] → W p l e (headSpec wz_X12_laysRuns rm_X12_laysRuns).room s m [.ref (a0 0), .int p1].toArray below meth c H locs 0 0 (MQ below (Q_X12_laysRuns dC dI cI a0 v0_2 v0_3 v0_5 v0_21 v0_23 v0_24 v0_25 v0_26 v0_29 v0_30 v0_0 u A) [.ref (a0 0), .int p1].toArray s 0 0 A) (F0 m 79 ls [.int t0]) := by
          intro v0_16 v0_14 v0_15 x3 t0 hF H locs ls hP hD hS hl
          unfold F_X12_laysRuns_j79 at hF
          refine lv_istore (lv' := [(4, .int t0), (0, .ref (a0 0)), (1, .int x1), (2, .int x2), (3, .int x3)]) hx hb dX12_laysRuns_79 hl (by decide) rfl (fun ls hl => ?_)
          refine lv_iload hx hb dX12_laysRuns_81 (lv_at hl 0 rfl) ?_
          refine lv_if_ge (tgt := 92) hx hb dX12_laysRuns_83 (by decide) (fun c_34 => ?_) (fun c_34 => ?_)
          · have hF := it_t hF c_34
            refine lv_iload hx hb dX12_laysRuns_92 (lv_at hl 0 rfl) ?_
            exact j94 v0_16 v0_14 v0_15 x3 t0 t0 hF _ _ _ hP hD hS (lv_sub hl [1, 2, 3, 4, 0] rfl)
          · have hF := it_f hF c_34
            refine lv_iload hx hb dX12_laysRuns_86 (lv_at hl 0 rfl) ?_
            refine lv_ineg hx hb dX12_laysRuns_88 ?_
            refine lv_goto (tgt := 94) hx hb dX12_laysRuns_89 (by decide) ?_
            exact j94 v0_16 v0_14 v0_15 x3 t0 (-t0) hF _ _ _ hP hD hS (lv_sub hl [1, 2, 3, 4, 0] rfl)
        refine lv_iload_n hx hb dX12_laysRuns_47 rfl (lv_at hl 3 rfl) ?_
        refine lv_aload_n hx hb dX12_laysRuns_48 rfl (lv_at hl 0 rfl) ?_
        refine va_get (D := (dC, dI)) (ci := 11) (v := .int v0_13) (C := RX12) (T := TX12) (N := 31) hx hb hta uw_X12 hown hK hP 0 rfl rfl 13 (by decide) (hta _ mA868) (fun _ h9 => h9) rfl dX12_laysRuns_49 ?_
        refine lv_icmp_ge (tgt := 164) hx hb dX12_laysRuns_52 (by decide) (fun c_35 => ?_) (fun c_35 => ?_)
        · have hF := it_t hF c_35
          obtain rfl := Option.some.inj hF
          obtain rfl := lpq_x hO_47
          have hF := hE_47
          exact j164 v0_12 v0_13 s47.2.1 v0_17 v0_6 v0_7 v0_8 v0_9 v0_10 v0_11 s47.2.2.1 s47.2.2.2 x1 hF _ _ _ hP hD hS (lv_sub hl [0, 1] rfl)
        · have hF := it_f hF c_35
          refine lv_aload_n hx hb dX12_laysRuns_55 rfl (lv_at hl 0 rfl) ?_
          refine va_get (D := (dC, dI)) (ci := 11) (v := .ref (a0 1)) (C := RX12) (T := TX12) (N := 31) hx hb hta uw_X12 hown hK hP 0 rfl rfl 0 (by decide) (hta _ mA790) (fun _ h9 => h9) rfl dX12_laysRuns_56 ?_
          refine lv_bipush (v := 6) hx hb dX12_laysRuns_59 (by decide) ?_
          obtain ⟨g_36, hF⟩ := gd_some hF
          refine va_iald hx hb hK hP 1 0 rfl rfl (vpi_in g_36) dX12_laysRuns_61 ?_
          refine lv_if_ne (tgt := 72) hx hb dX12_laysRuns_62 (by decide) (fun c_37 => ?_) (fun c_37 => ?_)
          · have hF := it_f hF c_37
            refine lv_aload_n hx hb dX12_laysRuns_72 rfl (lv_at hl 0 rfl) ?_
            refine lv_iload_n hx hb dX12_laysRuns_73 rfl (lv_at hl 2 rfl) ?_
            refine lv_iload_n hx hb dX12_laysRuns_74 rfl (lv_at hl 3 rfl) ?_
            refine lv_iadd hx hb dX12_laysRuns_75 ?_
            obtain ⟨u_38, hu_38, hF⟩ := obd_some hF
            have hPc := hP.sub (ws' := (wd_X12_stretch cI a0 v0_2 v0_3 v0_5 v0_12 v0_13 s47.2.1 v0_17 v0_21 v0_23 v0_24 v0_25 v0_26 v0_29 v0_30 v0_0)) [0, 1] rfl
            have hDc := hD.sub (ws' := (wd_X12_stretch cI a0 v0_2 v0_3 v0_5 v0_12 v0_13 s47.2.1 v0_17 v0_21 v0_23 v0_24 v0_25 v0_26 v0_29 v0_30 v0_0)) [0, 1] rfl rfl
            refine q_calli (wc := (wd_X12_stretch cI a0 v0_2 v0_3 v0_5 v0_12 v0_13 s47.2.1 v0_17 v0_21 v0_23 v0_24 v0_25 v0_26 v0_29 v0_30 v0_0)) (w1 := (wd_X12_stretch cI a0 v0_2 v0_3 v0_5 v0_12 v0_13 s47.2.1 v0_17 v0_21 v0_23 v0_24 v0_25 v0_26 v0_29 v0_30 v0_0)) (ws' := (wd_X12_laysRuns cI a0 v0_2 v0_3 v0_5 v0_12 v0_13 s47.2.1 v0_17 v0_21 v0_23 v0_24 v0_25 v0_26 v0_29 v0_30 v0_0 v0_6 v0_7 v0_8 v0_9 v0_10 v0_11 s47.2.2.1 s47.2.2.2)) hP hD hS hA [0, 1] [2, 3, 4, 5, 6, 7, 8, 9] [8, 9, 0, 1, 2, 3, 4, 5, 6, 7] rfl rfl rfl (by decide) rfl rfl (va_runV (As := [.int (x2 + s47.1)]) (rest := []) ⟨hx, hb, hml, hown, hta⟩ (c_X12_stretch l dC dI cI H.size a0 v0_2 v0_3 v0_5 v0_12 v0_13 s47.2.1 v0_17 v0_21 v0_23 v0_24 v0_25 v0_26 v0_29 v0_30 v0_0 (x2 + s47.1) n u_38 hu_38) (cwV 1 hta (ga_V mA929 mA930 mA931 mA814 mA921) rfl rfl rfl (by decide +kernel) ⟨Nat.le_of_ble_eq_true rfl, Nat.le_of_ble_eq_true rfl⟩) ⟨q_fb, va_recv hK hP (ci := 11) (q0 := 0) rfl rfl, q_ps hPc hK hDc⟩ rfl rfl hl.1 rfl (lv_room (Nat.le_of_ble_eq_true rfl)) dX12_laysRuns_76 ⟨Nat.zero_le _, Nat.zero_le _⟩) (fun H locs hP hD hS => ?_)
            exact j79 s47.2.1 s47.2.2.1 s47.2.2.2 s47.1 u_38 hF _ _ _ hP hD hS (lv_sub hl [0, 1, 2, 3] rfl)
          · have hF := it_t hF c_37
            refine lv_aload_n hx hb dX12_laysRuns_65 rfl (lv_at hl 0 rfl) ?_
            refine va_get (D := (dC, dI)) (ci := 11) (v := .int v0_13) (C := RX12) (T := TX12) (N := 31) hx hb hta uw_X12 hown hK hP 0 rfl rfl 13 (by decide) (hta _ mA868) (fun _ h9 => h9) rfl dX12_laysRuns_66 ?_
            refine lv_goto (tgt := 79) hx hb dX12_laysRuns_69 (by decide) ?_
            exact j79 s47.2.1 s47.2.2.1 s47.2.2.2 s47.1 v0_13 hF _ _ _ hP hD hS (lv_sub hl [0, 1, 2, 3] rfl)
    exact kl_47 n _ hL_47 _ _ _ hP hD hS hl
  have j28 : ∀ (v0_12 : Int32) (v0_13 : Int32) (v0_16 : Int32) (v0_17 : Int32) (v0_6 : Nat → Int32) (v0_7 : Nat → Int32) (v0_8 : Nat → Int32) (v0_9 : Nat → Int32) (v0_10 : Nat → Int32) (v0_11 : Nat → Int32) (v0_14 : Nat → Int32) (v0_15 : Nat → Int32) (x1 : Int32) (t0 : Int32) (t1 : Int32), F_X12_laysRuns_j28 n v0_0 v0_6 v0_7 v0_8 v0_9 v0_10 v0_11 v0_14 v0_15 x1 t0 t1 = some u → ∀ (H : Heap) (locs : List Loc) (ls : Array Slot), va_P (dC, dI) vwCl (wd_X12_laysRuns cI a0 v0_2 v0_3 v0_5 v0_12 v0_13 v0_16 v0_17 v0_21 v0_23 v0_24 v0_25 v0_26 v0_29 v0_30 v0_0 v0_6 v0_7 v0_8 v0_9 v0_10 v0_11 v0_14 v0_15) H → va_D A (wd_X12_laysRuns cI a0 v0_2 v0_3 v0_5 v0_12 v0_13 v0_16 v0_17 v0_21 v0_23 v0_24 v0_25 v0_26 v0_29 v0_30 v0_0 v0_6 v0_7 v0_8 v0_9 v0_10 v0_11 v0_14 v0_15) → va_S A s.heap H locs → lv_has ls 6 [(0, .ref (a0 0)), (1, .int x1)] → W p l e (headSpec wz_X12_laysRuns rm_X12_laysRuns).room s m [.ref (a0 0), .int p1].toArray below meth c H locs 0 0 (MQ below (Q_X12_laysRuns dC dI cI a0 v0_2 v0_3 v0_5 v0_21 v0_23 v0_24 v0_25 v0_26 v0_29 v0_30 v0_0 u A) [.ref (a0 0), .int p1].toArray s 0 0 A) (F0 m 28 ls [.int t1, .int t0]) := by
    intro v0_12 v0_13 v0_16 v0_17 v0_6 v0_7 v0_8 v0_9 v0_10 v0_11 v0_14 v0_15 x1 t0 t1 hF H locs ls hP hD hS hl
    unfold F_X12_laysRuns_j28 at hF
    refine lv_iadd hx hb dX12_laysRuns_28 ?_
    obtain ⟨y_39, ey_39, hF⟩ := lt_some hF
    refine lv_eqi ey_39 ?_
    refine lv_istore_n (lv' := [(2, .int y_39), (0, .ref (a0 0)), (1, .int x1)]) hx hb dX12_laysRuns_29 rfl hl (by decide) rfl (fun ls hl => ?_)
    refine lv_aload_n hx hb dX12_laysRuns_30 rfl (lv_at hl 1 rfl) ?_
    refine lv_iload_n hx hb dX12_laysRuns_31 rfl (lv_at hl 2 rfl) ?_
    obtain ⟨u_40, hu_40, hF⟩ := obd_some hF
    have hPc := hP.sub (ws' := (wd_X12_laysSegments cI a0 v0_2 v0_3 v0_5 v0_12 v0_13 v0_16 v0_17 v0_21 v0_23 v0_24 v0_25 v0_26 v0_29 v0_30 v0_0 v0_6 v0_7 v0_8 v0_9 v0_10 v0_11)) [0, 1, 2, 3, 4, 5, 6, 7] rfl
    have hDc := hD.sub (ws' := (wd_X12_laysSegments cI a0 v0_2 v0_3 v0_5 v0_12 v0_13 v0_16 v0_17 v0_21 v0_23 v0_24 v0_25 v0_26 v0_29 v0_30 v0_0 v0_6 v0_7 v0_8 v0_9 v0_10 v0_11)) [0, 1, 2, 3, 4, 5, 6, 7] rfl rfl
    refine q_callv (wc := (wd_X12_laysSegments cI a0 v0_2 v0_3 v0_5 v0_12 v0_13 v0_16 v0_17 v0_21 v0_23 v0_24 v0_25 v0_26 v0_29 v0_30 v0_0 v0_6 v0_7 v0_8 v0_9 v0_10 v0_11)) (w1 := (wd_X12_laysSegments cI a0 v0_2 v0_3 v0_5 u_40.1 u_40.2.1 v0_16 v0_17 v0_21 v0_23 v0_24 v0_25 v0_26 v0_29 v0_30 v0_0 u_40.2.2.1 u_40.2.2.2.1 u_40.2.2.2.2.1 u_40.2.2.2.2.2.1 u_40.2.2.2.2.2.2.1 u_40.2.2.2.2.2.2.2)) (ws' := (wd_X12_laysRuns cI a0 v0_2 v0_3 v0_5 u_40.1 u_40.2.1 v0_16 v0_17 v0_21 v0_23 v0_24 v0_25 v0_26 v0_29 v0_30 v0_0 u_40.2.2.1 u_40.2.2.2.1 u_40.2.2.2.2.1 u_40.2.2.2.2.2.1 u_40.2.2.2.2.2.2.1 u_40.2.2.2.2.2.2.2 v0_14 v0_15)) hP hD hS hA [0, 1, 2, 3, 4, 5, 6, 7] [8, 9] [2, 3, 4, 5, 6, 7, 8, 9, 0, 1] rfl rfl rfl (by decide) rfl rfl (va_runV (As := [.int x1]) (rest := []) ⟨hx, hb, hml, hown, hta⟩ (c_X12_laysSegments l dC dI cI H.size a0 v0_2 v0_3 v0_5 v0_12 v0_13 v0_16 v0_17 v0_21 v0_23 v0_24 v0_25 v0_26 v0_29 v0_30 v0_0 v0_6 v0_7 v0_8 v0_9 v0_10 v0_11 x1 n u_40 hu_40) (cwV 1 hta (ga_V mA864 mA865 mA866 mA814 mA867) rfl rfl rfl (by decide +kernel) ⟨Nat.le_of_ble_eq_true rfl, Nat.le_of_ble_eq_true rfl⟩) ⟨q_fb, va_recv hK hP (ci := 11) (q0 := 0) rfl rfl, q_ps hPc hK hDc⟩ rfl rfl hl.1 rfl (lv_room (Nat.le_of_ble_eq_true rfl)) dX12_laysRuns_32 ⟨Nat.zero_le _, Nat.zero_le _⟩) (fun H locs hP hD hS => ?_)
    refine lv_aload_n hx hb dX12_laysRuns_35 rfl (lv_at hl 1 rfl) ?_
    refine lv_iconst (v := 0) hx hb dX12_laysRuns_36 (by decide) ?_
    refine va_put (D := (dC, dI)) (ci := 11) (v := .int 0) (ty := .int) (C := RX12) (T := TX12) (N := 31) hx hb hta uw_X12 tyX12 tyX12_ok nmX12 hown hK hP hD hS 0 rfl rfl 16 (by decide) (hta _ mA924) (fun _ h9 => h9) rfl (by decide +kernel) rfl rfl (Nat.le_of_ble_eq_true rfl) dX12_laysRuns_37 (fun H locs hP hD hS => ?_)
    have hP : va_P (dC, dI) vwCl (wd_X12_laysRuns cI a0 v0_2 v0_3 v0_5 u_40.1 u_40.2.1 0 v0_17 v0_21 v0_23 v0_24 v0_25 v0_26 v0_29 v0_30 v0_0 u_40.2.2.1 u_40.2.2.2.1 u_40.2.2.2.2.1 u_40.2.2.2.2.2.1 u_40.2.2.2.2.2.2.1 u_40.2.2.2.2.2.2.2 v0_14 v0_15) H := hP
    have hD : va_D A (wd_X12_laysRuns cI a0 v0_2 v0_3 v0_5 u_40.1 u_40.2.1 0 v0_17 v0_21 v0_23 v0_24 v0_25 v0_26 v0_29 v0_30 v0_0 u_40.2.2.1 u_40.2.2.2.1 u_40.2.2.2.2.1 u_40.2.2.2.2.2.1 u_40.2.2.2.2.2.2.1 u_40.2.2.2.2.2.2.2 v0_14 v0_15) := hD
    refine lv_aload_n hx hb dX12_laysRuns_40 rfl (lv_at hl 1 rfl) ?_
    refine lv_iconst (v := 0) hx hb dX12_laysRuns_41 (by decide) ?_
    refine va_put (D := (dC, dI)) (ci := 11) (v := .int 0) (ty := .boolean) (C := RX12) (T := TX12) (N := 31) hx hb hta uw_X12 tyX12 tyX12_ok nmX12 hown hK hP hD hS 0 rfl rfl 17 (by decide) (hta _ mA925) (fun _ h9 => h9) rfl (by decide +kernel) (z_nar (Or.inl rfl)) (z_fit (Or.inl rfl)) (Nat.le_of_ble_eq_true rfl) dX12_laysRuns_42 (fun H locs hP hD hS => ?_)
    have hP : va_P (dC, dI) vwCl (wd_X12_laysRuns cI a0 v0_2 v0_3 v0_5 u_40.1 u_40.2.1 0 0 v0_21 v0_23 v0_24 v0_25 v0_26 v0_29 v0_30 v0_0 u_40.2.2.1 u_40.2.2.2.1 u_40.2.2.2.2.1 u_40.2.2.2.2.2.1 u_40.2.2.2.2.2.2.1 u_40.2.2.2.2.2.2.2 v0_14 v0_15) H := hP
    have hD : va_D A (wd_X12_laysRuns cI a0 v0_2 v0_3 v0_5 u_40.1 u_40.2.1 0 0 v0_21 v0_23 v0_24 v0_25 v0_26 v0_29 v0_30 v0_0 u_40.2.2.1 u_40.2.2.2.1 u_40.2.2.2.2.1 u_40.2.2.2.2.2.1 u_40.2.2.2.2.2.2.1 u_40.2.2.2.2.2.2.2 v0_14 v0_15) := hD
    refine lv_iconst (v := 0) hx hb dX12_laysRuns_45 (by decide) ?_
    refine lv_istore_n (lv' := [(3, .int 0), (2, .int y_39), (0, .ref (a0 0)), (1, .int x1)]) hx hb dX12_laysRuns_46 rfl hl (by decide) rfl (fun ls hl => ?_)
    exact j47 u_40.1 u_40.2.1 0 0 u_40.2.2.1 u_40.2.2.2.1 u_40.2.2.2.2.1 u_40.2.2.2.2.2.1 u_40.2.2.2.2.2.2.1 u_40.2.2.2.2.2.2.2 v0_14 v0_15 x1 y_39 0 hF _ _ _ hP hD hS (lv_sub hl [2, 3, 1, 0] rfl)
  refine lv_bipush (v := 64) hx hb dX12_laysRuns_0 (by decide) ?_
  refine lv_aload_n hx hb dX12_laysRuns_2 rfl (lv_at hl 0 rfl) ?_
  refine va_get (D := (dC, dI)) (ci := 11) (v := .ref (a0 1)) (C := RX12) (T := TX12) (N := 31) hx hb hta uw_X12 hown hK hP 0 rfl rfl 0 (by decide) (hta _ mA790) (fun _ h9 => h9) rfl dX12_laysRuns_3 ?_
  refine lv_iconst (v := 4) hx hb dX12_laysRuns_6 (by decide) ?_
  obtain ⟨g_41, hF⟩ := gd_some hF
  refine va_iald hx hb hK hP 1 0 rfl rfl (vpi_in g_41) dX12_laysRuns_7 ?_
  refine lv_imul hx hb dX12_laysRuns_8 ?_
  refine lv_aload_n hx hb dX12_laysRuns_9 rfl (lv_at hl 0 rfl) ?_
  refine va_get (D := (dC, dI)) (ci := 11) (v := .ref (a0 1)) (C := RX12) (T := TX12) (N := 31) hx hb hta uw_X12 hown hK hP 0 rfl rfl 0 (by decide) (hta _ mA790) (fun _ h9 => h9) rfl dX12_laysRuns_10 ?_
  refine lv_iconst (v := 5) hx hb dX12_laysRuns_13 (by decide) ?_
  obtain ⟨g_42, hF⟩ := gd_some hF
  refine va_iald hx hb hK hP 1 0 rfl rfl (vpi_in g_42) dX12_laysRuns_14 ?_
  refine lv_iconst (v := 1) hx hb dX12_laysRuns_15 (by decide) ?_
  refine lv_icmp_ne (tgt := 27) hx hb dX12_laysRuns_16 (by decide) (fun c_43 => ?_) (fun c_43 => ?_)
  · have hF := it_f hF c_43
    refine lv_iconst (v := 0) hx hb dX12_laysRuns_27 (by decide) ?_
    exact j28 v0_12 v0_13 v0_16 v0_17 v0_6 v0_7 v0_8 v0_9 v0_10 v0_11 v0_14 v0_15 p1 (64 * (v0_0 (4 : Int32).toNatClampNeg)) 0 hF _ _ _ hP hD hS (lv_sub hl [0, 1] rfl)
  · have hF := it_t hF c_43
    refine lv_aload_n hx hb dX12_laysRuns_19 rfl (lv_at hl 0 rfl) ?_
    refine lv_iload_n hx hb dX12_laysRuns_20 rfl (lv_at hl 1 rfl) ?_
    obtain ⟨u_44, hu_44, hF⟩ := obd_some hF
    have hPc := hP.sub (ws' := (wd_X12_ahead cI a0 v0_2 v0_3 v0_5 v0_12 v0_13 v0_16 v0_17 v0_21 v0_23 v0_24 v0_25 v0_26 v0_29 v0_30 v0_0 v0_6 v0_7 v0_8 v0_9 v0_10 v0_11)) [0, 1, 2, 3, 4, 5, 6, 7] rfl
    have hDc := hD.sub (ws' := (wd_X12_ahead cI a0 v0_2 v0_3 v0_5 v0_12 v0_13 v0_16 v0_17 v0_21 v0_23 v0_24 v0_25 v0_26 v0_29 v0_30 v0_0 v0_6 v0_7 v0_8 v0_9 v0_10 v0_11)) [0, 1, 2, 3, 4, 5, 6, 7] rfl rfl
    refine q_calli (wc := (wd_X12_ahead cI a0 v0_2 v0_3 v0_5 v0_12 v0_13 v0_16 v0_17 v0_21 v0_23 v0_24 v0_25 v0_26 v0_29 v0_30 v0_0 v0_6 v0_7 v0_8 v0_9 v0_10 v0_11)) (w1 := (wd_X12_ahead cI a0 v0_2 v0_3 v0_5 u_44.2.1 u_44.2.2.1 v0_16 v0_17 v0_21 v0_23 v0_24 v0_25 v0_26 v0_29 v0_30 v0_0 u_44.2.2.2.1 u_44.2.2.2.2.1 u_44.2.2.2.2.2.1 u_44.2.2.2.2.2.2.1 u_44.2.2.2.2.2.2.2.1 u_44.2.2.2.2.2.2.2.2)) (ws' := (wd_X12_laysRuns cI a0 v0_2 v0_3 v0_5 u_44.2.1 u_44.2.2.1 v0_16 v0_17 v0_21 v0_23 v0_24 v0_25 v0_26 v0_29 v0_30 v0_0 u_44.2.2.2.1 u_44.2.2.2.2.1 u_44.2.2.2.2.2.1 u_44.2.2.2.2.2.2.1 u_44.2.2.2.2.2.2.2.1 u_44.2.2.2.2.2.2.2.2 v0_14 v0_15)) hP hD hS hA [0, 1, 2, 3, 4, 5, 6, 7] [8, 9] [2, 3, 4, 5, 6, 7, 8, 9, 0, 1] rfl rfl rfl (by decide) rfl rfl (va_runV (As := [.int p1]) (rest := [.int (64 * (v0_0 (4 : Int32).toNatClampNeg))]) ⟨hx, hb, hml, hown, hta⟩ (c_X12_ahead l dC dI cI H.size a0 v0_2 v0_3 v0_5 v0_12 v0_13 v0_16 v0_17 v0_21 v0_23 v0_24 v0_25 v0_26 v0_29 v0_30 v0_0 v0_6 v0_7 v0_8 v0_9 v0_10 v0_11 p1 n u_44 hu_44) (cwV 1 hta (ga_V mA926 mA927 mA928 mA814 mA922) rfl rfl rfl (by decide +kernel) ⟨Nat.le_of_ble_eq_true rfl, Nat.le_of_ble_eq_true rfl⟩) ⟨q_fb, va_recv hK hP (ci := 11) (q0 := 0) rfl rfl, q_ps hPc hK hDc⟩ rfl rfl hl.1 rfl (lv_room (Nat.le_of_ble_eq_true rfl)) dX12_laysRuns_21 ⟨Nat.zero_le _, Nat.zero_le _⟩) (fun H locs hP hD hS => ?_)
    refine lv_goto (tgt := 28) hx hb dX12_laysRuns_24 (by decide) ?_
    exact j28 u_44.2.1 u_44.2.2.1 v0_16 v0_17 u_44.2.2.2.1 u_44.2.2.2.2.1 u_44.2.2.2.2.2.1 u_44.2.2.2.2.2.2.1 u_44.2.2.2.2.2.2.2.1 u_44.2.2.2.2.2.2.2.2 v0_14 v0_15 p1 (64 * (v0_0 (4 : Int32).toNatClampNeg)) u_44.1 hF _ _ _ hP hD hS (lv_sub hl [0, 1] rfl)

-- StrokeOutlinerModel.cutsFrom(II)V
def F_X12_cutsFrom_j119 (v0_21 : Int32) (v0_18 : Nat → Int32) (v0_19 : Nat → Int32) (v0_20 : Nat → Int32) (x3 : Int32) : Option (Sum (Int32 × Int32 × (Nat → Int32) × (Nat → Int32) × (Nat → Int32)) (Int32 × (Nat → Int32) × (Nat → Int32) × (Nat → Int32))) :=
  lt (x3 + 1) (fun y_1 => some (.inl (y_1, v0_21, v0_18, v0_19, v0_20)))
def F_X12_cutsFrom_j68 (v0_21 : Int32) (v0_18 : Nat → Int32) (v0_19 : Nat → Int32) (v0_20 : Nat → Int32) (x3 : Int32) (x4 : Int32) (t0 : Int32) : Option (Sum (Int32 × Int32 × (Nat → Int32) × (Nat → Int32) × (Nat → Int32)) (Int32 × (Nat → Int32) × (Nat → Int32) × (Nat → Int32))) :=
  if t0 ≤ x4 then F_X12_cutsFrom_j119 v0_21 v0_18 v0_19 v0_20 x3 else gd (decide (vpi v0_21 20)) (lt (upd v0_18 v0_21.toNatClampNeg x3) (fun y_4 => gd (decide (vpi v0_21 20)) (lt (upd v0_19 v0_21.toNatClampNeg x4) (fun y_6 => gd (decide (vpi v0_21 20)) (lt (upd v0_20 v0_21.toNatClampNeg t0) (fun y_8 => lt (v0_21 + 1) (fun y_9 => F_X12_cutsFrom_j119 y_9 y_4 y_6 y_8 x3)))))))
def F_X12_cutsFrom_j32 (v0_21 : Int32) (v0_10 : Nat → Int32) (v0_11 : Nat → Int32) (v0_18 : Nat → Int32) (v0_19 : Nat → Int32) (v0_20 : Nat → Int32) (x2 : Int32) (x3 : Int32) (t0 : Int32) : Option (Sum (Int32 × Int32 × (Nat → Int32) × (Nat → Int32) × (Nat → Int32)) (Int32 × (Nat → Int32) × (Nat → Int32) × (Nat → Int32))) :=
  gd (decide (vpi x3 8)) (gd (decide (vpi x3 8)) (if ((v0_11 x3.toNatClampNeg) + (v0_10 x3.toNatClampNeg)) ≤ x2 then gd (decide (vpi x3 8)) (F_X12_cutsFrom_j68 v0_21 v0_18 v0_19 v0_20 x3 t0 (v0_10 x3.toNatClampNeg)) else gd (decide (vpi x3 8)) (F_X12_cutsFrom_j68 v0_21 v0_18 v0_19 v0_20 x3 t0 (x2 - (v0_11 x3.toNatClampNeg)))))
def F_X12_cutsFrom_b2 (v0_12 : Int32) (v0_10 : Nat → Int32) (v0_11 : Nat → Int32) (x1 : Int32) (x2 : Int32) (s2 : Int32 × Int32 × (Nat → Int32) × (Nat → Int32) × (Nat → Int32)) : Option (Sum (Int32 × Int32 × (Nat → Int32) × (Nat → Int32) × (Nat → Int32)) (Int32 × (Nat → Int32) × (Nat → Int32) × (Nat → Int32))) :=
  if v0_12 ≤ s2.1 then some (.inr (s2.2.1, s2.2.2.1, s2.2.2.2.1, s2.2.2.2.2)) else gd (decide (vpi s2.1 8)) (if x1 ≤ (v0_11 s2.1.toNatClampNeg) then F_X12_cutsFrom_j32 s2.2.1 v0_10 v0_11 s2.2.2.1 s2.2.2.2.1 s2.2.2.2.2 x2 s2.1 0 else gd (decide (vpi s2.1 8)) (F_X12_cutsFrom_j32 s2.2.1 v0_10 v0_11 s2.2.2.1 s2.2.2.2.1 s2.2.2.2.2 x2 s2.1 (x1 - (v0_11 s2.1.toNatClampNeg))))
def F_X12_cutsFrom_j2 (n : Nat) (v0_12 : Int32) (v0_21 : Int32) (v0_10 : Nat → Int32) (v0_11 : Nat → Int32) (v0_18 : Nat → Int32) (v0_19 : Nat → Int32) (v0_20 : Nat → Int32) (x1 : Int32) (x2 : Int32) (x3 : Int32) : Option (Int32 × (Nat → Int32) × (Nat → Int32) × (Nat → Int32)) :=
  obd (lpq (F_X12_cutsFrom_b2 v0_12 v0_10 v0_11 x1 x2) n (x3, v0_21, v0_18, v0_19, v0_20)) (fun x_2 => some (x_2.1, x_2.2.1, x_2.2.2.1, x_2.2.2.2))
def F_X12_cutsFrom (n : Nat) (v0_12 : Int32) (v0_21 : Int32) (v0_10 : Nat → Int32) (v0_11 : Nat → Int32) (v0_18 : Nat → Int32) (v0_19 : Nat → Int32) (v0_20 : Nat → Int32) (p1 : Int32) (p2 : Int32) : Option (Int32 × (Nat → Int32) × (Nat → Int32) × (Nat → Int32)) :=
  F_X12_cutsFrom_j2 n v0_12 v0_21 v0_10 v0_11 v0_18 v0_19 v0_20 p1 p2 0
abbrev wd_X12_cutsFrom (cI : ClassId) (a0 : Nat → Nat) (v0_2 : Int32) (v0_3 : Int32) (v0_5 : Int32) (v0_12 : Int32) (v0_13 : Int32) (v0_16 : Int32) (v0_17 : Int32) (v0_21 : Int32) (v0_23 : Int32) (v0_24 : Int32) (v0_25 : Int32) (v0_26 : Int32) (v0_29 : Int32) (v0_30 : Int64) (v0_10 : Nat → Int32) (v0_11 : Nat → Int32) (v0_18 : Nat → Int32) (v0_19 : Nat → Int32) (v0_20 : Nat → Int32) : va_W := [(a0 0, .inr (11, [.ref (a0 1), .ref (a0 2), .int v0_2, .int v0_3, .ref (a0 5), .int v0_5, .ref (a0 7), .ref (a0 8), .ref (a0 9), .ref (a0 10), .ref (a0 11), .ref (a0 12), .int v0_12, .int v0_13, .ref (a0 15), .ref (a0 16), .int v0_16, .int v0_17, .ref (a0 19), .ref (a0 20), .ref (a0 21), .int v0_21, .ref (a0 23), .int v0_23, .int v0_24, .int v0_25, .int v0_26, .ref (a0 28), .ref (a0 29), .int v0_29, .long v0_30])), (a0 11, .inl (cI, 8, .inl v0_10)), (a0 12, .inl (cI, 8, .inl v0_11)), (a0 19, .inl (cI, 20, .inl v0_18)), (a0 20, .inl (cI, 20, .inl v0_19)), (a0 21, .inl (cI, 20, .inl v0_20))]
abbrev wz_X12_cutsFrom : List Cond := .code yX12_cutsFrom cX12_cutsFrom 6 none :: wALL
abbrev rm_X12_cutsFrom : Room := { frames := 0, cells := 0, slots := 0, locals := 0 }
abbrev Q_X12_cutsFrom (dC : Nat → ClassId) (dI : Nat → Nat → Nat) (cI : ClassId) (a0 : Nat → Nat) (v0_2 : Int32) (v0_3 : Int32) (v0_5 : Int32) (v0_12 : Int32) (v0_13 : Int32) (v0_16 : Int32) (v0_17 : Int32) (v0_23 : Int32) (v0_24 : Int32) (v0_25 : Int32) (v0_26 : Int32) (v0_29 : Int32) (v0_30 : Int64) (v0_10 : Nat → Int32) (v0_11 : Nat → Int32) (u : (Int32 × (Nat → Int32) × (Nat → Int32) × (Nat → Int32))) (A : Nat → Prop) : Array Value → State → Outcome → State → Prop := va_Qv (fun (_ : Unit) => True) (fun _ => q_at dC dI cI A (wd_X12_cutsFrom cI a0 v0_2 v0_3 v0_5 v0_12 v0_13 v0_16 v0_17 u.1 v0_23 v0_24 v0_25 v0_26 v0_29 v0_30 v0_10 v0_11 u.2.1 u.2.2.1 u.2.2.2)) A
set_option maxHeartbeats 4000000 in
set_option maxRecDepth 100000 in
theorem c_X12_cutsFrom (l : Launch) (dC : Nat → ClassId) (dI : Nat → Nat → Nat) (cI : ClassId) (sz : Nat) (a0 : Nat → Nat) (v0_2 : Int32) (v0_3 : Int32) (v0_5 : Int32) (v0_12 : Int32) (v0_13 : Int32) (v0_16 : Int32) (v0_17 : Int32) (v0_21 : Int32) (v0_23 : Int32) (v0_24 : Int32) (v0_25 : Int32) (v0_26 : Int32) (v0_29 : Int32) (v0_30 : Int64) (v0_10 : Nat → Int32) (v0_11 : Nat → Int32) (v0_18 : Nat → Int32) (v0_19 : Nat → Int32) (v0_20 : Nat → Int32) (p1 : Int32) (p2 : Int32) (n : Nat) (u : (Int32 × (Nat → Int32) × (Nat → Int32) × (Nat → Int32))) (hF : F_X12_cutsFrom n v0_12 v0_21 v0_10 v0_11 v0_18 v0_19 v0_20 p1 p2 = some u) : Met l yX12_cutsFrom wz_X12_cutsFrom rm_X12_cutsFrom (va_Pc [.ref (a0 0), .int p1, .int p2] (q_pre dC dI cI (wd_X12_cutsFrom cI a0 v0_2 v0_3 v0_5 v0_12 v0_13 v0_16 v0_17 v0_21 v0_23 v0_24 v0_25 v0_26 v0_29 v0_30 v0_10 v0_11 v0_18 v0_19 v0_20) sz)) (Q_X12_cutsFrom dC dI cI a0 v0_2 v0_3 v0_5 v0_12 v0_13 v0_16 v0_17 v0_23 v0_24 v0_25 v0_26 v0_29 v0_30 v0_10 v0_11 u (va_A (wd_X12_cutsFrom cI a0 v0_2 v0_3 v0_5 v0_12 v0_13 v0_16 v0_17 v0_21 v0_23 v0_24 v0_25 v0_26 v0_29 v0_30 v0_10 v0_11 v0_18 v0_19 v0_20) sz)) 0 0 (va_A (wd_X12_cutsFrom cI a0 v0_2 v0_3 v0_5 v0_12 v0_13 v0_16 v0_17 v0_21 v0_23 v0_24 v0_25 v0_26 v0_29 v0_30 v0_10 v0_11 v0_18 v0_19 v0_20) sz) := by
  refine Met.ofW (cc := cX12_cutsFrom) (maxL := 6) (ret := none) (by decide) rfl ?_
  intro p e s m args below meth c s₁ B hml hv
  obtain ⟨rfl, hsz, hP, hK, hD0⟩ := hv
  have hx := B.exec
  have hb := B.bytes
  have hr := B.returns
  have hts := atoms_spec (ws := wz_X12_cutsFrom) B.pre
  have hta := wz_tl hts
  have hown : s.vm.findClass RX12 = some m.cls := findClass_of_methodNamed B.named
  have hlocks := B.notSynchronized
  subst hsz
  have hD := hD0.self (sz := s.heap.size)
  generalize hAe : va_A (wd_X12_cutsFrom cI a0 v0_2 v0_3 v0_5 v0_12 v0_13 v0_16 v0_17 v0_21 v0_23 v0_24 v0_25 v0_26 v0_29 v0_30 v0_10 v0_11 v0_18 v0_19 v0_20) s.heap.size = A at hD ⊢
  have hA : ∀ q : Nat, s.heap.size ≤ q → A q := fun q h => by rw [← hAe]; exact Or.inr h
  have hS : va_S A s.heap s.heap [] := va_S.rf
  have hP : va_P (dC, dI) vwCl (wd_X12_cutsFrom cI a0 v0_2 v0_3 v0_5 v0_12 v0_13 v0_16 v0_17 v0_21 v0_23 v0_24 v0_25 v0_26 v0_29 v0_30 v0_10 v0_11 v0_18 v0_19 v0_20) s.heap := hP
  have hl := lv_entry ([.ref (a0 0), .int p1, .int p2]) (n := 6) (Nat.le_of_ble_eq_true rfl)
  rw [lg_entry_eq]
  generalize (lg_sl ([.ref (a0 0), .int p1, .int p2]) ++ List.replicate (6 - (lg_sl ([.ref (a0 0), .int p1, .int p2])).length) Slot.unset).toArray = ls at hl ⊢
  have hl : lv_has ls 6 [(0, .ref (a0 0)), (1, .int p1), (2, .int p2)] := hl
  obtain ⟨H, hHe⟩ : ∃ H, H = s.heap := ⟨_, rfl⟩
  have hS : va_S A s.heap H [] := by rw [hHe]; exact hS
  have hP : va_P (dC, dI) vwCl (wd_X12_cutsFrom cI a0 v0_2 v0_3 v0_5 v0_12 v0_13 v0_16 v0_17 v0_21 v0_23 v0_24 v0_25 v0_26 v0_29 v0_30 v0_10 v0_11 v0_18 v0_19 v0_20) H := by rw [hHe]; exact hP
  rw [← hHe]
  unfold F_X12_cutsFrom at hF
  have j2 : ∀ (v0_21 : Int32) (v0_18 : Nat → Int32) (v0_19 : Nat → Int32) (v0_20 : Nat → Int32) (x1 : Int32) (x2 : Int32) (x3 : Int32), F_X12_cutsFrom_j2 n v0_12 v0_21 v0_10 v0_11 v0_18 v0_19 v0_20 x1 x2 x3 = some u → ∀ (H : Heap) (locs : List Loc) (ls : Array Slot), va_P (dC, dI) vwCl (wd_X12_cutsFrom cI a0 v0_2 v0_3 v0_5 v0_12 v0_13 v0_16 v0_17 v0_21 v0_23 v0_24 v0_25 v0_26 v0_29 v0_30 v0_10 v0_11 v0_18 v0_19 v0_20) H → va_D A (wd_X12_cutsFrom cI a0 v0_2 v0_3 v0_5 v0_12 v0_13 v0_16 v0_17 v0_21 v0_23 v0_24 v0_25 v0_26 v0_29 v0_30 v0_10 v0_11 v0_18 v0_19 v0_20) → va_S A s.heap H locs → lv_has ls 6 [(0, .ref (a0 0)), (1, .int x1), (2, .int x2), (3, .int x3)] → W p l e (headSpec wz_X12_cutsFrom rm_X12_cutsFrom).room s m [.ref (a0 0), .int p1, .int p2].toArray below meth c H locs 0 0 (MQ below (Q_X12_cutsFrom dC dI cI a0 v0_2 v0_3 v0_5 v0_12 v0_13 v0_16 v0_17 v0_23 v0_24 v0_25 v0_26 v0_29 v0_30 v0_10 v0_11 u A) [.ref (a0 0), .int p1, .int p2].toArray s 0 0 A) (F0 m 2 ls []) := by
    intro v0_21 v0_18 v0_19 v0_20 x1 x2 x3 hF H locs ls hP hD hS hl
    unfold F_X12_cutsFrom_j2 at hF
    obtain ⟨x_2, hL_2, hE_2⟩ := obd_some hF
    have kl_2 : ∀ (k : Nat) (s2 : Int32 × Int32 × (Nat → Int32) × (Nat → Int32) × (Nat → Int32)), lpq (F_X12_cutsFrom_b2 v0_12 v0_10 v0_11 x1 x2) k s2 = some x_2 → ∀ (H : Heap) (locs : List Loc) (ls : Array Slot), va_P (dC, dI) vwCl (wd_X12_cutsFrom cI a0 v0_2 v0_3 v0_5 v0_12 v0_13 v0_16 v0_17 s2.2.1 v0_23 v0_24 v0_25 v0_26 v0_29 v0_30 v0_10 v0_11 s2.2.2.1 s2.2.2.2.1 s2.2.2.2.2) H → va_D A (wd_X12_cutsFrom cI a0 v0_2 v0_3 v0_5 v0_12 v0_13 v0_16 v0_17 s2.2.1 v0_23 v0_24 v0_25 v0_26 v0_29 v0_30 v0_10 v0_11 s2.2.2.1 s2.2.2.2.1 s2.2.2.2.2) → va_S A s.heap H locs → lv_has ls 6 [(0, .ref (a0 0)), (1, .int x1), (2, .int x2), (3, .int s2.1)] → W p l e (headSpec wz_X12_cutsFrom rm_X12_cutsFrom).room s m [.ref (a0 0), .int p1, .int p2].toArray below meth c H locs 0 0 (MQ below (Q_X12_cutsFrom dC dI cI a0 v0_2 v0_3 v0_5 v0_12 v0_13 v0_16 v0_17 v0_23 v0_24 v0_25 v0_26 v0_29 v0_30 v0_10 v0_11 u A) [.ref (a0 0), .int p1, .int p2].toArray s 0 0 A) (F0 m 2 ls []) := by
      intro k
      induction k with
      | zero => intro s2 h; exact absurd h lpq_zero
      | succ k ih_2 =>
        intro s2 h H locs ls hP hD hS hl
        obtain ⟨o_2, hF, hO_2⟩ := lpq_succ h
        unfold F_X12_cutsFrom_b2 at hF
        have j119 : ∀ (v0_21 : Int32) (v0_18 : Nat → Int32) (v0_19 : Nat → Int32) (v0_20 : Nat → Int32) (x3 : Int32), F_X12_cutsFrom_j119 v0_21 v0_18 v0_19 v0_20 x3 = some o_2 → ∀ (H : Heap) (locs : List Loc) (ls : Array Slot), va_P (dC, dI) vwCl (wd_X12_cutsFrom cI a0 v0_2 v0_3 v0_5 v0_12 v0_13 v0_16 v0_17 v0_21 v0_23 v0_24 v0_25 v0_26 v0_29 v0_30 v0_10 v0_11 v0_18 v0_19 v0_20) H → va_D A (wd_X12_cutsFrom cI a0 v0_2 v0_3 v0_5 v0_12 v0_13 v0_16 v0_17 v0_21 v0_23 v0_24 v0_25 v0_26 v0_29 v0_30 v0_10 v0_11 v0_18 v0_19 v0_20) → va_S A s.heap H locs → lv_has ls 6 [(0, .ref (a0 0)), (1, .int x1), (2, .int x2), (3, .int x3)] → W p l e (headSpec wz_X12_cutsFrom rm_X12_cutsFrom).room s m [.ref (a0 0), .int p1, .int p2].toArray below meth c H locs 0 0 (MQ below (Q_X12_cutsFrom dC dI cI a0 v0_2 v0_3 v0_5 v0_12 v0_13 v0_16 v0_17 v0_23 v0_24 v0_25 v0_26 v0_29 v0_30 v0_10 v0_11 u A) [.ref (a0 0), .int p1, .int p2].toArray s 0 0 A) (F0 m 119 ls []) := by
          intro v0_21 v0_18 v0_19 v0_20 x3 hF H locs ls hP hD hS hl
          unfold F_X12_cutsFrom_j119 at hF
          obtain ⟨y_1, ey_1, hF⟩ := lt_some hF
          refine lv_iinc (v := y_1) (lv' := [(3, .int y_1), (0, .ref (a0 0)), (1, .int x1), (2, .int x2)]) hx hb dX12_cutsFrom_119 hl (k := 3) rfl (by rw [ey_1]; rfl) (by decide) rfl (fun ls hl => ?_)
          refine lv_goto (tgt := 2) hx hb dX12_cutsFrom_122 (by decide) ?_
          obtain rfl := Option.some.inj hF
          exact ih_2 _ hO_2 _ _ _ hP hD hS (lv_sub hl [1, 2, 3, 0] rfl)
        have j68 : ∀ (v0_21 : Int32) (v0_18 : Nat → Int32) (v0_19 : Nat → Int32) (v0_20 : Nat → Int32) (x3 : Int32) (x4 : Int32) (t0 : Int32), F_X12_cutsFrom_j68 v0_21 v0_18 v0_19 v0_20 x3 x4 t0 = some o_2 → ∀ (H : Heap) (locs : List Loc) (ls : Array Slot), va_P (dC, dI) vwCl (wd_X12_cutsFrom cI a0 v0_2 v0_3 v0_5 v0_12 v0_13 v0_16 v0_17 v0_21 v0_23 v0_24 v0_25 v0_26 v0_29 v0_30 v0_10 v0_11 v0_18 v0_19 v0_20) H → va_D A (wd_X12_cutsFrom cI a0 v0_2 v0_3 v0_5 v0_12 v0_13 v0_16 v0_17 v0_21 v0_23 v0_24 v0_25 v0_26 v0_29 v0_30 v0_10 v0_11 v0_18 v0_19 v0_20) → va_S A s.heap H locs → lv_has ls 6 [(0, .ref (a0 0)), (1, .int x1), (2, .int x2), (3, .int x3), (4, .int x4)] → W p l e (headSpec wz_X12_cutsFrom rm_X12_cutsFrom).room s m [.ref (a0 0), .int p1, .int p2].toArray below meth c H locs 0 0 (MQ below (Q_X12_cutsFrom dC dI cI a0 v0_2 v0_3 v0_5 v0_12 v0_13 v0_16 v0_17 v0_23 v0_24 v0_25 v0_26 v0_29 v0_30 v0_10 v0_11 u A) [.ref (a0 0), .int p1, .int p2].toArray s 0 0 A) (F0 m 68 ls [.int t0]) := by
          intro v0_21 v0_18 v0_19 v0_20 x3 x4 t0 hF H locs ls hP hD hS hl
          unfold F_X12_cutsFrom_j68 at hF
          refine lv_istore (lv' := [(5, .int t0), (0, .ref (a0 0)), (1, .int x1), (2, .int x2), (3, .int x3), (4, .int x4)]) hx hb dX12_cutsFrom_68 hl (by decide) rfl (fun ls hl => ?_)
          refine lv_iload hx hb dX12_cutsFrom_70 (lv_at hl 5 rfl) ?_
          refine lv_iload hx hb dX12_cutsFrom_72 (lv_at hl 0 rfl) ?_
          refine lv_icmp_ge (tgt := 119) hx hb dX12_cutsFrom_74 (by decide) (fun c_2 => ?_) (fun c_2 => ?_)
          · have hF := it_t hF c_2
            exact j119 v0_21 v0_18 v0_19 v0_20 x3 hF _ _ _ hP hD hS (lv_sub hl [1, 2, 3, 4] rfl)
          · have hF := it_f hF c_2
            refine lv_aload_n hx hb dX12_cutsFrom_77 rfl (lv_at hl 1 rfl) ?_
            refine va_get (D := (dC, dI)) (ci := 11) (v := .ref (a0 19)) (C := RX12) (T := TX12) (N := 31) hx hb hta uw_X12 hown hK hP 0 rfl rfl 18 (by decide) (hta _ mA801) (fun _ h9 => h9) rfl dX12_cutsFrom_78 ?_
            refine lv_aload_n hx hb dX12_cutsFrom_81 rfl (lv_at hl 1 rfl) ?_
            refine va_get (D := (dC, dI)) (ci := 11) (v := .int v0_21) (C := RX12) (T := TX12) (N := 31) hx hb hta uw_X12 hown hK hP 0 rfl rfl 21 (by decide) (hta _ mA933) (fun _ h9 => h9) rfl dX12_cutsFrom_82 ?_
            refine lv_iload_n hx hb dX12_cutsFrom_85 rfl (lv_at hl 4 rfl) ?_
            obtain ⟨g_3, hF⟩ := gd_some hF
            refine va_iast hx hb hK hP hD hS 3 0 rfl rfl (vpi_in g_3) dX12_cutsFrom_86 (fun H locs hP hD hS => ?_)
            obtain ⟨y_4, ey_4, hF⟩ := lt_some hF
            have hP : va_P (dC, dI) vwCl (wd_X12_cutsFrom cI a0 v0_2 v0_3 v0_5 v0_12 v0_13 v0_16 v0_17 v0_21 v0_23 v0_24 v0_25 v0_26 v0_29 v0_30 v0_10 v0_11 y_4 v0_19 v0_20) H := by rw [ey_4]; exact hP
            have hD : va_D A (wd_X12_cutsFrom cI a0 v0_2 v0_3 v0_5 v0_12 v0_13 v0_16 v0_17 v0_21 v0_23 v0_24 v0_25 v0_26 v0_29 v0_30 v0_10 v0_11 y_4 v0_19 v0_20) := by rw [ey_4]; exact hD
            refine lv_aload_n hx hb dX12_cutsFrom_87 rfl (lv_at hl 1 rfl) ?_
            refine va_get (D := (dC, dI)) (ci := 11) (v := .ref (a0 20)) (C := RX12) (T := TX12) (N := 31) hx hb hta uw_X12 hown hK hP 0 rfl rfl 19 (by decide) (hta _ mA802) (fun _ h9 => h9) rfl dX12_cutsFrom_88 ?_
            refine lv_aload_n hx hb dX12_cutsFrom_91 rfl (lv_at hl 1 rfl) ?_
            refine va_get (D := (dC, dI)) (ci := 11) (v := .int v0_21) (C := RX12) (T := TX12) (N := 31) hx hb hta uw_X12 hown hK hP 0 rfl rfl 21 (by decide) (hta _ mA933) (fun _ h9 => h9) rfl dX12_cutsFrom_92 ?_
            refine lv_iload hx hb dX12_cutsFrom_95 (lv_at hl 5 rfl) ?_
            obtain ⟨g_5, hF⟩ := gd_some hF
            refine va_iast hx hb hK hP hD hS 4 0 rfl rfl (vpi_in g_5) dX12_cutsFrom_97 (fun H locs hP hD hS => ?_)
            obtain ⟨y_6, ey_6, hF⟩ := lt_some hF
            have hP : va_P (dC, dI) vwCl (wd_X12_cutsFrom cI a0 v0_2 v0_3 v0_5 v0_12 v0_13 v0_16 v0_17 v0_21 v0_23 v0_24 v0_25 v0_26 v0_29 v0_30 v0_10 v0_11 y_4 y_6 v0_20) H := by rw [ey_6]; exact hP
            have hD : va_D A (wd_X12_cutsFrom cI a0 v0_2 v0_3 v0_5 v0_12 v0_13 v0_16 v0_17 v0_21 v0_23 v0_24 v0_25 v0_26 v0_29 v0_30 v0_10 v0_11 y_4 y_6 v0_20) := by rw [ey_6]; exact hD
            refine lv_aload_n hx hb dX12_cutsFrom_98 rfl (lv_at hl 1 rfl) ?_
            refine va_get (D := (dC, dI)) (ci := 11) (v := .ref (a0 21)) (C := RX12) (T := TX12) (N := 31) hx hb hta uw_X12 hown hK hP 0 rfl rfl 20 (by decide) (hta _ mA803) (fun _ h9 => h9) rfl dX12_cutsFrom_99 ?_
            refine lv_aload_n hx hb dX12_cutsFrom_102 rfl (lv_at hl 1 rfl) ?_
            refine va_get (D := (dC, dI)) (ci := 11) (v := .int v0_21) (C := RX12) (T := TX12) (N := 31) hx hb hta uw_X12 hown hK hP 0 rfl rfl 21 (by decide) (hta _ mA933) (fun _ h9 => h9) rfl dX12_cutsFrom_103 ?_
            refine lv_iload hx hb dX12_cutsFrom_106 (lv_at hl 0 rfl) ?_
            obtain ⟨g_7, hF⟩ := gd_some hF
            refine va_iast hx hb hK hP hD hS 5 0 rfl rfl (vpi_in g_7) dX12_cutsFrom_108 (fun H locs hP hD hS => ?_)
            obtain ⟨y_8, ey_8, hF⟩ := lt_some hF
            have hP : va_P (dC, dI) vwCl (wd_X12_cutsFrom cI a0 v0_2 v0_3 v0_5 v0_12 v0_13 v0_16 v0_17 v0_21 v0_23 v0_24 v0_25 v0_26 v0_29 v0_30 v0_10 v0_11 y_4 y_6 y_8) H := by rw [ey_8]; exact hP
            have hD : va_D A (wd_X12_cutsFrom cI a0 v0_2 v0_3 v0_5 v0_12 v0_13 v0_16 v0_17 v0_21 v0_23 v0_24 v0_25 v0_26 v0_29 v0_30 v0_10 v0_11 y_4 y_6 y_8) := by rw [ey_8]; exact hD
            refine lv_aload_n hx hb dX12_cutsFrom_109 rfl (lv_at hl 1 rfl) ?_
            refine lv_dup hx hb dX12_cutsFrom_110 rfl ?_
            refine va_get (D := (dC, dI)) (ci := 11) (v := .int v0_21) (C := RX12) (T := TX12) (N := 31) hx hb hta uw_X12 hown hK hP 0 rfl rfl 21 (by decide) (hta _ mA933) (fun _ h9 => h9) rfl dX12_cutsFrom_111 ?_
            refine lv_iconst (v := 1) hx hb dX12_cutsFrom_114 (by decide) ?_
            refine lv_iadd hx hb dX12_cutsFrom_115 ?_
            obtain ⟨y_9, ey_9, hF⟩ := lt_some hF
            refine lv_eqi ey_9 ?_
            refine va_put (D := (dC, dI)) (ci := 11) (v := .int y_9) (ty := .int) (C := RX12) (T := TX12) (N := 31) hx hb hta uw_X12 tyX12 tyX12_ok nmX12 hown hK hP hD hS 0 rfl rfl 21 (by decide) (hta _ mA933) (fun _ h9 => h9) rfl (by decide +kernel) rfl rfl (Nat.le_of_ble_eq_true rfl) dX12_cutsFrom_116 (fun H locs hP hD hS => ?_)
            have hP : va_P (dC, dI) vwCl (wd_X12_cutsFrom cI a0 v0_2 v0_3 v0_5 v0_12 v0_13 v0_16 v0_17 y_9 v0_23 v0_24 v0_25 v0_26 v0_29 v0_30 v0_10 v0_11 y_4 y_6 y_8) H := hP
            have hD : va_D A (wd_X12_cutsFrom cI a0 v0_2 v0_3 v0_5 v0_12 v0_13 v0_16 v0_17 y_9 v0_23 v0_24 v0_25 v0_26 v0_29 v0_30 v0_10 v0_11 y_4 y_6 y_8) := hD
            exact j119 y_9 y_4 y_6 y_8 x3 hF _ _ _ hP hD hS (lv_sub hl [1, 2, 3, 4] rfl)
        have j32 : ∀ (v0_21 : Int32) (v0_18 : Nat → Int32) (v0_19 : Nat → Int32) (v0_20 : Nat → Int32) (x3 : Int32) (t0 : Int32), F_X12_cutsFrom_j32 v0_21 v0_10 v0_11 v0_18 v0_19 v0_20 x2 x3 t0 = some o_2 → ∀ (H : Heap) (locs : List Loc) (ls : Array Slot), va_P (dC, dI) vwCl (wd_X12_cutsFrom cI a0 v0_2 v0_3 v0_5 v0_12 v0_13 v0_16 v0_17 v0_21 v0_23 v0_24 v0_25 v0_26 v0_29 v0_30 v0_10 v0_11 v0_18 v0_19 v0_20) H → va_D A (wd_X12_cutsFrom cI a0 v0_2 v0_3 v0_5 v0_12 v0_13 v0_16 v0_17 v0_21 v0_23 v0_24 v0_25 v0_26 v0_29 v0_30 v0_10 v0_11 v0_18 v0_19 v0_20) → va_S A s.heap H locs → lv_has ls 6 [(0, .ref (a0 0)), (1, .int x1), (2, .int x2), (3, .int x3)] → W p l e (headSpec wz_X12_cutsFrom rm_X12_cutsFrom).room s m [.ref (a0 0), .int p1, .int p2].toArray below meth c H locs 0 0 (MQ below (Q_X12_cutsFrom dC dI cI a0 v0_2 v0_3 v0_5 v0_12 v0_13 v0_16 v0_17 v0_23 v0_24 v0_25 v0_26 v0_29 v0_30 v0_10 v0_11 u A) [.ref (a0 0), .int p1, .int p2].toArray s 0 0 A) (F0 m 32 ls [.int t0]) := by
          intro v0_21 v0_18 v0_19 v0_20 x3 t0 hF H locs ls hP hD hS hl
          unfold F_X12_cutsFrom_j32 at hF
          refine lv_istore (lv' := [(4, .int t0), (0, .ref (a0 0)), (1, .int x1), (2, .int x2), (3, .int x3)]) hx hb dX12_cutsFrom_32 hl (by decide) rfl (fun ls hl => ?_)
          refine lv_iload_n hx hb dX12_cutsFrom_34 rfl (lv_at hl 3 rfl) ?_
          refine lv_aload_n hx hb dX12_cutsFrom_35 rfl (lv_at hl 1 rfl) ?_
          refine va_get (D := (dC, dI)) (ci := 11) (v := .ref (a0 12)) (C := RX12) (T := TX12) (N := 31) hx hb hta uw_X12 hown hK hP 0 rfl rfl 11 (by decide) (hta _ mA798) (fun _ h9 => h9) rfl dX12_cutsFrom_36 ?_
          refine lv_iload_n hx hb dX12_cutsFrom_39 rfl (lv_at hl 4 rfl) ?_
          obtain ⟨g_10, hF⟩ := gd_some hF
          refine va_iald hx hb hK hP 2 0 rfl rfl (vpi_in g_10) dX12_cutsFrom_40 ?_
          refine lv_aload_n hx hb dX12_cutsFrom_41 rfl (lv_at hl 1 rfl) ?_
          refine va_get (D := (dC, dI)) (ci := 11) (v := .ref (a0 11)) (C := RX12) (T := TX12) (N := 31) hx hb hta uw_X12 hown hK hP 0 rfl rfl 10 (by decide) (hta _ mA797) (fun _ h9 => h9) rfl dX12_cutsFrom_42 ?_
          refine lv_iload_n hx hb dX12_cutsFrom_45 rfl (lv_at hl 4 rfl) ?_
          obtain ⟨g_11, hF⟩ := gd_some hF
          refine va_iald hx hb hK hP 1 0 rfl rfl (vpi_in g_11) dX12_cutsFrom_46 ?_
          refine lv_iadd hx hb dX12_cutsFrom_47 ?_
          refine lv_icmp_ge (tgt := 62) hx hb dX12_cutsFrom_48 (by decide) (fun c_12 => ?_) (fun c_12 => ?_)
          · have hF := it_t hF c_12
            refine lv_aload_n hx hb dX12_cutsFrom_62 rfl (lv_at hl 1 rfl) ?_
            refine va_get (D := (dC, dI)) (ci := 11) (v := .ref (a0 11)) (C := RX12) (T := TX12) (N := 31) hx hb hta uw_X12 hown hK hP 0 rfl rfl 10 (by decide) (hta _ mA797) (fun _ h9 => h9) rfl dX12_cutsFrom_63 ?_
            refine lv_iload_n hx hb dX12_cutsFrom_66 rfl (lv_at hl 4 rfl) ?_
            obtain ⟨g_13, hF⟩ := gd_some hF
            refine va_iald hx hb hK hP 1 0 rfl rfl (vpi_in g_13) dX12_cutsFrom_67 ?_
            exact j68 v0_21 v0_18 v0_19 v0_20 x3 t0 (v0_10 x3.toNatClampNeg) hF _ _ _ hP hD hS (lv_sub hl [1, 2, 3, 4, 0] rfl)
          · have hF := it_f hF c_12
            refine lv_iload_n hx hb dX12_cutsFrom_51 rfl (lv_at hl 3 rfl) ?_
            refine lv_aload_n hx hb dX12_cutsFrom_52 rfl (lv_at hl 1 rfl) ?_
            refine va_get (D := (dC, dI)) (ci := 11) (v := .ref (a0 12)) (C := RX12) (T := TX12) (N := 31) hx hb hta uw_X12 hown hK hP 0 rfl rfl 11 (by decide) (hta _ mA798) (fun _ h9 => h9) rfl dX12_cutsFrom_53 ?_
            refine lv_iload_n hx hb dX12_cutsFrom_56 rfl (lv_at hl 4 rfl) ?_
            obtain ⟨g_14, hF⟩ := gd_some hF
            refine va_iald hx hb hK hP 2 0 rfl rfl (vpi_in g_14) dX12_cutsFrom_57 ?_
            refine lv_isub hx hb dX12_cutsFrom_58 ?_
            refine lv_goto (tgt := 68) hx hb dX12_cutsFrom_59 (by decide) ?_
            exact j68 v0_21 v0_18 v0_19 v0_20 x3 t0 (x2 - (v0_11 x3.toNatClampNeg)) hF _ _ _ hP hD hS (lv_sub hl [1, 2, 3, 4, 0] rfl)
        refine lv_iload_n hx hb dX12_cutsFrom_2 rfl (lv_at hl 3 rfl) ?_
        refine lv_aload_n hx hb dX12_cutsFrom_3 rfl (lv_at hl 0 rfl) ?_
        refine va_get (D := (dC, dI)) (ci := 11) (v := .int v0_12) (C := RX12) (T := TX12) (N := 31) hx hb hta uw_X12 hown hK hP 0 rfl rfl 12 (by decide) (hta _ mA863) (fun _ h9 => h9) rfl dX12_cutsFrom_4 ?_
        refine lv_icmp_ge (tgt := 125) hx hb dX12_cutsFrom_7 (by decide) (fun c_15 => ?_) (fun c_15 => ?_)
        · have hF := it_t hF c_15
          obtain rfl := Option.some.inj hF
          obtain rfl := lpq_x hO_2
          have hF := hE_2
          obtain rfl := Option.some.inj hF
          exact W.vret hx hb hr (fun t ht hW => ⟨⟨(), rfl, trivial, by rw [ht]; exact hP, va_K.moved hW.alike hK, hD⟩, hS.F ht⟩) hS.2.2 dX12_cutsFrom_125
        · have hF := it_f hF c_15
          refine lv_iload_n hx hb dX12_cutsFrom_10 rfl (lv_at hl 1 rfl) ?_
          refine lv_aload_n hx hb dX12_cutsFrom_11 rfl (lv_at hl 0 rfl) ?_
          refine va_get (D := (dC, dI)) (ci := 11) (v := .ref (a0 12)) (C := RX12) (T := TX12) (N := 31) hx hb hta uw_X12 hown hK hP 0 rfl rfl 11 (by decide) (hta _ mA798) (fun _ h9 => h9) rfl dX12_cutsFrom_12 ?_
          refine lv_iload_n hx hb dX12_cutsFrom_15 rfl (lv_at hl 3 rfl) ?_
          obtain ⟨g_16, hF⟩ := gd_some hF
          refine va_iald hx hb hK hP 2 0 rfl rfl (vpi_in g_16) dX12_cutsFrom_16 ?_
          refine lv_icmp_le (tgt := 31) hx hb dX12_cutsFrom_17 (by decide) (fun c_17 => ?_) (fun c_17 => ?_)
          · have hF := it_t hF c_17
            refine lv_iconst (v := 0) hx hb dX12_cutsFrom_31 (by decide) ?_
            exact j32 s2.2.1 s2.2.2.1 s2.2.2.2.1 s2.2.2.2.2 s2.1 0 hF _ _ _ hP hD hS (lv_sub hl [0, 1, 2, 3] rfl)
          · have hF := it_f hF c_17
            refine lv_iload_n hx hb dX12_cutsFrom_20 rfl (lv_at hl 1 rfl) ?_
            refine lv_aload_n hx hb dX12_cutsFrom_21 rfl (lv_at hl 0 rfl) ?_
            refine va_get (D := (dC, dI)) (ci := 11) (v := .ref (a0 12)) (C := RX12) (T := TX12) (N := 31) hx hb hta uw_X12 hown hK hP 0 rfl rfl 11 (by decide) (hta _ mA798) (fun _ h9 => h9) rfl dX12_cutsFrom_22 ?_
            refine lv_iload_n hx hb dX12_cutsFrom_25 rfl (lv_at hl 3 rfl) ?_
            obtain ⟨g_18, hF⟩ := gd_some hF
            refine va_iald hx hb hK hP 2 0 rfl rfl (vpi_in g_18) dX12_cutsFrom_26 ?_
            refine lv_isub hx hb dX12_cutsFrom_27 ?_
            refine lv_goto (tgt := 32) hx hb dX12_cutsFrom_28 (by decide) ?_
            exact j32 s2.2.1 s2.2.2.1 s2.2.2.2.1 s2.2.2.2.2 s2.1 (x1 - (v0_11 s2.1.toNatClampNeg)) hF _ _ _ hP hD hS (lv_sub hl [0, 1, 2, 3] rfl)
    exact kl_2 n _ hL_2 _ _ _ hP hD hS hl
  refine lv_iconst (v := 0) hx hb dX12_cutsFrom_0 (by decide) ?_
  refine lv_istore_n (lv' := [(3, .int 0), (0, .ref (a0 0)), (1, .int p1), (2, .int p2)]) hx hb dX12_cutsFrom_1 rfl hl (by decide) rfl (fun ls hl => ?_)
  exact j2 v0_21 v0_18 v0_19 v0_20 p1 p2 0 hF _ _ _ hP hD hS (lv_sub hl [1, 2, 3, 0] rfl)
