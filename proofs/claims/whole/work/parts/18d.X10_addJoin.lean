-- StrokeOutliner$Stroke.addJoin(II)V
def F_X10_addJoin_j310 (v1_3 : Int32) (v1_4 : Int32) (v1_0 : Nat → Int32) (v1_1 : Nat → Int32) (v1_2 : Nat → Int32) (x9 : Int32) (x10 : Int32) (x11 : Int32) (x14 : Int32) (x15 : Int32) : Option (Int32 × Int32 × (Nat → Int32) × (Nat → Int32) × (Nat → Int32)) :=
  obd (F_X7_addCorner v1_3 v1_4 v1_1 v1_2 (x9 + (x11 * x14)) (x10 + (x11 * x15))) (fun u_1 => some (v1_3, u_1.1, v1_0, u_1.2.1, u_1.2.2))
def F_X10_addJoin_j246 (v0_4 : Int32) (v1_3 : Int32) (v1_4 : Int32) (v1_0 : Nat → Int32) (v1_1 : Nat → Int32) (v1_2 : Nat → Int32) (x9 : Int32) (x10 : Int32) (x11 : Int32) (x12 : Int32) (x13 : Int32) (x14 : Int32) (x15 : Int32) (x16 : Int32) (t1 : Int32) : Option (Int32 × Int32 × (Nat → Int32) × (Nat → Int32) × (Nat → Int32)) :=
  obd (F_X7_start v1_3 v1_4 v1_0 t1) (fun u_2 => obd (F_X7_addCorner u_2.1 u_2.2.1 v1_1 v1_2 x9 x10) (fun u_3 => obd (F_X7_addCorner u_2.1 u_3.1 u_3.2.1 u_3.2.2 (x9 + (x11 * x12)) (x10 + (x11 * x13))) (fun u_4 => if x16 = 0 then F_X10_addJoin_j310 u_2.1 u_4.1 u_2.2.2 u_4.2.1 u_4.2.2 x9 x10 x11 x14 x15 else obd (F_X10_addTip v0_4 u_2.1 u_4.1 u_4.2.1 u_4.2.2 x9 x10 x11 ((x12 + x14).toInt64) ((x13 + x15).toInt64)) (fun u_6 => F_X10_addJoin_j310 u_2.1 u_6.1 u_2.2.2 u_6.2.1 u_6.2.2 x9 x10 x11 x14 x15))))
def F_X10_addJoin_j230 (v0_4 : Int32) (v1_3 : Int32) (v1_4 : Int32) (v1_0 : Nat → Int32) (v1_1 : Nat → Int32) (v1_2 : Nat → Int32) (x9 : Int32) (x10 : Int32) (x11 : Int32) (x12 : Int32) (x13 : Int32) (x14 : Int32) (x15 : Int32) (t0 : Int32) : Option (Int32 × Int32 × (Nat → Int32) × (Nat → Int32) × (Nat → Int32)) :=
  if t0 = 0 then F_X10_addJoin_j246 v0_4 v1_3 v1_4 v1_0 v1_1 v1_2 x9 x10 x11 x12 x13 x14 x15 t0 2 else F_X10_addJoin_j246 v0_4 v1_3 v1_4 v1_0 v1_1 v1_2 x9 x10 x11 x12 x13 x14 x15 t0 1
def F_X10_addJoin_j229 (v0_4 : Int32) (v1_3 : Int32) (v1_4 : Int32) (v1_0 : Nat → Int32) (v1_1 : Nat → Int32) (v1_2 : Nat → Int32) (x9 : Int32) (x10 : Int32) (x11 : Int32) (x12 : Int32) (x13 : Int32) (x14 : Int32) (x15 : Int32) : Option (Int32 × Int32 × (Nat → Int32) × (Nat → Int32) × (Nat → Int32)) :=
  F_X10_addJoin_j230 v0_4 v1_3 v1_4 v1_0 v1_1 v1_2 x9 x10 x11 x12 x13 x14 x15 0
def F_X10_addJoin_j144 (v0_4 : Int32) (v0_5 : Int32) (v0_6 : Int32) (v1_3 : Int32) (v1_4 : Int32) (v1_0 : Nat → Int32) (v1_1 : Nat → Int32) (v1_2 : Nat → Int32) (v4_3 : Nat → Int32) (v4_4 : Nat → Int32) (v4_6 : Nat → Int32) (v4_7 : Nat → Int32) (x3 : Int32) (x4 : Int32) (x7 : Int64) (x9 : Int32) (x10 : Int32) (t0 : Int32) : Option (Int32 × Int32 × (Nat → Int32) × (Nat → Int32) × (Nat → Int32)) :=
  obd (F_X9_normalX v4_6 x3) (fun u_8 => obd (F_X9_normalY v4_7 x3) (fun u_9 => obd (F_X9_normalX v4_6 x4) (fun u_10 => obd (F_X9_normalY v4_7 x4) (fun u_11 => if v0_5 = 0 then obd (F_X9_dot v4_3 v4_4 x3 x3) (fun u_13 => obd (F_X9_dot v4_3 v4_4 x4 x4) (fun u_14 => lt (F_X10_isInLimit v0_6 x7 (u_13 * u_14)) (fun u_15 => if u_15 = 0 then F_X10_addJoin_j229 v0_4 v1_3 v1_4 v1_0 v1_1 v1_2 x9 x10 t0 u_8 u_9 u_10 u_11 else F_X10_addJoin_j230 v0_4 v1_3 v1_4 v1_0 v1_1 v1_2 x9 x10 t0 u_8 u_9 u_10 u_11 1))) else F_X10_addJoin_j229 v0_4 v1_3 v1_4 v1_0 v1_1 v1_2 x9 x10 t0 u_8 u_9 u_10 u_11))))
def F_X10_addJoin_j116 (v0_4 : Int32) (v0_5 : Int32) (v0_6 : Int32) (v1_3 : Int32) (v1_4 : Int32) (v1_0 : Nat → Int32) (v1_1 : Nat → Int32) (v1_2 : Nat → Int32) (v4_3 : Nat → Int32) (v4_4 : Nat → Int32) (v4_6 : Nat → Int32) (v4_7 : Nat → Int32) (x3 : Int32) (x4 : Int32) (x5 : Int64) (x7 : Int64) (x9 : Int32) (x10 : Int32) : Option (Int32 × Int32 × (Nat → Int32) × (Nat → Int32) × (Nat → Int32)) :=
  if v0_5 = 1 then some (v1_3, v1_4, v1_0, v1_1, v1_2) else if (lg_cmp x5 0) = 0 then some (v1_3, v1_4, v1_0, v1_1, v1_2) else if (lg_cmp x5 0) ≤ 0 then F_X10_addJoin_j144 v0_4 v0_5 v0_6 v1_3 v1_4 v1_0 v1_1 v1_2 v4_3 v4_4 v4_6 v4_7 x3 x4 x7 x9 x10 1 else F_X10_addJoin_j144 v0_4 v0_5 v0_6 v1_3 v1_4 v1_0 v1_1 v1_2 v4_3 v4_4 v4_6 v4_7 x3 x4 x7 x9 x10 (-1)
def F_X10_addJoin_j64 (v0_4 : Int32) (v0_5 : Int32) (v0_6 : Int32) (v1_3 : Int32) (v1_4 : Int32) (v1_0 : Nat → Int32) (v1_1 : Nat → Int32) (v1_2 : Nat → Int32) (v2_9 : Nat → Int32) (v4_1 : Nat → Int32) (v4_2 : Nat → Int32) (v4_3 : Nat → Int32) (v4_4 : Nat → Int32) (v4_5 : Nat → Int32) (v4_6 : Nat → Int32) (v4_7 : Nat → Int32) (x1 : Int32) (x3 : Int32) (x4 : Int32) (x5 : Int64) (x7 : Int64) : Option (Int32 × Int32 × (Nat → Int32) × (Nat → Int32) × (Nat → Int32)) :=
  obd (F_X8_toOf v2_9 x1) (fun u_20 => obd (F_X9_xAt v4_1 v4_3 v4_5 x3 u_20) (fun u_21 => obd (F_X8_toOf v2_9 x1) (fun u_22 => obd (F_X9_yAt v4_2 v4_4 v4_5 x3 u_22) (fun u_23 => if v0_5 = 1 then obd (F_X10_addDisc v1_3 v1_4 v1_0 v1_1 v1_2 u_21 u_23) (fun u_25 => F_X10_addJoin_j116 v0_4 v0_5 v0_6 u_25.1 u_25.2.1 u_25.2.2.1 u_25.2.2.2.1 u_25.2.2.2.2 v4_3 v4_4 v4_6 v4_7 x3 x4 x5 x7 u_21 u_23) else F_X10_addJoin_j116 v0_4 v0_5 v0_6 v1_3 v1_4 v1_0 v1_1 v1_2 v4_3 v4_4 v4_6 v4_7 x3 x4 x5 x7 u_21 u_23))))
def F_X10_addJoin (v0_4 : Int32) (v0_5 : Int32) (v0_6 : Int32) (v1_3 : Int32) (v1_4 : Int32) (v1_0 : Nat → Int32) (v1_1 : Nat → Int32) (v1_2 : Nat → Int32) (v2_7 : Nat → Int32) (v2_9 : Nat → Int32) (v4_1 : Nat → Int32) (v4_2 : Nat → Int32) (v4_3 : Nat → Int32) (v4_4 : Nat → Int32) (v4_5 : Nat → Int32) (v4_6 : Nat → Int32) (v4_7 : Nat → Int32) (p1 : Int32) (p2 : Int32) : Option (Int32 × Int32 × (Nat → Int32) × (Nat → Int32) × (Nat → Int32)) :=
  obd (F_X8_segmentOf v2_7 p1) (fun u_26 => obd (F_X8_segmentOf v2_7 p2) (fun u_27 => obd (F_X9_cross v4_3 v4_4 u_26 u_27) (fun u_28 => obd (F_X9_dot v4_3 v4_4 u_26 u_27) (fun u_29 => if u_26 = u_27 then some (v1_3, v1_4, v1_0, v1_1, v1_2) else if (lg_cmp u_28 0) = 0 then if (lg_cmp u_29 0) ≤ 0 then F_X10_addJoin_j64 v0_4 v0_5 v0_6 v1_3 v1_4 v1_0 v1_1 v1_2 v2_9 v4_1 v4_2 v4_3 v4_4 v4_5 v4_6 v4_7 p1 u_26 u_27 u_28 u_29 else some (v1_3, v1_4, v1_0, v1_1, v1_2) else F_X10_addJoin_j64 v0_4 v0_5 v0_6 v1_3 v1_4 v1_0 v1_1 v1_2 v2_9 v4_1 v4_2 v4_3 v4_4 v4_5 v4_6 v4_7 p1 u_26 u_27 u_28 u_29))))
abbrev wd_X10_addJoin (cI : ClassId) (a0 : Nat → Nat) (a1 : Nat → Nat) (a2 : Nat → Nat) (a3 : Nat → Nat) (a4 : Nat → Nat) (v0_3 : Int32) (v0_4 : Int32) (v0_5 : Int32) (v0_6 : Int32) (v0_7 : Int32) (v1_3 : Int32) (v1_4 : Int32) (v1_5 : Int32) (v1_0 : Nat → Int32) (v1_1 : Nat → Int32) (v1_2 : Nat → Int32) (v2_10 : Int32) (v2_11 : Int32) (v2_7 : Nat → Int32) (v2_9 : Nat → Int32) (v4_10 : Int32) (v4_1 : Nat → Int32) (v4_2 : Nat → Int32) (v4_3 : Nat → Int32) (v4_4 : Nat → Int32) (v4_5 : Nat → Int32) (v4_6 : Nat → Int32) (v4_7 : Nat → Int32) : va_W := [(a0 0, .inr (9, [.ref (a4 0), .ref (a2 0), .ref (a1 0), .int v0_3, .int v0_4, .int v0_5, .int v0_6, .int v0_7])), (a1 0, .inr (6, [.ref (a1 1), .ref (a1 2), .ref (a1 3), .int v1_3, .int v1_4, .int v1_5])), (a1 1, .inl (cI, 2800, .inl v1_0)), (a1 2, .inl (cI, 11200, .inl v1_1)), (a1 3, .inl (cI, 11200, .inl v1_2)), (a2 0, .inr (7, [.ref (a3 0), .ref (a2 2), .ref (a2 3), .ref (a2 4), .ref (a2 5), .ref (a2 6), .ref (a2 7), .ref (a2 8), .ref (a2 9), .ref (a2 10), .int v2_10, .int v2_11])), (a2 8, .inl (cI, 1024, .inl v2_7)), (a2 10, .inl (cI, 1024, .inl v2_9)), (a4 0, .inr (8, [.ref (a4 1), .ref (a4 2), .ref (a4 3), .ref (a4 4), .ref (a4 5), .ref (a4 6), .ref (a4 7), .ref (a4 8), .ref (a4 9), .ref (a4 10), .int v4_10])), (a4 2, .inl (cI, 32, .inl v4_1)), (a4 3, .inl (cI, 32, .inl v4_2)), (a4 4, .inl (cI, 32, .inl v4_3)), (a4 5, .inl (cI, 32, .inl v4_4)), (a4 6, .inl (cI, 32, .inl v4_5)), (a4 7, .inl (cI, 32, .inl v4_6)), (a4 8, .inl (cI, 32, .inl v4_7))]
abbrev wz_X10_addJoin : List Cond := .code yX10_addJoin cX10_addJoin 17 none :: wALL
abbrev rm_X10_addJoin : Room := { frames := 2, cells := 0, slots := 0, locals := 62 }
abbrev Q_X10_addJoin (dC : Nat → ClassId) (dI : Nat → Nat → Nat) (cI : ClassId) (a0 : Nat → Nat) (a1 : Nat → Nat) (a2 : Nat → Nat) (a3 : Nat → Nat) (a4 : Nat → Nat) (v0_3 : Int32) (v0_4 : Int32) (v0_5 : Int32) (v0_6 : Int32) (v0_7 : Int32) (v1_5 : Int32) (v2_10 : Int32) (v2_11 : Int32) (v2_7 : Nat → Int32) (v2_9 : Nat → Int32) (v4_10 : Int32) (v4_1 : Nat → Int32) (v4_2 : Nat → Int32) (v4_3 : Nat → Int32) (v4_4 : Nat → Int32) (v4_5 : Nat → Int32) (v4_6 : Nat → Int32) (v4_7 : Nat → Int32) (u : (Int32 × Int32 × (Nat → Int32) × (Nat → Int32) × (Nat → Int32))) (A : Nat → Prop) : Array Value → State → Outcome → State → Prop := va_Qv (fun (_ : Unit) => True) (fun _ => q_at dC dI cI A (wd_X10_addJoin cI a0 a1 a2 a3 a4 v0_3 v0_4 v0_5 v0_6 v0_7 u.1 u.2.1 v1_5 u.2.2.1 u.2.2.2.1 u.2.2.2.2 v2_10 v2_11 v2_7 v2_9 v4_10 v4_1 v4_2 v4_3 v4_4 v4_5 v4_6 v4_7)) A
set_option maxHeartbeats 4000000 in
set_option maxRecDepth 100000 in
theorem c_X10_addJoin (l : Launch) (dC : Nat → ClassId) (dI : Nat → Nat → Nat) (cI : ClassId) (sz : Nat) (a0 : Nat → Nat) (a1 : Nat → Nat) (a2 : Nat → Nat) (a3 : Nat → Nat) (a4 : Nat → Nat) (v0_3 : Int32) (v0_4 : Int32) (v0_5 : Int32) (v0_6 : Int32) (v0_7 : Int32) (v1_3 : Int32) (v1_4 : Int32) (v1_5 : Int32) (v1_0 : Nat → Int32) (v1_1 : Nat → Int32) (v1_2 : Nat → Int32) (v2_10 : Int32) (v2_11 : Int32) (v2_7 : Nat → Int32) (v2_9 : Nat → Int32) (v4_10 : Int32) (v4_1 : Nat → Int32) (v4_2 : Nat → Int32) (v4_3 : Nat → Int32) (v4_4 : Nat → Int32) (v4_5 : Nat → Int32) (v4_6 : Nat → Int32) (v4_7 : Nat → Int32) (p1 : Int32) (p2 : Int32) (u : (Int32 × Int32 × (Nat → Int32) × (Nat → Int32) × (Nat → Int32))) (hF : F_X10_addJoin v0_4 v0_5 v0_6 v1_3 v1_4 v1_0 v1_1 v1_2 v2_7 v2_9 v4_1 v4_2 v4_3 v4_4 v4_5 v4_6 v4_7 p1 p2 = some u) : Met l yX10_addJoin wz_X10_addJoin rm_X10_addJoin (va_Pc [.ref (a0 0), .int p1, .int p2] (q_pre dC dI cI (wd_X10_addJoin cI a0 a1 a2 a3 a4 v0_3 v0_4 v0_5 v0_6 v0_7 v1_3 v1_4 v1_5 v1_0 v1_1 v1_2 v2_10 v2_11 v2_7 v2_9 v4_10 v4_1 v4_2 v4_3 v4_4 v4_5 v4_6 v4_7) sz)) (Q_X10_addJoin dC dI cI a0 a1 a2 a3 a4 v0_3 v0_4 v0_5 v0_6 v0_7 v1_5 v2_10 v2_11 v2_7 v2_9 v4_10 v4_1 v4_2 v4_3 v4_4 v4_5 v4_6 v4_7 u (va_A (wd_X10_addJoin cI a0 a1 a2 a3 a4 v0_3 v0_4 v0_5 v0_6 v0_7 v1_3 v1_4 v1_5 v1_0 v1_1 v1_2 v2_10 v2_11 v2_7 v2_9 v4_10 v4_1 v4_2 v4_3 v4_4 v4_5 v4_6 v4_7) sz)) 0 0 (va_A (wd_X10_addJoin cI a0 a1 a2 a3 a4 v0_3 v0_4 v0_5 v0_6 v0_7 v1_3 v1_4 v1_5 v1_0 v1_1 v1_2 v2_10 v2_11 v2_7 v2_9 v4_10 v4_1 v4_2 v4_3 v4_4 v4_5 v4_6 v4_7) sz) := by
  refine Met.ofW (cc := cX10_addJoin) (maxL := 17) (ret := none) (by decide) rfl ?_
  intro p e s m args below meth c s₁ B hml hv
  obtain ⟨rfl, hsz, hP, hK, hD0⟩ := hv
  have hx := B.exec
  have hb := B.bytes
  have hr := B.returns
  have hts := atoms_spec (ws := wz_X10_addJoin) B.pre
  have hta := wz_tl hts
  have hown : s.vm.findClass RX10 = some m.cls := findClass_of_methodNamed B.named
  have hlocks := B.notSynchronized
  subst hsz
  have hD := hD0.self (sz := s.heap.size)
  generalize hAe : va_A (wd_X10_addJoin cI a0 a1 a2 a3 a4 v0_3 v0_4 v0_5 v0_6 v0_7 v1_3 v1_4 v1_5 v1_0 v1_1 v1_2 v2_10 v2_11 v2_7 v2_9 v4_10 v4_1 v4_2 v4_3 v4_4 v4_5 v4_6 v4_7) s.heap.size = A at hD ⊢
  have hA : ∀ q : Nat, s.heap.size ≤ q → A q := fun q h => by rw [← hAe]; exact Or.inr h
  have hS : va_S A s.heap s.heap [] := va_S.rf
  have hP : va_P (dC, dI) vwCl (wd_X10_addJoin cI a0 a1 a2 a3 a4 v0_3 v0_4 v0_5 v0_6 v0_7 v1_3 v1_4 v1_5 v1_0 v1_1 v1_2 v2_10 v2_11 v2_7 v2_9 v4_10 v4_1 v4_2 v4_3 v4_4 v4_5 v4_6 v4_7) s.heap := hP
  have hl := lv_entry ([.ref (a0 0), .int p1, .int p2]) (n := 17) (Nat.le_of_ble_eq_true rfl)
  rw [lg_entry_eq]
  generalize (lg_sl ([.ref (a0 0), .int p1, .int p2]) ++ List.replicate (17 - (lg_sl ([.ref (a0 0), .int p1, .int p2])).length) Slot.unset).toArray = ls at hl ⊢
  have hl : lv_has ls 17 [(0, .ref (a0 0)), (1, .int p1), (2, .int p2)] := hl
  obtain ⟨H, hHe⟩ : ∃ H, H = s.heap := ⟨_, rfl⟩
  have hS : va_S A s.heap H [] := by rw [hHe]; exact hS
  have hP : va_P (dC, dI) vwCl (wd_X10_addJoin cI a0 a1 a2 a3 a4 v0_3 v0_4 v0_5 v0_6 v0_7 v1_3 v1_4 v1_5 v1_0 v1_1 v1_2 v2_10 v2_11 v2_7 v2_9 v4_10 v4_1 v4_2 v4_3 v4_4 v4_5 v4_6 v4_7) H := by rw [hHe]; exact hP
  rw [← hHe]
  unfold F_X10_addJoin at hF
  have j310 : ∀ (v1_3 : Int32) (v1_4 : Int32) (v1_0 : Nat → Int32) (v1_1 : Nat → Int32) (v1_2 : Nat → Int32) (x9 : Int32) (x10 : Int32) (x11 : Int32) (x14 : Int32) (x15 : Int32), F_X10_addJoin_j310 v1_3 v1_4 v1_0 v1_1 v1_2 x9 x10 x11 x14 x15 = some u → ∀ (H : Heap) (locs : List Loc) (ls : Array Slot), va_P (dC, dI) vwCl (wd_X10_addJoin cI a0 a1 a2 a3 a4 v0_3 v0_4 v0_5 v0_6 v0_7 v1_3 v1_4 v1_5 v1_0 v1_1 v1_2 v2_10 v2_11 v2_7 v2_9 v4_10 v4_1 v4_2 v4_3 v4_4 v4_5 v4_6 v4_7) H → va_D A (wd_X10_addJoin cI a0 a1 a2 a3 a4 v0_3 v0_4 v0_5 v0_6 v0_7 v1_3 v1_4 v1_5 v1_0 v1_1 v1_2 v2_10 v2_11 v2_7 v2_9 v4_10 v4_1 v4_2 v4_3 v4_4 v4_5 v4_6 v4_7) → va_S A s.heap H locs → lv_has ls 17 [(0, .ref (a0 0)), (9, .int x9), (10, .int x10), (11, .int x11), (14, .int x14), (15, .int x15)] → W p l e (headSpec wz_X10_addJoin rm_X10_addJoin).room s m [.ref (a0 0), .int p1, .int p2].toArray below meth c H locs 0 0 (MQ below (Q_X10_addJoin dC dI cI a0 a1 a2 a3 a4 v0_3 v0_4 v0_5 v0_6 v0_7 v1_5 v2_10 v2_11 v2_7 v2_9 v4_10 v4_1 v4_2 v4_3 v4_4 v4_5 v4_6 v4_7 u A) [.ref (a0 0), .int p1, .int p2].toArray s 0 0 A) (F0 m 310 ls []) := by
    intro v1_3 v1_4 v1_0 v1_1 v1_2 x9 x10 x11 x14 x15 hF H locs ls hP hD hS hl
    unfold F_X10_addJoin_j310 at hF
    refine lv_aload_n hx hb dX10_addJoin_310 rfl (lv_at hl 0 rfl) ?_
    refine va_get (D := (dC, dI)) (ci := 9) (v := .ref (a1 0)) (C := RX10) (T := TX10) (N := 8) hx hb hta uw_X10 hown hK hP 0 rfl rfl 2 (by decide) (hta _ mA61) (fun _ h9 => h9) rfl dX10_addJoin_311 ?_
    refine lv_iload hx hb dX10_addJoin_314 (lv_at hl 1 rfl) ?_
    refine lv_iload hx hb dX10_addJoin_316 (lv_at hl 3 rfl) ?_
    refine lv_iload hx hb dX10_addJoin_318 (lv_at hl 4 rfl) ?_
    refine lv_imul hx hb dX10_addJoin_320 ?_
    refine lv_iadd hx hb dX10_addJoin_321 ?_
    refine lv_iload hx hb dX10_addJoin_322 (lv_at hl 2 rfl) ?_
    refine lv_iload hx hb dX10_addJoin_324 (lv_at hl 3 rfl) ?_
    refine lv_iload hx hb dX10_addJoin_326 (lv_at hl 5 rfl) ?_
    refine lv_imul hx hb dX10_addJoin_328 ?_
    refine lv_iadd hx hb dX10_addJoin_329 ?_
    obtain ⟨u_1, hu_1, hF⟩ := obd_some hF
    have hPc := hP.sub (ws' := (wd_X7_addCorner cI a1 v1_3 v1_4 v1_5 v1_1 v1_2)) [1, 3, 4] rfl
    have hDc := hD.sub (ws' := (wd_X7_addCorner cI a1 v1_3 v1_4 v1_5 v1_1 v1_2)) [1, 3, 4] rfl rfl
    refine q_callv (wc := (wd_X7_addCorner cI a1 v1_3 v1_4 v1_5 v1_1 v1_2)) (w1 := (wd_X7_addCorner cI a1 v1_3 u_1.1 v1_5 u_1.2.1 u_1.2.2)) (ws' := (wd_X10_addJoin cI a0 a1 a2 a3 a4 v0_3 v0_4 v0_5 v0_6 v0_7 v1_3 u_1.1 v1_5 v1_0 u_1.2.1 u_1.2.2 v2_10 v2_11 v2_7 v2_9 v4_10 v4_1 v4_2 v4_3 v4_4 v4_5 v4_6 v4_7)) hP hD hS hA [1, 3, 4] [0, 2, 5, 6, 7, 8, 9, 10, 11, 12, 13, 14, 15] [0, 13, 1, 14, 15, 2, 3, 4, 5, 6, 7, 8, 9, 10, 11, 12] rfl rfl rfl (by decide) rfl rfl (va_runV (As := [.int (x9 + (x11 * x14)), .int (x10 + (x11 * x15))]) (rest := []) ⟨hx, hb, hml, hown, hta⟩ (c_X7_addCorner l dC dI cI H.size a1 v1_3 v1_4 v1_5 v1_1 v1_2 (x9 + (x11 * x14)) (x10 + (x11 * x15)) u_1 hu_1) (cwV 2 hta (ga_V mA494 mA495 mA496 mA60 mA497) rfl rfl rfl (by decide +kernel) ⟨Nat.le_of_ble_eq_true rfl, Nat.le_of_ble_eq_true rfl⟩) ⟨q_fb, va_recv hK hP (ci := 6) (q0 := 1) rfl rfl, q_ps hPc hK hDc⟩ rfl rfl hl.1 rfl (lv_room (Nat.le_of_ble_eq_true rfl)) dX10_addJoin_330 ⟨Nat.zero_le _, Nat.zero_le _⟩) (fun H locs hP hD hS => ?_)
    try clear j310
    try clear j246
    try clear j230
    try clear j229
    try clear j144
    try clear j116
    try clear j64
    obtain rfl := Option.some.inj hF
    exact W.vret hx hb hr (fun t ht hW => ⟨⟨(), rfl, trivial, by rw [ht]; exact hP, va_K.moved hW.alike hK, hD⟩, hS.F ht⟩) hS.2.2 dX10_addJoin_333
  have j246 : ∀ (v1_3 : Int32) (v1_4 : Int32) (v1_0 : Nat → Int32) (v1_1 : Nat → Int32) (v1_2 : Nat → Int32) (x9 : Int32) (x10 : Int32) (x11 : Int32) (x12 : Int32) (x13 : Int32) (x14 : Int32) (x15 : Int32) (x16 : Int32) (t1 : Int32), F_X10_addJoin_j246 v0_4 v1_3 v1_4 v1_0 v1_1 v1_2 x9 x10 x11 x12 x13 x14 x15 x16 t1 = some u → ∀ (H : Heap) (locs : List Loc) (ls : Array Slot), va_P (dC, dI) vwCl (wd_X10_addJoin cI a0 a1 a2 a3 a4 v0_3 v0_4 v0_5 v0_6 v0_7 v1_3 v1_4 v1_5 v1_0 v1_1 v1_2 v2_10 v2_11 v2_7 v2_9 v4_10 v4_1 v4_2 v4_3 v4_4 v4_5 v4_6 v4_7) H → va_D A (wd_X10_addJoin cI a0 a1 a2 a3 a4 v0_3 v0_4 v0_5 v0_6 v0_7 v1_3 v1_4 v1_5 v1_0 v1_1 v1_2 v2_10 v2_11 v2_7 v2_9 v4_10 v4_1 v4_2 v4_3 v4_4 v4_5 v4_6 v4_7) → va_S A s.heap H locs → lv_has ls 17 [(0, .ref (a0 0)), (9, .int x9), (10, .int x10), (11, .int x11), (12, .int x12), (13, .int x13), (14, .int x14), (15, .int x15), (16, .int x16)] → W p l e (headSpec wz_X10_addJoin rm_X10_addJoin).room s m [.ref (a0 0), .int p1, .int p2].toArray below meth c H locs 0 0 (MQ below (Q_X10_addJoin dC dI cI a0 a1 a2 a3 a4 v0_3 v0_4 v0_5 v0_6 v0_7 v1_5 v2_10 v2_11 v2_7 v2_9 v4_10 v4_1 v4_2 v4_3 v4_4 v4_5 v4_6 v4_7 u A) [.ref (a0 0), .int p1, .int p2].toArray s 0 0 A) (F0 m 246 ls [.int t1, .ref (a1 0)]) := by
    intro v1_3 v1_4 v1_0 v1_1 v1_2 x9 x10 x11 x12 x13 x14 x15 x16 t1 hF H locs ls hP hD hS hl
    unfold F_X10_addJoin_j246 at hF
    obtain ⟨u_2, hu_2, hF⟩ := obd_some hF
    have hPc := hP.sub (ws' := (wd_X7_start cI a1 v1_3 v1_4 v1_5 v1_0)) [1, 2] rfl
    have hDc := hD.sub (ws' := (wd_X7_start cI a1 v1_3 v1_4 v1_5 v1_0)) [1, 2] rfl rfl
    refine q_callv (wc := (wd_X7_start cI a1 v1_3 v1_4 v1_5 v1_0)) (w1 := (wd_X7_start cI a1 u_2.1 u_2.2.1 v1_5 u_2.2.2)) (ws' := (wd_X10_addJoin cI a0 a1 a2 a3 a4 v0_3 v0_4 v0_5 v0_6 v0_7 u_2.1 u_2.2.1 v1_5 u_2.2.2 v1_1 v1_2 v2_10 v2_11 v2_7 v2_9 v4_10 v4_1 v4_2 v4_3 v4_4 v4_5 v4_6 v4_7)) hP hD hS hA [1, 2] [0, 3, 4, 5, 6, 7, 8, 9, 10, 11, 12, 13, 14, 15] [0, 14, 15, 1, 2, 3, 4, 5, 6, 7, 8, 9, 10, 11, 12, 13] rfl rfl rfl (by decide) rfl rfl (va_runV (As := [.int t1]) (rest := []) ⟨hx, hb, hml, hown, hta⟩ (c_X7_start l dC dI cI H.size a1 v1_3 v1_4 v1_5 v1_0 t1 u_2 hu_2) (cwV 1 hta (ga_V mA489 mA490 mA491 mA60 mA492) rfl rfl rfl (by decide +kernel) ⟨Nat.le_of_ble_eq_true rfl, Nat.le_of_ble_eq_true rfl⟩) ⟨q_fb, va_recv hK hP (ci := 6) (q0 := 1) rfl rfl, q_ps hPc hK hDc⟩ rfl rfl hl.1 rfl (lv_room (Nat.le_of_ble_eq_true rfl)) dX10_addJoin_246 ⟨Nat.zero_le _, Nat.zero_le _⟩) (fun H locs hP hD hS => ?_)
    refine lv_aload_n hx hb dX10_addJoin_249 rfl (lv_at hl 0 rfl) ?_
    refine va_get (D := (dC, dI)) (ci := 9) (v := .ref (a1 0)) (C := RX10) (T := TX10) (N := 8) hx hb hta uw_X10 hown hK hP 0 rfl rfl 2 (by decide) (hta _ mA61) (fun _ h9 => h9) rfl dX10_addJoin_250 ?_
    refine lv_iload hx hb dX10_addJoin_253 (lv_at hl 1 rfl) ?_
    refine lv_iload hx hb dX10_addJoin_255 (lv_at hl 2 rfl) ?_
    obtain ⟨u_3, hu_3, hF⟩ := obd_some hF
    have hPc := hP.sub (ws' := (wd_X7_addCorner cI a1 u_2.1 u_2.2.1 v1_5 v1_1 v1_2)) [1, 3, 4] rfl
    have hDc := hD.sub (ws' := (wd_X7_addCorner cI a1 u_2.1 u_2.2.1 v1_5 v1_1 v1_2)) [1, 3, 4] rfl rfl
    refine q_callv (wc := (wd_X7_addCorner cI a1 u_2.1 u_2.2.1 v1_5 v1_1 v1_2)) (w1 := (wd_X7_addCorner cI a1 u_2.1 u_3.1 v1_5 u_3.2.1 u_3.2.2)) (ws' := (wd_X10_addJoin cI a0 a1 a2 a3 a4 v0_3 v0_4 v0_5 v0_6 v0_7 u_2.1 u_3.1 v1_5 u_2.2.2 u_3.2.1 u_3.2.2 v2_10 v2_11 v2_7 v2_9 v4_10 v4_1 v4_2 v4_3 v4_4 v4_5 v4_6 v4_7)) hP hD hS hA [1, 3, 4] [0, 2, 5, 6, 7, 8, 9, 10, 11, 12, 13, 14, 15] [0, 13, 1, 14, 15, 2, 3, 4, 5, 6, 7, 8, 9, 10, 11, 12] rfl rfl rfl (by decide) rfl rfl (va_runV (As := [.int x9, .int x10]) (rest := []) ⟨hx, hb, hml, hown, hta⟩ (c_X7_addCorner l dC dI cI H.size a1 u_2.1 u_2.2.1 v1_5 v1_1 v1_2 x9 x10 u_3 hu_3) (cwV 2 hta (ga_V mA494 mA495 mA496 mA60 mA497) rfl rfl rfl (by decide +kernel) ⟨Nat.le_of_ble_eq_true rfl, Nat.le_of_ble_eq_true rfl⟩) ⟨q_fb, va_recv hK hP (ci := 6) (q0 := 1) rfl rfl, q_ps hPc hK hDc⟩ rfl rfl hl.1 rfl (lv_room (Nat.le_of_ble_eq_true rfl)) dX10_addJoin_257 ⟨Nat.zero_le _, Nat.zero_le _⟩) (fun H locs hP hD hS => ?_)
    refine lv_aload_n hx hb dX10_addJoin_260 rfl (lv_at hl 0 rfl) ?_
    refine va_get (D := (dC, dI)) (ci := 9) (v := .ref (a1 0)) (C := RX10) (T := TX10) (N := 8) hx hb hta uw_X10 hown hK hP 0 rfl rfl 2 (by decide) (hta _ mA61) (fun _ h9 => h9) rfl dX10_addJoin_261 ?_
    refine lv_iload hx hb dX10_addJoin_264 (lv_at hl 1 rfl) ?_
    refine lv_iload hx hb dX10_addJoin_266 (lv_at hl 3 rfl) ?_
    refine lv_iload hx hb dX10_addJoin_268 (lv_at hl 4 rfl) ?_
    refine lv_imul hx hb dX10_addJoin_270 ?_
    refine lv_iadd hx hb dX10_addJoin_271 ?_
    refine lv_iload hx hb dX10_addJoin_272 (lv_at hl 2 rfl) ?_
    refine lv_iload hx hb dX10_addJoin_274 (lv_at hl 3 rfl) ?_
    refine lv_iload hx hb dX10_addJoin_276 (lv_at hl 5 rfl) ?_
    refine lv_imul hx hb dX10_addJoin_278 ?_
    refine lv_iadd hx hb dX10_addJoin_279 ?_
    obtain ⟨u_4, hu_4, hF⟩ := obd_some hF
    have hPc := hP.sub (ws' := (wd_X7_addCorner cI a1 u_2.1 u_3.1 v1_5 u_3.2.1 u_3.2.2)) [1, 3, 4] rfl
    have hDc := hD.sub (ws' := (wd_X7_addCorner cI a1 u_2.1 u_3.1 v1_5 u_3.2.1 u_3.2.2)) [1, 3, 4] rfl rfl
    refine q_callv (wc := (wd_X7_addCorner cI a1 u_2.1 u_3.1 v1_5 u_3.2.1 u_3.2.2)) (w1 := (wd_X7_addCorner cI a1 u_2.1 u_4.1 v1_5 u_4.2.1 u_4.2.2)) (ws' := (wd_X10_addJoin cI a0 a1 a2 a3 a4 v0_3 v0_4 v0_5 v0_6 v0_7 u_2.1 u_4.1 v1_5 u_2.2.2 u_4.2.1 u_4.2.2 v2_10 v2_11 v2_7 v2_9 v4_10 v4_1 v4_2 v4_3 v4_4 v4_5 v4_6 v4_7)) hP hD hS hA [1, 3, 4] [0, 2, 5, 6, 7, 8, 9, 10, 11, 12, 13, 14, 15] [0, 13, 1, 14, 15, 2, 3, 4, 5, 6, 7, 8, 9, 10, 11, 12] rfl rfl rfl (by decide) rfl rfl (va_runV (As := [.int (x9 + (x11 * x12)), .int (x10 + (x11 * x13))]) (rest := []) ⟨hx, hb, hml, hown, hta⟩ (c_X7_addCorner l dC dI cI H.size a1 u_2.1 u_3.1 v1_5 u_3.2.1 u_3.2.2 (x9 + (x11 * x12)) (x10 + (x11 * x13)) u_4 hu_4) (cwV 2 hta (ga_V mA494 mA495 mA496 mA60 mA497) rfl rfl rfl (by decide +kernel) ⟨Nat.le_of_ble_eq_true rfl, Nat.le_of_ble_eq_true rfl⟩) ⟨q_fb, va_recv hK hP (ci := 6) (q0 := 1) rfl rfl, q_ps hPc hK hDc⟩ rfl rfl hl.1 rfl (lv_room (Nat.le_of_ble_eq_true rfl)) dX10_addJoin_280 ⟨Nat.zero_le _, Nat.zero_le _⟩) (fun H locs hP hD hS => ?_)
    refine lv_iload hx hb dX10_addJoin_283 (lv_at hl 8 rfl) ?_
    refine lv_if_eq (tgt := 310) hx hb dX10_addJoin_285 (by decide) (fun c_5 => ?_) (fun c_5 => ?_)
    · have hF := it_t hF c_5
      exact j310 u_2.1 u_4.1 u_2.2.2 u_4.2.1 u_4.2.2 x9 x10 x11 x14 x15 hF _ _ _ hP hD hS (lv_sub hl [0, 1, 2, 3, 6, 7] rfl)
    · have hF := it_f hF c_5
      refine lv_aload_n hx hb dX10_addJoin_288 rfl (lv_at hl 0 rfl) ?_
      refine lv_iload hx hb dX10_addJoin_289 (lv_at hl 1 rfl) ?_
      refine lv_iload hx hb dX10_addJoin_291 (lv_at hl 2 rfl) ?_
      refine lv_iload hx hb dX10_addJoin_293 (lv_at hl 3 rfl) ?_
      refine lv_iload hx hb dX10_addJoin_295 (lv_at hl 4 rfl) ?_
      refine lv_iload hx hb dX10_addJoin_297 (lv_at hl 6 rfl) ?_
      refine lv_iadd hx hb dX10_addJoin_299 ?_
      refine lv_i2l hx hb dX10_addJoin_300 rfl ?_
      refine lv_iload hx hb dX10_addJoin_301 (lv_at hl 5 rfl) ?_
      refine lv_iload hx hb dX10_addJoin_303 (lv_at hl 7 rfl) ?_
      refine lv_iadd hx hb dX10_addJoin_305 ?_
      refine lv_i2l hx hb dX10_addJoin_306 rfl ?_
      obtain ⟨u_6, hu_6, hF⟩ := obd_some hF
      have hPc := hP.sub (ws' := (wd_X10_addTip cI a0 a1 a2 a4 v0_3 v0_4 v0_5 v0_6 v0_7 u_2.1 u_4.1 v1_5 u_4.2.1 u_4.2.2)) [0, 1, 3, 4] rfl
      have hDc := hD.sub (ws' := (wd_X10_addTip cI a0 a1 a2 a4 v0_3 v0_4 v0_5 v0_6 v0_7 u_2.1 u_4.1 v1_5 u_4.2.1 u_4.2.2)) [0, 1, 3, 4] rfl rfl
      refine q_callv (wc := (wd_X10_addTip cI a0 a1 a2 a4 v0_3 v0_4 v0_5 v0_6 v0_7 u_2.1 u_4.1 v1_5 u_4.2.1 u_4.2.2)) (w1 := (wd_X10_addTip cI a0 a1 a2 a4 v0_3 v0_4 v0_5 v0_6 v0_7 u_2.1 u_6.1 v1_5 u_6.2.1 u_6.2.2)) (ws' := (wd_X10_addJoin cI a0 a1 a2 a3 a4 v0_3 v0_4 v0_5 v0_6 v0_7 u_2.1 u_6.1 v1_5 u_2.2.2 u_6.2.1 u_6.2.2 v2_10 v2_11 v2_7 v2_9 v4_10 v4_1 v4_2 v4_3 v4_4 v4_5 v4_6 v4_7)) hP hD hS hA [0, 1, 3, 4] [2, 5, 6, 7, 8, 9, 10, 11, 12, 13, 14, 15] [12, 13, 0, 14, 15, 1, 2, 3, 4, 5, 6, 7, 8, 9, 10, 11] rfl rfl rfl (by decide) rfl rfl (va_runV (As := [.int x9, .int x10, .int x11, .long ((x12 + x14).toInt64), .long ((x13 + x15).toInt64)]) (rest := []) ⟨hx, hb, hml, hown, hta⟩ (c_X10_addTip l dC dI cI H.size a0 a1 a2 a4 v0_3 v0_4 v0_5 v0_6 v0_7 u_2.1 u_4.1 v1_5 u_4.2.1 u_4.2.2 x9 x10 x11 ((x12 + x14).toInt64) ((x13 + x15).toInt64) u_6 hu_6) (cwV 5 hta (ga_V mA547 mA548 mA549 mA23 mA550) rfl rfl rfl (by decide +kernel) ⟨Nat.le_of_ble_eq_true rfl, Nat.le_of_ble_eq_true rfl⟩) ⟨q_fb, va_recv hK hP (ci := 9) (q0 := 0) rfl rfl, q_ps hPc hK hDc⟩ rfl rfl hl.1 rfl (lv_room (Nat.le_of_ble_eq_true rfl)) dX10_addJoin_307 ⟨Nat.zero_le _, Nat.zero_le _⟩) (fun H locs hP hD hS => ?_)
      exact j310 u_2.1 u_6.1 u_2.2.2 u_6.2.1 u_6.2.2 x9 x10 x11 x14 x15 hF _ _ _ hP hD hS (lv_sub hl [0, 1, 2, 3, 6, 7] rfl)
  have j230 : ∀ (v1_3 : Int32) (v1_4 : Int32) (v1_0 : Nat → Int32) (v1_1 : Nat → Int32) (v1_2 : Nat → Int32) (x9 : Int32) (x10 : Int32) (x11 : Int32) (x12 : Int32) (x13 : Int32) (x14 : Int32) (x15 : Int32) (t0 : Int32), F_X10_addJoin_j230 v0_4 v1_3 v1_4 v1_0 v1_1 v1_2 x9 x10 x11 x12 x13 x14 x15 t0 = some u → ∀ (H : Heap) (locs : List Loc) (ls : Array Slot), va_P (dC, dI) vwCl (wd_X10_addJoin cI a0 a1 a2 a3 a4 v0_3 v0_4 v0_5 v0_6 v0_7 v1_3 v1_4 v1_5 v1_0 v1_1 v1_2 v2_10 v2_11 v2_7 v2_9 v4_10 v4_1 v4_2 v4_3 v4_4 v4_5 v4_6 v4_7) H → va_D A (wd_X10_addJoin cI a0 a1 a2 a3 a4 v0_3 v0_4 v0_5 v0_6 v0_7 v1_3 v1_4 v1_5 v1_0 v1_1 v1_2 v2_10 v2_11 v2_7 v2_9 v4_10 v4_1 v4_2 v4_3 v4_4 v4_5 v4_6 v4_7) → va_S A s.heap H locs → lv_has ls 17 [(0, .ref (a0 0)), (9, .int x9), (10, .int x10), (11, .int x11), (12, .int x12), (13, .int x13), (14, .int x14), (15, .int x15)] → W p l e (headSpec wz_X10_addJoin rm_X10_addJoin).room s m [.ref (a0 0), .int p1, .int p2].toArray below meth c H locs 0 0 (MQ below (Q_X10_addJoin dC dI cI a0 a1 a2 a3 a4 v0_3 v0_4 v0_5 v0_6 v0_7 v1_5 v2_10 v2_11 v2_7 v2_9 v4_10 v4_1 v4_2 v4_3 v4_4 v4_5 v4_6 v4_7 u A) [.ref (a0 0), .int p1, .int p2].toArray s 0 0 A) (F0 m 230 ls [.int t0]) := by
    intro v1_3 v1_4 v1_0 v1_1 v1_2 x9 x10 x11 x12 x13 x14 x15 t0 hF H locs ls hP hD hS hl
    unfold F_X10_addJoin_j230 at hF
    refine lv_istore (lv' := [(16, .int t0), (0, .ref (a0 0)), (9, .int x9), (10, .int x10), (11, .int x11), (12, .int x12), (13, .int x13), (14, .int x14), (15, .int x15)]) hx hb dX10_addJoin_230 hl (by decide) rfl (fun ls hl => ?_)
    refine lv_aload_n hx hb dX10_addJoin_232 rfl (lv_at hl 1 rfl) ?_
    refine va_get (D := (dC, dI)) (ci := 9) (v := .ref (a1 0)) (C := RX10) (T := TX10) (N := 8) hx hb hta uw_X10 hown hK hP 0 rfl rfl 2 (by decide) (hta _ mA61) (fun _ h9 => h9) rfl dX10_addJoin_233 ?_
    refine lv_iload hx hb dX10_addJoin_236 (lv_at hl 0 rfl) ?_
    refine lv_if_eq (tgt := 245) hx hb dX10_addJoin_238 (by decide) (fun c_7 => ?_) (fun c_7 => ?_)
    · have hF := it_t hF c_7
      refine lv_iconst (v := 2) hx hb dX10_addJoin_245 (by decide) ?_
      exact j246 v1_3 v1_4 v1_0 v1_1 v1_2 x9 x10 x11 x12 x13 x14 x15 t0 2 hF _ _ _ hP hD hS (lv_sub hl [1, 2, 3, 4, 5, 6, 7, 8, 0] rfl)
    · have hF := it_f hF c_7
      refine lv_iconst (v := 1) hx hb dX10_addJoin_241 (by decide) ?_
      refine lv_goto (tgt := 246) hx hb dX10_addJoin_242 (by decide) ?_
      exact j246 v1_3 v1_4 v1_0 v1_1 v1_2 x9 x10 x11 x12 x13 x14 x15 t0 1 hF _ _ _ hP hD hS (lv_sub hl [1, 2, 3, 4, 5, 6, 7, 8, 0] rfl)
  have j229 : ∀ (v1_3 : Int32) (v1_4 : Int32) (v1_0 : Nat → Int32) (v1_1 : Nat → Int32) (v1_2 : Nat → Int32) (x9 : Int32) (x10 : Int32) (x11 : Int32) (x12 : Int32) (x13 : Int32) (x14 : Int32) (x15 : Int32), F_X10_addJoin_j229 v0_4 v1_3 v1_4 v1_0 v1_1 v1_2 x9 x10 x11 x12 x13 x14 x15 = some u → ∀ (H : Heap) (locs : List Loc) (ls : Array Slot), va_P (dC, dI) vwCl (wd_X10_addJoin cI a0 a1 a2 a3 a4 v0_3 v0_4 v0_5 v0_6 v0_7 v1_3 v1_4 v1_5 v1_0 v1_1 v1_2 v2_10 v2_11 v2_7 v2_9 v4_10 v4_1 v4_2 v4_3 v4_4 v4_5 v4_6 v4_7) H → va_D A (wd_X10_addJoin cI a0 a1 a2 a3 a4 v0_3 v0_4 v0_5 v0_6 v0_7 v1_3 v1_4 v1_5 v1_0 v1_1 v1_2 v2_10 v2_11 v2_7 v2_9 v4_10 v4_1 v4_2 v4_3 v4_4 v4_5 v4_6 v4_7) → va_S A s.heap H locs → lv_has ls 17 [(0, .ref (a0 0)), (9, .int x9), (10, .int x10), (11, .int x11), (12, .int x12), (13, .int x13), (14, .int x14), (15, .int x15)] → W p l e (headSpec wz_X10_addJoin rm_X10_addJoin).room s m [.ref (a0 0), .int p1, .int p2].toArray below meth c H locs 0 0 (MQ below (Q_X10_addJoin dC dI cI a0 a1 a2 a3 a4 v0_3 v0_4 v0_5 v0_6 v0_7 v1_5 v2_10 v2_11 v2_7 v2_9 v4_10 v4_1 v4_2 v4_3 v4_4 v4_5 v4_6 v4_7 u A) [.ref (a0 0), .int p1, .int p2].toArray s 0 0 A) (F0 m 229 ls []) := by
    intro v1_3 v1_4 v1_0 v1_1 v1_2 x9 x10 x11 x12 x13 x14 x15 hF H locs ls hP hD hS hl
    unfold F_X10_addJoin_j229 at hF
    refine lv_iconst (v := 0) hx hb dX10_addJoin_229 (by decide) ?_
    exact j230 v1_3 v1_4 v1_0 v1_1 v1_2 x9 x10 x11 x12 x13 x14 x15 0 hF _ _ _ hP hD hS (lv_sub hl [0, 1, 2, 3, 4, 5, 6, 7] rfl)
  have j144 : ∀ (v1_3 : Int32) (v1_4 : Int32) (v1_0 : Nat → Int32) (v1_1 : Nat → Int32) (v1_2 : Nat → Int32) (x3 : Int32) (x4 : Int32) (x7 : Int64) (x9 : Int32) (x10 : Int32) (t0 : Int32), F_X10_addJoin_j144 v0_4 v0_5 v0_6 v1_3 v1_4 v1_0 v1_1 v1_2 v4_3 v4_4 v4_6 v4_7 x3 x4 x7 x9 x10 t0 = some u → ∀ (H : Heap) (locs : List Loc) (ls : Array Slot), va_P (dC, dI) vwCl (wd_X10_addJoin cI a0 a1 a2 a3 a4 v0_3 v0_4 v0_5 v0_6 v0_7 v1_3 v1_4 v1_5 v1_0 v1_1 v1_2 v2_10 v2_11 v2_7 v2_9 v4_10 v4_1 v4_2 v4_3 v4_4 v4_5 v4_6 v4_7) H → va_D A (wd_X10_addJoin cI a0 a1 a2 a3 a4 v0_3 v0_4 v0_5 v0_6 v0_7 v1_3 v1_4 v1_5 v1_0 v1_1 v1_2 v2_10 v2_11 v2_7 v2_9 v4_10 v4_1 v4_2 v4_3 v4_4 v4_5 v4_6 v4_7) → va_S A s.heap H locs → lv_has ls 17 [(0, .ref (a0 0)), (3, .int x3), (4, .int x4), (7, .long x7), (9, .int x9), (10, .int x10)] → W p l e (headSpec wz_X10_addJoin rm_X10_addJoin).room s m [.ref (a0 0), .int p1, .int p2].toArray below meth c H locs 0 0 (MQ below (Q_X10_addJoin dC dI cI a0 a1 a2 a3 a4 v0_3 v0_4 v0_5 v0_6 v0_7 v1_5 v2_10 v2_11 v2_7 v2_9 v4_10 v4_1 v4_2 v4_3 v4_4 v4_5 v4_6 v4_7 u A) [.ref (a0 0), .int p1, .int p2].toArray s 0 0 A) (F0 m 144 ls [.int t0]) := by
    intro v1_3 v1_4 v1_0 v1_1 v1_2 x3 x4 x7 x9 x10 t0 hF H locs ls hP hD hS hl
    unfold F_X10_addJoin_j144 at hF
    refine lv_istore (lv' := [(11, .int t0), (0, .ref (a0 0)), (3, .int x3), (4, .int x4), (7, .long x7), (9, .int x9), (10, .int x10)]) hx hb dX10_addJoin_144 hl (by decide) rfl (fun ls hl => ?_)
    refine lv_aload_n hx hb dX10_addJoin_146 rfl (lv_at hl 1 rfl) ?_
    refine va_get (D := (dC, dI)) (ci := 9) (v := .ref (a4 0)) (C := RX10) (T := TX10) (N := 8) hx hb hta uw_X10 hown hK hP 0 rfl rfl 0 (by decide) (hta _ mA53) (fun _ h9 => h9) rfl dX10_addJoin_147 ?_
    refine lv_iload_n hx hb dX10_addJoin_150 rfl (lv_at hl 2 rfl) ?_
    obtain ⟨u_8, hu_8, hF⟩ := obd_some hF
    have hPc := hP.sub (ws' := (wd_X9_normalX cI a4 v4_10 v4_6)) [8, 14] rfl
    have hDc := hD.sub (ws' := (wd_X9_normalX cI a4 v4_10 v4_6)) [8, 14] rfl rfl
    refine q_calli (wc := (wd_X9_normalX cI a4 v4_10 v4_6)) (w1 := (wd_X9_normalX cI a4 v4_10 v4_6)) (ws' := (wd_X10_addJoin cI a0 a1 a2 a3 a4 v0_3 v0_4 v0_5 v0_6 v0_7 v1_3 v1_4 v1_5 v1_0 v1_1 v1_2 v2_10 v2_11 v2_7 v2_9 v4_10 v4_1 v4_2 v4_3 v4_4 v4_5 v4_6 v4_7)) hP hD hS hA [8, 14] [0, 1, 2, 3, 4, 5, 6, 7, 9, 10, 11, 12, 13, 15] [0, 1, 2, 3, 4, 5, 6, 7, 14, 8, 9, 10, 11, 12, 15, 13] rfl rfl rfl (by decide) rfl rfl (va_runV (As := [.int x3]) (rest := []) ⟨hx, hb, hml, hown, hta⟩ (c_X9_normalX l dC dI cI H.size a4 v4_10 v4_6 x3 u_8 hu_8) (cwV 1 hta (ga_V mA522 mA523 mA524 mA52 mA525) rfl rfl rfl (by decide +kernel) ⟨Nat.le_of_ble_eq_true rfl, Nat.le_of_ble_eq_true rfl⟩) ⟨q_fb, va_recv hK hP (ci := 8) (q0 := 8) rfl rfl, q_ps hPc hK hDc⟩ rfl rfl hl.1 rfl (lv_room (Nat.le_of_ble_eq_true rfl)) dX10_addJoin_151 ⟨Nat.zero_le _, Nat.zero_le _⟩) (fun H locs hP hD hS => ?_)
    refine lv_istore (lv' := [(12, .int u_8), (11, .int t0), (0, .ref (a0 0)), (3, .int x3), (4, .int x4), (7, .long x7), (9, .int x9), (10, .int x10)]) hx hb dX10_addJoin_154 hl (by decide) rfl (fun ls hl => ?_)
    refine lv_aload_n hx hb dX10_addJoin_156 rfl (lv_at hl 2 rfl) ?_
    refine va_get (D := (dC, dI)) (ci := 9) (v := .ref (a4 0)) (C := RX10) (T := TX10) (N := 8) hx hb hta uw_X10 hown hK hP 0 rfl rfl 0 (by decide) (hta _ mA53) (fun _ h9 => h9) rfl dX10_addJoin_157 ?_
    refine lv_iload_n hx hb dX10_addJoin_160 rfl (lv_at hl 3 rfl) ?_
    obtain ⟨u_9, hu_9, hF⟩ := obd_some hF
    have hPc := hP.sub (ws' := (wd_X9_normalY cI a4 v4_10 v4_7)) [8, 15] rfl
    have hDc := hD.sub (ws' := (wd_X9_normalY cI a4 v4_10 v4_7)) [8, 15] rfl rfl
    refine q_calli (wc := (wd_X9_normalY cI a4 v4_10 v4_7)) (w1 := (wd_X9_normalY cI a4 v4_10 v4_7)) (ws' := (wd_X10_addJoin cI a0 a1 a2 a3 a4 v0_3 v0_4 v0_5 v0_6 v0_7 v1_3 v1_4 v1_5 v1_0 v1_1 v1_2 v2_10 v2_11 v2_7 v2_9 v4_10 v4_1 v4_2 v4_3 v4_4 v4_5 v4_6 v4_7)) hP hD hS hA [8, 15] [0, 1, 2, 3, 4, 5, 6, 7, 9, 10, 11, 12, 13, 14] [0, 1, 2, 3, 4, 5, 6, 7, 14, 8, 9, 10, 11, 12, 13, 15] rfl rfl rfl (by decide) rfl rfl (va_runV (As := [.int x3]) (rest := []) ⟨hx, hb, hml, hown, hta⟩ (c_X9_normalY l dC dI cI H.size a4 v4_10 v4_7 x3 u_9 hu_9) (cwV 1 hta (ga_V mA526 mA527 mA528 mA52 mA529) rfl rfl rfl (by decide +kernel) ⟨Nat.le_of_ble_eq_true rfl, Nat.le_of_ble_eq_true rfl⟩) ⟨q_fb, va_recv hK hP (ci := 8) (q0 := 8) rfl rfl, q_ps hPc hK hDc⟩ rfl rfl hl.1 rfl (lv_room (Nat.le_of_ble_eq_true rfl)) dX10_addJoin_161 ⟨Nat.zero_le _, Nat.zero_le _⟩) (fun H locs hP hD hS => ?_)
    refine lv_istore (lv' := [(13, .int u_9), (12, .int u_8), (11, .int t0), (0, .ref (a0 0)), (3, .int x3), (4, .int x4), (7, .long x7), (9, .int x9), (10, .int x10)]) hx hb dX10_addJoin_164 hl (by decide) rfl (fun ls hl => ?_)
    refine lv_aload_n hx hb dX10_addJoin_166 rfl (lv_at hl 3 rfl) ?_
    refine va_get (D := (dC, dI)) (ci := 9) (v := .ref (a4 0)) (C := RX10) (T := TX10) (N := 8) hx hb hta uw_X10 hown hK hP 0 rfl rfl 0 (by decide) (hta _ mA53) (fun _ h9 => h9) rfl dX10_addJoin_167 ?_
    refine lv_iload hx hb dX10_addJoin_170 (lv_at hl 5 rfl) ?_
    obtain ⟨u_10, hu_10, hF⟩ := obd_some hF
    have hPc := hP.sub (ws' := (wd_X9_normalX cI a4 v4_10 v4_6)) [8, 14] rfl
    have hDc := hD.sub (ws' := (wd_X9_normalX cI a4 v4_10 v4_6)) [8, 14] rfl rfl
    refine q_calli (wc := (wd_X9_normalX cI a4 v4_10 v4_6)) (w1 := (wd_X9_normalX cI a4 v4_10 v4_6)) (ws' := (wd_X10_addJoin cI a0 a1 a2 a3 a4 v0_3 v0_4 v0_5 v0_6 v0_7 v1_3 v1_4 v1_5 v1_0 v1_1 v1_2 v2_10 v2_11 v2_7 v2_9 v4_10 v4_1 v4_2 v4_3 v4_4 v4_5 v4_6 v4_7)) hP hD hS hA [8, 14] [0, 1, 2, 3, 4, 5, 6, 7, 9, 10, 11, 12, 13, 15] [0, 1, 2, 3, 4, 5, 6, 7, 14, 8, 9, 10, 11, 12, 15, 13] rfl rfl rfl (by decide) rfl rfl (va_runV (As := [.int x4]) (rest := []) ⟨hx, hb, hml, hown, hta⟩ (c_X9_normalX l dC dI cI H.size a4 v4_10 v4_6 x4 u_10 hu_10) (cwV 1 hta (ga_V mA522 mA523 mA524 mA52 mA525) rfl rfl rfl (by decide +kernel) ⟨Nat.le_of_ble_eq_true rfl, Nat.le_of_ble_eq_true rfl⟩) ⟨q_fb, va_recv hK hP (ci := 8) (q0 := 8) rfl rfl, q_ps hPc hK hDc⟩ rfl rfl hl.1 rfl (lv_room (Nat.le_of_ble_eq_true rfl)) dX10_addJoin_172 ⟨Nat.zero_le _, Nat.zero_le _⟩) (fun H locs hP hD hS => ?_)
    refine lv_istore (lv' := [(14, .int u_10), (13, .int u_9), (12, .int u_8), (11, .int t0), (0, .ref (a0 0)), (3, .int x3), (4, .int x4), (7, .long x7), (9, .int x9), (10, .int x10)]) hx hb dX10_addJoin_175 hl (by decide) rfl (fun ls hl => ?_)
    refine lv_aload_n hx hb dX10_addJoin_177 rfl (lv_at hl 4 rfl) ?_
    refine va_get (D := (dC, dI)) (ci := 9) (v := .ref (a4 0)) (C := RX10) (T := TX10) (N := 8) hx hb hta uw_X10 hown hK hP 0 rfl rfl 0 (by decide) (hta _ mA53) (fun _ h9 => h9) rfl dX10_addJoin_178 ?_
    refine lv_iload hx hb dX10_addJoin_181 (lv_at hl 6 rfl) ?_
    obtain ⟨u_11, hu_11, hF⟩ := obd_some hF
    have hPc := hP.sub (ws' := (wd_X9_normalY cI a4 v4_10 v4_7)) [8, 15] rfl
    have hDc := hD.sub (ws' := (wd_X9_normalY cI a4 v4_10 v4_7)) [8, 15] rfl rfl
    refine q_calli (wc := (wd_X9_normalY cI a4 v4_10 v4_7)) (w1 := (wd_X9_normalY cI a4 v4_10 v4_7)) (ws' := (wd_X10_addJoin cI a0 a1 a2 a3 a4 v0_3 v0_4 v0_5 v0_6 v0_7 v1_3 v1_4 v1_5 v1_0 v1_1 v1_2 v2_10 v2_11 v2_7 v2_9 v4_10 v4_1 v4_2 v4_3 v4_4 v4_5 v4_6 v4_7)) hP hD hS hA [8, 15] [0, 1, 2, 3, 4, 5, 6, 7, 9, 10, 11, 12, 13, 14] [0, 1, 2, 3, 4, 5, 6, 7, 14, 8, 9, 10, 11, 12, 13, 15] rfl rfl rfl (by decide) rfl rfl (va_runV (As := [.int x4]) (rest := []) ⟨hx, hb, hml, hown, hta⟩ (c_X9_normalY l dC dI cI H.size a4 v4_10 v4_7 x4 u_11 hu_11) (cwV 1 hta (ga_V mA526 mA527 mA528 mA52 mA529) rfl rfl rfl (by decide +kernel) ⟨Nat.le_of_ble_eq_true rfl, Nat.le_of_ble_eq_true rfl⟩) ⟨q_fb, va_recv hK hP (ci := 8) (q0 := 8) rfl rfl, q_ps hPc hK hDc⟩ rfl rfl hl.1 rfl (lv_room (Nat.le_of_ble_eq_true rfl)) dX10_addJoin_183 ⟨Nat.zero_le _, Nat.zero_le _⟩) (fun H locs hP hD hS => ?_)
    refine lv_istore (lv' := [(15, .int u_11), (14, .int u_10), (13, .int u_9), (12, .int u_8), (11, .int t0), (0, .ref (a0 0)), (3, .int x3), (4, .int x4), (7, .long x7), (9, .int x9), (10, .int x10)]) hx hb dX10_addJoin_186 hl (by decide) rfl (fun ls hl => ?_)
    refine lv_aload_n hx hb dX10_addJoin_188 rfl (lv_at hl 5 rfl) ?_
    refine va_get (D := (dC, dI)) (ci := 9) (v := .int v0_5) (C := RX10) (T := TX10) (N := 8) hx hb hta uw_X10 hown hK hP 0 rfl rfl 5 (by decide) (hta _ mA466) (fun _ h9 => h9) rfl dX10_addJoin_189 ?_
    refine lv_if_ne (tgt := 229) hx hb dX10_addJoin_192 (by decide) (fun c_12 => ?_) (fun c_12 => ?_)
    · have hF := it_f hF c_12
      exact j229 v1_3 v1_4 v1_0 v1_1 v1_2 x9 x10 t0 u_8 u_9 u_10 u_11 hF _ _ _ hP hD hS (lv_sub hl [5, 9, 10, 4, 3, 2, 1, 0] rfl)
    · have hF := it_t hF c_12
      refine lv_aload_n hx hb dX10_addJoin_195 rfl (lv_at hl 5 rfl) ?_
      refine lv_lload hx hb dX10_addJoin_196 (lv_at hl 8 rfl) ?_
      refine lv_aload_n hx hb dX10_addJoin_198 rfl (lv_at hl 5 rfl) ?_
      refine va_get (D := (dC, dI)) (ci := 9) (v := .ref (a4 0)) (C := RX10) (T := TX10) (N := 8) hx hb hta uw_X10 hown hK hP 0 rfl rfl 0 (by decide) (hta _ mA53) (fun _ h9 => h9) rfl dX10_addJoin_199 ?_
      refine lv_iload_n hx hb dX10_addJoin_202 rfl (lv_at hl 6 rfl) ?_
      refine lv_iload_n hx hb dX10_addJoin_203 rfl (lv_at hl 6 rfl) ?_
      obtain ⟨u_13, hu_13, hF⟩ := obd_some hF
      have hPc := hP.sub (ws' := (wd_X9_dot cI a4 v4_10 v4_3 v4_4)) [8, 11, 12] rfl
      have hDc := hD.sub (ws' := (wd_X9_dot cI a4 v4_10 v4_3 v4_4)) [8, 11, 12] rfl rfl
      refine q_calll (wc := (wd_X9_dot cI a4 v4_10 v4_3 v4_4)) (w1 := (wd_X9_dot cI a4 v4_10 v4_3 v4_4)) (ws' := (wd_X10_addJoin cI a0 a1 a2 a3 a4 v0_3 v0_4 v0_5 v0_6 v0_7 v1_3 v1_4 v1_5 v1_0 v1_1 v1_2 v2_10 v2_11 v2_7 v2_9 v4_10 v4_1 v4_2 v4_3 v4_4 v4_5 v4_6 v4_7)) hP hD hS hA [8, 11, 12] [0, 1, 2, 3, 4, 5, 6, 7, 9, 10, 13, 14, 15] [0, 1, 2, 3, 4, 5, 6, 7, 13, 8, 9, 14, 15, 10, 11, 12] rfl rfl rfl (by decide) rfl rfl (va_runV (As := [.int x3, .int x3]) (rest := [.long x7, .ref (a0 0)]) ⟨hx, hb, hml, hown, hta⟩ (c_X9_dot l dC dI cI H.size a4 v4_10 v4_3 v4_4 x3 x3 u_13 hu_13) (cwV 2 hta (ga_V mA538 mA539 mA540 mA52 mA541) rfl rfl rfl (by decide +kernel) ⟨Nat.le_of_ble_eq_true rfl, Nat.le_of_ble_eq_true rfl⟩) ⟨q_fb, va_recv hK hP (ci := 8) (q0 := 8) rfl rfl, q_ps hPc hK hDc⟩ rfl rfl hl.1 rfl (lv_room (Nat.le_of_ble_eq_true rfl)) dX10_addJoin_204 ⟨Nat.zero_le _, Nat.zero_le _⟩) (fun H locs hP hD hS => ?_)
      refine lv_aload_n hx hb dX10_addJoin_207 rfl (lv_at hl 5 rfl) ?_
      refine va_get (D := (dC, dI)) (ci := 9) (v := .ref (a4 0)) (C := RX10) (T := TX10) (N := 8) hx hb hta uw_X10 hown hK hP 0 rfl rfl 0 (by decide) (hta _ mA53) (fun _ h9 => h9) rfl dX10_addJoin_208 ?_
      refine lv_iload hx hb dX10_addJoin_211 (lv_at hl 7 rfl) ?_
      refine lv_iload hx hb dX10_addJoin_213 (lv_at hl 7 rfl) ?_
      obtain ⟨u_14, hu_14, hF⟩ := obd_some hF
      have hPc := hP.sub (ws' := (wd_X9_dot cI a4 v4_10 v4_3 v4_4)) [8, 11, 12] rfl
      have hDc := hD.sub (ws' := (wd_X9_dot cI a4 v4_10 v4_3 v4_4)) [8, 11, 12] rfl rfl
      refine q_calll (wc := (wd_X9_dot cI a4 v4_10 v4_3 v4_4)) (w1 := (wd_X9_dot cI a4 v4_10 v4_3 v4_4)) (ws' := (wd_X10_addJoin cI a0 a1 a2 a3 a4 v0_3 v0_4 v0_5 v0_6 v0_7 v1_3 v1_4 v1_5 v1_0 v1_1 v1_2 v2_10 v2_11 v2_7 v2_9 v4_10 v4_1 v4_2 v4_3 v4_4 v4_5 v4_6 v4_7)) hP hD hS hA [8, 11, 12] [0, 1, 2, 3, 4, 5, 6, 7, 9, 10, 13, 14, 15] [0, 1, 2, 3, 4, 5, 6, 7, 13, 8, 9, 14, 15, 10, 11, 12] rfl rfl rfl (by decide) rfl rfl (va_runV (As := [.int x4, .int x4]) (rest := [.long u_13, .long x7, .ref (a0 0)]) ⟨hx, hb, hml, hown, hta⟩ (c_X9_dot l dC dI cI H.size a4 v4_10 v4_3 v4_4 x4 x4 u_14 hu_14) (cwV 2 hta (ga_V mA538 mA539 mA540 mA52 mA541) rfl rfl rfl (by decide +kernel) ⟨Nat.le_of_ble_eq_true rfl, Nat.le_of_ble_eq_true rfl⟩) ⟨q_fb, va_recv hK hP (ci := 8) (q0 := 8) rfl rfl, q_ps hPc hK hDc⟩ rfl rfl hl.1 rfl (lv_room (Nat.le_of_ble_eq_true rfl)) dX10_addJoin_215 ⟨Nat.zero_le _, Nat.zero_le _⟩) (fun H locs hP hD hS => ?_)
      refine lv_lmul hx hb dX10_addJoin_218 ?_
      obtain ⟨u_15, hu_15, hF⟩ := lt_some hF
      have hPc := hP.sub (ws' := (wd_X10_isInLimit cI a0 a1 a2 a4 v0_3 v0_4 v0_5 v0_6 v0_7)) [0] rfl
      have hDc := hD.sub (ws' := (wd_X10_isInLimit cI a0 a1 a2 a4 v0_3 v0_4 v0_5 v0_6 v0_7)) [0] rfl rfl
      refine q_callz (wc := (wd_X10_isInLimit cI a0 a1 a2 a4 v0_3 v0_4 v0_5 v0_6 v0_7)) (w1 := (wd_X10_isInLimit cI a0 a1 a2 a4 v0_3 v0_4 v0_5 v0_6 v0_7)) (ws' := (wd_X10_addJoin cI a0 a1 a2 a3 a4 v0_3 v0_4 v0_5 v0_6 v0_7 v1_3 v1_4 v1_5 v1_0 v1_1 v1_2 v2_10 v2_11 v2_7 v2_9 v4_10 v4_1 v4_2 v4_3 v4_4 v4_5 v4_6 v4_7)) hP hD hS hA [0] [1, 2, 3, 4, 5, 6, 7, 8, 9, 10, 11, 12, 13, 14, 15] [15, 0, 1, 2, 3, 4, 5, 6, 7, 8, 9, 10, 11, 12, 13, 14] rfl rfl rfl (by decide) rfl rfl (va_runV (As := [.long x7, .long (u_13 * u_14)]) (rest := []) ⟨hx, hb, hml, hown, hta⟩ (c_X10_isInLimit l dC dI cI H.size a0 a1 a2 a4 v0_3 v0_4 v0_5 v0_6 v0_7 x7 (u_13 * u_14) u_15 hu_15.symm) (cwV 2 hta (ga_V mA542 mA543 mA544 mA23 mA545) rfl rfl rfl (by decide +kernel) ⟨Nat.le_of_ble_eq_true rfl, Nat.le_of_ble_eq_true rfl⟩) ⟨q_fb, va_recv hK hP (ci := 9) (q0 := 0) rfl rfl, q_ps hPc hK hDc⟩ rfl rfl hl.1 rfl (lv_room (Nat.le_of_ble_eq_true rfl)) dX10_addJoin_219 ⟨Nat.zero_le _, Nat.zero_le _⟩) (fun hzu_15 H locs hP hD hS => ?_)
      refine lv_if_eq (tgt := 229) hx hb dX10_addJoin_222 (by decide) (fun c_16 => ?_) (fun c_16 => ?_)
      · have hF := it_t hF c_16
        exact j229 v1_3 v1_4 v1_0 v1_1 v1_2 x9 x10 t0 u_8 u_9 u_10 u_11 hF _ _ _ hP hD hS (lv_sub hl [5, 9, 10, 4, 3, 2, 1, 0] rfl)
      · have hF := it_f hF c_16
        refine lv_iconst (v := 1) hx hb dX10_addJoin_225 (by decide) ?_
        refine lv_goto (tgt := 230) hx hb dX10_addJoin_226 (by decide) ?_
        exact j230 v1_3 v1_4 v1_0 v1_1 v1_2 x9 x10 t0 u_8 u_9 u_10 u_11 1 hF _ _ _ hP hD hS (lv_sub hl [5, 9, 10, 4, 3, 2, 1, 0] rfl)
  have j116 : ∀ (v1_3 : Int32) (v1_4 : Int32) (v1_0 : Nat → Int32) (v1_1 : Nat → Int32) (v1_2 : Nat → Int32) (x3 : Int32) (x4 : Int32) (x5 : Int64) (x7 : Int64) (x9 : Int32) (x10 : Int32), F_X10_addJoin_j116 v0_4 v0_5 v0_6 v1_3 v1_4 v1_0 v1_1 v1_2 v4_3 v4_4 v4_6 v4_7 x3 x4 x5 x7 x9 x10 = some u → ∀ (H : Heap) (locs : List Loc) (ls : Array Slot), va_P (dC, dI) vwCl (wd_X10_addJoin cI a0 a1 a2 a3 a4 v0_3 v0_4 v0_5 v0_6 v0_7 v1_3 v1_4 v1_5 v1_0 v1_1 v1_2 v2_10 v2_11 v2_7 v2_9 v4_10 v4_1 v4_2 v4_3 v4_4 v4_5 v4_6 v4_7) H → va_D A (wd_X10_addJoin cI a0 a1 a2 a3 a4 v0_3 v0_4 v0_5 v0_6 v0_7 v1_3 v1_4 v1_5 v1_0 v1_1 v1_2 v2_10 v2_11 v2_7 v2_9 v4_10 v4_1 v4_2 v4_3 v4_4 v4_5 v4_6 v4_7) → va_S A s.heap H locs → lv_has ls 17 [(0, .ref (a0 0)), (3, .int x3), (4, .int x4), (5, .long x5), (7, .long x7), (9, .int x9), (10, .int x10)] → W p l e (headSpec wz_X10_addJoin rm_X10_addJoin).room s m [.ref (a0 0), .int p1, .int p2].toArray below meth c H locs 0 0 (MQ below (Q_X10_addJoin dC dI cI a0 a1 a2 a3 a4 v0_3 v0_4 v0_5 v0_6 v0_7 v1_5 v2_10 v2_11 v2_7 v2_9 v4_10 v4_1 v4_2 v4_3 v4_4 v4_5 v4_6 v4_7 u A) [.ref (a0 0), .int p1, .int p2].toArray s 0 0 A) (F0 m 116 ls []) := by
    intro v1_3 v1_4 v1_0 v1_1 v1_2 x3 x4 x5 x7 x9 x10 hF H locs ls hP hD hS hl
    unfold F_X10_addJoin_j116 at hF
    refine lv_aload_n hx hb dX10_addJoin_116 rfl (lv_at hl 0 rfl) ?_
    refine va_get (D := (dC, dI)) (ci := 9) (v := .int v0_5) (C := RX10) (T := TX10) (N := 8) hx hb hta uw_X10 hown hK hP 0 rfl rfl 5 (by decide) (hta _ mA466) (fun _ h9 => h9) rfl dX10_addJoin_117 ?_
    refine lv_iconst (v := 1) hx hb dX10_addJoin_120 (by decide) ?_
    refine lv_icmp_eq (tgt := 131) hx hb dX10_addJoin_121 (by decide) (fun c_17 => ?_) (fun c_17 => ?_)
    · have hF := it_t hF c_17
      try clear j310
      try clear j246
      try clear j230
      try clear j229
      try clear j144
      try clear j116
      try clear j64
      obtain rfl := Option.some.inj hF
      exact W.vret hx hb hr (fun t ht hW => ⟨⟨(), rfl, trivial, by rw [ht]; exact hP, va_K.moved hW.alike hK, hD⟩, hS.F ht⟩) hS.2.2 dX10_addJoin_131
    · have hF := it_f hF c_17
      refine lv_lload hx hb dX10_addJoin_124 (lv_at hl 3 rfl) ?_
      refine lv_lconst (v := 0) hx hb dX10_addJoin_126 (by decide) ?_
      refine W.lcmp hx hb dX10_addJoin_127 ?_
      refine lv_if_ne (tgt := 132) hx hb dX10_addJoin_128 (by decide) (fun c_18 => ?_) (fun c_18 => ?_)
      · have hF := it_f hF c_18
        refine lv_lload hx hb dX10_addJoin_132 (lv_at hl 3 rfl) ?_
        refine lv_lconst (v := 0) hx hb dX10_addJoin_134 (by decide) ?_
        refine W.lcmp hx hb dX10_addJoin_135 ?_
        refine lv_if_le (tgt := 143) hx hb dX10_addJoin_136 (by decide) (fun c_19 => ?_) (fun c_19 => ?_)
        · have hF := it_t hF c_19
          refine lv_iconst (v := 1) hx hb dX10_addJoin_143 (by decide) ?_
          exact j144 v1_3 v1_4 v1_0 v1_1 v1_2 x3 x4 x7 x9 x10 1 hF _ _ _ hP hD hS (lv_sub hl [0, 1, 2, 4, 5, 6] rfl)
        · have hF := it_f hF c_19
          refine lv_iconst (v := (-1)) hx hb dX10_addJoin_139 (by decide) ?_
          refine lv_goto (tgt := 144) hx hb dX10_addJoin_140 (by decide) ?_
          exact j144 v1_3 v1_4 v1_0 v1_1 v1_2 x3 x4 x7 x9 x10 (-1) hF _ _ _ hP hD hS (lv_sub hl [0, 1, 2, 4, 5, 6] rfl)
      · have hF := it_t hF c_18
        try clear j310
        try clear j246
        try clear j230
        try clear j229
        try clear j144
        try clear j116
        try clear j64
        obtain rfl := Option.some.inj hF
        exact W.vret hx hb hr (fun t ht hW => ⟨⟨(), rfl, trivial, by rw [ht]; exact hP, va_K.moved hW.alike hK, hD⟩, hS.F ht⟩) hS.2.2 dX10_addJoin_131
  have j64 : ∀ (v1_3 : Int32) (v1_4 : Int32) (v1_0 : Nat → Int32) (v1_1 : Nat → Int32) (v1_2 : Nat → Int32) (x1 : Int32) (x3 : Int32) (x4 : Int32) (x5 : Int64) (x7 : Int64), F_X10_addJoin_j64 v0_4 v0_5 v0_6 v1_3 v1_4 v1_0 v1_1 v1_2 v2_9 v4_1 v4_2 v4_3 v4_4 v4_5 v4_6 v4_7 x1 x3 x4 x5 x7 = some u → ∀ (H : Heap) (locs : List Loc) (ls : Array Slot), va_P (dC, dI) vwCl (wd_X10_addJoin cI a0 a1 a2 a3 a4 v0_3 v0_4 v0_5 v0_6 v0_7 v1_3 v1_4 v1_5 v1_0 v1_1 v1_2 v2_10 v2_11 v2_7 v2_9 v4_10 v4_1 v4_2 v4_3 v4_4 v4_5 v4_6 v4_7) H → va_D A (wd_X10_addJoin cI a0 a1 a2 a3 a4 v0_3 v0_4 v0_5 v0_6 v0_7 v1_3 v1_4 v1_5 v1_0 v1_1 v1_2 v2_10 v2_11 v2_7 v2_9 v4_10 v4_1 v4_2 v4_3 v4_4 v4_5 v4_6 v4_7) → va_S A s.heap H locs → lv_has ls 17 [(0, .ref (a0 0)), (1, .int x1), (3, .int x3), (4, .int x4), (5, .long x5), (7, .long x7)] → W p l e (headSpec wz_X10_addJoin rm_X10_addJoin).room s m [.ref (a0 0), .int p1, .int p2].toArray below meth c H locs 0 0 (MQ below (Q_X10_addJoin dC dI cI a0 a1 a2 a3 a4 v0_3 v0_4 v0_5 v0_6 v0_7 v1_5 v2_10 v2_11 v2_7 v2_9 v4_10 v4_1 v4_2 v4_3 v4_4 v4_5 v4_6 v4_7 u A) [.ref (a0 0), .int p1, .int p2].toArray s 0 0 A) (F0 m 64 ls []) := by
    intro v1_3 v1_4 v1_0 v1_1 v1_2 x1 x3 x4 x5 x7 hF H locs ls hP hD hS hl
    unfold F_X10_addJoin_j64 at hF
    refine lv_aload_n hx hb dX10_addJoin_64 rfl (lv_at hl 0 rfl) ?_
    refine va_get (D := (dC, dI)) (ci := 9) (v := .ref (a4 0)) (C := RX10) (T := TX10) (N := 8) hx hb hta uw_X10 hown hK hP 0 rfl rfl 0 (by decide) (hta _ mA53) (fun _ h9 => h9) rfl dX10_addJoin_65 ?_
    refine lv_iload_n hx hb dX10_addJoin_68 rfl (lv_at hl 2 rfl) ?_
    refine lv_aload_n hx hb dX10_addJoin_69 rfl (lv_at hl 0 rfl) ?_
    refine va_get (D := (dC, dI)) (ci := 9) (v := .ref (a2 0)) (C := RX10) (T := TX10) (N := 8) hx hb hta uw_X10 hown hK hP 0 rfl rfl 1 (by decide) (hta _ mA57) (fun _ h9 => h9) rfl dX10_addJoin_70 ?_
    refine lv_iload_n hx hb dX10_addJoin_73 rfl (lv_at hl 1 rfl) ?_
    obtain ⟨u_20, hu_20, hF⟩ := obd_some hF
    have hPc := hP.sub (ws' := (wd_X8_toOf cI a2 a3 v2_10 v2_11 v2_9)) [5, 7] rfl
    have hDc := hD.sub (ws' := (wd_X8_toOf cI a2 a3 v2_10 v2_11 v2_9)) [5, 7] rfl rfl
    refine q_calli (wc := (wd_X8_toOf cI a2 a3 v2_10 v2_11 v2_9)) (w1 := (wd_X8_toOf cI a2 a3 v2_10 v2_11 v2_9)) (ws' := (wd_X10_addJoin cI a0 a1 a2 a3 a4 v0_3 v0_4 v0_5 v0_6 v0_7 v1_3 v1_4 v1_5 v1_0 v1_1 v1_2 v2_10 v2_11 v2_7 v2_9 v4_10 v4_1 v4_2 v4_3 v4_4 v4_5 v4_6 v4_7)) hP hD hS hA [5, 7] [0, 1, 2, 3, 4, 6, 8, 9, 10, 11, 12, 13, 14, 15] [0, 1, 2, 3, 4, 14, 5, 15, 6, 7, 8, 9, 10, 11, 12, 13] rfl rfl rfl (by decide) rfl rfl (va_runV (As := [.int x1]) (rest := [.int x3, .ref (a4 0)]) ⟨hx, hb, hml, hown, hta⟩ (c_X8_toOf l dC dI cI H.size a2 a3 v2_10 v2_11 v2_9 x1 u_20 hu_20) (cwV 1 hta (ga_V mA521 mA429 mA430 mA56 mA431) rfl rfl rfl (by decide +kernel) ⟨Nat.le_of_ble_eq_true rfl, Nat.le_of_ble_eq_true rfl⟩) ⟨q_fb, va_recv hK hP (ci := 7) (q0 := 5) rfl rfl, q_ps hPc hK hDc⟩ rfl rfl hl.1 rfl (lv_room (Nat.le_of_ble_eq_true rfl)) dX10_addJoin_74 ⟨Nat.zero_le _, Nat.zero_le _⟩) (fun H locs hP hD hS => ?_)
    obtain ⟨u_21, hu_21, hF⟩ := obd_some hF
    have hPc := hP.sub (ws' := (wd_X9_xAt cI a4 v4_10 v4_1 v4_3 v4_5)) [8, 9, 11, 13] rfl
    have hDc := hD.sub (ws' := (wd_X9_xAt cI a4 v4_10 v4_1 v4_3 v4_5)) [8, 9, 11, 13] rfl rfl
    refine q_calli (wc := (wd_X9_xAt cI a4 v4_10 v4_1 v4_3 v4_5)) (w1 := (wd_X9_xAt cI a4 v4_10 v4_1 v4_3 v4_5)) (ws' := (wd_X10_addJoin cI a0 a1 a2 a3 a4 v0_3 v0_4 v0_5 v0_6 v0_7 v1_3 v1_4 v1_5 v1_0 v1_1 v1_2 v2_10 v2_11 v2_7 v2_9 v4_10 v4_1 v4_2 v4_3 v4_4 v4_5 v4_6 v4_7)) hP hD hS hA [8, 9, 11, 13] [0, 1, 2, 3, 4, 5, 6, 7, 10, 12, 14, 15] [0, 1, 2, 3, 4, 5, 6, 7, 12, 13, 8, 14, 9, 15, 10, 11] rfl rfl rfl (by decide) rfl rfl (va_runV (As := [.int x3, .int u_20]) (rest := []) ⟨hx, hb, hml, hown, hta⟩ (c_X9_xAt l dC dI cI H.size a4 v4_10 v4_1 v4_3 v4_5 x3 u_20 u_21 hu_21) (cwV 2 hta (ga_V mA519 mA340 mA341 mA52 mA342) rfl rfl rfl (by decide +kernel) ⟨Nat.le_of_ble_eq_true rfl, Nat.le_of_ble_eq_true rfl⟩) ⟨q_fb, va_recv hK hP (ci := 8) (q0 := 8) rfl rfl, q_ps hPc hK hDc⟩ rfl rfl hl.1 rfl (lv_room (Nat.le_of_ble_eq_true rfl)) dX10_addJoin_77 ⟨Nat.zero_le _, Nat.zero_le _⟩) (fun H locs hP hD hS => ?_)
    refine lv_istore (lv' := [(9, .int u_21), (0, .ref (a0 0)), (1, .int x1), (3, .int x3), (4, .int x4), (5, .long x5), (7, .long x7)]) hx hb dX10_addJoin_80 hl (by decide) rfl (fun ls hl => ?_)
    refine lv_aload_n hx hb dX10_addJoin_82 rfl (lv_at hl 1 rfl) ?_
    refine va_get (D := (dC, dI)) (ci := 9) (v := .ref (a4 0)) (C := RX10) (T := TX10) (N := 8) hx hb hta uw_X10 hown hK hP 0 rfl rfl 0 (by decide) (hta _ mA53) (fun _ h9 => h9) rfl dX10_addJoin_83 ?_
    refine lv_iload_n hx hb dX10_addJoin_86 rfl (lv_at hl 3 rfl) ?_
    refine lv_aload_n hx hb dX10_addJoin_87 rfl (lv_at hl 1 rfl) ?_
    refine va_get (D := (dC, dI)) (ci := 9) (v := .ref (a2 0)) (C := RX10) (T := TX10) (N := 8) hx hb hta uw_X10 hown hK hP 0 rfl rfl 1 (by decide) (hta _ mA57) (fun _ h9 => h9) rfl dX10_addJoin_88 ?_
    refine lv_iload_n hx hb dX10_addJoin_91 rfl (lv_at hl 2 rfl) ?_
    obtain ⟨u_22, hu_22, hF⟩ := obd_some hF
    have hPc := hP.sub (ws' := (wd_X8_toOf cI a2 a3 v2_10 v2_11 v2_9)) [5, 7] rfl
    have hDc := hD.sub (ws' := (wd_X8_toOf cI a2 a3 v2_10 v2_11 v2_9)) [5, 7] rfl rfl
    refine q_calli (wc := (wd_X8_toOf cI a2 a3 v2_10 v2_11 v2_9)) (w1 := (wd_X8_toOf cI a2 a3 v2_10 v2_11 v2_9)) (ws' := (wd_X10_addJoin cI a0 a1 a2 a3 a4 v0_3 v0_4 v0_5 v0_6 v0_7 v1_3 v1_4 v1_5 v1_0 v1_1 v1_2 v2_10 v2_11 v2_7 v2_9 v4_10 v4_1 v4_2 v4_3 v4_4 v4_5 v4_6 v4_7)) hP hD hS hA [5, 7] [0, 1, 2, 3, 4, 6, 8, 9, 10, 11, 12, 13, 14, 15] [0, 1, 2, 3, 4, 14, 5, 15, 6, 7, 8, 9, 10, 11, 12, 13] rfl rfl rfl (by decide) rfl rfl (va_runV (As := [.int x1]) (rest := [.int x3, .ref (a4 0)]) ⟨hx, hb, hml, hown, hta⟩ (c_X8_toOf l dC dI cI H.size a2 a3 v2_10 v2_11 v2_9 x1 u_22 hu_22) (cwV 1 hta (ga_V mA521 mA429 mA430 mA56 mA431) rfl rfl rfl (by decide +kernel) ⟨Nat.le_of_ble_eq_true rfl, Nat.le_of_ble_eq_true rfl⟩) ⟨q_fb, va_recv hK hP (ci := 7) (q0 := 5) rfl rfl, q_ps hPc hK hDc⟩ rfl rfl hl.1 rfl (lv_room (Nat.le_of_ble_eq_true rfl)) dX10_addJoin_92 ⟨Nat.zero_le _, Nat.zero_le _⟩) (fun H locs hP hD hS => ?_)
    obtain ⟨u_23, hu_23, hF⟩ := obd_some hF
    have hPc := hP.sub (ws' := (wd_X9_yAt cI a4 v4_10 v4_2 v4_4 v4_5)) [8, 10, 12, 13] rfl
    have hDc := hD.sub (ws' := (wd_X9_yAt cI a4 v4_10 v4_2 v4_4 v4_5)) [8, 10, 12, 13] rfl rfl
    refine q_calli (wc := (wd_X9_yAt cI a4 v4_10 v4_2 v4_4 v4_5)) (w1 := (wd_X9_yAt cI a4 v4_10 v4_2 v4_4 v4_5)) (ws' := (wd_X10_addJoin cI a0 a1 a2 a3 a4 v0_3 v0_4 v0_5 v0_6 v0_7 v1_3 v1_4 v1_5 v1_0 v1_1 v1_2 v2_10 v2_11 v2_7 v2_9 v4_10 v4_1 v4_2 v4_3 v4_4 v4_5 v4_6 v4_7)) hP hD hS hA [8, 10, 12, 13] [0, 1, 2, 3, 4, 5, 6, 7, 9, 11, 14, 15] [0, 1, 2, 3, 4, 5, 6, 7, 12, 8, 13, 9, 14, 15, 10, 11] rfl rfl rfl (by decide) rfl rfl (va_runV (As := [.int x3, .int u_22]) (rest := []) ⟨hx, hb, hml, hown, hta⟩ (c_X9_yAt l dC dI cI H.size a4 v4_10 v4_2 v4_4 v4_5 x3 u_22 u_23 hu_23) (cwV 2 hta (ga_V mA520 mA335 mA336 mA52 mA337) rfl rfl rfl (by decide +kernel) ⟨Nat.le_of_ble_eq_true rfl, Nat.le_of_ble_eq_true rfl⟩) ⟨q_fb, va_recv hK hP (ci := 8) (q0 := 8) rfl rfl, q_ps hPc hK hDc⟩ rfl rfl hl.1 rfl (lv_room (Nat.le_of_ble_eq_true rfl)) dX10_addJoin_95 ⟨Nat.zero_le _, Nat.zero_le _⟩) (fun H locs hP hD hS => ?_)
    refine lv_istore (lv' := [(10, .int u_23), (9, .int u_21), (0, .ref (a0 0)), (1, .int x1), (3, .int x3), (4, .int x4), (5, .long x5), (7, .long x7)]) hx hb dX10_addJoin_98 hl (by decide) rfl (fun ls hl => ?_)
    refine lv_aload_n hx hb dX10_addJoin_100 rfl (lv_at hl 2 rfl) ?_
    refine va_get (D := (dC, dI)) (ci := 9) (v := .int v0_5) (C := RX10) (T := TX10) (N := 8) hx hb hta uw_X10 hown hK hP 0 rfl rfl 5 (by decide) (hta _ mA466) (fun _ h9 => h9) rfl dX10_addJoin_101 ?_
    refine lv_iconst (v := 1) hx hb dX10_addJoin_104 (by decide) ?_
    refine lv_icmp_ne (tgt := 116) hx hb dX10_addJoin_105 (by decide) (fun c_24 => ?_) (fun c_24 => ?_)
    · have hF := it_f hF c_24
      exact j116 v1_3 v1_4 v1_0 v1_1 v1_2 x3 x4 x5 x7 u_21 u_23 hF _ _ _ hP hD hS (lv_sub hl [2, 4, 5, 6, 7, 1, 0] rfl)
    · have hF := it_t hF c_24
      refine lv_aload_n hx hb dX10_addJoin_108 rfl (lv_at hl 2 rfl) ?_
      refine lv_iload hx hb dX10_addJoin_109 (lv_at hl 1 rfl) ?_
      refine lv_iload hx hb dX10_addJoin_111 (lv_at hl 0 rfl) ?_
      obtain ⟨u_25, hu_25, hF⟩ := obd_some hF
      have hPc := hP.sub (ws' := (wd_X10_addDisc cI a0 a1 a2 a4 v0_3 v0_4 v0_5 v0_6 v0_7 v1_3 v1_4 v1_5 v1_0 v1_1 v1_2)) [0, 1, 2, 3, 4] rfl
      have hDc := hD.sub (ws' := (wd_X10_addDisc cI a0 a1 a2 a4 v0_3 v0_4 v0_5 v0_6 v0_7 v1_3 v1_4 v1_5 v1_0 v1_1 v1_2)) [0, 1, 2, 3, 4] rfl rfl
      refine q_callv (wc := (wd_X10_addDisc cI a0 a1 a2 a4 v0_3 v0_4 v0_5 v0_6 v0_7 v1_3 v1_4 v1_5 v1_0 v1_1 v1_2)) (w1 := (wd_X10_addDisc cI a0 a1 a2 a4 v0_3 v0_4 v0_5 v0_6 v0_7 u_25.1 u_25.2.1 v1_5 u_25.2.2.1 u_25.2.2.2.1 u_25.2.2.2.2)) (ws' := (wd_X10_addJoin cI a0 a1 a2 a3 a4 v0_3 v0_4 v0_5 v0_6 v0_7 u_25.1 u_25.2.1 v1_5 u_25.2.2.1 u_25.2.2.2.1 u_25.2.2.2.2 v2_10 v2_11 v2_7 v2_9 v4_10 v4_1 v4_2 v4_3 v4_4 v4_5 v4_6 v4_7)) hP hD hS hA [0, 1, 2, 3, 4] [5, 6, 7, 8, 9, 10, 11, 12, 13, 14, 15] [11, 12, 13, 14, 15, 0, 1, 2, 3, 4, 5, 6, 7, 8, 9, 10] rfl rfl rfl (by decide) rfl rfl (va_runV (As := [.int u_21, .int u_23]) (rest := []) ⟨hx, hb, hml, hown, hta⟩ (c_X10_addDisc l dC dI cI H.size a0 a1 a2 a4 v0_3 v0_4 v0_5 v0_6 v0_7 v1_3 v1_4 v1_5 v1_0 v1_1 v1_2 u_21 u_23 u_25 hu_25) (cwV 2 hta (ga_V mA485 mA486 mA487 mA23 mA488) rfl rfl rfl (by decide +kernel) ⟨Nat.le_of_ble_eq_true rfl, Nat.le_of_ble_eq_true rfl⟩) ⟨q_fb, va_recv hK hP (ci := 9) (q0 := 0) rfl rfl, q_ps hPc hK hDc⟩ rfl rfl hl.1 rfl (lv_room (Nat.le_of_ble_eq_true rfl)) dX10_addJoin_113 ⟨Nat.zero_le _, Nat.zero_le _⟩) (fun H locs hP hD hS => ?_)
      exact j116 u_25.1 u_25.2.1 u_25.2.2.1 u_25.2.2.2.1 u_25.2.2.2.2 x3 x4 x5 x7 u_21 u_23 hF _ _ _ hP hD hS (lv_sub hl [2, 4, 5, 6, 7, 1, 0] rfl)
  refine lv_aload_n hx hb dX10_addJoin_0 rfl (lv_at hl 0 rfl) ?_
  refine va_get (D := (dC, dI)) (ci := 9) (v := .ref (a2 0)) (C := RX10) (T := TX10) (N := 8) hx hb hta uw_X10 hown hK hP 0 rfl rfl 1 (by decide) (hta _ mA57) (fun _ h9 => h9) rfl dX10_addJoin_1 ?_
  refine lv_iload_n hx hb dX10_addJoin_4 rfl (lv_at hl 1 rfl) ?_
  obtain ⟨u_26, hu_26, hF⟩ := obd_some hF
  have hPc := hP.sub (ws' := (wd_X8_segmentOf cI a2 a3 v2_10 v2_11 v2_7)) [5, 6] rfl
  have hDc := hD.sub (ws' := (wd_X8_segmentOf cI a2 a3 v2_10 v2_11 v2_7)) [5, 6] rfl rfl
  refine q_calli (wc := (wd_X8_segmentOf cI a2 a3 v2_10 v2_11 v2_7)) (w1 := (wd_X8_segmentOf cI a2 a3 v2_10 v2_11 v2_7)) (ws' := (wd_X10_addJoin cI a0 a1 a2 a3 a4 v0_3 v0_4 v0_5 v0_6 v0_7 v1_3 v1_4 v1_5 v1_0 v1_1 v1_2 v2_10 v2_11 v2_7 v2_9 v4_10 v4_1 v4_2 v4_3 v4_4 v4_5 v4_6 v4_7)) hP hD hS hA [5, 6] [0, 1, 2, 3, 4, 7, 8, 9, 10, 11, 12, 13, 14, 15] [0, 1, 2, 3, 4, 14, 15, 5, 6, 7, 8, 9, 10, 11, 12, 13] rfl rfl rfl (by decide) rfl rfl (va_runV (As := [.int p1]) (rest := []) ⟨hx, hb, hml, hown, hta⟩ (c_X8_segmentOf l dC dI cI H.size a2 a3 v2_10 v2_11 v2_7 p1 u_26 hu_26) (cwV 1 hta (ga_V mA517 mA421 mA422 mA56 mA423) rfl rfl rfl (by decide +kernel) ⟨Nat.le_of_ble_eq_true rfl, Nat.le_of_ble_eq_true rfl⟩) ⟨q_fb, va_recv hK hP (ci := 7) (q0 := 5) rfl rfl, q_ps hPc hK hDc⟩ rfl rfl hl.1 rfl (lv_room (Nat.le_of_ble_eq_true rfl)) dX10_addJoin_5 ⟨Nat.zero_le _, Nat.zero_le _⟩) (fun H locs hP hD hS => ?_)
  refine lv_istore_n (lv' := [(3, .int u_26), (0, .ref (a0 0)), (1, .int p1), (2, .int p2)]) hx hb dX10_addJoin_8 rfl hl (by decide) rfl (fun ls hl => ?_)
  refine lv_aload_n hx hb dX10_addJoin_9 rfl (lv_at hl 1 rfl) ?_
  refine va_get (D := (dC, dI)) (ci := 9) (v := .ref (a2 0)) (C := RX10) (T := TX10) (N := 8) hx hb hta uw_X10 hown hK hP 0 rfl rfl 1 (by decide) (hta _ mA57) (fun _ h9 => h9) rfl dX10_addJoin_10 ?_
  refine lv_iload_n hx hb dX10_addJoin_13 rfl (lv_at hl 3 rfl) ?_
  obtain ⟨u_27, hu_27, hF⟩ := obd_some hF
  have hPc := hP.sub (ws' := (wd_X8_segmentOf cI a2 a3 v2_10 v2_11 v2_7)) [5, 6] rfl
  have hDc := hD.sub (ws' := (wd_X8_segmentOf cI a2 a3 v2_10 v2_11 v2_7)) [5, 6] rfl rfl
  refine q_calli (wc := (wd_X8_segmentOf cI a2 a3 v2_10 v2_11 v2_7)) (w1 := (wd_X8_segmentOf cI a2 a3 v2_10 v2_11 v2_7)) (ws' := (wd_X10_addJoin cI a0 a1 a2 a3 a4 v0_3 v0_4 v0_5 v0_6 v0_7 v1_3 v1_4 v1_5 v1_0 v1_1 v1_2 v2_10 v2_11 v2_7 v2_9 v4_10 v4_1 v4_2 v4_3 v4_4 v4_5 v4_6 v4_7)) hP hD hS hA [5, 6] [0, 1, 2, 3, 4, 7, 8, 9, 10, 11, 12, 13, 14, 15] [0, 1, 2, 3, 4, 14, 15, 5, 6, 7, 8, 9, 10, 11, 12, 13] rfl rfl rfl (by decide) rfl rfl (va_runV (As := [.int p2]) (rest := []) ⟨hx, hb, hml, hown, hta⟩ (c_X8_segmentOf l dC dI cI H.size a2 a3 v2_10 v2_11 v2_7 p2 u_27 hu_27) (cwV 1 hta (ga_V mA517 mA421 mA422 mA56 mA423) rfl rfl rfl (by decide +kernel) ⟨Nat.le_of_ble_eq_true rfl, Nat.le_of_ble_eq_true rfl⟩) ⟨q_fb, va_recv hK hP (ci := 7) (q0 := 5) rfl rfl, q_ps hPc hK hDc⟩ rfl rfl hl.1 rfl (lv_room (Nat.le_of_ble_eq_true rfl)) dX10_addJoin_14 ⟨Nat.zero_le _, Nat.zero_le _⟩) (fun H locs hP hD hS => ?_)
  refine lv_istore (lv' := [(4, .int u_27), (3, .int u_26), (0, .ref (a0 0)), (1, .int p1), (2, .int p2)]) hx hb dX10_addJoin_17 hl (by decide) rfl (fun ls hl => ?_)
  refine lv_aload_n hx hb dX10_addJoin_19 rfl (lv_at hl 2 rfl) ?_
  refine va_get (D := (dC, dI)) (ci := 9) (v := .ref (a4 0)) (C := RX10) (T := TX10) (N := 8) hx hb hta uw_X10 hown hK hP 0 rfl rfl 0 (by decide) (hta _ mA53) (fun _ h9 => h9) rfl dX10_addJoin_20 ?_
  refine lv_iload_n hx hb dX10_addJoin_23 rfl (lv_at hl 1 rfl) ?_
  refine lv_iload hx hb dX10_addJoin_24 (lv_at hl 0 rfl) ?_
  obtain ⟨u_28, hu_28, hF⟩ := obd_some hF
  have hPc := hP.sub (ws' := (wd_X9_cross cI a4 v4_10 v4_3 v4_4)) [8, 11, 12] rfl
  have hDc := hD.sub (ws' := (wd_X9_cross cI a4 v4_10 v4_3 v4_4)) [8, 11, 12] rfl rfl
  refine q_calll (wc := (wd_X9_cross cI a4 v4_10 v4_3 v4_4)) (w1 := (wd_X9_cross cI a4 v4_10 v4_3 v4_4)) (ws' := (wd_X10_addJoin cI a0 a1 a2 a3 a4 v0_3 v0_4 v0_5 v0_6 v0_7 v1_3 v1_4 v1_5 v1_0 v1_1 v1_2 v2_10 v2_11 v2_7 v2_9 v4_10 v4_1 v4_2 v4_3 v4_4 v4_5 v4_6 v4_7)) hP hD hS hA [8, 11, 12] [0, 1, 2, 3, 4, 5, 6, 7, 9, 10, 13, 14, 15] [0, 1, 2, 3, 4, 5, 6, 7, 13, 8, 9, 14, 15, 10, 11, 12] rfl rfl rfl (by decide) rfl rfl (va_runV (As := [.int u_26, .int u_27]) (rest := []) ⟨hx, hb, hml, hown, hta⟩ (c_X9_cross l dC dI cI H.size a4 v4_10 v4_3 v4_4 u_26 u_27 u_28 hu_28) (cwV 2 hta (ga_V mA534 mA535 mA536 mA52 mA537) rfl rfl rfl (by decide +kernel) ⟨Nat.le_of_ble_eq_true rfl, Nat.le_of_ble_eq_true rfl⟩) ⟨q_fb, va_recv hK hP (ci := 8) (q0 := 8) rfl rfl, q_ps hPc hK hDc⟩ rfl rfl hl.1 rfl (lv_room (Nat.le_of_ble_eq_true rfl)) dX10_addJoin_26 ⟨Nat.zero_le _, Nat.zero_le _⟩) (fun H locs hP hD hS => ?_)
  refine lv_lstore (lv' := [(5, .long u_28), (4, .int u_27), (3, .int u_26), (0, .ref (a0 0)), (1, .int p1), (2, .int p2)]) hx hb dX10_addJoin_29 hl (by decide) rfl (fun ls hl => ?_)
  refine lv_aload_n hx hb dX10_addJoin_31 rfl (lv_at hl 3 rfl) ?_
  refine va_get (D := (dC, dI)) (ci := 9) (v := .ref (a4 0)) (C := RX10) (T := TX10) (N := 8) hx hb hta uw_X10 hown hK hP 0 rfl rfl 0 (by decide) (hta _ mA53) (fun _ h9 => h9) rfl dX10_addJoin_32 ?_
  refine lv_iload_n hx hb dX10_addJoin_35 rfl (lv_at hl 2 rfl) ?_
  refine lv_iload hx hb dX10_addJoin_36 (lv_at hl 1 rfl) ?_
  obtain ⟨u_29, hu_29, hF⟩ := obd_some hF
  have hPc := hP.sub (ws' := (wd_X9_dot cI a4 v4_10 v4_3 v4_4)) [8, 11, 12] rfl
  have hDc := hD.sub (ws' := (wd_X9_dot cI a4 v4_10 v4_3 v4_4)) [8, 11, 12] rfl rfl
  refine q_calll (wc := (wd_X9_dot cI a4 v4_10 v4_3 v4_4)) (w1 := (wd_X9_dot cI a4 v4_10 v4_3 v4_4)) (ws' := (wd_X10_addJoin cI a0 a1 a2 a3 a4 v0_3 v0_4 v0_5 v0_6 v0_7 v1_3 v1_4 v1_5 v1_0 v1_1 v1_2 v2_10 v2_11 v2_7 v2_9 v4_10 v4_1 v4_2 v4_3 v4_4 v4_5 v4_6 v4_7)) hP hD hS hA [8, 11, 12] [0, 1, 2, 3, 4, 5, 6, 7, 9, 10, 13, 14, 15] [0, 1, 2, 3, 4, 5, 6, 7, 13, 8, 9, 14, 15, 10, 11, 12] rfl rfl rfl (by decide) rfl rfl (va_runV (As := [.int u_26, .int u_27]) (rest := []) ⟨hx, hb, hml, hown, hta⟩ (c_X9_dot l dC dI cI H.size a4 v4_10 v4_3 v4_4 u_26 u_27 u_29 hu_29) (cwV 2 hta (ga_V mA538 mA539 mA540 mA52 mA541) rfl rfl rfl (by decide +kernel) ⟨Nat.le_of_ble_eq_true rfl, Nat.le_of_ble_eq_true rfl⟩) ⟨q_fb, va_recv hK hP (ci := 8) (q0 := 8) rfl rfl, q_ps hPc hK hDc⟩ rfl rfl hl.1 rfl (lv_room (Nat.le_of_ble_eq_true rfl)) dX10_addJoin_38 ⟨Nat.zero_le _, Nat.zero_le _⟩) (fun H locs hP hD hS => ?_)
  refine lv_lstore (lv' := [(7, .long u_29), (5, .long u_28), (4, .int u_27), (3, .int u_26), (0, .ref (a0 0)), (1, .int p1), (2, .int p2)]) hx hb dX10_addJoin_41 hl (by decide) rfl (fun ls hl => ?_)
  refine lv_iload_n hx hb dX10_addJoin_43 rfl (lv_at hl 3 rfl) ?_
  refine lv_iload hx hb dX10_addJoin_44 (lv_at hl 2 rfl) ?_
  refine lv_icmp_eq (tgt := 63) hx hb dX10_addJoin_46 (by decide) (fun c_30 => ?_) (fun c_30 => ?_)
  · have hF := it_t hF c_30
    try clear j310
    try clear j246
    try clear j230
    try clear j229
    try clear j144
    try clear j116
    try clear j64
    obtain rfl := Option.some.inj hF
    exact W.vret hx hb hr (fun t ht hW => ⟨⟨(), rfl, trivial, by rw [ht]; exact hP, va_K.moved hW.alike hK, hD⟩, hS.F ht⟩) hS.2.2 dX10_addJoin_63
  · have hF := it_f hF c_30
    refine lv_lload hx hb dX10_addJoin_49 (lv_at hl 1 rfl) ?_
    refine lv_lconst (v := 0) hx hb dX10_addJoin_51 (by decide) ?_
    refine W.lcmp hx hb dX10_addJoin_52 ?_
    refine lv_if_ne (tgt := 64) hx hb dX10_addJoin_53 (by decide) (fun c_31 => ?_) (fun c_31 => ?_)
    · have hF := it_f hF c_31
      exact j64 v1_3 v1_4 v1_0 v1_1 v1_2 p1 u_26 u_27 u_28 u_29 hF _ _ _ hP hD hS (lv_sub hl [4, 5, 3, 2, 1, 0] rfl)
    · have hF := it_t hF c_31
      refine lv_lload hx hb dX10_addJoin_56 (lv_at hl 0 rfl) ?_
      refine lv_lconst (v := 0) hx hb dX10_addJoin_58 (by decide) ?_
      refine W.lcmp hx hb dX10_addJoin_59 ?_
      refine lv_if_le (tgt := 64) hx hb dX10_addJoin_60 (by decide) (fun c_32 => ?_) (fun c_32 => ?_)
      · have hF := it_t hF c_32
        exact j64 v1_3 v1_4 v1_0 v1_1 v1_2 p1 u_26 u_27 u_28 u_29 hF _ _ _ hP hD hS (lv_sub hl [4, 5, 3, 2, 1, 0] rfl)
      · have hF := it_f hF c_32
        try clear j310
        try clear j246
        try clear j230
        try clear j229
        try clear j144
        try clear j116
        try clear j64
        obtain rfl := Option.some.inj hF
        exact W.vret hx hb hr (fun t ht hW => ⟨⟨(), rfl, trivial, by rw [ht]; exact hP, va_K.moved hW.alike hK, hD⟩, hS.F ht⟩) hS.2.2 dX10_addJoin_63
