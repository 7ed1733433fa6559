-- StrokeOutliner$Segments.addSegment(IIIIJ)V
def F_X9_addSegment_j15 (n : Nat) (v0_10 : Int32) (v0_1 : Nat → Int32) (v0_2 : Nat → Int32) (v0_3 : Nat → Int32) (v0_4 : Nat → Int32) (v0_5 : Nat → Int32) (v0_6 : Nat → Int32) (v0_7 : Nat → Int32) (v0_8 : Nat → Int32) (v0_9 : Nat → Int32) (x1 : Int32) (x2 : Int32) (x3 : Int32) (x4 : Int32) (x5 : Int64) (x7 : Int32) : Option (Int32 × (Nat → Int32) × (Nat → Int32) × (Nat → Int32) × (Nat → Int32) × (Nat → Int32) × (Nat → Int32) × (Nat → Int32) × (Nat → Int32) × (Nat → Int32)) :=
  if x7 < 0 then some (v0_10, v0_1, v0_2, v0_3, v0_4, v0_5, v0_6, v0_7, v0_8, v0_9) else if x7 < 32 then lt (64 * x1) (fun y_3 => gd (decide (vpi x7 32)) (lt (upd v0_1 x7.toNatClampNeg y_3) (fun y_5 => lt (64 * x2) (fun y_6 => gd (decide (vpi x7 32)) (lt (upd v0_2 x7.toNatClampNeg y_6) (fun y_8 => gd (decide (vpi x7 32)) (lt (upd v0_3 x7.toNatClampNeg x3) (fun y_10 => gd (decide (vpi x7 32)) (lt (upd v0_4 x7.toNatClampNeg x4) (fun y_12 => obd (F_X4_root n ((4096 * ((x3 * x3) + (x4 * x4))).toInt64)) (fun u_13 => gd (decide (vpi x7 32)) (lt (upd v0_5 x7.toNatClampNeg u_13) (fun y_15 => gd (decide (vpi x7 32)) (obd (F_X4_round ((-x4).toInt64 * x5) ((y_15 x7.toNatClampNeg).toInt64)) (fun u_17 => gd (decide (vpi x7 32)) (lt (upd v0_6 x7.toNatClampNeg u_17) (fun y_19 => gd (decide (vpi x7 32)) (obd (F_X4_round (x3.toInt64 * x5) ((y_15 x7.toNatClampNeg).toInt64)) (fun u_21 => gd (decide (vpi x7 32)) (lt (upd v0_7 x7.toNatClampNeg u_21) (fun y_23 => gd (decide (vpi x7 32)) (obd (F_X4_round (x3.toInt64 * x5) ((y_15 x7.toNatClampNeg).toInt64)) (fun u_25 => gd (decide (vpi x7 32)) (lt (upd v0_8 x7.toNatClampNeg u_25) (fun y_27 => gd (decide (vpi x7 32)) (obd (F_X4_round (x4.toInt64 * x5) ((y_15 x7.toNatClampNeg).toInt64)) (fun u_29 => gd (decide (vpi x7 32)) (lt (upd v0_9 x7.toNatClampNeg u_29) (fun y_31 => lt (v0_10 + 1) (fun y_32 => some (y_32, y_5, y_8, y_10, y_12, y_15, y_19, y_23, y_27, y_31))))))))))))))))))))))))))))))) else some (v0_10, v0_1, v0_2, v0_3, v0_4, v0_5, v0_6, v0_7, v0_8, v0_9)
def F_X9_addSegment (n : Nat) (v0_10 : Int32) (v0_1 : Nat → Int32) (v0_2 : Nat → Int32) (v0_3 : Nat → Int32) (v0_4 : Nat → Int32) (v0_5 : Nat → Int32) (v0_6 : Nat → Int32) (v0_7 : Nat → Int32) (v0_8 : Nat → Int32) (v0_9 : Nat → Int32) (p1 : Int32) (p2 : Int32) (p3 : Int32) (p4 : Int32) (p5 : Int64) : Option (Int32 × (Nat → Int32) × (Nat → Int32) × (Nat → Int32) × (Nat → Int32) × (Nat → Int32) × (Nat → Int32) × (Nat → Int32) × (Nat → Int32) × (Nat → Int32)) :=
  if p3 = 0 then if p4 = 0 then some (v0_10, v0_1, v0_2, v0_3, v0_4, v0_5, v0_6, v0_7, v0_8, v0_9) else F_X9_addSegment_j15 n v0_10 v0_1 v0_2 v0_3 v0_4 v0_5 v0_6 v0_7 v0_8 v0_9 p1 p2 p3 p4 p5 v0_10 else F_X9_addSegment_j15 n v0_10 v0_1 v0_2 v0_3 v0_4 v0_5 v0_6 v0_7 v0_8 v0_9 p1 p2 p3 p4 p5 v0_10
abbrev wd_X9_addSegment (cI : ClassId) (a0 : Nat → Nat) (v0_10 : Int32) (v0_1 : Nat → Int32) (v0_2 : Nat → Int32) (v0_3 : Nat → Int32) (v0_4 : Nat → Int32) (v0_5 : Nat → Int32) (v0_6 : Nat → Int32) (v0_7 : Nat → Int32) (v0_8 : Nat → Int32) (v0_9 : Nat → Int32) : va_W := [(a0 0, .inr (8, [.ref (a0 1), .ref (a0 2), .ref (a0 3), .ref (a0 4), .ref (a0 5), .ref (a0 6), .ref (a0 7), .ref (a0 8), .ref (a0 9), .ref (a0 10), .int v0_10])), (a0 2, .inl (cI, 32, .inl v0_1)), (a0 3, .inl (cI, 32, .inl v0_2)), (a0 4, .inl (cI, 32, .inl v0_3)), (a0 5, .inl (cI, 32, .inl v0_4)), (a0 6, .inl (cI, 32, .inl v0_5)), (a0 7, .inl (cI, 32, .inl v0_6)), (a0 8, .inl (cI, 32, .inl v0_7)), (a0 9, .inl (cI, 32, .inl v0_8)), (a0 10, .inl (cI, 32, .inl v0_9))]
abbrev wz_X9_addSegment : List Cond := .code yX9_addSegment cX9_addSegment 8 none :: wALL
abbrev rm_X9_addSegment : Room := { frames := 1, cells := 0, slots := 0, locals := 29 }
abbrev Q_X9_addSegment (dC : Nat → ClassId) (dI : Nat → Nat → Nat) (cI : ClassId) (a0 : Nat → Nat) (u : (Int32 × (Nat → Int32) × (Nat → Int32) × (Nat → Int32) × (Nat → Int32) × (Nat → Int32) × (Nat → Int32) × (Nat → Int32) × (Nat → Int32) × (Nat → Int32))) (A : Nat → Prop) : Array Value → State → Outcome → State → Prop := va_Qv (fun (_ : Unit) => True) (fun _ => q_at dC dI cI A (wd_X9_addSegment cI a0 u.1 u.2.1 u.2.2.1 u.2.2.2.1 u.2.2.2.2.1 u.2.2.2.2.2.1 u.2.2.2.2.2.2.1 u.2.2.2.2.2.2.2.1 u.2.2.2.2.2.2.2.2.1 u.2.2.2.2.2.2.2.2.2)) A
set_option maxHeartbeats 4000000 in
set_option maxRecDepth 100000 in
theorem c_X9_addSegment (l : Launch) (dC : Nat → ClassId) (dI : Nat → Nat → Nat) (cI : ClassId) (sz : Nat) (a0 : Nat → Nat) (v0_10 : Int32) (v0_1 : Nat → Int32) (v0_2 : Nat → Int32) (v0_3 : Nat → Int32) (v0_4 : Nat → Int32) (v0_5 : Nat → Int32) (v0_6 : Nat → Int32) (v0_7 : Nat → Int32) (v0_8 : Nat → Int32) (v0_9 : Nat → Int32) (p1 : Int32) (p2 : Int32) (p3 : Int32) (p4 : Int32) (p5 : Int64) (n : Nat) (u : (Int32 × (Nat → Int32) × (Nat → Int32) × (Nat → Int32) × (Nat → Int32) × (Nat → Int32) × (Nat → Int32) × (Nat → Int32) × (Nat → Int32) × (Nat → Int32))) (hF : F_X9_addSegment n v0_10 v0_1 v0_2 v0_3 v0_4 v0_5 v0_6 v0_7 v0_8 v0_9 p1 p2 p3 p4 p5 = some u) : Met l yX9_addSegment wz_X9_addSegment rm_X9_addSegment (va_Pc [.ref (a0 0), .int p1, .int p2, .int p3, .int p4, .long p5] (q_pre dC dI cI (wd_X9_addSegment cI a0 v0_10 v0_1 v0_2 v0_3 v0_4 v0_5 v0_6 v0_7 v0_8 v0_9) sz)) (Q_X9_addSegment dC dI cI a0 u (va_A (wd_X9_addSegment cI a0 v0_10 v0_1 v0_2 v0_3 v0_4 v0_5 v0_6 v0_7 v0_8 v0_9) sz)) 0 0 (va_A (wd_X9_addSegment cI a0 v0_10 v0_1 v0_2 v0_3 v0_4 v0_5 v0_6 v0_7 v0_8 v0_9) sz) := by
  refine Met.ofW (cc := cX9_addSegment) (maxL := 8) (ret := none) (by decide) rfl ?_
  intro p e s m args below meth c s₁ B hml hv
  obtain ⟨rfl, hsz, hP, hK, hD0⟩ := hv
  have hx := B.exec
  have hb := B.bytes
  have hr := B.returns
  have hts := atoms_spec (ws := wz_X9_addSegment) B.pre
  have hta := wz_tl hts
  have hown : s.vm.findClass RX9 = some m.cls := findClass_of_methodNamed B.named
  have hlocks := B.notSynchronized
  subst hsz
  have hD := hD0.self (sz := s.heap.size)
  generalize hAe : va_A (wd_X9_addSegment cI a0 v0_10 v0_1 v0_2 v0_3 v0_4 v0_5 v0_6 v0_7 v0_8 v0_9) s.heap.size = A at hD ⊢
  have hA : ∀ q : Nat, s.heap.size ≤ q → A q := fun q h => by rw [← hAe]; exact Or.inr h
  have hS : va_S A s.heap s.heap [] := va_S.rf
  have hP : va_P (dC, dI) vwCl (wd_X9_addSegment cI a0 v0_10 v0_1 v0_2 v0_3 v0_4 v0_5 v0_6 v0_7 v0_8 v0_9) s.heap := hP
  have hl := lv_entry ([.ref (a0 0), .int p1, .int p2, .int p3, .int p4, .long p5]) (n := 8) (Nat.le_of_ble_eq_true rfl)
  rw [lg_entry_eq]
  generalize (lg_sl ([.ref (a0 0), .int p1, .int p2, .int p3, .int p4, .long p5]) ++ List.replicate (8 - (lg_sl ([.ref (a0 0), .int p1, .int p2, .int p3, .int p4, .long p5])).length) Slot.unset).toArray = ls at hl ⊢
  have hl : lv_has ls 8 [(0, .ref (a0 0)), (1, .int p1), (2, .int p2), (3, .int p3), (4, .int p4), (5, .long p5)] := hl
  obtain ⟨H, hHe⟩ : ∃ H, H = s.heap := ⟨_, rfl⟩
  have hS : va_S A s.heap H [] := by rw [hHe]; exact hS
  have hP : va_P (dC, dI) vwCl (wd_X9_addSegment cI a0 v0_10 v0_1 v0_2 v0_3 v0_4 v0_5 v0_6 v0_7 v0_8 v0_9) H := by rw [hHe]; exact hP
  rw [← hHe]
  unfold F_X9_addSegment at hF
  have j15 : ∀ (v0_10 : Int32) (v0_1 : Nat → Int32) (v0_2 : Nat → Int32) (v0_3 : Nat → Int32) (v0_4 : Nat → Int32) (v0_5 : Nat → Int32) (v0_6 : Nat → Int32) (v0_7 : Nat → Int32) (v0_8 : Nat → Int32) (v0_9 : Nat → Int32) (x1 : Int32) (x2 : Int32) (x3 : Int32) (x4 : Int32) (x5 : Int64) (x7 : Int32), F_X9_addSegment_j15 n v0_10 v0_1 v0_2 v0_3 v0_4 v0_5 v0_6 v0_7 v0_8 v0_9 x1 x2 x3 x4 x5 x7 = some u → ∀ (H : Heap) (locs : List Loc) (ls : Array Slot), va_P (dC, dI) vwCl (wd_X9_addSegment cI a0 v0_10 v0_1 v0_2 v0_3 v0_4 v0_5 v0_6 v0_7 v0_8 v0_9) H → va_D A (wd_X9_addSegment cI a0 v0_10 v0_1 v0_2 v0_3 v0_4 v0_5 v0_6 v0_7 v0_8 v0_9) → va_S A s.heap H locs → lv_has ls 8 [(0, .ref (a0 0)), (1, .int x1), (2, .int x2), (3, .int x3), (4, .int x4), (5, .long x5), (7, .int x7)] → W p l e (headSpec wz_X9_addSegment rm_X9_addSegment).room s m [.ref (a0 0), .int p1, .int p2, .int p3, .int p4, .long p5].toArray below meth c H locs 0 0 (MQ below (Q_X9_addSegment dC dI cI a0 u A) [.ref (a0 0), .int p1, .int p2, .int p3, .int p4, .long p5].toArray s 0 0 A) (F0 m 15 ls []) := by
    intro v0_10 v0_1 v0_2 v0_3 v0_4 v0_5 v0_6 v0_7 v0_8 v0_9 x1 x2 x3 x4 x5 x7 hF H locs ls hP hD hS hl
    unfold F_X9_addSegment_j15 at hF
    refine lv_iload hx hb dX9_addSegment_15 (lv_at hl 6 rfl) ?_
    refine lv_if_lt (tgt := 27) hx hb dX9_addSegment_17 (by decide) (fun c_1 => ?_) (fun c_1 => ?_)
    · have hF := it_t hF c_1
      obtain rfl := Option.some.inj hF
      exact W.vret hx hb hr (fun t ht hW => ⟨⟨(), rfl, trivial, by rw [ht]; exact hP, va_K.moved hW.alike hK, hD⟩, hS.F ht⟩) hS.2.2 dX9_addSegment_27
    · have hF := it_f hF c_1
      refine lv_iload hx hb dX9_addSegment_20 (lv_at hl 6 rfl) ?_
      refine lv_bipush (v := 32) hx hb dX9_addSegment_22 (by decide) ?_
      refine lv_icmp_lt (tgt := 28) hx hb dX9_addSegment_24 (by decide) (fun c_2 => ?_) (fun c_2 => ?_)
      · have hF := it_t hF c_2
        refine lv_aload_n hx hb dX9_addSegment_28 rfl (lv_at hl 0 rfl) ?_
        refine va_get (D := (dC, dI)) (ci := 8) (v := .ref (a0 2)) (C := RX9) (T := TX9) (N := 11) hx hb hta uw_X9 hown hK hP 0 rfl rfl 1 (by decide) (hta _ mA66) (fun _ h9 => h9) rfl dX9_addSegment_29 ?_
        refine lv_iload hx hb dX9_addSegment_32 (lv_at hl 6 rfl) ?_
        refine lv_bipush (v := 64) hx hb dX9_addSegment_34 (by decide) ?_
        refine lv_iload_n hx hb dX9_addSegment_36 rfl (lv_at hl 1 rfl) ?_
        refine lv_imul hx hb dX9_addSegment_37 ?_
        obtain ⟨y_3, ey_3, hF⟩ := lt_some hF
        refine lv_eqi ey_3 ?_
        obtain ⟨g_4, hF⟩ := gd_some hF
        refine va_iast hx hb hK hP hD hS 1 0 rfl rfl (vpi_in g_4) dX9_addSegment_38 (fun H locs hP hD hS => ?_)
        obtain ⟨y_5, ey_5, hF⟩ := lt_some hF
        have hP : va_P (dC, dI) vwCl (wd_X9_addSegment cI a0 v0_10 y_5 v0_2 v0_3 v0_4 v0_5 v0_6 v0_7 v0_8 v0_9) H := by rw [ey_5]; exact hP
        have hD : va_D A (wd_X9_addSegment cI a0 v0_10 y_5 v0_2 v0_3 v0_4 v0_5 v0_6 v0_7 v0_8 v0_9) := by rw [ey_5]; exact hD
        refine lv_aload_n hx hb dX9_addSegment_39 rfl (lv_at hl 0 rfl) ?_
        refine va_get (D := (dC, dI)) (ci := 8) (v := .ref (a0 3)) (C := RX9) (T := TX9) (N := 11) hx hb hta uw_X9 hown hK hP 0 rfl rfl 2 (by decide) (hta _ mA67) (fun _ h9 => h9) rfl dX9_addSegment_40 ?_
        refine lv_iload hx hb dX9_addSegment_43 (lv_at hl 6 rfl) ?_
        refine lv_bipush (v := 64) hx hb dX9_addSegment_45 (by decide) ?_
        refine lv_iload_n hx hb dX9_addSegment_47 rfl (lv_at hl 2 rfl) ?_
        refine lv_imul hx hb dX9_addSegment_48 ?_
        obtain ⟨y_6, ey_6, hF⟩ := lt_some hF
        refine lv_eqi ey_6 ?_
        obtain ⟨g_7, hF⟩ := gd_some hF
        refine va_iast hx hb hK hP hD hS 2 0 rfl rfl (vpi_in g_7) dX9_addSegment_49 (fun H locs hP hD hS => ?_)
        obtain ⟨y_8, ey_8, hF⟩ := lt_some hF
        have hP : va_P (dC, dI) vwCl (wd_X9_addSegment cI a0 v0_10 y_5 y_8 v0_3 v0_4 v0_5 v0_6 v0_7 v0_8 v0_9) H := by rw [ey_8]; exact hP
        have hD : va_D A (wd_X9_addSegment cI a0 v0_10 y_5 y_8 v0_3 v0_4 v0_5 v0_6 v0_7 v0_8 v0_9) := by rw [ey_8]; exact hD
        refine lv_aload_n hx hb dX9_addSegment_50 rfl (lv_at hl 0 rfl) ?_
        refine va_get (D := (dC, dI)) (ci := 8) (v := .ref (a0 4)) (C := RX9) (T := TX9) (N := 11) hx hb hta uw_X9 hown hK hP 0 rfl rfl 3 (by decide) (hta _ mA68) (fun _ h9 => h9) rfl dX9_addSegment_51 ?_
        refine lv_iload hx hb dX9_addSegment_54 (lv_at hl 6 rfl) ?_
        refine lv_iload_n hx hb dX9_addSegment_56 rfl (lv_at hl 3 rfl) ?_
        obtain ⟨g_9, hF⟩ := gd_some hF
        refine va_iast hx hb hK hP hD hS 3 0 rfl rfl (vpi_in g_9) dX9_addSegment_57 (fun H locs hP hD hS => ?_)
        obtain ⟨y_10, ey_10, hF⟩ := lt_some hF
        have hP : va_P (dC, dI) vwCl (wd_X9_addSegment cI a0 v0_10 y_5 y_8 y_10 v0_4 v0_5 v0_6 v0_7 v0_8 v0_9) H := by rw [ey_10]; exact hP
        have hD : va_D A (wd_X9_addSegment cI a0 v0_10 y_5 y_8 y_10 v0_4 v0_5 v0_6 v0_7 v0_8 v0_9) := by rw [ey_10]; exact hD
        refine lv_aload_n hx hb dX9_addSegment_58 rfl (lv_at hl 0 rfl) ?_
        refine va_get (D := (dC, dI)) (ci := 8) (v := .ref (a0 5)) (C := RX9) (T := TX9) (N := 11) hx hb hta uw_X9 hown hK hP 0 rfl rfl 4 (by decide) (hta _ mA69) (fun _ h9 => h9) rfl dX9_addSegment_59 ?_
        refine lv_iload hx hb dX9_addSegment_62 (lv_at hl 6 rfl) ?_
        refine lv_iload hx hb dX9_addSegment_64 (lv_at hl 4 rfl) ?_
        obtain ⟨g_11, hF⟩ := gd_some hF
        refine va_iast hx hb hK hP hD hS 4 0 rfl rfl (vpi_in g_11) dX9_addSegment_66 (fun H locs hP hD hS => ?_)
        obtain ⟨y_12, ey_12, hF⟩ := lt_some hF
        have hP : va_P (dC, dI) vwCl (wd_X9_addSegment cI a0 v0_10 y_5 y_8 y_10 y_12 v0_5 v0_6 v0_7 v0_8 v0_9) H := by rw [ey_12]; exact hP
        have hD : va_D A (wd_X9_addSegment cI a0 v0_10 y_5 y_8 y_10 y_12 v0_5 v0_6 v0_7 v0_8 v0_9) := by rw [ey_12]; exact hD
        refine lv_aload_n hx hb dX9_addSegment_67 rfl (lv_at hl 0 rfl) ?_
        refine va_get (D := (dC, dI)) (ci := 8) (v := .ref (a0 6)) (C := RX9) (T := TX9) (N := 11) hx hb hta uw_X9 hown hK hP 0 rfl rfl 5 (by decide) (hta _ mA70) (fun _ h9 => h9) rfl dX9_addSegment_68 ?_
        refine lv_iload hx hb dX9_addSegment_71 (lv_at hl 6 rfl) ?_
        refine lv_sipush (v := 4096) hx hb dX9_addSegment_73 (by decide) ?_
        refine lv_iload_n hx hb dX9_addSegment_76 rfl (lv_at hl 3 rfl) ?_
        refine lv_iload_n hx hb dX9_addSegment_77 rfl (lv_at hl 3 rfl) ?_
        refine lv_imul hx hb dX9_addSegment_78 ?_
        refine lv_iload hx hb dX9_addSegment_79 (lv_at hl 4 rfl) ?_
        refine lv_iload hx hb dX9_addSegment_81 (lv_at hl 4 rfl) ?_
        refine lv_imul hx hb dX9_addSegment_83 ?_
        refine lv_iadd hx hb dX9_addSegment_84 ?_
        refine lv_imul hx hb dX9_addSegment_85 ?_
        refine lv_i2l hx hb dX9_addSegment_86 rfl ?_
        obtain ⟨u_13, hu_13, hF⟩ := obd_some hF
        have hPc := hP.sub (ws' := ([] : va_W)) [] rfl
        have hDc := hD.sub (ws' := ([] : va_W)) [] rfl rfl
        refine q_calli (wc := ([] : va_W)) (w1 := ([] : va_W)) (ws' := (wd_X9_addSegment cI a0 v0_10 y_5 y_8 y_10 y_12 v0_5 v0_6 v0_7 v0_8 v0_9)) hP hD hS hA [] [0, 1, 2, 3, 4, 5, 6, 7, 8, 9] [0, 1, 2, 3, 4, 5, 6, 7, 8, 9] rfl rfl rfl (by decide) rfl rfl (va_runS (As := [.long ((4096 * ((x3 * x3) + (x4 * x4))).toInt64)]) (rest := [.int x7, .ref (a0 6)]) ⟨hx, hb, hml, hown, hta⟩ (c_X4_root l dC dI cI H.size ((4096 * ((x3 * x3) + (x4 * x4))).toInt64) n u_13 hu_13) (va_cwS 1 hta (ga_S mA219 mA220 mA221 mA222) rfl rfl rfl (by decide +kernel) ⟨Nat.le_of_ble_eq_true rfl, Nat.le_of_ble_eq_true rfl⟩) ⟨q_fb, q_ps hPc hK hDc⟩ rfl rfl hl.1 rfl (lv_room (Nat.le_of_ble_eq_true rfl)) dX9_addSegment_87 ⟨Nat.zero_le _, Nat.zero_le _⟩) (fun H locs hP hD hS => ?_)
        obtain ⟨g_14, hF⟩ := gd_some hF
        refine va_iast hx hb hK hP hD hS 5 0 rfl rfl (vpi_in g_14) dX9_addSegment_90 (fun H locs hP hD hS => ?_)
        obtain ⟨y_15, ey_15, hF⟩ := lt_some hF
        have hP : va_P (dC, dI) vwCl (wd_X9_addSegment cI a0 v0_10 y_5 y_8 y_10 y_12 y_15 v0_6 v0_7 v0_8 v0_9) H := by rw [ey_15]; exact hP
        have hD : va_D A (wd_X9_addSegment cI a0 v0_10 y_5 y_8 y_10 y_12 y_15 v0_6 v0_7 v0_8 v0_9) := by rw [ey_15]; exact hD
        refine lv_aload_n hx hb dX9_addSegment_91 rfl (lv_at hl 0 rfl) ?_
        refine va_get (D := (dC, dI)) (ci := 8) (v := .ref (a0 7)) (C := RX9) (T := TX9) (N := 11) hx hb hta uw_X9 hown hK hP 0 rfl rfl 6 (by decide) (hta _ mA71) (fun _ h9 => h9) rfl dX9_addSegment_92 ?_
        refine lv_iload hx hb dX9_addSegment_95 (lv_at hl 6 rfl) ?_
        refine lv_iload hx hb dX9_addSegment_97 (lv_at hl 4 rfl) ?_
        refine lv_ineg hx hb dX9_addSegment_99 ?_
        refine lv_i2l hx hb dX9_addSegment_100 rfl ?_
        refine lv_lload hx hb dX9_addSegment_101 (lv_at hl 5 rfl) ?_
        refine lv_lmul hx hb dX9_addSegment_103 ?_
        refine lv_aload_n hx hb dX9_addSegment_104 rfl (lv_at hl 0 rfl) ?_
        refine va_get (D := (dC, dI)) (ci := 8) (v := .ref (a0 6)) (C := RX9) (T := TX9) (N := 11) hx hb hta uw_X9 hown hK hP 0 rfl rfl 5 (by decide) (hta _ mA70) (fun _ h9 => h9) rfl dX9_addSegment_105 ?_
        refine lv_iload hx hb dX9_addSegment_108 (lv_at hl 6 rfl) ?_
        obtain ⟨g_16, hF⟩ := gd_some hF
        refine va_iald hx hb hK hP 5 0 rfl rfl (vpi_in g_16) dX9_addSegment_110 ?_
        refine lv_i2l hx hb dX9_addSegment_111 rfl ?_
        obtain ⟨u_17, hu_17, hF⟩ := obd_some hF
        have hPc := hP.sub (ws' := ([] : va_W)) [] rfl
        have hDc := hD.sub (ws' := ([] : va_W)) [] rfl rfl
        refine q_calli (wc := ([] : va_W)) (w1 := ([] : va_W)) (ws' := (wd_X9_addSegment cI a0 v0_10 y_5 y_8 y_10 y_12 y_15 v0_6 v0_7 v0_8 v0_9)) hP hD hS hA [] [0, 1, 2, 3, 4, 5, 6, 7, 8, 9] [0, 1, 2, 3, 4, 5, 6, 7, 8, 9] rfl rfl rfl (by decide) rfl rfl (va_runS (As := [.long ((-x4).toInt64 * x5), .long ((y_15 x7.toNatClampNeg).toInt64)]) (rest := [.int x7, .ref (a0 7)]) ⟨hx, hb, hml, hown, hta⟩ (c_X4_round l dC dI cI H.size ((-x4).toInt64 * x5) ((y_15 x7.toNatClampNeg).toInt64) u_17 hu_17) (va_cwS 2 hta (ga_S mA224 mA225 mA221 mA226) rfl rfl rfl (by decide +kernel) ⟨Nat.le_of_ble_eq_true rfl, Nat.le_of_ble_eq_true rfl⟩) ⟨q_fb, q_ps hPc hK hDc⟩ rfl rfl hl.1 rfl (lv_room (Nat.le_of_ble_eq_true rfl)) dX9_addSegment_112 ⟨Nat.zero_le _, Nat.zero_le _⟩) (fun H locs hP hD hS => ?_)
        obtain ⟨g_18, hF⟩ := gd_some hF
        refine va_iast hx hb hK hP hD hS 6 0 rfl rfl (vpi_in g_18) dX9_addSegment_115 (fun H locs hP hD hS => ?_)
        obtain ⟨y_19, ey_19, hF⟩ := lt_some hF
        have hP : va_P (dC, dI) vwCl (wd_X9_addSegment cI a0 v0_10 y_5 y_8 y_10 y_12 y_15 y_19 v0_7 v0_8 v0_9) H := by rw [ey_19]; exact hP
        have hD : va_D A (wd_X9_addSegment cI a0 v0_10 y_5 y_8 y_10 y_12 y_15 y_19 v0_7 v0_8 v0_9) := by rw [ey_19]; exact hD
        refine lv_aload_n hx hb dX9_addSegment_116 rfl (lv_at hl 0 rfl) ?_
        refine va_get (D := (dC, dI)) (ci := 8) (v := .ref (a0 8)) (C := RX9) (T := TX9) (N := 11) hx hb hta uw_X9 hown hK hP 0 rfl rfl 7 (by decide) (hta _ mA72) (fun _ h9 => h9) rfl dX9_addSegment_117 ?_
        refine lv_iload hx hb dX9_addSegment_120 (lv_at hl 6 rfl) ?_
        refine lv_iload_n hx hb dX9_addSegment_122 rfl (lv_at hl 3 rfl) ?_
        refine lv_i2l hx hb dX9_addSegment_123 rfl ?_
        refine lv_lload hx hb dX9_addSegment_124 (lv_at hl 5 rfl) ?_
        refine lv_lmul hx hb dX9_addSegment_126 ?_
        refine lv_aload_n hx hb dX9_addSegment_127 rfl (lv_at hl 0 rfl) ?_
        refine va_get (D := (dC, dI)) (ci := 8) (v := .ref (a0 6)) (C := RX9) (T := TX9) (N := 11) hx hb hta uw_X9 hown hK hP 0 rfl rfl 5 (by decide) (hta _ mA70) (fun _ h9 => h9) rfl dX9_addSegment_128 ?_
        refine lv_iload hx hb dX9_addSegment_131 (lv_at hl 6 rfl) ?_
        obtain ⟨g_20, hF⟩ := gd_some hF
        refine va_iald hx hb hK hP 5 0 rfl rfl (vpi_in g_20) dX9_addSegment_133 ?_
        refine lv_i2l hx hb dX9_addSegment_134 rfl ?_
        obtain ⟨u_21, hu_21, hF⟩ := obd_some hF
        have hPc := hP.sub (ws' := ([] : va_W)) [] rfl
        have hDc := hD.sub (ws' := ([] : va_W)) [] rfl rfl
        refine q_calli (wc := ([] : va_W)) (w1 := ([] : va_W)) (ws' := (wd_X9_addSegment cI a0 v0_10 y_5 y_8 y_10 y_12 y_15 y_19 v0_7 v0_8 v0_9)) hP hD hS hA [] [0, 1, 2, 3, 4, 5, 6, 7, 8, 9] [0, 1, 2, 3, 4, 5, 6, 7, 8, 9] rfl rfl rfl (by decide) rfl rfl (va_runS (As := [.long (x3.toInt64 * x5), .long ((y_15 x7.toNatClampNeg).toInt64)]) (rest := [.int x7, .ref (a0 8)]) ⟨hx, hb, hml, hown, hta⟩ (c_X4_round l dC dI cI H.size (x3.toInt64 * x5) ((y_15 x7.toNatClampNeg).toInt64) u_21 hu_21) (va_cwS 2 hta (ga_S mA224 mA225 mA221 mA226) rfl rfl rfl (by decide +kernel) ⟨Nat.le_of_ble_eq_true rfl, Nat.le_of_ble_eq_true rfl⟩) ⟨q_fb, q_ps hPc hK hDc⟩ rfl rfl hl.1 rfl (lv_room (Nat.le_of_ble_eq_true rfl)) dX9_addSegment_135 ⟨Nat.zero_le _, Nat.zero_le _⟩) (fun H locs hP hD hS => ?_)
        obtain ⟨g_22, hF⟩ := gd_some hF
        refine va_iast hx hb hK hP hD hS 7 0 rfl rfl (vpi_in g_22) dX9_addSegment_138 (fun H locs hP hD hS => ?_)
        obtain ⟨y_23, ey_23, hF⟩ := lt_some hF
        have hP : va_P (dC, dI) vwCl (wd_X9_addSegment cI a0 v0_10 y_5 y_8 y_10 y_12 y_15 y_19 y_23 v0_8 v0_9) H := by rw [ey_23]; exact hP
        have hD : va_D A (wd_X9_addSegment cI a0 v0_10 y_5 y_8 y_10 y_12 y_15 y_19 y_23 v0_8 v0_9) := by rw [ey_23]; exact hD
        refine lv_aload_n hx hb dX9_addSegment_139 rfl (lv_at hl 0 rfl) ?_
        refine va_get (D := (dC, dI)) (ci := 8) (v := .ref (a0 9)) (C := RX9) (T := TX9) (N := 11) hx hb hta uw_X9 hown hK hP 0 rfl rfl 8 (by decide) (hta _ mA73) (fun _ h9 => h9) rfl dX9_addSegment_140 ?_
        refine lv_iload hx hb dX9_addSegment_143 (lv_at hl 6 rfl) ?_
        refine lv_iload_n hx hb dX9_addSegment_145 rfl (lv_at hl 3 rfl) ?_
        refine lv_i2l hx hb dX9_addSegment_146 rfl ?_
        refine lv_lload hx hb dX9_addSegment_147 (lv_at hl 5 rfl) ?_
        refine lv_lmul hx hb dX9_addSegment_149 ?_
        refine lv_aload_n hx hb dX9_addSegment_150 rfl (lv_at hl 0 rfl) ?_
        refine va_get (D := (dC, dI)) (ci := 8) (v := .ref (a0 6)) (C := RX9) (T := TX9) (N := 11) hx hb hta uw_X9 hown hK hP 0 rfl rfl 5 (by decide) (hta _ mA70) (fun _ h9 => h9) rfl dX9_addSegment_151 ?_
        refine lv_iload hx hb dX9_addSegment_154 (lv_at hl 6 rfl) ?_
        obtain ⟨g_24, hF⟩ := gd_some hF
        refine va_iald hx hb hK hP 5 0 rfl rfl (vpi_in g_24) dX9_addSegment_156 ?_
        refine lv_i2l hx hb dX9_addSegment_157 rfl ?_
        obtain ⟨u_25, hu_25, hF⟩ := obd_some hF
        have hPc := hP.sub (ws' := ([] : va_W)) [] rfl
        have hDc := hD.sub (ws' := ([] : va_W)) [] rfl rfl
        refine q_calli (wc := ([] : va_W)) (w1 := ([] : va_W)) (ws' := (wd_X9_addSegment cI a0 v0_10 y_5 y_8 y_10 y_12 y_15 y_19 y_23 v0_8 v0_9)) hP hD hS hA [] [0, 1, 2, 3, 4, 5, 6, 7, 8, 9] [0, 1, 2, 3, 4, 5, 6, 7, 8, 9] rfl rfl rfl (by decide) rfl rfl (va_runS (As := [.long (x3.toInt64 * x5), .long ((y_15 x7.toNatClampNeg).toInt64)]) (rest := [.int x7, .ref (a0 9)]) ⟨hx, hb, hml, hown, hta⟩ (c_X4_round l dC dI cI H.size (x3.toInt64 * x5) ((y_15 x7.toNatClampNeg).toInt64) u_25 hu_25) (va_cwS 2 hta (ga_S mA224 mA225 mA221 mA226) rfl rfl rfl (by decide +kernel) ⟨Nat.le_of_ble_eq_true rfl, Nat.le_of_ble_eq_true rfl⟩) ⟨q_fb, q_ps hPc hK hDc⟩ rfl rfl hl.1 rfl (lv_room (Nat.le_of_ble_eq_true rfl)) dX9_addSegment_158 ⟨Nat.zero_le _, Nat.zero_le _⟩) (fun H locs hP hD hS => ?_)
        obtain ⟨g_26, hF⟩ := gd_some hF
        refine va_iast hx hb hK hP hD hS 8 0 rfl rfl (vpi_in g_26) dX9_addSegment_161 (fun H locs hP hD hS => ?_)
        obtain ⟨y_27, ey_27, hF⟩ := lt_some hF
        have hP : va_P (dC, dI) vwCl (wd_X9_addSegment cI a0 v0_10 y_5 y_8 y_10 y_12 y_15 y_19 y_23 y_27 v0_9) H := by rw [ey_27]; exact hP
        have hD : va_D A (wd_X9_addSegment cI a0 v0_10 y_5 y_8 y_10 y_12 y_15 y_19 y_23 y_27 v0_9) := by rw [ey_27]; exact hD
        refine lv_aload_n hx hb dX9_addSegment_162 rfl (lv_at hl 0 rfl) ?_
        refine va_get (D := (dC, dI)) (ci := 8) (v := .ref (a0 10)) (C := RX9) (T := TX9) (N := 11) hx hb hta uw_X9 hown hK hP 0 rfl rfl 9 (by decide) (hta _ mA74) (fun _ h9 => h9) rfl dX9_addSegment_163 ?_
        refine lv_iload hx hb dX9_addSegment_166 (lv_at hl 6 rfl) ?_
        refine lv_iload hx hb dX9_addSegment_168 (lv_at hl 4 rfl) ?_
        refine lv_i2l hx hb dX9_addSegment_170 rfl ?_
        refine lv_lload hx hb dX9_addSegment_171 (lv_at hl 5 rfl) ?_
        refine lv_lmul hx hb dX9_addSegment_173 ?_
        refine lv_aload_n hx hb dX9_addSegment_174 rfl (lv_at hl 0 rfl) ?_
        refine va_get (D := (dC, dI)) (ci := 8) (v := .ref (a0 6)) (C := RX9) (T := TX9) (N := 11) hx hb hta uw_X9 hown hK hP 0 rfl rfl 5 (by decide) (hta _ mA70) (fun _ h9 => h9) rfl dX9_addSegment_175 ?_
        refine lv_iload hx hb dX9_addSegment_178 (lv_at hl 6 rfl) ?_
        obtain ⟨g_28, hF⟩ := gd_some hF
        refine va_iald hx hb hK hP 5 0 rfl rfl (vpi_in g_28) dX9_addSegment_180 ?_
        refine lv_i2l hx hb dX9_addSegment_181 rfl ?_
        obtain ⟨u_29, hu_29, hF⟩ := obd_some hF
        have hPc := hP.sub (ws' := ([] : va_W)) [] rfl
        have hDc := hD.sub (ws' := ([] : va_W)) [] rfl rfl
        refine q_calli (wc := ([] : va_W)) (w1 := ([] : va_W)) (ws' := (wd_X9_addSegment cI a0 v0_10 y_5 y_8 y_10 y_12 y_15 y_19 y_23 y_27 v0_9)) hP hD hS hA [] [0, 1, 2, 3, 4, 5, 6, 7, 8, 9] [0, 1, 2, 3, 4, 5, 6, 7, 8, 9] rfl rfl rfl (by decide) rfl rfl (va_runS (As := [.long (x4.toInt64 * x5), .long ((y_15 x7.toNatClampNeg).toInt64)]) (rest := [.int x7, .ref (a0 10)]) ⟨hx, hb, hml, hown, hta⟩ (c_X4_round l dC dI cI H.size (x4.toInt64 * x5) ((y_15 x7.toNatClampNeg).toInt64) u_29 hu_29) (va_cwS 2 hta (ga_S mA224 mA225 mA221 mA226) rfl rfl rfl (by decide +kernel) ⟨Nat.le_of_ble_eq_true rfl, Nat.le_of_ble_eq_true rfl⟩) ⟨q_fb, q_ps hPc hK hDc⟩ rfl rfl hl.1 rfl (lv_room (Nat.le_of_ble_eq_true rfl)) dX9_addSegment_182 ⟨Nat.zero_le _, Nat.zero_le _⟩) (fun H locs hP hD hS => ?_)
        obtain ⟨g_30, hF⟩ := gd_some hF
        refine va_iast hx hb hK hP hD hS 9 0 rfl rfl (vpi_in g_30) dX9_addSegment_185 (fun H locs hP hD hS => ?_)
        obtain ⟨y_31, ey_31, hF⟩ := lt_some hF
        have hP : va_P (dC, dI) vwCl (wd_X9_addSegment cI a0 v0_10 y_5 y_8 y_10 y_12 y_15 y_19 y_23 y_27 y_31) H := by rw [ey_31]; exact hP
        have hD : va_D A (wd_X9_addSegment cI a0 v0_10 y_5 y_8 y_10 y_12 y_15 y_19 y_23 y_27 y_31) := by rw [ey_31]; exact hD
        refine lv_aload_n hx hb dX9_addSegment_186 rfl (lv_at hl 0 rfl) ?_
        refine lv_dup hx hb dX9_addSegment_187 rfl ?_
        refine va_get (D := (dC, dI)) (ci := 8) (v := .int v0_10) (C := RX9) (T := TX9) (N := 11) hx hb hta uw_X9 hown hK hP 0 rfl rfl 10 (by decide) (hta _ mA200) (fun _ h9 => h9) rfl dX9_addSegment_188 ?_
        refine lv_iconst (v := 1) hx hb dX9_addSegment_191 (by decide) ?_
        refine lv_iadd hx hb dX9_addSegment_192 ?_
        obtain ⟨y_32, ey_32, hF⟩ := lt_some hF
        refine lv_eqi ey_32 ?_
        refine va_put (D := (dC, dI)) (ci := 8) (v := .int y_32) (ty := .int) (C := RX9) (T := TX9) (N := 11) hx hb hta uw_X9 tyX9 tyX9_ok nmX9 hown hK hP hD hS 0 rfl rfl 10 (by decide) (hta _ mA200) (fun _ h9 => h9) rfl (by decide +kernel) rfl rfl (Nat.le_of_ble_eq_true rfl) dX9_addSegment_193 (fun H locs hP hD hS => ?_)
        have hP : va_P (dC, dI) vwCl (wd_X9_addSegment cI a0 y_32 y_5 y_8 y_10 y_12 y_15 y_19 y_23 y_27 y_31) H := hP
        have hD : va_D A (wd_X9_addSegment cI a0 y_32 y_5 y_8 y_10 y_12 y_15 y_19 y_23 y_27 y_31) := hD
        obtain rfl := Option.some.inj hF
        exact W.vret hx hb hr (fun t ht hW => ⟨⟨(), rfl, trivial, by rw [ht]; exact hP, va_K.moved hW.alike hK, hD⟩, hS.F ht⟩) hS.2.2 dX9_addSegment_196
      · have hF := it_f hF c_2
        obtain rfl := Option.some.inj hF
        exact W.vret hx hb hr (fun t ht hW => ⟨⟨(), rfl, trivial, by rw [ht]; exact hP, va_K.moved hW.alike hK, hD⟩, hS.F ht⟩) hS.2.2 dX9_addSegment_27
  refine lv_aload_n hx hb dX9_addSegment_0 rfl (lv_at hl 0 rfl) ?_
  refine va_get (D := (dC, dI)) (ci := 8) (v := .int v0_10) (C := RX9) (T := TX9) (N := 11) hx hb hta uw_X9 hown hK hP 0 rfl rfl 10 (by decide) (hta _ mA200) (fun _ h9 => h9) rfl dX9_addSegment_1 ?_
  refine lv_istore (lv' := [(7, .int v0_10), (0, .ref (a0 0)), (1, .int p1), (2, .int p2), (3, .int p3), (4, .int p4), (5, .long p5)]) hx hb dX9_addSegment_4 hl (by decide) rfl (fun ls hl => ?_)
  refine lv_iload_n hx hb dX9_addSegment_6 rfl (lv_at hl 4 rfl) ?_
  refine lv_if_ne (tgt := 15) hx hb dX9_addSegment_7 (by decide) (fun c_33 => ?_) (fun c_33 => ?_)
  · have hF := it_f hF c_33
    exact j15 v0_10 v0_1 v0_2 v0_3 v0_4 v0_5 v0_6 v0_7 v0_8 v0_9 p1 p2 p3 p4 p5 v0_10 hF _ _ _ hP hD hS (lv_sub hl [1, 2, 3, 4, 5, 6, 0] rfl)
  · have hF := it_t hF c_33
    refine lv_iload hx hb dX9_addSegment_10 (lv_at hl 5 rfl) ?_
    refine lv_if_eq (tgt := 27) hx hb dX9_addSegment_12 (by decide) (fun c_34 => ?_) (fun c_34 => ?_)
    · have hF := it_t hF c_34
      obtain rfl := Option.some.inj hF
      exact W.vret hx hb hr (fun t ht hW => ⟨⟨(), rfl, trivial, by rw [ht]; exact hP, va_K.moved hW.alike hK, hD⟩, hS.F ht⟩) hS.2.2 dX9_addSegment_27
    · have hF := it_f hF c_34
      exact j15 v0_10 v0_1 v0_2 v0_3 v0_4 v0_5 v0_6 v0_7 v0_8 v0_9 p1 p2 p3 p4 p5 v0_10 hF _ _ _ hP hD hS (lv_sub hl [1, 2, 3, 4, 5, 6, 0] rfl)

-- StrokeOutliner$Segments.measure(LStrokeOutliner$Drawing;)V
def F_X9_measure_j153 (v0_10 : Int32) (v0_0 : Nat → Int32) (v0_1 : Nat → Int32) (v0_2 : Nat → Int32) (v0_3 : Nat → Int32) (v0_4 : Nat → Int32) (v0_5 : Nat → Int32) (v0_6 : Nat → Int32) (v0_7 : Nat → Int32) (v0_8 : Nat → Int32) (v0_9 : Nat → Int32) : Option (Int32 × (Nat → Int32) × (Nat → Int32) × (Nat → Int32) × (Nat → Int32) × (Nat → Int32) × (Nat → Int32) × (Nat → Int32) × (Nat → Int32) × (Nat → Int32) × (Nat → Int32)) :=
  gd (decide (vpi 4 5)) (lt (upd v0_0 (4 : Int32).toNatClampNeg v0_10) (fun y_2 => some (v0_10, y_2, v0_1, v0_2, v0_3, v0_4, v0_5, v0_6, v0_7, v0_8, v0_9)))
def F_X9_measure_j147 (v0_10 : Int32) (v0_0 : Nat → Int32) (v0_1 : Nat → Int32) (v0_2 : Nat → Int32) (v0_3 : Nat → Int32) (v0_4 : Nat → Int32) (v0_5 : Nat → Int32) (v0_6 : Nat → Int32) (v0_7 : Nat → Int32) (v0_8 : Nat → Int32) (v0_9 : Nat → Int32) (x3 : Int32) : Option (Sum (Int32 × Int32 × (Nat → Int32) × (Nat → Int32) × (Nat → Int32) × (Nat → Int32) × (Nat → Int32) × (Nat → Int32) × (Nat → Int32) × (Nat → Int32) × (Nat → Int32) × (Nat → Int32)) (Int32 × (Nat → Int32) × (Nat → Int32) × (Nat → Int32) × (Nat → Int32) × (Nat → Int32) × (Nat → Int32) × (Nat → Int32) × (Nat → Int32) × (Nat → Int32) × (Nat → Int32))) :=
  lt (x3 + 1) (fun y_3 => some (.inl (y_3, v0_10, v0_0, v0_1, v0_2, v0_3, v0_4, v0_5, v0_6, v0_7, v0_8, v0_9)))
def F_X9_measure_j83 (n : Nat) (v0_10 : Int32) (v0_1 : Nat → Int32) (v0_2 : Nat → Int32) (v0_3 : Nat → Int32) (v0_4 : Nat → Int32) (v0_5 : Nat → Int32) (v0_6 : Nat → Int32) (v0_7 : Nat → Int32) (v0_8 : Nat → Int32) (v0_9 : Nat → Int32) (v1_0 : Nat → Int32) (x2 : Int32) (x3 : Int32) (x6 : Int32) (t0 : Int32) : Option (Sum (Int32 × Int32 × (Nat → Int32) × (Nat → Int32) × (Nat → Int32) × (Nat → Int32) × (Nat → Int32) × (Nat → Int32) × (Nat → Int32) × (Nat → Int32) × (Nat → Int32)) (Int32 × (Nat → Int32) × (Nat → Int32) × (Nat → Int32) × (Nat → Int32) × (Nat → Int32) × (Nat → Int32) × (Nat → Int32) × (Nat → Int32) × (Nat → Int32))) :=
  obd (F_X1_xOf v1_0 x3 x6) (fun u_4 => obd (F_X1_yOf v1_0 x3 x6) (fun u_5 => obd (F_X1_xOf v1_0 x3 t0) (fun u_6 => lt (u_6 - u_4) (fun y_7 => obd (F_X1_yOf v1_0 x3 t0) (fun u_8 => lt (u_8 - u_5) (fun y_9 => obd (F_X9_addSegment n v0_10 v0_1 v0_2 v0_3 v0_4 v0_5 v0_6 v0_7 v0_8 v0_9 u_4 u_5 y_7 y_9 x2.toInt64) (fun u_10 => lt (x6 + 1) (fun y_11 => some (.inl (y_11, u_10.1, u_10.2.1, u_10.2.2.1, u_10.2.2.2.1, u_10.2.2.2.2.1, u_10.2.2.2.2.2.1, u_10.2.2.2.2.2.2.1, u_10.2.2.2.2.2.2.2.1, u_10.2.2.2.2.2.2.2.2.1, u_10.2.2.2.2.2.2.2.2.2))))))))))
def F_X9_measure_b59 (n : Nat) (v1_0 : Nat → Int32) (x2 : Int32) (x3 : Int32) (x4 : Int32) (x5 : Int32) (s59 : Int32 × Int32 × (Nat → Int32) × (Nat → Int32) × (Nat → Int32) × (Nat → Int32) × (Nat → Int32) × (Nat → Int32) × (Nat → Int32) × (Nat → Int32) × (Nat → Int32)) : Option (Sum (Int32 × Int32 × (Nat → Int32) × (Nat → Int32) × (Nat → Int32) × (Nat → Int32) × (Nat → Int32) × (Nat → Int32) × (Nat → Int32) × (Nat → Int32) × (Nat → Int32)) (Int32 × (Nat → Int32) × (Nat → Int32) × (Nat → Int32) × (Nat → Int32) × (Nat → Int32) × (Nat → Int32) × (Nat → Int32) × (Nat → Int32) × (Nat → Int32))) :=
  if x5 ≤ s59.1 then some (.inr (s59.2.1, s59.2.2.1, s59.2.2.2.1, s59.2.2.2.2.1, s59.2.2.2.2.2.1, s59.2.2.2.2.2.2.1, s59.2.2.2.2.2.2.2.1, s59.2.2.2.2.2.2.2.2.1, s59.2.2.2.2.2.2.2.2.2.1, s59.2.2.2.2.2.2.2.2.2.2)) else if x4 ≤ (s59.1 + 1) then F_X9_measure_j83 n s59.2.1 s59.2.2.1 s59.2.2.2.1 s59.2.2.2.2.1 s59.2.2.2.2.2.1 s59.2.2.2.2.2.2.1 s59.2.2.2.2.2.2.2.1 s59.2.2.2.2.2.2.2.2.1 s59.2.2.2.2.2.2.2.2.2.1 s59.2.2.2.2.2.2.2.2.2.2 v1_0 x2 x3 s59.1 0 else F_X9_measure_j83 n s59.2.1 s59.2.2.1 s59.2.2.2.1 s59.2.2.2.2.1 s59.2.2.2.2.2.1 s59.2.2.2.2.2.2.1 s59.2.2.2.2.2.2.2.1 s59.2.2.2.2.2.2.2.2.1 s59.2.2.2.2.2.2.2.2.2.1 s59.2.2.2.2.2.2.2.2.2.2 v1_0 x2 x3 s59.1 (s59.1 + 1)
def F_X9_measure_j59 (n : Nat) (v0_10 : Int32) (v0_0 : Nat → Int32) (v0_1 : Nat → Int32) (v0_2 : Nat → Int32) (v0_3 : Nat → Int32) (v0_4 : Nat → Int32) (v0_5 : Nat → Int32) (v0_6 : Nat → Int32) (v0_7 : Nat → Int32) (v0_8 : Nat → Int32) (v0_9 : Nat → Int32) (v1_0 : Nat → Int32) (x2 : Int32) (x3 : Int32) (x4 : Int32) (x5 : Int32) (x6 : Int32) : Option (Sum (Int32 × Int32 × (Nat → Int32) × (Nat → Int32) × (Nat → Int32) × (Nat → Int32) × (Nat → Int32) × (Nat → Int32) × (Nat → Int32) × (Nat → Int32) × (Nat → Int32) × (Nat → Int32)) (Int32 × (Nat → Int32) × (Nat → Int32) × (Nat → Int32) × (Nat → Int32) × (Nat → Int32) × (Nat → Int32) × (Nat → Int32) × (Nat → Int32) × (Nat → Int32) × (Nat → Int32))) :=
  obd (lpq (F_X9_measure_b59 n v1_0 x2 x3 x4 x5) n (x6, v0_10, v0_1, v0_2, v0_3, v0_4, v0_5, v0_6, v0_7, v0_8, v0_9)) (fun x_59 => F_X9_measure_j147 x_59.1 v0_0 x_59.2.1 x_59.2.2.1 x_59.2.2.2.1 x_59.2.2.2.2.1 x_59.2.2.2.2.2.1 x_59.2.2.2.2.2.2.1 x_59.2.2.2.2.2.2.2.1 x_59.2.2.2.2.2.2.2.2.1 x_59.2.2.2.2.2.2.2.2.2 x3)
def F_X9_measure_j54 (n : Nat) (v0_10 : Int32) (v0_0 : Nat → Int32) (v0_1 : Nat → Int32) (v0_2 : Nat → Int32) (v0_3 : Nat → Int32) (v0_4 : Nat → Int32) (v0_5 : Nat → Int32) (v0_6 : Nat → Int32) (v0_7 : Nat → Int32) (v0_8 : Nat → Int32) (v0_9 : Nat → Int32) (v1_0 : Nat → Int32) (x2 : Int32) (x3 : Int32) (x4 : Int32) (t0 : Int32) : Option (Sum (Int32 × Int32 × (Nat → Int32) × (Nat → Int32) × (Nat → Int32) × (Nat → Int32) × (Nat → Int32) × (Nat → Int32) × (Nat → Int32) × (Nat → Int32) × (Nat → Int32) × (Nat → Int32)) (Int32 × (Nat → Int32) × (Nat → Int32) × (Nat → Int32) × (Nat → Int32) × (Nat → Int32) × (Nat → Int32) × (Nat → Int32) × (Nat → Int32) × (Nat → Int32) × (Nat → Int32))) :=
  F_X9_measure_j59 n v0_10 v0_0 v0_1 v0_2 v0_3 v0_4 v0_5 v0_6 v0_7 v0_8 v0_9 v1_0 x2 x3 x4 t0 0
def F_X9_measure_b15 (n : Nat) (v1_0 : Nat → Int32) (x2 : Int32) (s15 : Int32 × Int32 × (Nat → Int32) × (Nat → Int32) × (Nat → Int32) × (Nat → Int32) × (Nat → Int32) × (Nat → Int32) × (Nat → Int32) × (Nat → Int32) × (Nat → Int32) × (Nat → Int32)) : Option (Sum (Int32 × Int32 × (Nat → Int32) × (Nat → Int32) × (Nat → Int32) × (Nat → Int32) × (Nat → Int32) × (Nat → Int32) × (Nat → Int32) × (Nat → Int32) × (Nat → Int32) × (Nat → Int32)) (Int32 × (Nat → Int32) × (Nat → Int32) × (Nat → Int32) × (Nat → Int32) × (Nat → Int32) × (Nat → Int32) × (Nat → Int32) × (Nat → Int32) × (Nat → Int32) × (Nat → Int32))) :=
  if 4 ≤ s15.1 then some (.inr (s15.2.1, s15.2.2.1, s15.2.2.2.1, s15.2.2.2.2.1, s15.2.2.2.2.2.1, s15.2.2.2.2.2.2.1, s15.2.2.2.2.2.2.2.1, s15.2.2.2.2.2.2.2.2.1, s15.2.2.2.2.2.2.2.2.2.1, s15.2.2.2.2.2.2.2.2.2.2.1, s15.2.2.2.2.2.2.2.2.2.2.2)) else gd (decide (vpi s15.1 5)) (lt (upd s15.2.2.1 s15.1.toNatClampNeg s15.2.1) (fun y_16 => obd (F_X1_pointCount v1_0 s15.1) (fun u_17 => obd (F_X1_isClosed v1_0 s15.1) (fun u_18 => if u_18 = 0 then F_X9_measure_j54 n s15.2.1 y_16 s15.2.2.2.1 s15.2.2.2.2.1 s15.2.2.2.2.2.1 s15.2.2.2.2.2.2.1 s15.2.2.2.2.2.2.2.1 s15.2.2.2.2.2.2.2.2.1 s15.2.2.2.2.2.2.2.2.2.1 s15.2.2.2.2.2.2.2.2.2.2.1 s15.2.2.2.2.2.2.2.2.2.2.2 v1_0 x2 s15.1 u_17 (u_17 - 1) else F_X9_measure_j54 n s15.2.1 y_16 s15.2.2.2.1 s15.2.2.2.2.1 s15.2.2.2.2.2.1 s15.2.2.2.2.2.2.1 s15.2.2.2.2.2.2.2.1 s15.2.2.2.2.2.2.2.2.1 s15.2.2.2.2.2.2.2.2.2.1 s15.2.2.2.2.2.2.2.2.2.2.1 s15.2.2.2.2.2.2.2.2.2.2.2 v1_0 x2 s15.1 u_17 u_17))))
def F_X9_measure_j15 (n : Nat) (v0_10 : Int32) (v0_0 : Nat → Int32) (v0_1 : Nat → Int32) (v0_2 : Nat → Int32) (v0_3 : Nat → Int32) (v0_4 : Nat → Int32) (v0_5 : Nat → Int32) (v0_6 : Nat → Int32) (v0_7 : Nat → Int32) (v0_8 : Nat → Int32) (v0_9 : Nat → Int32) (v1_0 : Nat → Int32) (x2 : Int32) (x3 : Int32) : Option (Int32 × (Nat → Int32) × (Nat → Int32) × (Nat → Int32) × (Nat → Int32) × (Nat → Int32) × (Nat → Int32) × (Nat → Int32) × (Nat → Int32) × (Nat → Int32) × (Nat → Int32)) :=
  obd (lpq (F_X9_measure_b15 n v1_0 x2) n (x3, v0_10, v0_0, v0_1, v0_2, v0_3, v0_4, v0_5, v0_6, v0_7, v0_8, v0_9)) (fun x_15 => F_X9_measure_j153 x_15.1 x_15.2.1 x_15.2.2.1 x_15.2.2.2.1 x_15.2.2.2.2.1 x_15.2.2.2.2.2.1 x_15.2.2.2.2.2.2.1 x_15.2.2.2.2.2.2.2.1 x_15.2.2.2.2.2.2.2.2.1 x_15.2.2.2.2.2.2.2.2.2.1 x_15.2.2.2.2.2.2.2.2.2.2)
def F_X9_measure (n : Nat) (v0_0 : Nat → Int32) (v0_1 : Nat → Int32) (v0_2 : Nat → Int32) (v0_3 : Nat → Int32) (v0_4 : Nat → Int32) (v0_5 : Nat → Int32) (v0_6 : Nat → Int32) (v0_7 : Nat → Int32) (v0_8 : Nat → Int32) (v0_9 : Nat → Int32) (v1_0 : Nat → Int32) : Option (Int32 × (Nat → Int32) × (Nat → Int32) × (Nat → Int32) × (Nat → Int32) × (Nat → Int32) × (Nat → Int32) × (Nat → Int32) × (Nat → Int32) × (Nat → Int32) × (Nat → Int32)) :=
  obd (F_X1_halfWidth v1_0) (fun u_20 => lt (64 * u_20) (fun y_21 => F_X9_measure_j15 n 0 v0_0 v0_1 v0_2 v0_3 v0_4 v0_5 v0_6 v0_7 v0_8 v0_9 v1_0 y_21 0))
abbrev wd_X9_measure (cI : ClassId) (a0 : Nat → Nat) (a1 : Nat → Nat) (v0_10 : Int32) (v0_0 : Nat → Int32) (v0_1 : Nat → Int32) (v0_2 : Nat → Int32) (v0_3 : Nat → Int32) (v0_4 : Nat → Int32) (v0_5 : Nat → Int32) (v0_6 : Nat → Int32) (v0_7 : Nat → Int32) (v0_8 : Nat → Int32) (v0_9 : Nat → Int32) (v1_0 : Nat → Int32) : va_W := [(a0 0, .inr (8, [.ref (a0 1), .ref (a0 2), .ref (a0 3), .ref (a0 4), .ref (a0 5), .ref (a0 6), .ref (a0 7), .ref (a0 8), .ref (a0 9), .ref (a0 10), .int v0_10])), (a0 1, .inl (cI, 5, .inl v0_0)), (a0 2, .inl (cI, 32, .inl v0_1)), (a0 3, .inl (cI, 32, .inl v0_2)), (a0 4, .inl (cI, 32, .inl v0_3)), (a0 5, .inl (cI, 32, .inl v0_4)), (a0 6, .inl (cI, 32, .inl v0_5)), (a0 7, .inl (cI, 32, .inl v0_6)), (a0 8, .inl (cI, 32, .inl v0_7)), (a0 9, .inl (cI, 32, .inl v0_8)), (a0 10, .inl (cI, 32, .inl v0_9)), (a1 0, .inr (1, [.ref (a1 1)])), (a1 1, .inl (cI, 86, .inl v1_0))]
abbrev wz_X9_measure : List Cond := .code yX9_measure cX9_measure 12 none :: wALL
abbrev rm_X9_measure : Room := { frames := 2, cells := 0, slots := 0, locals := 56 }
abbrev Q_X9_measure (dC : Nat → ClassId) (dI : Nat → Nat → Nat) (cI : ClassId) (a0 : Nat → Nat) (a1 : Nat → Nat) (v1_0 : Nat → Int32) (u : (Int32 × (Nat → Int32) × (Nat → Int32) × (Nat → Int32) × (Nat → Int32) × (Nat → Int32) × (Nat → Int32) × (Nat → Int32) × (Nat → Int32) × (Nat → Int32) × (Nat → Int32))) (A : Nat → Prop) : Array Value → State → Outcome → State → Prop := va_Qv (fun (_ : Unit) => True) (fun _ => q_at dC dI cI A (wd_X9_measure cI a0 a1 u.1 u.2.1 u.2.2.1 u.2.2.2.1 u.2.2.2.2.1 u.2.2.2.2.2.1 u.2.2.2.2.2.2.1 u.2.2.2.2.2.2.2.1 u.2.2.2.2.2.2.2.2.1 u.2.2.2.2.2.2.2.2.2.1 u.2.2.2.2.2.2.2.2.2.2 v1_0)) A
set_option maxHeartbeats 4000000 in
set_option maxRecDepth 100000 in
theorem c_X9_measure (l : Launch) (dC : Nat → ClassId) (dI : Nat → Nat → Nat) (cI : ClassId) (sz : Nat) (a0 : Nat → Nat) (a1 : Nat → Nat) (v0_10 : Int32) (v0_0 : Nat → Int32) (v0_1 : Nat → Int32) (v0_2 : Nat → Int32) (v0_3 : Nat → Int32) (v0_4 : Nat → Int32) (v0_5 : Nat → Int32) (v0_6 : Nat → Int32) (v0_7 : Nat → Int32) (v0_8 : Nat → Int32) (v0_9 : Nat → Int32) (v1_0 : Nat → Int32) (n : Nat) (u : (Int32 × (Nat → Int32) × (Nat → Int32) × (Nat → Int32) × (Nat → Int32) × (Nat → Int32) × (Nat → Int32) × (Nat → Int32) × (Nat → Int32) × (Nat → Int32) × (Nat → Int32))) (hF : F_X9_measure n v0_0 v0_1 v0_2 v0_3 v0_4 v0_5 v0_6 v0_7 v0_8 v0_9 v1_0 = some u) : Met l yX9_measure wz_X9_measure rm_X9_measure (va_Pc [.ref (a0 0), .ref (a1 0)] (q_pre dC dI cI (wd_X9_measure cI a0 a1 v0_10 v0_0 v0_1 v0_2 v0_3 v0_4 v0_5 v0_6 v0_7 v0_8 v0_9 v1_0) sz)) (Q_X9_measure dC dI cI a0 a1 v1_0 u (va_A (wd_X9_measure cI a0 a1 v0_10 v0_0 v0_1 v0_2 v0_3 v0_4 v0_5 v0_6 v0_7 v0_8 v0_9 v1_0) sz)) 0 0 (va_A (wd_X9_measure cI a0 a1 v0_10 v0_0 v0_1 v0_2 v0_3 v0_4 v0_5 v0_6 v0_7 v0_8 v0_9 v1_0) sz) := by
  refine Met.ofW (cc := cX9_measure) (maxL := 12) (ret := none) (by decide) rfl ?_
  intro p e s m args below meth c s₁ B hml hv
  obtain ⟨rfl, hsz, hP, hK, hD0⟩ := hv
  have hx := B.exec
  have hb := B.bytes
  have hr := B.returns
  have hts := atoms_spec (ws := wz_X9_measure) B.pre
  have hta := wz_tl hts
  have hown : s.vm.findClass RX9 = some m.cls := findClass_of_methodNamed B.named
  have hlocks := B.notSynchronized
  subst hsz
  have hD := hD0.self (sz := s.heap.size)
  generalize hAe : va_A (wd_X9_measure cI a0 a1 v0_10 v0_0 v0_1 v0_2 v0_3 v0_4 v0_5 v0_6 v0_7 v0_8 v0_9 v1_0) s.heap.size = A at hD ⊢
  have hA : ∀ q : Nat, s.heap.size ≤ q → A q := fun q h => by rw [← hAe]; exact Or.inr h
  have hS : va_S A s.heap s.heap [] := va_S.rf
  have hP : va_P (dC, dI) vwCl (wd_X9_measure cI a0 a1 v0_10 v0_0 v0_1 v0_2 v0_3 v0_4 v0_5 v0_6 v0_7 v0_8 v0_9 v1_0) s.heap := hP
  have hl := lv_entry ([.ref (a0 0), .ref (a1 0)]) (n := 12) (Nat.le_of_ble_eq_true rfl)
  rw [lg_entry_eq]
  generalize (lg_sl ([.ref (a0 0), .ref (a1 0)]) ++ List.replicate (12 - (lg_sl ([.ref (a0 0), .ref (a1 0)])).length) Slot.unset).toArray = ls at hl ⊢
  have hl : lv_has ls 12 [(0, .ref (a0 0)), (1, .ref (a1 0))] := hl
  obtain ⟨H, hHe⟩ : ∃ H, H = s.heap := ⟨_, rfl⟩
  have hS : va_S A s.heap H [] := by rw [hHe]; exact hS
  have hP : va_P (dC, dI) vwCl (wd_X9_measure cI a0 a1 v0_10 v0_0 v0_1 v0_2 v0_3 v0_4 v0_5 v0_6 v0_7 v0_8 v0_9 v1_0) H := by rw [hHe]; exact hP
  rw [← hHe]
  unfold F_X9_measure at hF
  have j153 : ∀ (v0_10 : Int32) (v0_0 : Nat → Int32) (v0_1 : Nat → Int32) (v0_2 : Nat → Int32) (v0_3 : Nat → Int32) (v0_4 : Nat → Int32) (v0_5 : Nat → Int32) (v0_6 : Nat → Int32) (v0_7 : Nat → Int32) (v0_8 : Nat → Int32) (v0_9 : Nat → Int32), F_X9_measure_j153 v0_10 v0_0 v0_1 v0_2 v0_3 v0_4 v0_5 v0_6 v0_7 v0_8 v0_9 = some u → ∀ (H : Heap) (locs : List Loc) (ls : Array Slot), va_P (dC, dI) vwCl (wd_X9_measure cI a0 a1 v0_10 v0_0 v0_1 v0_2 v0_3 v0_4 v0_5 v0_6 v0_7 v0_8 v0_9 v1_0) H → va_D A (wd_X9_measure cI a0 a1 v0_10 v0_0 v0_1 v0_2 v0_3 v0_4 v0_5 v0_6 v0_7 v0_8 v0_9 v1_0) → va_S A s.heap H locs → lv_has ls 12 [(0, .ref (a0 0))] → W p l e (headSpec wz_X9_measure rm_X9_measure).room s m [.ref (a0 0), .ref (a1 0)].toArray below meth c H locs 0 0 (MQ below (Q_X9_measure dC dI cI a0 a1 v1_0 u A) [.ref (a0 0), .ref (a1 0)].toArray s 0 0 A) (F0 m 153 ls []) := by
    intro v0_10 v0_0 v0_1 v0_2 v0_3 v0_4 v0_5 v0_6 v0_7 v0_8 v0_9 hF H locs ls hP hD hS hl
    unfold F_X9_measure_j153 at hF
    refine lv_aload_n hx hb dX9_measure_153 rfl (lv_at hl 0 rfl) ?_
    refine va_get (D := (dC, dI)) (ci := 8) (v := .ref (a0 1)) (C := RX9) (T := TX9) (N := 11) hx hb hta uw_X9 hown hK hP 0 rfl rfl 0 (by decide) (hta _ mA65) (fun _ h9 => h9) rfl dX9_measure_154 ?_
    refine lv_iconst (v := 4) hx hb dX9_measure_157 (by decide) ?_
    refine lv_aload_n hx hb dX9_measure_158 rfl (lv_at hl 0 rfl) ?_
    refine va_get (D := (dC, dI)) (ci := 8) (v := .int v0_10) (C := RX9) (T := TX9) (N := 11) hx hb hta uw_X9 hown hK hP 0 rfl rfl 10 (by decide) (hta _ mA200) (fun _ h9 => h9) rfl dX9_measure_159 ?_
    obtain ⟨g_1, hF⟩ := gd_some hF
    refine va_iast hx hb hK hP hD hS 1 0 rfl rfl (vpi_in g_1) dX9_measure_162 (fun H locs hP hD hS => ?_)
    obtain ⟨y_2, ey_2, hF⟩ := lt_some hF
    have hP : va_P (dC, dI) vwCl (wd_X9_measure cI a0 a1 v0_10 y_2 v0_1 v0_2 v0_3 v0_4 v0_5 v0_6 v0_7 v0_8 v0_9 v1_0) H := by rw [ey_2]; exact hP
    have hD : va_D A (wd_X9_measure cI a0 a1 v0_10 y_2 v0_1 v0_2 v0_3 v0_4 v0_5 v0_6 v0_7 v0_8 v0_9 v1_0) := by rw [ey_2]; exact hD
    obtain rfl := Option.some.inj hF
    exact W.vret hx hb hr (fun t ht hW => ⟨⟨(), rfl, trivial, by rw [ht]; exact hP, va_K.moved hW.alike hK, hD⟩, hS.F ht⟩) hS.2.2 dX9_measure_163
  have j15 : ∀ (v0_10 : Int32) (v0_0 : Nat → Int32) (v0_1 : Nat → Int32) (v0_2 : Nat → Int32) (v0_3 : Nat → Int32) (v0_4 : Nat → Int32) (v0_5 : Nat → Int32) (v0_6 : Nat → Int32) (v0_7 : Nat → Int32) (v0_8 : Nat → Int32) (v0_9 : Nat → Int32) (x2 : Int32) (x3 : Int32), F_X9_measure_j15 n v0_10 v0_0 v0_1 v0_2 v0_3 v0_4 v0_5 v0_6 v0_7 v0_8 v0_9 v1_0 x2 x3 = some u → ∀ (H : Heap) (locs : List Loc) (ls : Array Slot), va_P (dC, dI) vwCl (wd_X9_measure cI a0 a1 v0_10 v0_0 v0_1 v0_2 v0_3 v0_4 v0_5 v0_6 v0_7 v0_8 v0_9 v1_0) H → va_D A (wd_X9_measure cI a0 a1 v0_10 v0_0 v0_1 v0_2 v0_3 v0_4 v0_5 v0_6 v0_7 v0_8 v0_9 v1_0) → va_S A s.heap H locs → lv_has ls 12 [(0, .ref (a0 0)), (1, .ref (a1 0)), (2, .int x2), (3, .int x3)] → W p l e (headSpec wz_X9_measure rm_X9_measure).room s m [.ref (a0 0), .ref (a1 0)].toArray below meth c H locs 0 0 (MQ below (Q_X9_measure dC dI cI a0 a1 v1_0 u A) [.ref (a0 0), .ref (a1 0)].toArray s 0 0 A) (F0 m 15 ls []) := by
    intro v0_10 v0_0 v0_1 v0_2 v0_3 v0_4 v0_5 v0_6 v0_7 v0_8 v0_9 x2 x3 hF H locs ls hP hD hS hl
    unfold F_X9_measure_j15 at hF
    obtain ⟨x_15, hL_15, hE_15⟩ := obd_some hF
    have kl_15 : ∀ (k : Nat) (s15 : Int32 × Int32 × (Nat → Int32) × (Nat → Int32) × (Nat → Int32) × (Nat → Int32) × (Nat → Int32) × (Nat → Int32) × (Nat → Int32) × (Nat → Int32) × (Nat → Int32) × (Nat → Int32)), lpq (F_X9_measure_b15 n v1_0 x2) k s15 = some x_15 → ∀ (H : Heap) (locs : List Loc) (ls : Array Slot), va_P (dC, dI) vwCl (wd_X9_measure cI a0 a1 s15.2.1 s15.2.2.1 s15.2.2.2.1 s15.2.2.2.2.1 s15.2.2.2.2.2.1 s15.2.2.2.2.2.2.1 s15.2.2.2.2.2.2.2.1 s15.2.2.2.2.2.2.2.2.1 s15.2.2.2.2.2.2.2.2.2.1 s15.2.2.2.2.2.2.2.2.2.2.1 s15.2.2.2.2.2.2.2.2.2.2.2 v1_0) H → va_D A (wd_X9_measure cI a0 a1 s15.2.1 s15.2.2.1 s15.2.2.2.1 s15.2.2.2.2.1 s15.2.2.2.2.2.1 s15.2.2.2.2.2.2.1 s15.2.2.2.2.2.2.2.1 s15.2.2.2.2.2.2.2.2.1 s15.2.2.2.2.2.2.2.2.2.1 s15.2.2.2.2.2.2.2.2.2.2.1 s15.2.2.2.2.2.2.2.2.2.2.2 v1_0) → va_S A s.heap H locs → lv_has ls 12 [(0, .ref (a0 0)), (1, .ref (a1 0)), (2, .int x2), (3, .int s15.1)] → W p l e (headSpec wz_X9_measure rm_X9_measure).room s m [.ref (a0 0), .ref (a1 0)].toArray below meth c H locs 0 0 (MQ below (Q_X9_measure dC dI cI a0 a1 v1_0 u A) [.ref (a0 0), .ref (a1 0)].toArray s 0 0 A) (F0 m 15 ls []) := by
      intro k
      induction k with
      | zero => intro s15 h; exact absurd h lpq_zero
      | succ k ih_15 =>
        intro s15 h H locs ls hP hD hS hl
        obtain ⟨o_15, hF, hO_15⟩ := lpq_succ h
        unfold F_X9_measure_b15 at hF
        have j147 : ∀ (v0_10 : Int32) (v0_0 : Nat → Int32) (v0_1 : Nat → Int32) (v0_2 : Nat → Int32) (v0_3 : Nat → Int32) (v0_4 : Nat → Int32) (v0_5 : Nat → Int32) (v0_6 : Nat → Int32) (v0_7 : Nat → Int32) (v0_8 : Nat → Int32) (v0_9 : Nat → Int32) (x3 : Int32), F_X9_measure_j147 v0_10 v0_0 v0_1 v0_2 v0_3 v0_4 v0_5 v0_6 v0_7 v0_8 v0_9 x3 = some o_15 → ∀ (H : Heap) (locs : List Loc) (ls : Array Slot), va_P (dC, dI) vwCl (wd_X9_measure cI a0 a1 v0_10 v0_0 v0_1 v0_2 v0_3 v0_4 v0_5 v0_6 v0_7 v0_8 v0_9 v1_0) H → va_D A (wd_X9_measure cI a0 a1 v0_10 v0_0 v0_1 v0_2 v0_3 v0_4 v0_5 v0_6 v0_7 v0_8 v0_9 v1_0) → va_S A s.heap H locs → lv_has ls 12 [(0, .ref (a0 0)), (1, .ref (a1 0)), (2, .int x2), (3, .int x3)] → W p l e (headSpec wz_X9_measure rm_X9_measure).room s m [.ref (a0 0), .ref (a1 0)].toArray below meth c H locs 0 0 (MQ below (Q_X9_measure dC dI cI a0 a1 v1_0 u A) [.ref (a0 0), .ref (a1 0)].toArray s 0 0 A) (F0 m 147 ls []) := by
          intro v0_10 v0_0 v0_1 v0_2 v0_3 v0_4 v0_5 v0_6 v0_7 v0_8 v0_9 x3 hF H locs ls hP hD hS hl
          unfold F_X9_measure_j147 at hF
          obtain ⟨y_3, ey_3, hF⟩ := lt_some hF
          refine lv_iinc (v := y_3) (lv' := [(3, .int y_3), (0, .ref (a0 0)), (1, .ref (a1 0)), (2, .int x2)]) hx hb dX9_measure_147 hl (k := 3) rfl (by rw [ey_3]; rfl) (by decide) rfl (fun ls hl => ?_)
          refine lv_goto (tgt := 15) hx hb dX9_measure_150 (by decide) ?_
          obtain rfl := Option.some.inj hF
          exact ih_15 _ hO_15 _ _ _ hP hD hS (lv_sub hl [1, 2, 3, 0] rfl)
        have j59 : ∀ (v0_10 : Int32) (v0_0 : Nat → Int32) (v0_1 : Nat → Int32) (v0_2 : Nat → Int32) (v0_3 : Nat → Int32) (v0_4 : Nat → Int32) (v0_5 : Nat → Int32) (v0_6 : Nat → Int32) (v0_7 : Nat → Int32) (v0_8 : Nat → Int32) (v0_9 : Nat → Int32) (x3 : Int32) (x4 : Int32) (x5 : Int32) (x6 : Int32), F_X9_measure_j59 n v0_10 v0_0 v0_1 v0_2 v0_3 v0_4 v0_5 v0_6 v0_7 v0_8 v0_9 v1_0 x2 x3 x4 x5 x6 = some o_15 → ∀ (H : Heap) (locs : List Loc) (ls : Array Slot), va_P (dC, dI) vwCl (wd_X9_measure cI a0 a1 v0_10 v0_0 v0_1 v0_2 v0_3 v0_4 v0_5 v0_6 v0_7 v0_8 v0_9 v1_0) H → va_D A (wd_X9_measure cI a0 a1 v0_10 v0_0 v0_1 v0_2 v0_3 v0_4 v0_5 v0_6 v0_7 v0_8 v0_9 v1_0) → va_S A s.heap H locs → lv_has ls 12 [(0, .ref (a0 0)), (1, .ref (a1 0)), (2, .int x2), (3, .int x3), (4, .int x4), (5, .int x5), (6, .int x6)] → W p l e (headSpec wz_X9_measure rm_X9_measure).room s m [.ref (a0 0), .ref (a1 0)].toArray below meth c H locs 0 0 (MQ below (Q_X9_measure dC dI cI a0 a1 v1_0 u A) [.ref (a0 0), .ref (a1 0)].toArray s 0 0 A) (F0 m 59 ls []) := by
          intro v0_10 v0_0 v0_1 v0_2 v0_3 v0_4 v0_5 v0_6 v0_7 v0_8 v0_9 x3 x4 x5 x6 hF H locs ls hP hD hS hl
          unfold F_X9_measure_j59 at hF
          obtain ⟨x_59, hL_59, hE_59⟩ := obd_some hF
          have kl_59 : ∀ (k : Nat) (s59 : Int32 × Int32 × (Nat → Int32) × (Nat → Int32) × (Nat → Int32) × (Nat → Int32) × (Nat → Int32) × (Nat → Int32) × (Nat → Int32) × (Nat → Int32) × (Nat → Int32)), lpq (F_X9_measure_b59 n v1_0 x2 x3 x4 x5) k s59 = some x_59 → ∀ (H : Heap) (locs : List Loc) (ls : Array Slot), va_P (dC, dI) vwCl (wd_X9_measure cI a0 a1 s59.2.1 v0_0 s59.2.2.1 s59.2.2.2.1 s59.2.2.2.2.1 s59.2.2.2.2.2.1 s59.2.2.2.2.2.2.1 s59.2.2.2.2.2.2.2.1 s59.2.2.2.2.2.2.2.2.1 s59.2.2.2.2.2.2.2.2.2.1 s59.2.2.2.2.2.2.2.2.2.2 v1_0) H → va_D A (wd_X9_measure cI a0 a1 s59.2.1 v0_0 s59.2.2.1 s59.2.2.2.1 s59.2.2.2.2.1 s59.2.2.2.2.2.1 s59.2.2.2.2.2.2.1 s59.2.2.2.2.2.2.2.1 s59.2.2.2.2.2.2.2.2.1 s59.2.2.2.2.2.2.2.2.2.1 s59.2.2.2.2.2.2.2.2.2.2 v1_0) → va_S A s.heap H locs → lv_has ls 12 [(0, .ref (a0 0)), (1, .ref (a1 0)), (2, .int x2), (3, .int x3), (4, .int x4), (5, .int x5), (6, .int s59.1)] → W p l e (headSpec wz_X9_measure rm_X9_measure).room s m [.ref (a0 0), .ref (a1 0)].toArray below meth c H locs 0 0 (MQ below (Q_X9_measure dC dI cI a0 a1 v1_0 u A) [.ref (a0 0), .ref (a1 0)].toArray s 0 0 A) (F0 m 59 ls []) := by
            intro k
            induction k with
            | zero => intro s59 h; exact absurd h lpq_zero
            | succ k ih_59 =>
              intro s59 h H locs ls hP hD hS hl
              obtain ⟨o_59, hF, hO_59⟩ := lpq_succ h
              unfold F_X9_measure_b59 at hF
              have j83 : ∀ (v0_10 : Int32) (v0_1 : Nat → Int32) (v0_2 : Nat → Int32) (v0_3 : Nat → Int32) (v0_4 : Nat → Int32) (v0_5 : Nat → Int32) (v0_6 : Nat → Int32) (v0_7 : Nat → Int32) (v0_8 : Nat → Int32) (v0_9 : Nat → Int32) (x6 : Int32) (t0 : Int32), F_X9_measure_j83 n v0_10 v0_1 v0_2 v0_3 v0_4 v0_5 v0_6 v0_7 v0_8 v0_9 v1_0 x2 x3 x6 t0 = some o_59 → ∀ (H : Heap) (locs : List Loc) (ls : Array Slot), va_P (dC, dI) vwCl (wd_X9_measure cI a0 a1 v0_10 v0_0 v0_1 v0_2 v0_3 v0_4 v0_5 v0_6 v0_7 v0_8 v0_9 v1_0) H → va_D A (wd_X9_measure cI a0 a1 v0_10 v0_0 v0_1 v0_2 v0_3 v0_4 v0_5 v0_6 v0_7 v0_8 v0_9 v1_0) → va_S A s.heap H locs → lv_has ls 12 [(0, .ref (a0 0)), (1, .ref (a1 0)), (2, .int x2), (3, .int x3), (4, .int x4), (5, .int x5), (6, .int x6)] → W p l e (headSpec wz_X9_measure rm_X9_measure).room s m [.ref (a0 0), .ref (a1 0)].toArray below meth c H locs 0 0 (MQ below (Q_X9_measure dC dI cI a0 a1 v1_0 u A) [.ref (a0 0), .ref (a1 0)].toArray s 0 0 A) (F0 m 83 ls [.int t0]) := by
                intro v0_10 v0_1 v0_2 v0_3 v0_4 v0_5 v0_6 v0_7 v0_8 v0_9 x6 t0 hF H locs ls hP hD hS hl
                unfold F_X9_measure_j83 at hF
                refine lv_istore (lv' := [(7, .int t0), (0, .ref (a0 0)), (1, .ref (a1 0)), (2, .int x2), (3, .int x3), (4, .int x4), (5, .int x5), (6, .int x6)]) hx hb dX9_measure_83 hl (by decide) rfl (fun ls hl => ?_)
                refine lv_aload_n hx hb dX9_measure_85 rfl (lv_at hl 2 rfl) ?_
                refine lv_iload_n hx hb dX9_measure_86 rfl (lv_at hl 4 rfl) ?_
                refine lv_iload hx hb dX9_measure_87 (lv_at hl 7 rfl) ?_
                obtain ⟨u_4, hu_4, hF⟩ := obd_some hF
                have hPc := hP.sub (ws' := (wd_X1_xOf cI a1 v1_0)) [11, 12] rfl
                have hDc := hD.sub (ws' := (wd_X1_xOf cI a1 v1_0)) [11, 12] rfl rfl
                refine q_calli (wc := (wd_X1_xOf cI a1 v1_0)) (w1 := (wd_X1_xOf cI a1 v1_0)) (ws' := (wd_X9_measure cI a0 a1 v0_10 v0_0 v0_1 v0_2 v0_3 v0_4 v0_5 v0_6 v0_7 v0_8 v0_9 v1_0)) hP hD hS hA [11, 12] [0, 1, 2, 3, 4, 5, 6, 7, 8, 9, 10] [0, 1, 2, 3, 4, 5, 6, 7, 8, 9, 10, 11, 12] rfl rfl rfl (by decide) rfl rfl (va_runV (As := [.int x3, .int x6]) (rest := []) ⟨hx, hb, hml, hown, hta⟩ (c_X1_xOf l dC dI cI H.size a1 v1_0 x3 x6 u_4 hu_4) (cwV 2 hta (ga_V mA207 mA208 mA209 mA6 mA210) rfl rfl rfl (by decide +kernel) ⟨Nat.le_of_ble_eq_true rfl, Nat.le_of_ble_eq_true rfl⟩) ⟨q_fb, va_recv hK hP (ci := 1) (q0 := 11) rfl rfl, q_ps hPc hK hDc⟩ rfl rfl hl.1 rfl (lv_room (Nat.le_of_ble_eq_true rfl)) dX9_measure_89 ⟨Nat.zero_le _, Nat.zero_le _⟩) (fun H locs hP hD hS => ?_)
                refine lv_istore (lv' := [(8, .int u_4), (7, .int t0), (0, .ref (a0 0)), (1, .ref (a1 0)), (2, .int x2), (3, .int x3), (4, .int x4), (5, .int x5), (6, .int x6)]) hx hb dX9_measure_92 hl (by decide) rfl (fun ls hl => ?_)
                refine lv_aload_n hx hb dX9_measure_94 rfl (lv_at hl 3 rfl) ?_
                refine lv_iload_n hx hb dX9_measure_95 rfl (lv_at hl 5 rfl) ?_
                refine lv_iload hx hb dX9_measure_96 (lv_at hl 8 rfl) ?_
                obtain ⟨u_5, hu_5, hF⟩ := obd_some hF
                have hPc := hP.sub (ws' := (wd_X1_yOf cI a1 v1_0)) [11, 12] rfl
                have hDc := hD.sub (ws' := (wd_X1_yOf cI a1 v1_0)) [11, 12] rfl rfl
                refine q_calli (wc := (wd_X1_yOf cI a1 v1_0)) (w1 := (wd_X1_yOf cI a1 v1_0)) (ws' := (wd_X9_measure cI a0 a1 v0_10 v0_0 v0_1 v0_2 v0_3 v0_4 v0_5 v0_6 v0_7 v0_8 v0_9 v1_0)) hP hD hS hA [11, 12] [0, 1, 2, 3, 4, 5, 6, 7, 8, 9, 10] [0, 1, 2, 3, 4, 5, 6, 7, 8, 9, 10, 11, 12] rfl rfl rfl (by decide) rfl rfl (va_runV (As := [.int x3, .int x6]) (rest := []) ⟨hx, hb, hml, hown, hta⟩ (c_X1_yOf l dC dI cI H.size a1 v1_0 x3 x6 u_5 hu_5) (cwV 2 hta (ga_V mA211 mA212 mA213 mA6 mA214) rfl rfl rfl (by decide +kernel) ⟨Nat.le_of_ble_eq_true rfl, Nat.le_of_ble_eq_true rfl⟩) ⟨q_fb, va_recv hK hP (ci := 1) (q0 := 11) rfl rfl, q_ps hPc hK hDc⟩ rfl rfl hl.1 rfl (lv_room (Nat.le_of_ble_eq_true rfl)) dX9_measure_98 ⟨Nat.zero_le _, Nat.zero_le _⟩) (fun H locs hP hD hS => ?_)
                refine lv_istore (lv' := [(9, .int u_5), (8, .int u_4), (7, .int t0), (0, .ref (a0 0)), (1, .ref (a1 0)), (2, .int x2), (3, .int x3), (4, .int x4), (5, .int x5), (6, .int x6)]) hx hb dX9_measure_101 hl (by decide) rfl (fun ls hl => ?_)
                refine lv_aload_n hx hb dX9_measure_103 rfl (lv_at hl 4 rfl) ?_
                refine lv_iload_n hx hb dX9_measure_104 rfl (lv_at hl 6 rfl) ?_
                refine lv_iload hx hb dX9_measure_105 (lv_at hl 2 rfl) ?_
                obtain ⟨u_6, hu_6, hF⟩ := obd_some hF
                have hPc := hP.sub (ws' := (wd_X1_xOf cI a1 v1_0)) [11, 12] rfl
                have hDc := hD.sub (ws' := (wd_X1_xOf cI a1 v1_0)) [11, 12] rfl rfl
                refine q_calli (wc := (wd_X1_xOf cI a1 v1_0)) (w1 := (wd_X1_xOf cI a1 v1_0)) (ws' := (wd_X9_measure cI a0 a1 v0_10 v0_0 v0_1 v0_2 v0_3 v0_4 v0_5 v0_6 v0_7 v0_8 v0_9 v1_0)) hP hD hS hA [11, 12] [0, 1, 2, 3, 4, 5, 6, 7, 8, 9, 10] [0, 1, 2, 3, 4, 5, 6, 7, 8, 9, 10, 11, 12] rfl rfl rfl (by decide) rfl rfl (va_runV (As := [.int x3, .int t0]) (rest := []) ⟨hx, hb, hml, hown, hta⟩ (c_X1_xOf l dC dI cI H.size a1 v1_0 x3 t0 u_6 hu_6) (cwV 2 hta (ga_V mA207 mA208 mA209 mA6 mA210) rfl rfl rfl (by decide +kernel) ⟨Nat.le_of_ble_eq_true rfl, Nat.le_of_ble_eq_true rfl⟩) ⟨q_fb, va_recv hK hP (ci := 1) (q0 := 11) rfl rfl, q_ps hPc hK hDc⟩ rfl rfl hl.1 rfl (lv_room (Nat.le_of_ble_eq_true rfl)) dX9_measure_107 ⟨Nat.zero_le _, Nat.zero_le _⟩) (fun H locs hP hD hS => ?_)
                refine lv_iload hx hb dX9_measure_110 (lv_at hl 1 rfl) ?_
                refine lv_isub hx hb dX9_measure_112 ?_
                obtain ⟨y_7, ey_7, hF⟩ := lt_some hF
                refine lv_eqi ey_7 ?_
                refine lv_istore (lv' := [(10, .int y_7), (9, .int u_5), (8, .int u_4), (7, .int t0), (0, .ref (a0 0)), (1, .ref (a1 0)), (2, .int x2), (3, .int x3), (4, .int x4), (5, .int x5), (6, .int x6)]) hx hb dX9_measure_113 hl (by decide) rfl (fun ls hl => ?_)
                refine lv_aload_n hx hb dX9_measure_115 rfl (lv_at hl 5 rfl) ?_
                refine lv_iload_n hx hb dX9_measure_116 rfl (lv_at hl 7 rfl) ?_
                refine lv_iload hx hb dX9_measure_117 (lv_at hl 3 rfl) ?_
                obtain ⟨u_8, hu_8, hF⟩ := obd_some hF
                have hPc := hP.sub (ws' := (wd_X1_yOf cI a1 v1_0)) [11, 12] rfl
                have hDc := hD.sub (ws' := (wd_X1_yOf cI a1 v1_0)) [11, 12] rfl rfl
                refine q_calli (wc := (wd_X1_yOf cI a1 v1_0)) (w1 := (wd_X1_yOf cI a1 v1_0)) (ws' := (wd_X9_measure cI a0 a1 v0_10 v0_0 v0_1 v0_2 v0_3 v0_4 v0_5 v0_6 v0_7 v0_8 v0_9 v1_0)) hP hD hS hA [11, 12] [0, 1, 2, 3, 4, 5, 6, 7, 8, 9, 10] [0, 1, 2, 3, 4, 5, 6, 7, 8, 9, 10, 11, 12] rfl rfl rfl (by decide) rfl rfl (va_runV (As := [.int x3, .int t0]) (rest := []) ⟨hx, hb, hml, hown, hta⟩ (c_X1_yOf l dC dI cI H.size a1 v1_0 x3 t0 u_8 hu_8) (cwV 2 hta (ga_V mA211 mA212 mA213 mA6 mA214) rfl rfl rfl (by decide +kernel) ⟨Nat.le_of_ble_eq_true rfl, Nat.le_of_ble_eq_true rfl⟩) ⟨q_fb, va_recv hK hP (ci := 1) (q0 := 11) rfl rfl, q_ps hPc hK hDc⟩ rfl rfl hl.1 rfl (lv_room (Nat.le_of_ble_eq_true rfl)) dX9_measure_119 ⟨Nat.zero_le _, Nat.zero_le _⟩) (fun H locs hP hD hS => ?_)
                refine lv_iload hx hb dX9_measure_122 (lv_at hl 1 rfl) ?_
                refine lv_isub hx hb dX9_measure_124 ?_
                obtain ⟨y_9, ey_9, hF⟩ := lt_some hF
                refine lv_eqi ey_9 ?_
                refine lv_istore (lv' := [(11, .int y_9), (10, .int y_7), (9, .int u_5), (8, .int u_4), (7, .int t0), (0, .ref (a0 0)), (1, .ref (a1 0)), (2, .int x2), (3, .int x3), (4, .int x4), (5, .int x5), (6, .int x6)]) hx hb dX9_measure_125 hl (by decide) rfl (fun ls hl => ?_)
                refine lv_aload_n hx hb dX9_measure_127 rfl (lv_at hl 5 rfl) ?_
                refine lv_iload hx hb dX9_measure_128 (lv_at hl 3 rfl) ?_
                refine lv_iload hx hb dX9_measure_130 (lv_at hl 2 rfl) ?_
                refine lv_iload hx hb dX9_measure_132 (lv_at hl 1 rfl) ?_
                refine lv_iload hx hb dX9_measure_134 (lv_at hl 0 rfl) ?_
                refine lv_iload_n hx hb dX9_measure_136 rfl (lv_at hl 7 rfl) ?_
                refine lv_i2l hx hb dX9_measure_137 rfl ?_
                obtain ⟨u_10, hu_10, hF⟩ := obd_some hF
                have hPc := hP.sub (ws' := (wd_X9_addSegment cI a0 v0_10 v0_1 v0_2 v0_3 v0_4 v0_5 v0_6 v0_7 v0_8 v0_9)) [0, 2, 3, 4, 5, 6, 7, 8, 9, 10] rfl
                have hDc := hD.sub (ws' := (wd_X9_addSegment cI a0 v0_10 v0_1 v0_2 v0_3 v0_4 v0_5 v0_6 v0_7 v0_8 v0_9)) [0, 2, 3, 4, 5, 6, 7, 8, 9, 10] rfl rfl
                refine q_callv (wc := (wd_X9_addSegment cI a0 v0_10 v0_1 v0_2 v0_3 v0_4 v0_5 v0_6 v0_7 v0_8 v0_9)) (w1 := (wd_X9_addSegment cI a0 u_10.1 u_10.2.1 u_10.2.2.1 u_10.2.2.2.1 u_10.2.2.2.2.1 u_10.2.2.2.2.2.1 u_10.2.2.2.2.2.2.1 u_10.2.2.2.2.2.2.2.1 u_10.2.2.2.2.2.2.2.2.1 u_10.2.2.2.2.2.2.2.2.2)) (ws' := (wd_X9_measure cI a0 a1 u_10.1 v0_0 u_10.2.1 u_10.2.2.1 u_10.2.2.2.1 u_10.2.2.2.2.1 u_10.2.2.2.2.2.1 u_10.2.2.2.2.2.2.1 u_10.2.2.2.2.2.2.2.1 u_10.2.2.2.2.2.2.2.2.1 u_10.2.2.2.2.2.2.2.2.2 v1_0)) hP hD hS hA [0, 2, 3, 4, 5, 6, 7, 8, 9, 10] [1, 11, 12] [3, 0, 4, 5, 6, 7, 8, 9, 10, 11, 12, 1, 2] rfl rfl rfl (by decide) rfl rfl (va_runV (As := [.int u_4, .int u_5, .int y_7, .int y_9, .long x2.toInt64]) (rest := []) ⟨hx, hb, hml, hown, hta⟩ (c_X9_addSegment l dC dI cI H.size a0 v0_10 v0_1 v0_2 v0_3 v0_4 v0_5 v0_6 v0_7 v0_8 v0_9 u_4 u_5 y_7 y_9 x2.toInt64 n u_10 hu_10) (cwV 5 hta (ga_V mA215 mA216 mA217 mA52 mA218) rfl rfl rfl (by decide +kernel) ⟨Nat.le_of_ble_eq_true rfl, Nat.le_of_ble_eq_true rfl⟩) ⟨q_fb, va_recv hK hP (ci := 8) (q0 := 0) rfl rfl, q_ps hPc hK hDc⟩ rfl rfl hl.1 rfl (lv_room (Nat.le_of_ble_eq_true rfl)) dX9_measure_138 ⟨Nat.zero_le _, Nat.zero_le _⟩) (fun H locs hP hD hS => ?_)
                obtain ⟨y_11, ey_11, hF⟩ := lt_some hF
                refine lv_iinc (v := y_11) (lv' := [(6, .int y_11), (11, .int y_9), (10, .int y_7), (9, .int u_5), (8, .int u_4), (7, .int t0), (0, .ref (a0 0)), (1, .ref (a1 0)), (2, .int x2), (3, .int x3), (4, .int x4), (5, .int x5)]) hx hb dX9_measure_141 hl (k := 11) rfl (by rw [ey_11]; rfl) (by decide) rfl (fun ls hl => ?_)
                refine lv_goto (tgt := 59) hx hb dX9_measure_144 (by decide) ?_
                obtain rfl := Option.some.inj hF
                exact ih_59 _ hO_59 _ _ _ hP hD hS (lv_sub hl [6, 7, 8, 9, 10, 11, 0] rfl)
              refine lv_iload hx hb dX9_measure_59 (lv_at hl 6 rfl) ?_
              refine lv_iload hx hb dX9_measure_61 (lv_at hl 5 rfl) ?_
              refine lv_icmp_ge (tgt := 147) hx hb dX9_measure_63 (by decide) (fun c_12 => ?_) (fun c_12 => ?_)
              · have hF := it_t hF c_12
                obtain rfl := Option.some.inj hF
                obtain rfl := lpq_x hO_59
                have hF := hE_59
                exact j147 s59.2.1 v0_0 s59.2.2.1 s59.2.2.2.1 s59.2.2.2.2.1 s59.2.2.2.2.2.1 s59.2.2.2.2.2.2.1 s59.2.2.2.2.2.2.2.1 s59.2.2.2.2.2.2.2.2.1 s59.2.2.2.2.2.2.2.2.2.1 s59.2.2.2.2.2.2.2.2.2.2 x3 hF _ _ _ hP hD hS (lv_sub hl [0, 1, 2, 3] rfl)
              · have hF := it_f hF c_12
                refine lv_iload hx hb dX9_measure_66 (lv_at hl 6 rfl) ?_
                refine lv_iconst (v := 1) hx hb dX9_measure_68 (by decide) ?_
                refine lv_iadd hx hb dX9_measure_69 ?_
                refine lv_iload hx hb dX9_measure_70 (lv_at hl 4 rfl) ?_
                refine lv_icmp_ge (tgt := 82) hx hb dX9_measure_72 (by decide) (fun c_13 => ?_) (fun c_13 => ?_)
                · have hF := it_t hF c_13
                  refine lv_iconst (v := 0) hx hb dX9_measure_82 (by decide) ?_
                  exact j83 s59.2.1 s59.2.2.1 s59.2.2.2.1 s59.2.2.2.2.1 s59.2.2.2.2.2.1 s59.2.2.2.2.2.2.1 s59.2.2.2.2.2.2.2.1 s59.2.2.2.2.2.2.2.2.1 s59.2.2.2.2.2.2.2.2.2.1 s59.2.2.2.2.2.2.2.2.2.2 s59.1 0 hF _ _ _ hP hD hS (lv_sub hl [0, 1, 2, 3, 4, 5, 6] rfl)
                · have hF := it_f hF c_13
                  refine lv_iload hx hb dX9_measure_75 (lv_at hl 6 rfl) ?_
                  refine lv_iconst (v := 1) hx hb dX9_measure_77 (by decide) ?_
                  refine lv_iadd hx hb dX9_measure_78 ?_
                  refine lv_goto (tgt := 83) hx hb dX9_measure_79 (by decide) ?_
                  exact j83 s59.2.1 s59.2.2.1 s59.2.2.2.1 s59.2.2.2.2.1 s59.2.2.2.2.2.1 s59.2.2.2.2.2.2.1 s59.2.2.2.2.2.2.2.1 s59.2.2.2.2.2.2.2.2.1 s59.2.2.2.2.2.2.2.2.2.1 s59.2.2.2.2.2.2.2.2.2.2 s59.1 (s59.1 + 1) hF _ _ _ hP hD hS (lv_sub hl [0, 1, 2, 3, 4, 5, 6] rfl)
          exact kl_59 n _ hL_59 _ _ _ hP hD hS hl
        have j54 : ∀ (v0_10 : Int32) (v0_0 : Nat → Int32) (v0_1 : Nat → Int32) (v0_2 : Nat → Int32) (v0_3 : Nat → Int32) (v0_4 : Nat → Int32) (v0_5 : Nat → Int32) (v0_6 : Nat → Int32) (v0_7 : Nat → Int32) (v0_8 : Nat → Int32) (v0_9 : Nat → Int32) (x3 : Int32) (x4 : Int32) (t0 : Int32), F_X9_measure_j54 n v0_10 v0_0 v0_1 v0_2 v0_3 v0_4 v0_5 v0_6 v0_7 v0_8 v0_9 v1_0 x2 x3 x4 t0 = some o_15 → ∀ (H : Heap) (locs : List Loc) (ls : Array Slot), va_P (dC, dI) vwCl (wd_X9_measure cI a0 a1 v0_10 v0_0 v0_1 v0_2 v0_3 v0_4 v0_5 v0_6 v0_7 v0_8 v0_9 v1_0) H → va_D A (wd_X9_measure cI a0 a1 v0_10 v0_0 v0_1 v0_2 v0_3 v0_4 v0_5 v0_6 v0_7 v0_8 v0_9 v1_0) → va_S A s.heap H locs → lv_has ls 12 [(0, .ref (a0 0)), (1, .ref (a1 0)), (2, .int x2), (3, .int x3), (4, .int x4)] → W p l e (headSpec wz_X9_measure rm_X9_measure).room s m [.ref (a0 0), .ref (a1 0)].toArray below meth c H locs 0 0 (MQ below (Q_X9_measure dC dI cI a0 a1 v1_0 u A) [.ref (a0 0), .ref (a1 0)].toArray s 0 0 A) (F0 m 54 ls [.int t0]) := by
          intro v0_10 v0_0 v0_1 v0_2 v0_3 v0_4 v0_5 v0_6 v0_7 v0_8 v0_9 x3 x4 t0 hF H locs ls hP hD hS hl
          unfold F_X9_measure_j54 at hF
          refine lv_istore (lv' := [(5, .int t0), (0, .ref (a0 0)), (1, .ref (a1 0)), (2, .int x2), (3, .int x3), (4, .int x4)]) hx hb dX9_measure_54 hl (by decide) rfl (fun ls hl => ?_)
          refine lv_iconst (v := 0) hx hb dX9_measure_56 (by decide) ?_
          refine lv_istore (lv' := [(6, .int 0), (5, .int t0), (0, .ref (a0 0)), (1, .ref (a1 0)), (2, .int x2), (3, .int x3), (4, .int x4)]) hx hb dX9_measure_57 hl (by decide) rfl (fun ls hl => ?_)
          exact j59 v0_10 v0_0 v0_1 v0_2 v0_3 v0_4 v0_5 v0_6 v0_7 v0_8 v0_9 x3 x4 t0 0 hF _ _ _ hP hD hS (lv_sub hl [2, 3, 4, 5, 6, 1, 0] rfl)
        refine lv_iload_n hx hb dX9_measure_15 rfl (lv_at hl 3 rfl) ?_
        refine lv_iconst (v := 4) hx hb dX9_measure_16 (by decide) ?_
        refine lv_icmp_ge (tgt := 153) hx hb dX9_measure_17 (by decide) (fun c_14 => ?_) (fun c_14 => ?_)
        · have hF := it_t hF c_14
          obtain rfl := Option.some.inj hF
          obtain rfl := lpq_x hO_15
          have hF := hE_15
          exact j153 s15.2.1 s15.2.2.1 s15.2.2.2.1 s15.2.2.2.2.1 s15.2.2.2.2.2.1 s15.2.2.2.2.2.2.1 s15.2.2.2.2.2.2.2.1 s15.2.2.2.2.2.2.2.2.1 s15.2.2.2.2.2.2.2.2.2.1 s15.2.2.2.2.2.2.2.2.2.2.1 s15.2.2.2.2.2.2.2.2.2.2.2 hF _ _ _ hP hD hS (lv_sub hl [0] rfl)
        · have hF := it_f hF c_14
          refine lv_aload_n hx hb dX9_measure_20 rfl (lv_at hl 0 rfl) ?_
          refine va_get (D := (dC, dI)) (ci := 8) (v := .ref (a0 1)) (C := RX9) (T := TX9) (N := 11) hx hb hta uw_X9 hown hK hP 0 rfl rfl 0 (by decide) (hta _ mA65) (fun _ h9 => h9) rfl dX9_measure_21 ?_
          refine lv_iload_n hx hb dX9_measure_24 rfl (lv_at hl 3 rfl) ?_
          refine lv_aload_n hx hb dX9_measure_25 rfl (lv_at hl 0 rfl) ?_
          refine va_get (D := (dC, dI)) (ci := 8) (v := .int s15.2.1) (C := RX9) (T := TX9) (N := 11) hx hb hta uw_X9 hown hK hP 0 rfl rfl 10 (by decide) (hta _ mA200) (fun _ h9 => h9) rfl dX9_measure_26 ?_
          obtain ⟨g_15, hF⟩ := gd_some hF
          refine va_iast hx hb hK hP hD hS 1 0 rfl rfl (vpi_in g_15) dX9_measure_29 (fun H locs hP hD hS => ?_)
          obtain ⟨y_16, ey_16, hF⟩ := lt_some hF
          have hP : va_P (dC, dI) vwCl (wd_X9_measure cI a0 a1 s15.2.1 y_16 s15.2.2.2.1 s15.2.2.2.2.1 s15.2.2.2.2.2.1 s15.2.2.2.2.2.2.1 s15.2.2.2.2.2.2.2.1 s15.2.2.2.2.2.2.2.2.1 s15.2.2.2.2.2.2.2.2.2.1 s15.2.2.2.2.2.2.2.2.2.2.1 s15.2.2.2.2.2.2.2.2.2.2.2 v1_0) H := by rw [ey_16]; exact hP
          have hD : va_D A (wd_X9_measure cI a0 a1 s15.2.1 y_16 s15.2.2.2.1 s15.2.2.2.2.1 s15.2.2.2.2.2.1 s15.2.2.2.2.2.2.1 s15.2.2.2.2.2.2.2.1 s15.2.2.2.2.2.2.2.2.1 s15.2.2.2.2.2.2.2.2.2.1 s15.2.2.2.2.2.2.2.2.2.2.1 s15.2.2.2.2.2.2.2.2.2.2.2 v1_0) := by rw [ey_16]; exact hD
          refine lv_aload_n hx hb dX9_measure_30 rfl (lv_at hl 1 rfl) ?_
          refine lv_iload_n hx hb dX9_measure_31 rfl (lv_at hl 3 rfl) ?_
          obtain ⟨u_17, hu_17, hF⟩ := obd_some hF
          have hPc := hP.sub (ws' := (wd_X1_pointCount cI a1 v1_0)) [11, 12] rfl
          have hDc := hD.sub (ws' := (wd_X1_pointCount cI a1 v1_0)) [11, 12] rfl rfl
          refine q_calli (wc := (wd_X1_pointCount cI a1 v1_0)) (w1 := (wd_X1_pointCount cI a1 v1_0)) (ws' := (wd_X9_measure cI a0 a1 s15.2.1 y_16 s15.2.2.2.1 s15.2.2.2.2.1 s15.2.2.2.2.2.1 s15.2.2.2.2.2.2.1 s15.2.2.2.2.2.2.2.1 s15.2.2.2.2.2.2.2.2.1 s15.2.2.2.2.2.2.2.2.2.1 s15.2.2.2.2.2.2.2.2.2.2.1 s15.2.2.2.2.2.2.2.2.2.2.2 v1_0)) hP hD hS hA [11, 12] [0, 1, 2, 3, 4, 5, 6, 7, 8, 9, 10] [0, 1, 2, 3, 4, 5, 6, 7, 8, 9, 10, 11, 12] rfl rfl rfl (by decide) rfl rfl (va_runV (As := [.int s15.1]) (rest := []) ⟨hx, hb, hml, hown, hta⟩ (c_X1_pointCount l dC dI cI H.size a1 v1_0 s15.1 u_17 hu_17) (cwV 1 hta (ga_V mA205 mA169 mA170 mA6 mA171) rfl rfl rfl (by decide +kernel) ⟨Nat.le_of_ble_eq_true rfl, Nat.le_of_ble_eq_true rfl⟩) ⟨q_fb, va_recv hK hP (ci := 1) (q0 := 11) rfl rfl, q_ps hPc hK hDc⟩ rfl rfl hl.1 rfl (lv_room (Nat.le_of_ble_eq_true rfl)) dX9_measure_32 ⟨Nat.zero_le _, Nat.zero_le _⟩) (fun H locs hP hD hS => ?_)
          refine lv_istore (lv' := [(4, .int u_17), (0, .ref (a0 0)), (1, .ref (a1 0)), (2, .int x2), (3, .int s15.1)]) hx hb dX9_measure_35 hl (by decide) rfl (fun ls hl => ?_)
          refine lv_aload_n hx hb dX9_measure_37 rfl (lv_at hl 2 rfl) ?_
          refine lv_iload_n hx hb dX9_measure_38 rfl (lv_at hl 4 rfl) ?_
          obtain ⟨u_18, hu_18, hF⟩ := obd_some hF
          have hPc := hP.sub (ws' := (wd_X1_isClosed cI a1 v1_0)) [11, 12] rfl
          have hDc := hD.sub (ws' := (wd_X1_isClosed cI a1 v1_0)) [11, 12] rfl rfl
          refine q_callz (wc := (wd_X1_isClosed cI a1 v1_0)) (w1 := (wd_X1_isClosed cI a1 v1_0)) (ws' := (wd_X9_measure cI a0 a1 s15.2.1 y_16 s15.2.2.2.1 s15.2.2.2.2.1 s15.2.2.2.2.2.1 s15.2.2.2.2.2.2.1 s15.2.2.2.2.2.2.2.1 s15.2.2.2.2.2.2.2.2.1 s15.2.2.2.2.2.2.2.2.2.1 s15.2.2.2.2.2.2.2.2.2.2.1 s15.2.2.2.2.2.2.2.2.2.2.2 v1_0)) hP hD hS hA [11, 12] [0, 1, 2, 3, 4, 5, 6, 7, 8, 9, 10] [0, 1, 2, 3, 4, 5, 6, 7, 8, 9, 10, 11, 12] rfl rfl rfl (by decide) rfl rfl (va_runV (As := [.int s15.1]) (rest := []) ⟨hx, hb, hml, hown, hta⟩ (c_X1_isClosed l dC dI cI H.size a1 v1_0 s15.1 u_18 hu_18) (cwV 1 hta (ga_V mA206 mA182 mA183 mA6 mA184) rfl rfl rfl (by decide +kernel) ⟨Nat.le_of_ble_eq_true rfl, Nat.le_of_ble_eq_true rfl⟩) ⟨q_fb, va_recv hK hP (ci := 1) (q0 := 11) rfl rfl, q_ps hPc hK hDc⟩ rfl rfl hl.1 rfl (lv_room (Nat.le_of_ble_eq_true rfl)) dX9_measure_39 ⟨Nat.zero_le _, Nat.zero_le _⟩) (fun hzu_18 H locs hP hD hS => ?_)
          refine lv_if_eq (tgt := 50) hx hb dX9_measure_42 (by decide) (fun c_19 => ?_) (fun c_19 => ?_)
          · have hF := it_t hF c_19
            refine lv_iload hx hb dX9_measure_50 (lv_at hl 0 rfl) ?_
            refine lv_iconst (v := 1) hx hb dX9_measure_52 (by decide) ?_
            refine lv_isub hx hb dX9_measure_53 ?_
            exact j54 s15.2.1 y_16 s15.2.2.2.1 s15.2.2.2.2.1 s15.2.2.2.2.2.1 s15.2.2.2.2.2.2.1 s15.2.2.2.2.2.2.2.1 s15.2.2.2.2.2.2.2.2.1 s15.2.2.2.2.2.2.2.2.2.1 s15.2.2.2.2.2.2.2.2.2.2.1 s15.2.2.2.2.2.2.2.2.2.2.2 s15.1 u_17 (u_17 - 1) hF _ _ _ hP hD hS (lv_sub hl [1, 2, 3, 4, 0] rfl)
          · have hF := it_f hF c_19
            refine lv_iload hx hb dX9_measure_45 (lv_at hl 0 rfl) ?_
            refine lv_goto (tgt := 54) hx hb dX9_measure_47 (by decide) ?_
            exact j54 s15.2.1 y_16 s15.2.2.2.1 s15.2.2.2.2.1 s15.2.2.2.2.2.1 s15.2.2.2.2.2.2.1 s15.2.2.2.2.2.2.2.1 s15.2.2.2.2.2.2.2.2.1 s15.2.2.2.2.2.2.2.2.2.1 s15.2.2.2.2.2.2.2.2.2.2.1 s15.2.2.2.2.2.2.2.2.2.2.2 s15.1 u_17 u_17 hF _ _ _ hP hD hS (lv_sub hl [1, 2, 3, 4, 0] rfl)
    exact kl_15 n _ hL_15 _ _ _ hP hD hS hl
  refine lv_bipush (v := 64) hx hb dX9_measure_0 (by decide) ?_
  refine lv_aload_n hx hb dX9_measure_2 rfl (lv_at hl 1 rfl) ?_
  obtain ⟨u_20, hu_20, hF⟩ := obd_some hF
  have hPc := hP.sub (ws' := (wd_X1_halfWidth cI a1 v1_0)) [11, 12] rfl
  have hDc := hD.sub (ws' := (wd_X1_halfWidth cI a1 v1_0)) [11, 12] rfl rfl
  refine q_calli (wc := (wd_X1_halfWidth cI a1 v1_0)) (w1 := (wd_X1_halfWidth cI a1 v1_0)) (ws' := (wd_X9_measure cI a0 a1 v0_10 v0_0 v0_1 v0_2 v0_3 v0_4 v0_5 v0_6 v0_7 v0_8 v0_9 v1_0)) hP hD hS hA [11, 12] [0, 1, 2, 3, 4, 5, 6, 7, 8, 9, 10] [0, 1, 2, 3, 4, 5, 6, 7, 8, 9, 10, 11, 12] rfl rfl rfl (by decide) rfl rfl (va_runV (As := []) (rest := [.int 64]) ⟨hx, hb, hml, hown, hta⟩ (c_X1_halfWidth l dC dI cI H.size a1 v1_0 u_20 hu_20) (cwV 0 hta (ga_V mA201 mA202 mA203 mA6 mA204) rfl rfl rfl (by decide +kernel) ⟨Nat.le_of_ble_eq_true rfl, Nat.le_of_ble_eq_true rfl⟩) ⟨q_fb, va_recv hK hP (ci := 1) (q0 := 11) rfl rfl, q_ps hPc hK hDc⟩ rfl rfl hl.1 rfl (lv_room (Nat.le_of_ble_eq_true rfl)) dX9_measure_3 ⟨Nat.zero_le _, Nat.zero_le _⟩) (fun H locs hP hD hS => ?_)
  refine lv_imul hx hb dX9_measure_6 ?_
  obtain ⟨y_21, ey_21, hF⟩ := lt_some hF
  refine lv_eqi ey_21 ?_
  refine lv_istore_n (lv' := [(2, .int y_21), (0, .ref (a0 0)), (1, .ref (a1 0))]) hx hb dX9_measure_7 rfl hl (by decide) rfl (fun ls hl => ?_)
  refine lv_aload_n hx hb dX9_measure_8 rfl (lv_at hl 1 rfl) ?_
  refine lv_iconst (v := 0) hx hb dX9_measure_9 (by decide) ?_
  refine va_put (D := (dC, dI)) (ci := 8) (v := .int 0) (ty := .int) (C := RX9) (T := TX9) (N := 11) hx hb hta uw_X9 tyX9 tyX9_ok nmX9 hown hK hP hD hS 0 rfl rfl 10 (by decide) (hta _ mA200) (fun _ h9 => h9) rfl (by decide +kernel) rfl rfl (Nat.le_of_ble_eq_true rfl) dX9_measure_10 (fun H locs hP hD hS => ?_)
  have hP : va_P (dC, dI) vwCl (wd_X9_measure cI a0 a1 0 v0_0 v0_1 v0_2 v0_3 v0_4 v0_5 v0_6 v0_7 v0_8 v0_9 v1_0) H := hP
  have hD : va_D A (wd_X9_measure cI a0 a1 0 v0_0 v0_1 v0_2 v0_3 v0_4 v0_5 v0_6 v0_7 v0_8 v0_9 v1_0) := hD
  refine lv_iconst (v := 0) hx hb dX9_measure_13 (by decide) ?_
  refine lv_istore_n (lv' := [(3, .int 0), (2, .int y_21), (0, .ref (a0 0)), (1, .ref (a1 0))]) hx hb dX9_measure_14 rfl hl (by decide) rfl (fun ls hl => ?_)
  exact j15 0 v0_0 v0_1 v0_2 v0_3 v0_4 v0_5 v0_6 v0_7 v0_8 v0_9 y_21 0 hF _ _ _ hP hD hS (lv_sub hl [2, 3, 1, 0] rfl)

-- StrokeOutliner$Segments.endOf(I)I
def F_X9_endOf (v0_0 : Nat → Int32) (p1 : Int32) : Option (Int32) :=
  obd (F_X4_at 5 v0_0 (p1 + 1)) (fun u_1 => some u_1)
abbrev wd_X9_endOf (cI : ClassId) (a0 : Nat → Nat) (v0_10 : Int32) (v0_0 : Nat → Int32) : va_W := [(a0 0, .inr (8, [.ref (a0 1), .ref (a0 2), .ref (a0 3), .ref (a0 4), .ref (a0 5), .ref (a0 6), .ref (a0 7), .ref (a0 8), .ref (a0 9), .ref (a0 10), .int v0_10])), (a0 1, .inl (cI, 5, .inl v0_0))]
abbrev wz_X9_endOf : List Cond := .code yX9_endOf cX9_endOf 2 (some .int) :: wALL
abbrev rm_X9_endOf : Room := { frames := 1, cells := 0, slots := 0, locals := 21 }
abbrev Q_X9_endOf (dC : Nat → ClassId) (dI : Nat → Nat → Nat) (cI : ClassId) (a0 : Nat → Nat) (v0_10 : Int32) (v0_0 : Nat → Int32) (u : (Int32)) (A : Nat → Prop) : Array Value → State → Outcome → State → Prop := va_Qi (fun (r : Int32) (_ : Unit) => r = u) (fun _ => q_at dC dI cI A (wd_X9_endOf cI a0 v0_10 v0_0)) A
set_option maxHeartbeats 4000000 in
set_option maxRecDepth 100000 in
theorem c_X9_endOf (l : Launch) (dC : Nat → ClassId) (dI : Nat → Nat → Nat) (cI : ClassId) (sz : Nat) (a0 : Nat → Nat) (v0_10 : Int32) (v0_0 : Nat → Int32) (p1 : Int32) (u : (Int32)) (hF : F_X9_endOf v0_0 p1 = some u) : Met l yX9_endOf wz_X9_endOf rm_X9_endOf (va_Pc [.ref (a0 0), .int p1] (q_pre dC dI cI (wd_X9_endOf cI a0 v0_10 v0_0) sz)) (Q_X9_endOf dC dI cI a0 v0_10 v0_0 u (va_A (wd_X9_endOf cI a0 v0_10 v0_0) sz)) 0 0 (va_A (wd_X9_endOf cI a0 v0_10 v0_0) sz) := by
  refine Met.ofW (cc := cX9_endOf) (maxL := 2) (ret := (some .int)) (by decide) rfl ?_
  intro p e s m args below meth c s₁ B hml hv
  obtain ⟨rfl, hsz, hP, hK, hD0⟩ := hv
  have hx := B.exec
  have hb := B.bytes
  have hr := B.returns
  have hts := atoms_spec (ws := wz_X9_endOf) B.pre
  have hta := wz_tl hts
  have hown : s.vm.findClass RX9 = some m.cls := findClass_of_methodNamed B.named
  have hlocks := B.notSynchronized
  subst hsz
  have hD := hD0.self (sz := s.heap.size)
  generalize hAe : va_A (wd_X9_endOf cI a0 v0_10 v0_0) s.heap.size = A at hD ⊢
  have hA : ∀ q : Nat, s.heap.size ≤ q → A q := fun q h => by rw [← hAe]; exact Or.inr h
  have hS : va_S A s.heap s.heap [] := va_S.rf
  have hP : va_P (dC, dI) vwCl (wd_X9_endOf cI a0 v0_10 v0_0) s.heap := hP
  have hl := lv_entry ([.ref (a0 0), .int p1]) (n := 2) (Nat.le_of_ble_eq_true rfl)
  rw [lg_entry_eq]
  generalize (lg_sl ([.ref (a0 0), .int p1]) ++ List.replicate (2 - (lg_sl ([.ref (a0 0), .int p1])).length) Slot.unset).toArray = ls at hl ⊢
  have hl : lv_has ls 2 [(0, .ref (a0 0)), (1, .int p1)] := hl
  obtain ⟨H, hHe⟩ : ∃ H, H = s.heap := ⟨_, rfl⟩
  have hS : va_S A s.heap H [] := by rw [hHe]; exact hS
  have hP : va_P (dC, dI) vwCl (wd_X9_endOf cI a0 v0_10 v0_0) H := by rw [hHe]; exact hP
  rw [← hHe]
  unfold F_X9_endOf at hF
  refine lv_aload_n hx hb dX9_endOf_0 rfl (lv_at hl 0 rfl) ?_
  refine va_get (D := (dC, dI)) (ci := 8) (v := .ref (a0 1)) (C := RX9) (T := TX9) (N := 11) hx hb hta uw_X9 hown hK hP 0 rfl rfl 0 (by decide) (hta _ mA65) (fun _ h9 => h9) rfl dX9_endOf_1 ?_
  refine lv_iload_n hx hb dX9_endOf_4 rfl (lv_at hl 1 rfl) ?_
  refine lv_iconst (v := 1) hx hb dX9_endOf_5 (by decide) ?_
  refine lv_iadd hx hb dX9_endOf_6 ?_
  obtain ⟨u_1, hu_1, hF⟩ := obd_some hF
  have hPc := hP.sub (ws' := (wd_X4_at cI (a0 1) 5 v0_0)) [1] rfl
  have hDc := hD.sub (ws' := (wd_X4_at cI (a0 1) 5 v0_0)) [1] rfl rfl
  refine q_calli (wc := (wd_X4_at cI (a0 1) 5 v0_0)) (w1 := (wd_X4_at cI (a0 1) 5 v0_0)) (ws' := (wd_X9_endOf cI a0 v0_10 v0_0)) hP hD hS hA [1] [0] [0, 1] rfl rfl rfl (by decide) rfl rfl (va_runS (As := [.ref (a0 1), .int (p1 + 1)]) (rest := []) ⟨hx, hb, hml, hown, hta⟩ (c_X4_at l dC dI cI H.size (a0 1) 5 v0_0 (p1 + 1) u_1 hu_1) (va_cwS 2 hta (ga_S mA236 mA237 mA221 mA238) rfl rfl rfl (by decide +kernel) ⟨Nat.le_of_ble_eq_true rfl, Nat.le_of_ble_eq_true rfl⟩) ⟨q_fb, q_ps hPc hK hDc⟩ rfl rfl hl.1 rfl (lv_room (Nat.le_of_ble_eq_true rfl)) dX9_endOf_7 ⟨Nat.zero_le _, Nat.zero_le _⟩) (fun H locs hP hD hS => ?_)
  obtain rfl := Option.some.inj hF
  exact W.iret (v := u_1) hx hb hr (fun t ht hW => ⟨⟨u_1, (), rfl, rfl, by rw [ht]; exact hP, va_K.moved hW.alike hK, hD⟩, hS.F ht⟩) hS.2.2 dX9_endOf_10

-- StrokeOutliner$Segments.firstOf(I)I
def F_X9_firstOf (v0_0 : Nat → Int32) (p1 : Int32) : Option (Int32) :=
  obd (F_X4_at 5 v0_0 p1) (fun u_1 => some u_1)
abbrev wd_X9_firstOf (cI : ClassId) (a0 : Nat → Nat) (v0_10 : Int32) (v0_0 : Nat → Int32) : va_W := [(a0 0, .inr (8, [.ref (a0 1), .ref (a0 2), .ref (a0 3), .ref (a0 4), .ref (a0 5), .ref (a0 6), .ref (a0 7), .ref (a0 8), .ref (a0 9), .ref (a0 10), .int v0_10])), (a0 1, .inl (cI, 5, .inl v0_0))]
abbrev wz_X9_firstOf : List Cond := .code yX9_firstOf cX9_firstOf 2 (some .int) :: wALL
abbrev rm_X9_firstOf : Room := { frames := 1, cells := 0, slots := 0, locals := 21 }
abbrev Q_X9_firstOf (dC : Nat → ClassId) (dI : Nat → Nat → Nat) (cI : ClassId) (a0 : Nat → Nat) (v0_10 : Int32) (v0_0 : Nat → Int32) (u : (Int32)) (A : Nat → Prop) : Array Value → State → Outcome → State → Prop := va_Qi (fun (r : Int32) (_ : Unit) => r = u) (fun _ => q_at dC dI cI A (wd_X9_firstOf cI a0 v0_10 v0_0)) A
set_option maxHeartbeats 4000000 in
set_option maxRecDepth 100000 in
theorem c_X9_firstOf (l : Launch) (dC : Nat → ClassId) (dI : Nat → Nat → Nat) (cI : ClassId) (sz : Nat) (a0 : Nat → Nat) (v0_10 : Int32) (v0_0 : Nat → Int32) (p1 : Int32) (u : (Int32)) (hF : F_X9_firstOf v0_0 p1 = some u) : Met l yX9_firstOf wz_X9_firstOf rm_X9_firstOf (va_Pc [.ref (a0 0), .int p1] (q_pre dC dI cI (wd_X9_firstOf cI a0 v0_10 v0_0) sz)) (Q_X9_firstOf dC dI cI a0 v0_10 v0_0 u (va_A (wd_X9_firstOf cI a0 v0_10 v0_0) sz)) 0 0 (va_A (wd_X9_firstOf cI a0 v0_10 v0_0) sz) := by
  refine Met.ofW (cc := cX9_firstOf) (maxL := 2) (ret := (some .int)) (by decide) rfl ?_
  intro p e s m args below meth c s₁ B hml hv
  obtain ⟨rfl, hsz, hP, hK, hD0⟩ := hv
  have hx := B.exec
  have hb := B.bytes
  have hr := B.returns
  have hts := atoms_spec (ws := wz_X9_firstOf) B.pre
  have hta := wz_tl hts
  have hown : s.vm.findClass RX9 = some m.cls := findClass_of_methodNamed B.named
  have hlocks := B.notSynchronized
  subst hsz
  have hD := hD0.self (sz := s.heap.size)
  generalize hAe : va_A (wd_X9_firstOf cI a0 v0_10 v0_0) s.heap.size = A at hD ⊢
  have hA : ∀ q : Nat, s.heap.size ≤ q → A q := fun q h => by rw [← hAe]; exact Or.inr h
  have hS : va_S A s.heap s.heap [] := va_S.rf
  have hP : va_P (dC, dI) vwCl (wd_X9_firstOf cI a0 v0_10 v0_0) s.heap := hP
  have hl := lv_entry ([.ref (a0 0), .int p1]) (n := 2) (Nat.le_of_ble_eq_true rfl)
  rw [lg_entry_eq]
  generalize (lg_sl ([.ref (a0 0), .int p1]) ++ List.replicate (2 - (lg_sl ([.ref (a0 0), .int p1])).length) Slot.unset).toArray = ls at hl ⊢
  have hl : lv_has ls 2 [(0, .ref (a0 0)), (1, .int p1)] := hl
  obtain ⟨H, hHe⟩ : ∃ H, H = s.heap := ⟨_, rfl⟩
  have hS : va_S A s.heap H [] := by rw [hHe]; exact hS
  have hP : va_P (dC, dI) vwCl (wd_X9_firstOf cI a0 v0_10 v0_0) H := by rw [hHe]; exact hP
  rw [← hHe]
  unfold F_X9_firstOf at hF
  refine lv_aload_n hx hb dX9_firstOf_0 rfl (lv_at hl 0 rfl) ?_
  refine va_get (D := (dC, dI)) (ci := 8) (v := .ref (a0 1)) (C := RX9) (T := TX9) (N := 11) hx hb hta uw_X9 hown hK hP 0 rfl rfl 0 (by decide) (hta _ mA65) (fun _ h9 => h9) rfl dX9_firstOf_1 ?_
  refine lv_iload_n hx hb dX9_firstOf_4 rfl (lv_at hl 1 rfl) ?_
  obtain ⟨u_1, hu_1, hF⟩ := obd_some hF
  have hPc := hP.sub (ws' := (wd_X4_at cI (a0 1) 5 v0_0)) [1] rfl
  have hDc := hD.sub (ws' := (wd_X4_at cI (a0 1) 5 v0_0)) [1] rfl rfl
  refine q_calli (wc := (wd_X4_at cI (a0 1) 5 v0_0)) (w1 := (wd_X4_at cI (a0 1) 5 v0_0)) (ws' := (wd_X9_firstOf cI a0 v0_10 v0_0)) hP hD hS hA [1] [0] [0, 1] rfl rfl rfl (by decide) rfl rfl (va_runS (As := [.ref (a0 1), .int p1]) (rest := []) ⟨hx, hb, hml, hown, hta⟩ (c_X4_at l dC dI cI H.size (a0 1) 5 v0_0 p1 u_1 hu_1) (va_cwS 2 hta (ga_S mA236 mA237 mA221 mA238) rfl rfl rfl (by decide +kernel) ⟨Nat.le_of_ble_eq_true rfl, Nat.le_of_ble_eq_true rfl⟩) ⟨q_fb, q_ps hPc hK hDc⟩ rfl rfl hl.1 rfl (lv_room (Nat.le_of_ble_eq_true rfl)) dX9_firstOf_5 ⟨Nat.zero_le _, Nat.zero_le _⟩) (fun H locs hP hD hS => ?_)
  obtain rfl := Option.some.inj hF
  exact W.iret (v := u_1) hx hb hr (fun t ht hW => ⟨⟨u_1, (), rfl, rfl, by rw [ht]; exact hP, va_K.moved hW.alike hK, hD⟩, hS.F ht⟩) hS.2.2 dX9_firstOf_8

-- StrokeOutliner$Segments.countOf(I)I
def F_X9_countOf (v0_0 : Nat → Int32) (p1 : Int32) : Option (Int32) :=
  obd (F_X9_endOf v0_0 p1) (fun u_1 => obd (F_X9_firstOf v0_0 p1) (fun u_2 => some (u_1 - u_2)))
abbrev wd_X9_countOf (cI : ClassId) (a0 : Nat → Nat) (v0_10 : Int32) (v0_0 : Nat → Int32) : va_W := [(a0 0, .inr (8, [.ref (a0 1), .ref (a0 2), .ref (a0 3), .ref (a0 4), .ref (a0 5), .ref (a0 6), .ref (a0 7), .ref (a0 8), .ref (a0 9), .ref (a0 10), .int v0_10])), (a0 1, .inl (cI, 5, .inl v0_0))]
abbrev wz_X9_countOf : List Cond := .code yX9_countOf cX9_countOf 2 (some .int) :: wALL
abbrev rm_X9_countOf : Room := { frames := 2, cells := 0, slots := 0, locals := 42 }
abbrev Q_X9_countOf (dC : Nat → ClassId) (dI : Nat → Nat → Nat) (cI : ClassId) (a0 : Nat → Nat) (v0_10 : Int32) (v0_0 : Nat → Int32) (u : (Int32)) (A : Nat → Prop) : Array Value → State → Outcome → State → Prop := va_Qi (fun (r : Int32) (_ : Unit) => r = u) (fun _ => q_at dC dI cI A (wd_X9_countOf cI a0 v0_10 v0_0)) A
set_option maxHeartbeats 4000000 in
set_option maxRecDepth 100000 in
theorem c_X9_countOf (l : Launch) (dC : Nat → ClassId) (dI : Nat → Nat → Nat) (cI : ClassId) (sz : Nat) (a0 : Nat → Nat) (v0_10 : Int32) (v0_0 : Nat → Int32) (p1 : Int32) (u : (Int32)) (hF : F_X9_countOf v0_0 p1 = some u) : Met l yX9_countOf wz_X9_countOf rm_X9_countOf (va_Pc [.ref (a0 0), .int p1] (q_pre dC dI cI (wd_X9_countOf cI a0 v0_10 v0_0) sz)) (Q_X9_countOf dC dI cI a0 v0_10 v0_0 u (va_A (wd_X9_countOf cI a0 v0_10 v0_0) sz)) 0 0 (va_A (wd_X9_countOf cI a0 v0_10 v0_0) sz) := by
  refine Met.ofW (cc := cX9_countOf) (maxL := 2) (ret := (some .int)) (by decide) rfl ?_
  intro p e s m args below meth c s₁ B hml hv
  obtain ⟨rfl, hsz, hP, hK, hD0⟩ := hv
  have hx := B.exec
  have hb := B.bytes
  have hr := B.returns
  have hts := atoms_spec (ws := wz_X9_countOf) B.pre
  have hta := wz_tl hts
  have hown : s.vm.findClass RX9 = some m.cls := findClass_of_methodNamed B.named
  have hlocks := B.notSynchronized
  subst hsz
  have hD := hD0.self (sz := s.heap.size)
  generalize hAe : va_A (wd_X9_countOf cI a0 v0_10 v0_0) s.heap.size = A at hD ⊢
  have hA : ∀ q : Nat, s.heap.size ≤ q → A q := fun q h => by rw [← hAe]; exact Or.inr h
  have hS : va_S A s.heap s.heap [] := va_S.rf
  have hP : va_P (dC, dI) vwCl (wd_X9_countOf cI a0 v0_10 v0_0) s.heap := hP
  have hl := lv_entry ([.ref (a0 0), .int p1]) (n := 2) (Nat.le_of_ble_eq_true rfl)
  rw [lg_entry_eq]
  generalize (lg_sl ([.ref (a0 0), .int p1]) ++ List.replicate (2 - (lg_sl ([.ref (a0 0), .int p1])).length) Slot.unset).toArray = ls at hl ⊢
  have hl : lv_has ls 2 [(0, .ref (a0 0)), (1, .int p1)] := hl
  obtain ⟨H, hHe⟩ : ∃ H, H = s.heap := ⟨_, rfl⟩
  have hS : va_S A s.heap H [] := by rw [hHe]; exact hS
  have hP : va_P (dC, dI) vwCl (wd_X9_countOf cI a0 v0_10 v0_0) H := by rw [hHe]; exact hP
  rw [← hHe]
  unfold F_X9_countOf at hF
  refine lv_aload_n hx hb dX9_countOf_0 rfl (lv_at hl 0 rfl) ?_
  refine lv_iload_n hx hb dX9_countOf_1 rfl (lv_at hl 1 rfl) ?_
  obtain ⟨u_1, hu_1, hF⟩ := obd_some hF
  have hPc := hP.sub (ws' := (wd_X9_endOf cI a0 v0_10 v0_0)) [0, 1] rfl
  have hDc := hD.sub (ws' := (wd_X9_endOf cI a0 v0_10 v0_0)) [0, 1] rfl rfl
  refine q_calli (wc := (wd_X9_endOf cI a0 v0_10 v0_0)) (w1 := (wd_X9_endOf cI a0 v0_10 v0_0)) (ws' := (wd_X9_countOf cI a0 v0_10 v0_0)) hP hD hS hA [0, 1] [] [0, 1] rfl rfl rfl (by decide) rfl rfl (va_runV (As := [.int p1]) (rest := []) ⟨hx, hb, hml, hown, hta⟩ (c_X9_endOf l dC dI cI H.size a0 v0_10 v0_0 p1 u_1 hu_1) (cwV 1 hta (ga_V mA232 mA233 mA234 mA52 mA235) rfl rfl rfl (by decide +kernel) ⟨Nat.le_of_ble_eq_true rfl, Nat.le_of_ble_eq_true rfl⟩) ⟨q_fb, va_recv hK hP (ci := 8) (q0 := 0) rfl rfl, q_ps hPc hK hDc⟩ rfl rfl hl.1 rfl (lv_room (Nat.le_of_ble_eq_true rfl)) dX9_countOf_2 ⟨Nat.zero_le _, Nat.zero_le _⟩) (fun H locs hP hD hS => ?_)
  refine lv_aload_n hx hb dX9_countOf_5 rfl (lv_at hl 0 rfl) ?_
  refine lv_iload_n hx hb dX9_countOf_6 rfl (lv_at hl 1 rfl) ?_
  obtain ⟨u_2, hu_2, hF⟩ := obd_some hF
  have hPc := hP.sub (ws' := (wd_X9_firstOf cI a0 v0_10 v0_0)) [0, 1] rfl
  have hDc := hD.sub (ws' := (wd_X9_firstOf cI a0 v0_10 v0_0)) [0, 1] rfl rfl
  refine q_calli (wc := (wd_X9_firstOf cI a0 v0_10 v0_0)) (w1 := (wd_X9_firstOf cI a0 v0_10 v0_0)) (ws' := (wd_X9_countOf cI a0 v0_10 v0_0)) hP hD hS hA [0, 1] [] [0, 1] rfl rfl rfl (by decide) rfl rfl (va_runV (As := [.int p1]) (rest := [.int u_1]) ⟨hx, hb, hml, hown, hta⟩ (c_X9_firstOf l dC dI cI H.size a0 v0_10 v0_0 p1 u_2 hu_2) (cwV 1 hta (ga_V mA239 mA240 mA241 mA52 mA242) rfl rfl rfl (by decide +kernel) ⟨Nat.le_of_ble_eq_true rfl, Nat.le_of_ble_eq_true rfl⟩) ⟨q_fb, va_recv hK hP (ci := 8) (q0 := 0) rfl rfl, q_ps hPc hK hDc⟩ rfl rfl hl.1 rfl (lv_room (Nat.le_of_ble_eq_true rfl)) dX9_countOf_7 ⟨Nat.zero_le _, Nat.zero_le _⟩) (fun H locs hP hD hS => ?_)
  refine lv_isub hx hb dX9_countOf_10 ?_
  obtain rfl := Option.some.inj hF
  exact W.iret (v := (u_1 - u_2)) hx hb hr (fun t ht hW => ⟨⟨(u_1 - u_2), (), rfl, rfl, by rw [ht]; exact hP, va_K.moved hW.alike hK, hD⟩, hS.F ht⟩) hS.2.2 dX9_countOf_11

-- StrokeOutliner$Segments.startOf(II)I
def F_X9_startOf_j36 (x3 : Int32) : Option (Int32) :=
  some x3
def F_X9_startOf_b12 (v0_5 : Nat → Int32) (x2 : Int32) (s12 : Int32 × Int32) : Option (Sum (Int32 × Int32) (Int32)) :=
  if x2 ≤ s12.2 then some (.inr s12.1) else obd (F_X4_at 32 v0_5 s12.2) (fun u_2 => lt (s12.1 + u_2) (fun y_3 => lt (s12.2 + 1) (fun y_4 => some (.inl (y_3, y_4)))))
def F_X9_startOf_j12 (n : Nat) (v0_5 : Nat → Int32) (x2 : Int32) (x3 : Int32) (x4 : Int32) : Option (Int32) :=
  obd (lpq (F_X9_startOf_b12 v0_5 x2) n (x3, x4)) (fun x_12 => F_X9_startOf_j36 x_12)
def F_X9_startOf (n : Nat) (v0_0 : Nat → Int32) (v0_5 : Nat → Int32) (p1 : Int32) (p2 : Int32) : Option (Int32) :=
  obd (F_X4_at 5 v0_0 p1) (fun u_5 => F_X9_startOf_j12 n v0_5 p2 0 u_5)
abbrev wd_X9_startOf (cI : ClassId) (a0 : Nat → Nat) (v0_10 : Int32) (v0_0 : Nat → Int32) (v0_5 : Nat → Int32) : va_W := [(a0 0, .inr (8, [.ref (a0 1), .ref (a0 2), .ref (a0 3), .ref (a0 4), .ref (a0 5), .ref (a0 6), .ref (a0 7), .ref (a0 8), .ref (a0 9), .ref (a0 10), .int v0_10])), (a0 1, .inl (cI, 5, .inl v0_0)), (a0 6, .inl (cI, 32, .inl v0_5))]
abbrev wz_X9_startOf : List Cond := .code yX9_startOf cX9_startOf 5 (some .int) :: wALL
abbrev rm_X9_startOf : Room := { frames := 1, cells := 0, slots := 0, locals := 21 }
abbrev Q_X9_startOf (dC : Nat → ClassId) (dI : Nat → Nat → Nat) (cI : ClassId) (a0 : Nat → Nat) (v0_10 : Int32) (v0_0 : Nat → Int32) (v0_5 : Nat → Int32) (u : (Int32)) (A : Nat → Prop) : Array Value → State → Outcome → State → Prop := va_Qi (fun (r : Int32) (_ : Unit) => r = u) (fun _ => q_at dC dI cI A (wd_X9_startOf cI a0 v0_10 v0_0 v0_5)) A
set_option maxHeartbeats 4000000 in
set_option maxRecDepth 100000 in
theorem c_X9_startOf (l : Launch) (dC : Nat → ClassId) (dI : Nat → Nat → Nat) (cI : ClassId) (sz : Nat) (a0 : Nat → Nat) (v0_10 : Int32) (v0_0 : Nat → Int32) (v0_5 : Nat → Int32) (p1 : Int32) (p2 : Int32) (n : Nat) (u : (Int32)) (hF : F_X9_startOf n v0_0 v0_5 p1 p2 = some u) : Met l yX9_startOf wz_X9_startOf rm_X9_startOf (va_Pc [.ref (a0 0), .int p1, .int p2] (q_pre dC dI cI (wd_X9_startOf cI a0 v0_10 v0_0 v0_5) sz)) (Q_X9_startOf dC dI cI a0 v0_10 v0_0 v0_5 u (va_A (wd_X9_startOf cI a0 v0_10 v0_0 v0_5) sz)) 0 0 (va_A (wd_X9_startOf cI a0 v0_10 v0_0 v0_5) sz) := by
  refine Met.ofW (cc := cX9_startOf) (maxL := 5) (ret := (some .int)) (by decide) rfl ?_
  intro p e s m args below meth c s₁ B hml hv
  obtain ⟨rfl, hsz, hP, hK, hD0⟩ := hv
  have hx := B.exec
  have hb := B.bytes
  have hr := B.returns
  have hts := atoms_spec (ws := wz_X9_startOf) B.pre
  have hta := wz_tl hts
  have hown : s.vm.findClass RX9 = some m.cls := findClass_of_methodNamed B.named
  have hlocks := B.notSynchronized
  subst hsz
  have hD := hD0.self (sz := s.heap.size)
  generalize hAe : va_A (wd_X9_startOf cI a0 v0_10 v0_0 v0_5) s.heap.size = A at hD ⊢
  have hA : ∀ q : Nat, s.heap.size ≤ q → A q := fun q h => by rw [← hAe]; exact Or.inr h
  have hS : va_S A s.heap s.heap [] := va_S.rf
  have hP : va_P (dC, dI) vwCl (wd_X9_startOf cI a0 v0_10 v0_0 v0_5) s.heap := hP
  have hl := lv_entry ([.ref (a0 0), .int p1, .int p2]) (n := 5) (Nat.le_of_ble_eq_true rfl)
  rw [lg_entry_eq]
  generalize (lg_sl ([.ref (a0 0), .int p1, .int p2]) ++ List.replicate (5 - (lg_sl ([.ref (a0 0), .int p1, .int p2])).length) Slot.unset).toArray = ls at hl ⊢
  have hl : lv_has ls 5 [(0, .ref (a0 0)), (1, .int p1), (2, .int p2)] := hl
  obtain ⟨H, hHe⟩ : ∃ H, H = s.heap := ⟨_, rfl⟩
  have hS : va_S A s.heap H [] := by rw [hHe]; exact hS
  have hP : va_P (dC, dI) vwCl (wd_X9_startOf cI a0 v0_10 v0_0 v0_5) H := by rw [hHe]; exact hP
  rw [← hHe]
  unfold F_X9_startOf at hF
  have j36 : ∀ (x3 : Int32), F_X9_startOf_j36 x3 = some u → ∀ (H : Heap) (locs : List Loc) (ls : Array Slot), va_P (dC, dI) vwCl (wd_X9_startOf cI a0 v0_10 v0_0 v0_5) H → va_D A (wd_X9_startOf cI a0 v0_10 v0_0 v0_5) → va_S A s.heap H locs → lv_has ls 5 [(3, .int x3)] → W p l e (headSpec wz_X9_startOf rm_X9_startOf).room s m [.ref (a0 0), .int p1, .int p2].toArray below meth c H locs 0 0 (MQ below (Q_X9_startOf dC dI cI a0 v0_10 v0_0 v0_5 u A) [.ref (a0 0), .int p1, .int p2].toArray s 0 0 A) (F0 m 36 ls []) := by
    intro x3 hF H locs ls hP hD hS hl
    unfold F_X9_startOf_j36 at hF
    refine lv_iload_n hx hb dX9_startOf_36 rfl (lv_at hl 0 rfl) ?_
    obtain rfl := Option.some.inj hF
    exact W.iret (v := x3) hx hb hr (fun t ht hW => ⟨⟨x3, (), rfl, rfl, by rw [ht]; exact hP, va_K.moved hW.alike hK, hD⟩, hS.F ht⟩) hS.2.2 dX9_startOf_37
  have j12 : ∀ (x2 : Int32) (x3 : Int32) (x4 : Int32), F_X9_startOf_j12 n v0_5 x2 x3 x4 = some u → ∀ (H : Heap) (locs : List Loc) (ls : Array Slot), va_P (dC, dI) vwCl (wd_X9_startOf cI a0 v0_10 v0_0 v0_5) H → va_D A (wd_X9_startOf cI a0 v0_10 v0_0 v0_5) → va_S A s.heap H locs → lv_has ls 5 [(0, .ref (a0 0)), (2, .int x2), (3, .int x3), (4, .int x4)] → W p l e (headSpec wz_X9_startOf rm_X9_startOf).room s m [.ref (a0 0), .int p1, .int p2].toArray below meth c H locs 0 0 (MQ below (Q_X9_startOf dC dI cI a0 v0_10 v0_0 v0_5 u A) [.ref (a0 0), .int p1, .int p2].toArray s 0 0 A) (F0 m 12 ls []) := by
    intro x2 x3 x4 hF H locs ls hP hD hS hl
    unfold F_X9_startOf_j12 at hF
    obtain ⟨x_12, hL_12, hE_12⟩ := obd_some hF
    have kl_12 : ∀ (k : Nat) (s12 : Int32 × Int32), lpq (F_X9_startOf_b12 v0_5 x2) k s12 = some x_12 → ∀ (H : Heap) (locs : List Loc) (ls : Array Slot), va_P (dC, dI) vwCl (wd_X9_startOf cI a0 v0_10 v0_0 v0_5) H → va_D A (wd_X9_startOf cI a0 v0_10 v0_0 v0_5) → va_S A s.heap H locs → lv_has ls 5 [(0, .ref (a0 0)), (2, .int x2), (3, .int s12.1), (4, .int s12.2)] → W p l e (headSpec wz_X9_startOf rm_X9_startOf).room s m [.ref (a0 0), .int p1, .int p2].toArray below meth c H locs 0 0 (MQ below (Q_X9_startOf dC dI cI a0 v0_10 v0_0 v0_5 u A) [.ref (a0 0), .int p1, .int p2].toArray s 0 0 A) (F0 m 12 ls []) := by
      intro k
      induction k with
      | zero => intro s12 h; exact absurd h lpq_zero
      | succ k ih_12 =>
        intro s12 h H locs ls hP hD hS hl
        obtain ⟨o_12, hF, hO_12⟩ := lpq_succ h
        unfold F_X9_startOf_b12 at hF
        refine lv_iload hx hb dX9_startOf_12 (lv_at hl 3 rfl) ?_
        refine lv_iload_n hx hb dX9_startOf_14 rfl (lv_at hl 1 rfl) ?_
        refine lv_icmp_ge (tgt := 36) hx hb dX9_startOf_15 (by decide) (fun c_1 => ?_) (fun c_1 => ?_)
        · have hF := it_t hF c_1
          obtain rfl := Option.some.inj hF
          obtain rfl := lpq_x hO_12
          have hF := hE_12
          exact j36 s12.1 hF _ _ _ hP hD hS (lv_sub hl [2] rfl)
        · have hF := it_f hF c_1
          refine lv_iload_n hx hb dX9_startOf_18 rfl (lv_at hl 2 rfl) ?_
          refine lv_aload_n hx hb dX9_startOf_19 rfl (lv_at hl 0 rfl) ?_
          refine va_get (D := (dC, dI)) (ci := 8) (v := .ref (a0 6)) (C := RX9) (T := TX9) (N := 11) hx hb hta uw_X9 hown hK hP 0 rfl rfl 5 (by decide) (hta _ mA70) (fun _ h9 => h9) rfl dX9_startOf_20 ?_
          refine lv_iload hx hb dX9_startOf_23 (lv_at hl 3 rfl) ?_
          obtain ⟨u_2, hu_2, hF⟩ := obd_some hF
          have hPc := hP.sub (ws' := (wd_X4_at cI (a0 6) 32 v0_5)) [2] rfl
          have hDc := hD.sub (ws' := (wd_X4_at cI (a0 6) 32 v0_5)) [2] rfl rfl
          refine q_calli (wc := (wd_X4_at cI (a0 6) 32 v0_5)) (w1 := (wd_X4_at cI (a0 6) 32 v0_5)) (ws' := (wd_X9_startOf cI a0 v0_10 v0_0 v0_5)) hP hD hS hA [2] [0, 1] [0, 1, 2] rfl rfl rfl (by decide) rfl rfl (va_runS (As := [.ref (a0 6), .int s12.2]) (rest := [.int s12.1]) ⟨hx, hb, hml, hown, hta⟩ (c_X4_at l dC dI cI H.size (a0 6) 32 v0_5 s12.2 u_2 hu_2) (va_cwS 2 hta (ga_S mA236 mA237 mA221 mA238) rfl rfl rfl (by decide +kernel) ⟨Nat.le_of_ble_eq_true rfl, Nat.le_of_ble_eq_true rfl⟩) ⟨q_fb, q_ps hPc hK hDc⟩ rfl rfl hl.1 rfl (lv_room (Nat.le_of_ble_eq_true rfl)) dX9_startOf_25 ⟨Nat.zero_le _, Nat.zero_le _⟩) (fun H locs hP hD hS => ?_)
          refine lv_iadd hx hb dX9_startOf_28 ?_
          obtain ⟨y_3, ey_3, hF⟩ := lt_some hF
          refine lv_eqi ey_3 ?_
          refine lv_istore_n (lv' := [(3, .int y_3), (0, .ref (a0 0)), (2, .int x2), (4, .int s12.2)]) hx hb dX9_startOf_29 rfl hl (by decide) rfl (fun ls hl => ?_)
          obtain ⟨y_4, ey_4, hF⟩ := lt_some hF
          refine lv_iinc (v := y_4) (lv' := [(4, .int y_4), (3, .int y_3), (0, .ref (a0 0)), (2, .int x2)]) hx hb dX9_startOf_30 hl (k := 3) rfl (by rw [ey_4]; rfl) (by decide) rfl (fun ls hl => ?_)
          refine lv_goto (tgt := 12) hx hb dX9_startOf_33 (by decide) ?_
          obtain rfl := Option.some.inj hF
          exact ih_12 _ hO_12 _ _ _ hP hD hS (lv_sub hl [2, 3, 1, 0] rfl)
    exact kl_12 n _ hL_12 _ _ _ hP hD hS hl
  refine lv_iconst (v := 0) hx hb dX9_startOf_0 (by decide) ?_
  refine lv_istore_n (lv' := [(3, .int 0), (0, .ref (a0 0)), (1, .int p1), (2, .int p2)]) hx hb dX9_startOf_1 rfl hl (by decide) rfl (fun ls hl => ?_)
  refine lv_aload_n hx hb dX9_startOf_2 rfl (lv_at hl 1 rfl) ?_
  refine va_get (D := (dC, dI)) (ci := 8) (v := .ref (a0 1)) (C := RX9) (T := TX9) (N := 11) hx hb hta uw_X9 hown hK hP 0 rfl rfl 0 (by decide) (hta _ mA65) (fun _ h9 => h9) rfl dX9_startOf_3 ?_
  refine lv_iload_n hx hb dX9_startOf_6 rfl (lv_at hl 2 rfl) ?_
  obtain ⟨u_5, hu_5, hF⟩ := obd_some hF
  have hPc := hP.sub (ws' := (wd_X4_at cI (a0 1) 5 v0_0)) [1] rfl
  have hDc := hD.sub (ws' := (wd_X4_at cI (a0 1) 5 v0_0)) [1] rfl rfl
  refine q_calli (wc := (wd_X4_at cI (a0 1) 5 v0_0)) (w1 := (wd_X4_at cI (a0 1) 5 v0_0)) (ws' := (wd_X9_startOf cI a0 v0_10 v0_0 v0_5)) hP hD hS hA [1] [0, 2] [0, 2, 1] rfl rfl rfl (by decide) rfl rfl (va_runS (As := [.ref (a0 1), .int p1]) (rest := []) ⟨hx, hb, hml, hown, hta⟩ (c_X4_at l dC dI cI H.size (a0 1) 5 v0_0 p1 u_5 hu_5) (va_cwS 2 hta (ga_S mA236 mA237 mA221 mA238) rfl rfl rfl (by decide +kernel) ⟨Nat.le_of_ble_eq_true rfl, Nat.le_of_ble_eq_true rfl⟩) ⟨q_fb, q_ps hPc hK hDc⟩ rfl rfl hl.1 rfl (lv_room (Nat.le_of_ble_eq_true rfl)) dX9_startOf_7 ⟨Nat.zero_le _, Nat.zero_le _⟩) (fun H locs hP hD hS => ?_)
  refine lv_istore (lv' := [(4, .int u_5), (3, .int 0), (0, .ref (a0 0)), (1, .int p1), (2, .int p2)]) hx hb dX9_startOf_10 hl (by decide) rfl (fun ls hl => ?_)
  exact j12 p2 0 u_5 hF _ _ _ hP hD hS (lv_sub hl [2, 4, 1, 0] rfl)

-- StrokeOutliner$Segments.lengthOf(I)I
def F_X9_lengthOf (n : Nat) (v0_0 : Nat → Int32) (v0_5 : Nat → Int32) (p1 : Int32) : Option (Int32) :=
  obd (F_X9_endOf v0_0 p1) (fun u_1 => obd (F_X9_startOf n v0_0 v0_5 p1 u_1) (fun u_2 => some u_2))
abbrev wd_X9_lengthOf (cI : ClassId) (a0 : Nat → Nat) (v0_10 : Int32) (v0_0 : Nat → Int32) (v0_5 : Nat → Int32) : va_W := [(a0 0, .inr (8, [.ref (a0 1), .ref (a0 2), .ref (a0 3), .ref (a0 4), .ref (a0 5), .ref (a0 6), .ref (a0 7), .ref (a0 8), .ref (a0 9), .ref (a0 10), .int v0_10])), (a0 1, .inl (cI, 5, .inl v0_0)), (a0 6, .inl (cI, 32, .inl v0_5))]
abbrev wz_X9_lengthOf : List Cond := .code yX9_lengthOf cX9_lengthOf 2 (some .int) :: wALL
abbrev rm_X9_lengthOf : Room := { frames := 2, cells := 0, slots := 0, locals := 45 }
abbrev Q_X9_lengthOf (dC : Nat → ClassId) (dI : Nat → Nat → Nat) (cI : ClassId) (a0 : Nat → Nat) (v0_10 : Int32) (v0_0 : Nat → Int32) (v0_5 : Nat → Int32) (u : (Int32)) (A : Nat → Prop) : Array Value → State → Outcome → State → Prop := va_Qi (fun (r : Int32) (_ : Unit) => r = u) (fun _ => q_at dC dI cI A (wd_X9_lengthOf cI a0 v0_10 v0_0 v0_5)) A
set_option maxHeartbeats 4000000 in
set_option maxRecDepth 100000 in
theorem c_X9_lengthOf (l : Launch) (dC : Nat → ClassId) (dI : Nat → Nat → Nat) (cI : ClassId) (sz : Nat) (a0 : Nat → Nat) (v0_10 : Int32) (v0_0 : Nat → Int32) (v0_5 : Nat → Int32) (p1 : Int32) (n : Nat) (u : (Int32)) (hF : F_X9_lengthOf n v0_0 v0_5 p1 = some u) : Met l yX9_lengthOf wz_X9_lengthOf rm_X9_lengthOf (va_Pc [.ref (a0 0), .int p1] (q_pre dC dI cI (wd_X9_lengthOf cI a0 v0_10 v0_0 v0_5) sz)) (Q_X9_lengthOf dC dI cI a0 v0_10 v0_0 v0_5 u (va_A (wd_X9_lengthOf cI a0 v0_10 v0_0 v0_5) sz)) 0 0 (va_A (wd_X9_lengthOf cI a0 v0_10 v0_0 v0_5) sz) := by
  refine Met.ofW (cc := cX9_lengthOf) (maxL := 2) (ret := (some .int)) (by decide) rfl ?_
  intro p e s m args below meth c s₁ B hml hv
  obtain ⟨rfl, hsz, hP, hK, hD0⟩ := hv
  have hx := B.exec
  have hb := B.bytes
  have hr := B.returns
  have hts := atoms_spec (ws := wz_X9_lengthOf) B.pre
  have hta := wz_tl hts
  have hown : s.vm.findClass RX9 = some m.cls := findClass_of_methodNamed B.named
  have hlocks := B.notSynchronized
  subst hsz
  have hD := hD0.self (sz := s.heap.size)
  generalize hAe : va_A (wd_X9_lengthOf cI a0 v0_10 v0_0 v0_5) s.heap.size = A at hD ⊢
  have hA : ∀ q : Nat, s.heap.size ≤ q → A q := fun q h => by rw [← hAe]; exact Or.inr h
  have hS : va_S A s.heap s.heap [] := va_S.rf
  have hP : va_P (dC, dI) vwCl (wd_X9_lengthOf cI a0 v0_10 v0_0 v0_5) s.heap := hP
  have hl := lv_entry ([.ref (a0 0), .int p1]) (n := 2) (Nat.le_of_ble_eq_true rfl)
  rw [lg_entry_eq]
  generalize (lg_sl ([.ref (a0 0), .int p1]) ++ List.replicate (2 - (lg_sl ([.ref (a0 0), .int p1])).length) Slot.unset).toArray = ls at hl ⊢
  have hl : lv_has ls 2 [(0, .ref (a0 0)), (1, .int p1)] := hl
  obtain ⟨H, hHe⟩ : ∃ H, H = s.heap := ⟨_, rfl⟩
  have hS : va_S A s.heap H [] := by rw [hHe]; exact hS
  have hP : va_P (dC, dI) vwCl (wd_X9_lengthOf cI a0 v0_10 v0_0 v0_5) H := by rw [hHe]; exact hP
  rw [← hHe]
  unfold F_X9_lengthOf at hF
  refine lv_aload_n hx hb dX9_lengthOf_0 rfl (lv_at hl 0 rfl) ?_
  refine lv_iload_n hx hb dX9_lengthOf_1 rfl (lv_at hl 1 rfl) ?_
  refine lv_aload_n hx hb dX9_lengthOf_2 rfl (lv_at hl 0 rfl) ?_
  refine lv_iload_n hx hb dX9_lengthOf_3 rfl (lv_at hl 1 rfl) ?_
  obtain ⟨u_1, hu_1, hF⟩ := obd_some hF
  have hPc := hP.sub (ws' := (wd_X9_endOf cI a0 v0_10 v0_0)) [0, 1] rfl
  have hDc := hD.sub (ws' := (wd_X9_endOf cI a0 v0_10 v0_0)) [0, 1] rfl rfl
  refine q_calli (wc := (wd_X9_endOf cI a0 v0_10 v0_0)) (w1 := (wd_X9_endOf cI a0 v0_10 v0_0)) (ws' := (wd_X9_lengthOf cI a0 v0_10 v0_0 v0_5)) hP hD hS hA [0, 1] [2] [1, 2, 0] rfl rfl rfl (by decide) rfl rfl (va_runV (As := [.int p1]) (rest := [.int p1, .ref (a0 0)]) ⟨hx, hb, hml, hown, hta⟩ (c_X9_endOf l dC dI cI H.size a0 v0_10 v0_0 p1 u_1 hu_1) (cwV 1 hta (ga_V mA232 mA233 mA234 mA52 mA235) rfl rfl rfl (by decide +kernel) ⟨Nat.le_of_ble_eq_true rfl, Nat.le_of_ble_eq_true rfl⟩) ⟨q_fb, va_recv hK hP (ci := 8) (q0 := 0) rfl rfl, q_ps hPc hK hDc⟩ rfl rfl hl.1 rfl (lv_room (Nat.le_of_ble_eq_true rfl)) dX9_lengthOf_4 ⟨Nat.zero_le _, Nat.zero_le _⟩) (fun H locs hP hD hS => ?_)
  obtain ⟨u_2, hu_2, hF⟩ := obd_some hF
  have hPc := hP.sub (ws' := (wd_X9_startOf cI a0 v0_10 v0_0 v0_5)) [0, 1, 2] rfl
  have hDc := hD.sub (ws' := (wd_X9_startOf cI a0 v0_10 v0_0 v0_5)) [0, 1, 2] rfl rfl
  refine q_calli (wc := (wd_X9_startOf cI a0 v0_10 v0_0 v0_5)) (w1 := (wd_X9_startOf cI a0 v0_10 v0_0 v0_5)) (ws' := (wd_X9_lengthOf cI a0 v0_10 v0_0 v0_5)) hP hD hS hA [0, 1, 2] [] [0, 1, 2] rfl rfl rfl (by decide) rfl rfl (va_runV (As := [.int p1, .int u_1]) (rest := []) ⟨hx, hb, hml, hown, hta⟩ (c_X9_startOf l dC dI cI H.size a0 v0_10 v0_0 v0_5 p1 u_1 n u_2 hu_2) (cwV 2 hta (ga_V mA317 mA318 mA319 mA52 mA320) rfl rfl rfl (by decide +kernel) ⟨Nat.le_of_ble_eq_true rfl, Nat.le_of_ble_eq_true rfl⟩) ⟨q_fb, va_recv hK hP (ci := 8) (q0 := 0) rfl rfl, q_ps hPc hK hDc⟩ rfl rfl hl.1 rfl (lv_room (Nat.le_of_ble_eq_true rfl)) dX9_lengthOf_7 ⟨Nat.zero_le _, Nat.zero_le _⟩) (fun H locs hP hD hS => ?_)
  obtain rfl := Option.some.inj hF
  exact W.iret (v := u_2) hx hb hr (fun t ht hW => ⟨⟨u_2, (), rfl, rfl, by rw [ht]; exact hP, va_K.moved hW.alike hK, hD⟩, hS.F ht⟩) hS.2.2 dX9_lengthOf_10

-- StrokeOutliner$Segments.size(I)I
def F_X9_size (v0_5 : Nat → Int32) (p1 : Int32) : Option (Int32) :=
  obd (F_X4_at 32 v0_5 p1) (fun u_1 => some u_1)
abbrev wd_X9_size (cI : ClassId) (a0 : Nat → Nat) (v0_10 : Int32) (v0_5 : Nat → Int32) : va_W := [(a0 0, .inr (8, [.ref (a0 1), .ref (a0 2), .ref (a0 3), .ref (a0 4), .ref (a0 5), .ref (a0 6), .ref (a0 7), .ref (a0 8), .ref (a0 9), .ref (a0 10), .int v0_10])), (a0 6, .inl (cI, 32, .inl v0_5))]
abbrev wz_X9_size : List Cond := .code yX9_size cX9_size 2 (some .int) :: wALL
abbrev rm_X9_size : Room := { frames := 1, cells := 0, slots := 0, locals := 21 }
abbrev Q_X9_size (dC : Nat → ClassId) (dI : Nat → Nat → Nat) (cI : ClassId) (a0 : Nat → Nat) (v0_10 : Int32) (v0_5 : Nat → Int32) (u : (Int32)) (A : Nat → Prop) : Array Value → State → Outcome → State → Prop := va_Qi (fun (r : Int32) (_ : Unit) => r = u) (fun _ => q_at dC dI cI A (wd_X9_size cI a0 v0_10 v0_5)) A
set_option maxHeartbeats 4000000 in
set_option maxRecDepth 100000 in
theorem c_X9_size (l : Launch) (dC : Nat → ClassId) (dI : Nat → Nat → Nat) (cI : ClassId) (sz : Nat) (a0 : Nat → Nat) (v0_10 : Int32) (v0_5 : Nat → Int32) (p1 : Int32) (u : (Int32)) (hF : F_X9_size v0_5 p1 = some u) : Met l yX9_size wz_X9_size rm_X9_size (va_Pc [.ref (a0 0), .int p1] (q_pre dC dI cI (wd_X9_size cI a0 v0_10 v0_5) sz)) (Q_X9_size dC dI cI a0 v0_10 v0_5 u (va_A (wd_X9_size cI a0 v0_10 v0_5) sz)) 0 0 (va_A (wd_X9_size cI a0 v0_10 v0_5) sz) := by
  refine Met.ofW (cc := cX9_size) (maxL := 2) (ret := (some .int)) (by decide) rfl ?_
  intro p e s m args below meth c s₁ B hml hv
  obtain ⟨rfl, hsz, hP, hK, hD0⟩ := hv
  have hx := B.exec
  have hb := B.bytes
  have hr := B.returns
  have hts := atoms_spec (ws := wz_X9_size) B.pre
  have hta := wz_tl hts
  have hown : s.vm.findClass RX9 = some m.cls := findClass_of_methodNamed B.named
  have hlocks := B.notSynchronized
  subst hsz
  have hD := hD0.self (sz := s.heap.size)
  generalize hAe : va_A (wd_X9_size cI a0 v0_10 v0_5) s.heap.size = A at hD ⊢
  have hA : ∀ q : Nat, s.heap.size ≤ q → A q := fun q h => by rw [← hAe]; exact Or.inr h
  have hS : va_S A s.heap s.heap [] := va_S.rf
  have hP : va_P (dC, dI) vwCl (wd_X9_size cI a0 v0_10 v0_5) s.heap := hP
  have hl := lv_entry ([.ref (a0 0), .int p1]) (n := 2) (Nat.le_of_ble_eq_true rfl)
  rw [lg_entry_eq]
  generalize (lg_sl ([.ref (a0 0), .int p1]) ++ List.replicate (2 - (lg_sl ([.ref (a0 0), .int p1])).length) Slot.unset).toArray = ls at hl ⊢
  have hl : lv_has ls 2 [(0, .ref (a0 0)), (1, .int p1)] := hl
  obtain ⟨H, hHe⟩ : ∃ H, H = s.heap := ⟨_, rfl⟩
  have hS : va_S A s.heap H [] := by rw [hHe]; exact hS
  have hP : va_P (dC, dI) vwCl (wd_X9_size cI a0 v0_10 v0_5) H := by rw [hHe]; exact hP
  rw [← hHe]
  unfold F_X9_size at hF
  refine lv_aload_n hx hb dX9_size_0 rfl (lv_at hl 0 rfl) ?_
  refine va_get (D := (dC, dI)) (ci := 8) (v := .ref (a0 6)) (C := RX9) (T := TX9) (N := 11) hx hb hta uw_X9 hown hK hP 0 rfl rfl 5 (by decide) (hta _ mA70) (fun _ h9 => h9) rfl dX9_size_1 ?_
  refine lv_iload_n hx hb dX9_size_4 rfl (lv_at hl 1 rfl) ?_
  obtain ⟨u_1, hu_1, hF⟩ := obd_some hF
  have hPc := hP.sub (ws' := (wd_X4_at cI (a0 6) 32 v0_5)) [1] rfl
  have hDc := hD.sub (ws' := (wd_X4_at cI (a0 6) 32 v0_5)) [1] rfl rfl
  refine q_calli (wc := (wd_X4_at cI (a0 6) 32 v0_5)) (w1 := (wd_X4_at cI (a0 6) 32 v0_5)) (ws' := (wd_X9_size cI a0 v0_10 v0_5)) hP hD hS hA [1] [0] [0, 1] rfl rfl rfl (by decide) rfl rfl (va_runS (As := [.ref (a0 6), .int p1]) (rest := []) ⟨hx, hb, hml, hown, hta⟩ (c_X4_at l dC dI cI H.size (a0 6) 32 v0_5 p1 u_1 hu_1) (va_cwS 2 hta (ga_S mA236 mA237 mA221 mA238) rfl rfl rfl (by decide +kernel) ⟨Nat.le_of_ble_eq_true rfl, Nat.le_of_ble_eq_true rfl⟩) ⟨q_fb, q_ps hPc hK hDc⟩ rfl rfl hl.1 rfl (lv_room (Nat.le_of_ble_eq_true rfl)) dX9_size_5 ⟨Nat.zero_le _, Nat.zero_le _⟩) (fun H locs hP hD hS => ?_)
  obtain rfl := Option.some.inj hF
  exact W.iret (v := u_1) hx hb hr (fun t ht hW => ⟨⟨u_1, (), rfl, rfl, by rw [ht]; exact hP, va_K.moved hW.alike hK, hD⟩, hS.F ht⟩) hS.2.2 dX9_size_8

-- StrokeOutliner$Segments.segmentAt(II)I
def F_X9_segmentAt_j42  : Option (Int32) :=
  some (-1)
def F_X9_segmentAt_j33 (x4 : Int32) : Option (Int32) :=
  some x4
def F_X9_segmentAt_b9 (v0_0 : Nat → Int32) (v0_5 : Nat → Int32) (x1 : Int32) (x2 : Int32) (s9 : Int32 × Int32) : Option (Sum (Int32 × Int32) (Sum (Int32) (Unit))) :=
  obd (F_X9_endOf v0_0 x1) (fun u_1 => if u_1 ≤ s9.2 then some (.inr (.inr ())) else obd (F_X9_size v0_5 s9.2) (fun u_3 => lt (s9.1 + u_3) (fun y_4 => if y_4 < x2 then lt (s9.2 + 1) (fun y_6 => some (.inl (y_4, y_6))) else some (.inr (.inl s9.2)))))
def F_X9_segmentAt_j9 (n : Nat) (v0_0 : Nat → Int32) (v0_5 : Nat → Int32) (x1 : Int32) (x2 : Int32) (x3 : Int32) (x4 : Int32) : Option (Int32) :=
  obd (lpq (F_X9_segmentAt_b9 v0_0 v0_5 x1 x2) n (x3, x4)) (fun x_9 => Sum.elim (fun x_9 => F_X9_segmentAt_j33 x_9) (fun x_9 => F_X9_segmentAt_j42) x_9)
def F_X9_segmentAt (n : Nat) (v0_0 : Nat → Int32) (v0_5 : Nat → Int32) (p1 : Int32) (p2 : Int32) : Option (Int32) :=
  obd (F_X9_firstOf v0_0 p1) (fun u_7 => F_X9_segmentAt_j9 n v0_0 v0_5 p1 p2 0 u_7)
abbrev wd_X9_segmentAt (cI : ClassId) (a0 : Nat → Nat) (v0_10 : Int32) (v0_0 : Nat → Int32) (v0_5 : Nat → Int32) : va_W := [(a0 0, .inr (8, [.ref (a0 1), .ref (a0 2), .ref (a0 3), .ref (a0 4), .ref (a0 5), .ref (a0 6), .ref (a0 7), .ref (a0 8), .ref (a0 9), .ref (a0 10), .int v0_10])), (a0 1, .inl (cI, 5, .inl v0_0)), (a0 6, .inl (cI, 32, .inl v0_5))]
abbrev wz_X9_segmentAt : List Cond := .code yX9_segmentAt cX9_segmentAt 5 (some .int) :: wALL
abbrev rm_X9_segmentAt : Room := { frames := 2, cells := 0, slots := 0, locals := 42 }
abbrev Q_X9_segmentAt (dC : Nat → ClassId) (dI : Nat → Nat → Nat) (cI : ClassId) (a0 : Nat → Nat) (v0_10 : Int32) (v0_0 : Nat → Int32) (v0_5 : Nat → Int32) (u : (Int32)) (A : Nat → Prop) : Array Value → State → Outcome → State → Prop := va_Qi (fun (r : Int32) (_ : Unit) => r = u) (fun _ => q_at dC dI cI A (wd_X9_segmentAt cI a0 v0_10 v0_0 v0_5)) A
set_option maxHeartbeats 4000000 in
set_option maxRecDepth 100000 in
theorem c_X9_segmentAt (l : Launch) (dC : Nat → ClassId) (dI : Nat → Nat → Nat) (cI : ClassId) (sz : Nat) (a0 : Nat → Nat) (v0_10 : Int32) (v0_0 : Nat → Int32) (v0_5 : Nat → Int32) (p1 : Int32) (p2 : Int32) (n : Nat) (u : (Int32)) (hF : F_X9_segmentAt n v0_0 v0_5 p1 p2 = some u) : Met l yX9_segmentAt wz_X9_segmentAt rm_X9_segmentAt (va_Pc [.ref (a0 0), .int p1, .int p2] (q_pre dC dI cI (wd_X9_segmentAt cI a0 v0_10 v0_0 v0_5) sz)) (Q_X9_segmentAt dC dI cI a0 v0_10 v0_0 v0_5 u (va_A (wd_X9_segmentAt cI a0 v0_10 v0_0 v0_5) sz)) 0 0 (va_A (wd_X9_segmentAt cI a0 v0_10 v0_0 v0_5) sz) := by
  refine Met.ofW (cc := cX9_segmentAt) (maxL := 5) (ret := (some .int)) (by decide) rfl ?_
  intro p e s m args below meth c s₁ B hml hv
  obtain ⟨rfl, hsz, hP, hK, hD0⟩ := hv
  have hx := B.exec
  have hb := B.bytes
  have hr := B.returns
  have hts := atoms_spec (ws := wz_X9_segmentAt) B.pre
  have hta := wz_tl hts
  have hown : s.vm.findClass RX9 = some m.cls := findClass_of_methodNamed B.named
  have hlocks := B.notSynchronized
  subst hsz
  have hD := hD0.self (sz := s.heap.size)
  generalize hAe : va_A (wd_X9_segmentAt cI a0 v0_10 v0_0 v0_5) s.heap.size = A at hD ⊢
  have hA : ∀ q : Nat, s.heap.size ≤ q → A q := fun q h => by rw [← hAe]; exact Or.inr h
  have hS : va_S A s.heap s.heap [] := va_S.rf
  have hP : va_P (dC, dI) vwCl (wd_X9_segmentAt cI a0 v0_10 v0_0 v0_5) s.heap := hP
  have hl := lv_entry ([.ref (a0 0), .int p1, .int p2]) (n := 5) (Nat.le_of_ble_eq_true rfl)
  rw [lg_entry_eq]
  generalize (lg_sl ([.ref (a0 0), .int p1, .int p2]) ++ List.replicate (5 - (lg_sl ([.ref (a0 0), .int p1, .int p2])).length) Slot.unset).toArray = ls at hl ⊢
  have hl : lv_has ls 5 [(0, .ref (a0 0)), (1, .int p1), (2, .int p2)] := hl
  obtain ⟨H, hHe⟩ : ∃ H, H = s.heap := ⟨_, rfl⟩
  have hS : va_S A s.heap H [] := by rw [hHe]; exact hS
  have hP : va_P (dC, dI) vwCl (wd_X9_segmentAt cI a0 v0_10 v0_0 v0_5) H := by rw [hHe]; exact hP
  rw [← hHe]
  unfold F_X9_segmentAt at hF
  have j42 : ∀ (_ : Unit), F_X9_segmentAt_j42 = some u → ∀ (H : Heap) (locs : List Loc) (ls : Array Slot), va_P (dC, dI) vwCl (wd_X9_segmentAt cI a0 v0_10 v0_0 v0_5) H → va_D A (wd_X9_segmentAt cI a0 v0_10 v0_0 v0_5) → va_S A s.heap H locs → lv_has ls 5 [] → W p l e (headSpec wz_X9_segmentAt rm_X9_segmentAt).room s m [.ref (a0 0), .int p1, .int p2].toArray below meth c H locs 0 0 (MQ below (Q_X9_segmentAt dC dI cI a0 v0_10 v0_0 v0_5 u A) [.ref (a0 0), .int p1, .int p2].toArray s 0 0 A) (F0 m 42 ls []) := by
    intro _ hF H locs ls hP hD hS hl
    unfold F_X9_segmentAt_j42 at hF
    refine lv_iconst (v := (-1)) hx hb dX9_segmentAt_42 (by decide) ?_
    obtain rfl := Option.some.inj hF
    exact W.iret (v := (-1)) hx hb hr (fun t ht hW => ⟨⟨(-1), (), rfl, rfl, by rw [ht]; exact hP, va_K.moved hW.alike hK, hD⟩, hS.F ht⟩) hS.2.2 dX9_segmentAt_43
  have j33 : ∀ (x4 : Int32), F_X9_segmentAt_j33 x4 = some u → ∀ (H : Heap) (locs : List Loc) (ls : Array Slot), va_P (dC, dI) vwCl (wd_X9_segmentAt cI a0 v0_10 v0_0 v0_5) H → va_D A (wd_X9_segmentAt cI a0 v0_10 v0_0 v0_5) → va_S A s.heap H locs → lv_has ls 5 [(4, .int x4)] → W p l e (headSpec wz_X9_segmentAt rm_X9_segmentAt).room s m [.ref (a0 0), .int p1, .int p2].toArray below meth c H locs 0 0 (MQ below (Q_X9_segmentAt dC dI cI a0 v0_10 v0_0 v0_5 u A) [.ref (a0 0), .int p1, .int p2].toArray s 0 0 A) (F0 m 33 ls []) := by
    intro x4 hF H locs ls hP hD hS hl
    unfold F_X9_segmentAt_j33 at hF
    refine lv_iload hx hb dX9_segmentAt_33 (lv_at hl 0 rfl) ?_
    obtain rfl := Option.some.inj hF
    exact W.iret (v := x4) hx hb hr (fun t ht hW => ⟨⟨x4, (), rfl, rfl, by rw [ht]; exact hP, va_K.moved hW.alike hK, hD⟩, hS.F ht⟩) hS.2.2 dX9_segmentAt_35
  have j9 : ∀ (x1 : Int32) (x2 : Int32) (x3 : Int32) (x4 : Int32), F_X9_segmentAt_j9 n v0_0 v0_5 x1 x2 x3 x4 = some u → ∀ (H : Heap) (locs : List Loc) (ls : Array Slot), va_P (dC, dI) vwCl (wd_X9_segmentAt cI a0 v0_10 v0_0 v0_5) H → va_D A (wd_X9_segmentAt cI a0 v0_10 v0_0 v0_5) → va_S A s.heap H locs → lv_has ls 5 [(0, .ref (a0 0)), (1, .int x1), (2, .int x2), (3, .int x3), (4, .int x4)] → W p l e (headSpec wz_X9_segmentAt rm_X9_segmentAt).room s m [.ref (a0 0), .int p1, .int p2].toArray below meth c H locs 0 0 (MQ below (Q_X9_segmentAt dC dI cI a0 v0_10 v0_0 v0_5 u A) [.ref (a0 0), .int p1, .int p2].toArray s 0 0 A) (F0 m 9 ls []) := by
    intro x1 x2 x3 x4 hF H locs ls hP hD hS hl
    unfold F_X9_segmentAt_j9 at hF
    obtain ⟨x_9, hL_9, hE_9⟩ := obd_some hF
    have kl_9 : ∀ (k : Nat) (s9 : Int32 × Int32), lpq (F_X9_segmentAt_b9 v0_0 v0_5 x1 x2) k s9 = some x_9 → ∀ (H : Heap) (locs : List Loc) (ls : Array Slot), va_P (dC, dI) vwCl (wd_X9_segmentAt cI a0 v0_10 v0_0 v0_5) H → va_D A (wd_X9_segmentAt cI a0 v0_10 v0_0 v0_5) → va_S A s.heap H locs → lv_has ls 5 [(0, .ref (a0 0)), (1, .int x1), (2, .int x2), (3, .int s9.1), (4, .int s9.2)] → W p l e (headSpec wz_X9_segmentAt rm_X9_segmentAt).room s m [.ref (a0 0), .int p1, .int p2].toArray below meth c H locs 0 0 (MQ below (Q_X9_segmentAt dC dI cI a0 v0_10 v0_0 v0_5 u A) [.ref (a0 0), .int p1, .int p2].toArray s 0 0 A) (F0 m 9 ls []) := by
      intro k
      induction k with
      | zero => intro s9 h; exact absurd h lpq_zero
      | succ k ih_9 =>
        intro s9 h H locs ls hP hD hS hl
        obtain ⟨o_9, hF, hO_9⟩ := lpq_succ h
        unfold F_X9_segmentAt_b9 at hF
        refine lv_iload hx hb dX9_segmentAt_9 (lv_at hl 4 rfl) ?_
        refine lv_aload_n hx hb dX9_segmentAt_11 rfl (lv_at hl 0 rfl) ?_
        refine lv_iload_n hx hb dX9_segmentAt_12 rfl (lv_at hl 1 rfl) ?_
        obtain ⟨u_1, hu_1, hF⟩ := obd_some hF
        have hPc := hP.sub (ws' := (wd_X9_endOf cI a0 v0_10 v0_0)) [0, 1] rfl
        have hDc := hD.sub (ws' := (wd_X9_endOf cI a0 v0_10 v0_0)) [0, 1] rfl rfl
        refine q_calli (wc := (wd_X9_endOf cI a0 v0_10 v0_0)) (w1 := (wd_X9_endOf cI a0 v0_10 v0_0)) (ws' := (wd_X9_segmentAt cI a0 v0_10 v0_0 v0_5)) hP hD hS hA [0, 1] [2] [1, 2, 0] rfl rfl rfl (by decide) rfl rfl (va_runV (As := [.int x1]) (rest := [.int s9.2]) ⟨hx, hb, hml, hown, hta⟩ (c_X9_endOf l dC dI cI H.size a0 v0_10 v0_0 x1 u_1 hu_1) (cwV 1 hta (ga_V mA232 mA233 mA234 mA52 mA235) rfl rfl rfl (by decide +kernel) ⟨Nat.le_of_ble_eq_true rfl, Nat.le_of_ble_eq_true rfl⟩) ⟨q_fb, va_recv hK hP (ci := 8) (q0 := 0) rfl rfl, q_ps hPc hK hDc⟩ rfl rfl hl.1 rfl (lv_room (Nat.le_of_ble_eq_true rfl)) dX9_segmentAt_13 ⟨Nat.zero_le _, Nat.zero_le _⟩) (fun H locs hP hD hS => ?_)
        refine lv_icmp_ge (tgt := 42) hx hb dX9_segmentAt_16 (by decide) (fun c_2 => ?_) (fun c_2 => ?_)
        · have hF := it_t hF c_2
          obtain rfl := Option.some.inj hF
          obtain rfl := lpq_x hO_9
          have hF := hE_9
          have hF := el_r hF
          exact j42 () hF _ _ _ hP hD hS (lv_sub hl [] rfl)
        · have hF := it_f hF c_2
          refine lv_iload_n hx hb dX9_segmentAt_19 rfl (lv_at hl 3 rfl) ?_
          refine lv_aload_n hx hb dX9_segmentAt_20 rfl (lv_at hl 0 rfl) ?_
          refine lv_iload hx hb dX9_segmentAt_21 (lv_at hl 4 rfl) ?_
          obtain ⟨u_3, hu_3, hF⟩ := obd_some hF
          have hPc := hP.sub (ws' := (wd_X9_size cI a0 v0_10 v0_5)) [0, 2] rfl
          have hDc := hD.sub (ws' := (wd_X9_size cI a0 v0_10 v0_5)) [0, 2] rfl rfl
          refine q_calli (wc := (wd_X9_size cI a0 v0_10 v0_5)) (w1 := (wd_X9_size cI a0 v0_10 v0_5)) (ws' := (wd_X9_segmentAt cI a0 v0_10 v0_0 v0_5)) hP hD hS hA [0, 2] [1] [1, 0, 2] rfl rfl rfl (by decide) rfl rfl (va_runV (As := [.int s9.2]) (rest := [.int s9.1]) ⟨hx, hb, hml, hown, hta⟩ (c_X9_size l dC dI cI H.size a0 v0_10 v0_5 s9.2 u_3 hu_3) (cwV 1 hta (ga_V mA329 mA330 mA331 mA52 mA332) rfl rfl rfl (by decide +kernel) ⟨Nat.le_of_ble_eq_true rfl, Nat.le_of_ble_eq_true rfl⟩) ⟨q_fb, va_recv hK hP (ci := 8) (q0 := 0) rfl rfl, q_ps hPc hK hDc⟩ rfl rfl hl.1 rfl (lv_room (Nat.le_of_ble_eq_true rfl)) dX9_segmentAt_23 ⟨Nat.zero_le _, Nat.zero_le _⟩) (fun H locs hP hD hS => ?_)
          refine lv_iadd hx hb dX9_segmentAt_26 ?_
          obtain ⟨y_4, ey_4, hF⟩ := lt_some hF
          refine lv_eqi ey_4 ?_
          refine lv_istore_n (lv' := [(3, .int y_4), (0, .ref (a0 0)), (1, .int x1), (2, .int x2), (4, .int s9.2)]) hx hb dX9_segmentAt_27 rfl hl (by decide) rfl (fun ls hl => ?_)
          refine lv_iload_n hx hb dX9_segmentAt_28 rfl (lv_at hl 3 rfl) ?_
          refine lv_iload_n hx hb dX9_segmentAt_29 rfl (lv_at hl 0 rfl) ?_
          refine lv_icmp_gt (tgt := 36) hx hb dX9_segmentAt_30 (by decide) (fun c_5 => ?_) (fun c_5 => ?_)
          · have hF := it_t hF c_5
            obtain ⟨y_6, ey_6, hF⟩ := lt_some hF
            refine lv_iinc (v := y_6) (lv' := [(4, .int y_6), (3, .int y_4), (0, .ref (a0 0)), (1, .int x1), (2, .int x2)]) hx hb dX9_segmentAt_36 hl (k := 4) rfl (by rw [ey_6]; rfl) (by decide) rfl (fun ls hl => ?_)
            refine lv_goto (tgt := 9) hx hb dX9_segmentAt_39 (by decide) ?_
            obtain rfl := Option.some.inj hF
            exact ih_9 _ hO_9 _ _ _ hP hD hS (lv_sub hl [2, 3, 4, 1, 0] rfl)
          · have hF := it_f hF c_5
            obtain rfl := Option.some.inj hF
            obtain rfl := lpq_x hO_9
            have hF := hE_9
            have hF := el_l hF
            exact j33 s9.2 hF _ _ _ hP hD hS (lv_sub hl [4] rfl)
    exact kl_9 n _ hL_9 _ _ _ hP hD hS hl
  refine lv_iconst (v := 0) hx hb dX9_segmentAt_0 (by decide) ?_
  refine lv_istore_n (lv' := [(3, .int 0), (0, .ref (a0 0)), (1, .int p1), (2, .int p2)]) hx hb dX9_segmentAt_1 rfl hl (by decide) rfl (fun ls hl => ?_)
  refine lv_aload_n hx hb dX9_segmentAt_2 rfl (lv_at hl 1 rfl) ?_
  refine lv_iload_n hx hb dX9_segmentAt_3 rfl (lv_at hl 2 rfl) ?_
  obtain ⟨u_7, hu_7, hF⟩ := obd_some hF
  have hPc := hP.sub (ws' := (wd_X9_firstOf cI a0 v0_10 v0_0)) [0, 1] rfl
  have hDc := hD.sub (ws' := (wd_X9_firstOf cI a0 v0_10 v0_0)) [0, 1] rfl rfl
  refine q_calli (wc := (wd_X9_firstOf cI a0 v0_10 v0_0)) (w1 := (wd_X9_firstOf cI a0 v0_10 v0_0)) (ws' := (wd_X9_segmentAt cI a0 v0_10 v0_0 v0_5)) hP hD hS hA [0, 1] [2] [1, 2, 0] rfl rfl rfl (by decide) rfl rfl (va_runV (As := [.int p1]) (rest := []) ⟨hx, hb, hml, hown, hta⟩ (c_X9_firstOf l dC dI cI H.size a0 v0_10 v0_0 p1 u_7 hu_7) (cwV 1 hta (ga_V mA239 mA240 mA241 mA52 mA242) rfl rfl rfl (by decide +kernel) ⟨Nat.le_of_ble_eq_true rfl, Nat.le_of_ble_eq_true rfl⟩) ⟨q_fb, va_recv hK hP (ci := 8) (q0 := 0) rfl rfl, q_ps hPc hK hDc⟩ rfl rfl hl.1 rfl (lv_room (Nat.le_of_ble_eq_true rfl)) dX9_segmentAt_4 ⟨Nat.zero_le _, Nat.zero_le _⟩) (fun H locs hP hD hS => ?_)
  refine lv_istore (lv' := [(4, .int u_7), (3, .int 0), (0, .ref (a0 0)), (1, .int p1), (2, .int p2)]) hx hb dX9_segmentAt_7 hl (by decide) rfl (fun ls hl => ?_)
  exact j9 p1 p2 0 u_7 hF _ _ _ hP hD hS (lv_sub hl [2, 3, 4, 1, 0] rfl)

-- StrokeOutliner$Segments.yAt(II)I
def F_X9_yAt (v0_2 : Nat → Int32) (v0_4 : Nat → Int32) (v0_5 : Nat → Int32) (p1 : Int32) (p2 : Int32) : Option (Int32) :=
  obd (F_X4_at 32 v0_4 p1) (fun u_1 => lt ((64 * u_1.toInt64) * p2.toInt64) (fun y_2 => obd (F_X4_at 32 v0_2 p1) (fun u_3 => obd (F_X4_at 32 v0_5 p1) (fun u_4 => obd (F_X4_round y_2 u_4.toInt64) (fun u_5 => some (u_3 + u_5))))))
abbrev wd_X9_yAt (cI : ClassId) (a0 : Nat → Nat) (v0_10 : Int32) (v0_2 : Nat → Int32) (v0_4 : Nat → Int32) (v0_5 : Nat → Int32) : va_W := [(a0 0, .inr (8, [.ref (a0 1), .ref (a0 2), .ref (a0 3), .ref (a0 4), .ref (a0 5), .ref (a0 6), .ref (a0 7), .ref (a0 8), .ref (a0 9), .ref (a0 10), .int v0_10])), (a0 3, .inl (cI, 32, .inl v0_2)), (a0 5, .inl (cI, 32, .inl v0_4)), (a0 6, .inl (cI, 32, .inl v0_5))]
abbrev wz_X9_yAt : List Cond := .code yX9_yAt cX9_yAt 5 (some .int) :: wALL
abbrev rm_X9_yAt : Room := { frames := 1, cells := 0, slots := 0, locals := 29 }
abbrev Q_X9_yAt (dC : Nat → ClassId) (dI : Nat → Nat → Nat) (cI : ClassId) (a0 : Nat → Nat) (v0_10 : Int32) (v0_2 : Nat → Int32) (v0_4 : Nat → Int32) (v0_5 : Nat → Int32) (u : (Int32)) (A : Nat → Prop) : Array Value → State → Outcome → State → Prop := va_Qi (fun (r : Int32) (_ : Unit) => r = u) (fun _ => q_at dC dI cI A (wd_X9_yAt cI a0 v0_10 v0_2 v0_4 v0_5)) A
set_option maxHeartbeats 4000000 in
set_option maxRecDepth 100000 in
theorem c_X9_yAt (l : Launch) (dC : Nat → ClassId) (dI : Nat → Nat → Nat) (cI : ClassId) (sz : Nat) (a0 : Nat → Nat) (v0_10 : Int32) (v0_2 : Nat → Int32) (v0_4 : Nat → Int32) (v0_5 : Nat → Int32) (p1 : Int32) (p2 : Int32) (u : (Int32)) (hF : F_X9_yAt v0_2 v0_4 v0_5 p1 p2 = some u) : Met l yX9_yAt wz_X9_yAt rm_X9_yAt (va_Pc [.ref (a0 0), .int p1, .int p2] (q_pre dC dI cI (wd_X9_yAt cI a0 v0_10 v0_2 v0_4 v0_5) sz)) (Q_X9_yAt dC dI cI a0 v0_10 v0_2 v0_4 v0_5 u (va_A (wd_X9_yAt cI a0 v0_10 v0_2 v0_4 v0_5) sz)) 0 0 (va_A (wd_X9_yAt cI a0 v0_10 v0_2 v0_4 v0_5) sz) := by
  refine Met.ofW (cc := cX9_yAt) (maxL := 5) (ret := (some .int)) (by decide) rfl ?_
  intro p e s m args below meth c s₁ B hml hv
  obtain ⟨rfl, hsz, hP, hK, hD0⟩ := hv
  have hx := B.exec
  have hb := B.bytes
  have hr := B.returns
  have hts := atoms_spec (ws := wz_X9_yAt) B.pre
  have hta := wz_tl hts
  have hown : s.vm.findClass RX9 = some m.cls := findClass_of_methodNamed B.named
  have hlocks := B.notSynchronized
  subst hsz
  have hD := hD0.self (sz := s.heap.size)
  generalize hAe : va_A (wd_X9_yAt cI a0 v0_10 v0_2 v0_4 v0_5) s.heap.size = A at hD ⊢
  have hA : ∀ q : Nat, s.heap.size ≤ q → A q := fun q h => by rw [← hAe]; exact Or.inr h
  have hS : va_S A s.heap s.heap [] := va_S.rf
  have hP : va_P (dC, dI) vwCl (wd_X9_yAt cI a0 v0_10 v0_2 v0_4 v0_5) s.heap := hP
  have hl := lv_entry ([.ref (a0 0), .int p1, .int p2]) (n := 5) (Nat.le_of_ble_eq_true rfl)
  rw [lg_entry_eq]
  generalize (lg_sl ([.ref (a0 0), .int p1, .int p2]) ++ List.replicate (5 - (lg_sl ([.ref (a0 0), .int p1, .int p2])).length) Slot.unset).toArray = ls at hl ⊢
  have hl : lv_has ls 5 [(0, .ref (a0 0)), (1, .int p1), (2, .int p2)] := hl
  obtain ⟨H, hHe⟩ : ∃ H, H = s.heap := ⟨_, rfl⟩
  have hS : va_S A s.heap H [] := by rw [hHe]; exact hS
  have hP : va_P (dC, dI) vwCl (wd_X9_yAt cI a0 v0_10 v0_2 v0_4 v0_5) H := by rw [hHe]; exact hP
  rw [← hHe]
  unfold F_X9_yAt at hF
  refine lv_ldc2 (v := 64) hx hb hown (hta _ mA338) dX9_yAt_0 ?_
  refine lv_aload_n hx hb dX9_yAt_3 rfl (lv_at hl 0 rfl) ?_
  refine va_get (D := (dC, dI)) (ci := 8) (v := .ref (a0 5)) (C := RX9) (T := TX9) (N := 11) hx hb hta uw_X9 hown hK hP 0 rfl rfl 4 (by decide) (hta _ mA69) (fun _ h9 => h9) rfl dX9_yAt_4 ?_
  refine lv_iload_n hx hb dX9_yAt_7 rfl (lv_at hl 1 rfl) ?_
  obtain ⟨u_1, hu_1, hF⟩ := obd_some hF
  have hPc := hP.sub (ws' := (wd_X4_at cI (a0 5) 32 v0_4)) [2] rfl
  have hDc := hD.sub (ws' := (wd_X4_at cI (a0 5) 32 v0_4)) [2] rfl rfl
  refine q_calli (wc := (wd_X4_at cI (a0 5) 32 v0_4)) (w1 := (wd_X4_at cI (a0 5) 32 v0_4)) (ws' := (wd_X9_yAt cI a0 v0_10 v0_2 v0_4 v0_5)) hP hD hS hA [2] [0, 1, 3] [0, 1, 3, 2] rfl rfl rfl (by decide) rfl rfl (va_runS (As := [.ref (a0 5), .int p1]) (rest := [.long 64]) ⟨hx, hb, hml, hown, hta⟩ (c_X4_at l dC dI cI H.size (a0 5) 32 v0_4 p1 u_1 hu_1) (va_cwS 2 hta (ga_S mA236 mA237 mA221 mA238) rfl rfl rfl (by decide +kernel) ⟨Nat.le_of_ble_eq_true rfl, Nat.le_of_ble_eq_true rfl⟩) ⟨q_fb, q_ps hPc hK hDc⟩ rfl rfl hl.1 rfl (lv_room (Nat.le_of_ble_eq_true rfl)) dX9_yAt_8 ⟨Nat.zero_le _, Nat.zero_le _⟩) (fun H locs hP hD hS => ?_)
  refine lv_i2l hx hb dX9_yAt_11 rfl ?_
  refine lv_lmul hx hb dX9_yAt_12 ?_
  refine lv_iload_n hx hb dX9_yAt_13 rfl (lv_at hl 2 rfl) ?_
  refine lv_i2l hx hb dX9_yAt_14 rfl ?_
  refine lv_lmul hx hb dX9_yAt_15 ?_
  obtain ⟨y_2, ey_2, hF⟩ := lt_some hF
  refine lv_eql ey_2 ?_
  refine lv_lstore_n (lv' := [(3, .long y_2), (0, .ref (a0 0)), (1, .int p1), (2, .int p2)]) hx hb dX9_yAt_16 rfl hl (by decide) rfl (fun ls hl => ?_)
  refine lv_aload_n hx hb dX9_yAt_17 rfl (lv_at hl 1 rfl) ?_
  refine va_get (D := (dC, dI)) (ci := 8) (v := .ref (a0 3)) (C := RX9) (T := TX9) (N := 11) hx hb hta uw_X9 hown hK hP 0 rfl rfl 2 (by decide) (hta _ mA67) (fun _ h9 => h9) rfl dX9_yAt_18 ?_
  refine lv_iload_n hx hb dX9_yAt_21 rfl (lv_at hl 2 rfl) ?_
  obtain ⟨u_3, hu_3, hF⟩ := obd_some hF
  have hPc := hP.sub (ws' := (wd_X4_at cI (a0 3) 32 v0_2)) [1] rfl
  have hDc := hD.sub (ws' := (wd_X4_at cI (a0 3) 32 v0_2)) [1] rfl rfl
  refine q_calli (wc := (wd_X4_at cI (a0 3) 32 v0_2)) (w1 := (wd_X4_at cI (a0 3) 32 v0_2)) (ws' := (wd_X9_yAt cI a0 v0_10 v0_2 v0_4 v0_5)) hP hD hS hA [1] [0, 2, 3] [0, 3, 1, 2] rfl rfl rfl (by decide) rfl rfl (va_runS (As := [.ref (a0 3), .int p1]) (rest := []) ⟨hx, hb, hml, hown, hta⟩ (c_X4_at l dC dI cI H.size (a0 3) 32 v0_2 p1 u_3 hu_3) (va_cwS 2 hta (ga_S mA236 mA237 mA221 mA238) rfl rfl rfl (by decide +kernel) ⟨Nat.le_of_ble_eq_true rfl, Nat.le_of_ble_eq_true rfl⟩) ⟨q_fb, q_ps hPc hK hDc⟩ rfl rfl hl.1 rfl (lv_room (Nat.le_of_ble_eq_true rfl)) dX9_yAt_22 ⟨Nat.zero_le _, Nat.zero_le _⟩) (fun H locs hP hD hS => ?_)
  refine lv_lload_n hx hb dX9_yAt_25 rfl (lv_at hl 0 rfl) ?_
  refine lv_aload_n hx hb dX9_yAt_26 rfl (lv_at hl 1 rfl) ?_
  refine va_get (D := (dC, dI)) (ci := 8) (v := .ref (a0 6)) (C := RX9) (T := TX9) (N := 11) hx hb hta uw_X9 hown hK hP 0 rfl rfl 5 (by decide) (hta _ mA70) (fun _ h9 => h9) rfl dX9_yAt_27 ?_
  refine lv_iload_n hx hb dX9_yAt_30 rfl (lv_at hl 2 rfl) ?_
  obtain ⟨u_4, hu_4, hF⟩ := obd_some hF
  have hPc := hP.sub (ws' := (wd_X4_at cI (a0 6) 32 v0_5)) [3] rfl
  have hDc := hD.sub (ws' := (wd_X4_at cI (a0 6) 32 v0_5)) [3] rfl rfl
  refine q_calli (wc := (wd_X4_at cI (a0 6) 32 v0_5)) (w1 := (wd_X4_at cI (a0 6) 32 v0_5)) (ws' := (wd_X9_yAt cI a0 v0_10 v0_2 v0_4 v0_5)) hP hD hS hA [3] [0, 1, 2] [0, 1, 2, 3] rfl rfl rfl (by decide) rfl rfl (va_runS (As := [.ref (a0 6), .int p1]) (rest := [.long y_2, .int u_3]) ⟨hx, hb, hml, hown, hta⟩ (c_X4_at l dC dI cI H.size (a0 6) 32 v0_5 p1 u_4 hu_4) (va_cwS 2 hta (ga_S mA236 mA237 mA221 mA238) rfl rfl rfl (by decide +kernel) ⟨Nat.le_of_ble_eq_true rfl, Nat.le_of_ble_eq_true rfl⟩) ⟨q_fb, q_ps hPc hK hDc⟩ rfl rfl hl.1 rfl (lv_room (Nat.le_of_ble_eq_true rfl)) dX9_yAt_31 ⟨Nat.zero_le _, Nat.zero_le _⟩) (fun H locs hP hD hS => ?_)
  refine lv_i2l hx hb dX9_yAt_34 rfl ?_
  obtain ⟨u_5, hu_5, hF⟩ := obd_some hF
  have hPc := hP.sub (ws' := ([] : va_W)) [] rfl
  have hDc := hD.sub (ws' := ([] : va_W)) [] rfl rfl
  refine q_calli (wc := ([] : va_W)) (w1 := ([] : va_W)) (ws' := (wd_X9_yAt cI a0 v0_10 v0_2 v0_4 v0_5)) hP hD hS hA [] [0, 1, 2, 3] [0, 1, 2, 3] rfl rfl rfl (by decide) rfl rfl (va_runS (As := [.long y_2, .long u_4.toInt64]) (rest := [.int u_3]) ⟨hx, hb, hml, hown, hta⟩ (c_X4_round l dC dI cI H.size y_2 u_4.toInt64 u_5 hu_5) (va_cwS 2 hta (ga_S mA224 mA225 mA221 mA226) rfl rfl rfl (by decide +kernel) ⟨Nat.le_of_ble_eq_true rfl, Nat.le_of_ble_eq_true rfl⟩) ⟨q_fb, q_ps hPc hK hDc⟩ rfl rfl hl.1 rfl (lv_room (Nat.le_of_ble_eq_true rfl)) dX9_yAt_35 ⟨Nat.zero_le _, Nat.zero_le _⟩) (fun H locs hP hD hS => ?_)
  refine lv_iadd hx hb dX9_yAt_38 ?_
  obtain rfl := Option.some.inj hF
  exact W.iret (v := (u_3 + u_5)) hx hb hr (fun t ht hW => ⟨⟨(u_3 + u_5), (), rfl, rfl, by rw [ht]; exact hP, va_K.moved hW.alike hK, hD⟩, hS.F ht⟩) hS.2.2 dX9_yAt_39

-- StrokeOutliner$Segments.xAt(II)I
def F_X9_xAt (v0_1 : Nat → Int32) (v0_3 : Nat → Int32) (v0_5 : Nat → Int32) (p1 : Int32) (p2 : Int32) : Option (Int32) :=
  obd (F_X4_at 32 v0_3 p1) (fun u_1 => lt ((64 * u_1.toInt64) * p2.toInt64) (fun y_2 => obd (F_X4_at 32 v0_1 p1) (fun u_3 => obd (F_X4_at 32 v0_5 p1) (fun u_4 => obd (F_X4_round y_2 u_4.toInt64) (fun u_5 => some (u_3 + u_5))))))
abbrev wd_X9_xAt (cI : ClassId) (a0 : Nat → Nat) (v0_10 : Int32) (v0_1 : Nat → Int32) (v0_3 : Nat → Int32) (v0_5 : Nat → Int32) : va_W := [(a0 0, .inr (8, [.ref (a0 1), .ref (a0 2), .ref (a0 3), .ref (a0 4), .ref (a0 5), .ref (a0 6), .ref (a0 7), .ref (a0 8), .ref (a0 9), .ref (a0 10), .int v0_10])), (a0 2, .inl (cI, 32, .inl v0_1)), (a0 4, .inl (cI, 32, .inl v0_3)), (a0 6, .inl (cI, 32, .inl v0_5))]
abbrev wz_X9_xAt : List Cond := .code yX9_xAt cX9_xAt 5 (some .int) :: wALL
abbrev rm_X9_xAt : Room := { frames := 1, cells := 0, slots := 0, locals := 29 }
abbrev Q_X9_xAt (dC : Nat → ClassId) (dI : Nat → Nat → Nat) (cI : ClassId) (a0 : Nat → Nat) (v0_10 : Int32) (v0_1 : Nat → Int32) (v0_3 : Nat → Int32) (v0_5 : Nat → Int32) (u : (Int32)) (A : Nat → Prop) : Array Value → State → Outcome → State → Prop := va_Qi (fun (r : Int32) (_ : Unit) => r = u) (fun _ => q_at dC dI cI A (wd_X9_xAt cI a0 v0_10 v0_1 v0_3 v0_5)) A
set_option maxHeartbeats 4000000 in
set_option maxRecDepth 100000 in
theorem c_X9_xAt (l : Launch) (dC : Nat → ClassId) (dI : Nat → Nat → Nat) (cI : ClassId) (sz : Nat) (a0 : Nat → Nat) (v0_10 : Int32) (v0_1 : Nat → Int32) (v0_3 : Nat → Int32) (v0_5 : Nat → Int32) (p1 : Int32) (p2 : Int32) (u : (Int32)) (hF : F_X9_xAt v0_1 v0_3 v0_5 p1 p2 = some u) : Met l yX9_xAt wz_X9_xAt rm_X9_xAt (va_Pc [.ref (a0 0), .int p1, .int p2] (q_pre dC dI cI (wd_X9_xAt cI a0 v0_10 v0_1 v0_3 v0_5) sz)) (Q_X9_xAt dC dI cI a0 v0_10 v0_1 v0_3 v0_5 u (va_A (wd_X9_xAt cI a0 v0_10 v0_1 v0_3 v0_5) sz)) 0 0 (va_A (wd_X9_xAt cI a0 v0_10 v0_1 v0_3 v0_5) sz) := by
  refine Met.ofW (cc := cX9_xAt) (maxL := 5) (ret := (some .int)) (by decide) rfl ?_
  intro p e s m args below meth c s₁ B hml hv
  obtain ⟨rfl, hsz, hP, hK, hD0⟩ := hv
  have hx := B.exec
  have hb := B.bytes
  have hr := B.returns
  have hts := atoms_spec (ws := wz_X9_xAt) B.pre
  have hta := wz_tl hts
  have hown : s.vm.findClass RX9 = some m.cls := findClass_of_methodNamed B.named
  have hlocks := B.notSynchronized
  subst hsz
  have hD := hD0.self (sz := s.heap.size)
  generalize hAe : va_A (wd_X9_xAt cI a0 v0_10 v0_1 v0_3 v0_5) s.heap.size = A at hD ⊢
  have hA : ∀ q : Nat, s.heap.size ≤ q → A q := fun q h => by rw [← hAe]; exact Or.inr h
  have hS : va_S A s.heap s.heap [] := va_S.rf
  have hP : va_P (dC, dI) vwCl (wd_X9_xAt cI a0 v0_10 v0_1 v0_3 v0_5) s.heap := hP
  have hl := lv_entry ([.ref (a0 0), .int p1, .int p2]) (n := 5) (Nat.le_of_ble_eq_true rfl)
  rw [lg_entry_eq]
  generalize (lg_sl ([.ref (a0 0), .int p1, .int p2]) ++ List.replicate (5 - (lg_sl ([.ref (a0 0), .int p1, .int p2])).length) Slot.unset).toArray = ls at hl ⊢
  have hl : lv_has ls 5 [(0, .ref (a0 0)), (1, .int p1), (2, .int p2)] := hl
  obtain ⟨H, hHe⟩ : ∃ H, H = s.heap := ⟨_, rfl⟩
  have hS : va_S A s.heap H [] := by rw [hHe]; exact hS
  have hP : va_P (dC, dI) vwCl (wd_X9_xAt cI a0 v0_10 v0_1 v0_3 v0_5) H := by rw [hHe]; exact hP
  rw [← hHe]
  unfold F_X9_xAt at hF
  refine lv_ldc2 (v := 64) hx hb hown (hta _ mA338) dX9_xAt_0 ?_
  refine lv_aload_n hx hb dX9_xAt_3 rfl (lv_at hl 0 rfl) ?_
  refine va_get (D := (dC, dI)) (ci := 8) (v := .ref (a0 4)) (C := RX9) (T := TX9) (N := 11) hx hb hta uw_X9 hown hK hP 0 rfl rfl 3 (by decide) (hta _ mA68) (fun _ h9 => h9) rfl dX9_xAt_4 ?_
  refine lv_iload_n hx hb dX9_xAt_7 rfl (lv_at hl 1 rfl) ?_
  obtain ⟨u_1, hu_1, hF⟩ := obd_some hF
  have hPc := hP.sub (ws' := (wd_X4_at cI (a0 4) 32 v0_3)) [2] rfl
  have hDc := hD.sub (ws' := (wd_X4_at cI (a0 4) 32 v0_3)) [2] rfl rfl
  refine q_calli (wc := (wd_X4_at cI (a0 4) 32 v0_3)) (w1 := (wd_X4_at cI (a0 4) 32 v0_3)) (ws' := (wd_X9_xAt cI a0 v0_10 v0_1 v0_3 v0_5)) hP hD hS hA [2] [0, 1, 3] [0, 1, 3, 2] rfl rfl rfl (by decide) rfl rfl (va_runS (As := [.ref (a0 4), .int p1]) (rest := [.long 64]) ⟨hx, hb, hml, hown, hta⟩ (c_X4_at l dC dI cI H.size (a0 4) 32 v0_3 p1 u_1 hu_1) (va_cwS 2 hta (ga_S mA236 mA237 mA221 mA238) rfl rfl rfl (by decide +kernel) ⟨Nat.le_of_ble_eq_true rfl, Nat.le_of_ble_eq_true rfl⟩) ⟨q_fb, q_ps hPc hK hDc⟩ rfl rfl hl.1 rfl (lv_room (Nat.le_of_ble_eq_true rfl)) dX9_xAt_8 ⟨Nat.zero_le _, Nat.zero_le _⟩) (fun H locs hP hD hS => ?_)
  refine lv_i2l hx hb dX9_xAt_11 rfl ?_
  refine lv_lmul hx hb dX9_xAt_12 ?_
  refine lv_iload_n hx hb dX9_xAt_13 rfl (lv_at hl 2 rfl) ?_
  refine lv_i2l hx hb dX9_xAt_14 rfl ?_
  refine lv_lmul hx hb dX9_xAt_15 ?_
  obtain ⟨y_2, ey_2, hF⟩ := lt_some hF
  refine lv_eql ey_2 ?_
  refine lv_lstore_n (lv' := [(3, .long y_2), (0, .ref (a0 0)), (1, .int p1), (2, .int p2)]) hx hb dX9_xAt_16 rfl hl (by decide) rfl (fun ls hl => ?_)
  refine lv_aload_n hx hb dX9_xAt_17 rfl (lv_at hl 1 rfl) ?_
  refine va_get (D := (dC, dI)) (ci := 8) (v := .ref (a0 2)) (C := RX9) (T := TX9) (N := 11) hx hb hta uw_X9 hown hK hP 0 rfl rfl 1 (by decide) (hta _ mA66) (fun _ h9 => h9) rfl dX9_xAt_18 ?_
  refine lv_iload_n hx hb dX9_xAt_21 rfl (lv_at hl 2 rfl) ?_
  obtain ⟨u_3, hu_3, hF⟩ := obd_some hF
  have hPc := hP.sub (ws' := (wd_X4_at cI (a0 2) 32 v0_1)) [1] rfl
  have hDc := hD.sub (ws' := (wd_X4_at cI (a0 2) 32 v0_1)) [1] rfl rfl
  refine q_calli (wc := (wd_X4_at cI (a0 2) 32 v0_1)) (w1 := (wd_X4_at cI (a0 2) 32 v0_1)) (ws' := (wd_X9_xAt cI a0 v0_10 v0_1 v0_3 v0_5)) hP hD hS hA [1] [0, 2, 3] [0, 3, 1, 2] rfl rfl rfl (by decide) rfl rfl (va_runS (As := [.ref (a0 2), .int p1]) (rest := []) ⟨hx, hb, hml, hown, hta⟩ (c_X4_at l dC dI cI H.size (a0 2) 32 v0_1 p1 u_3 hu_3) (va_cwS 2 hta (ga_S mA236 mA237 mA221 mA238) rfl rfl rfl (by decide +kernel) ⟨Nat.le_of_ble_eq_true rfl, Nat.le_of_ble_eq_true rfl⟩) ⟨q_fb, q_ps hPc hK hDc⟩ rfl rfl hl.1 rfl (lv_room (Nat.le_of_ble_eq_true rfl)) dX9_xAt_22 ⟨Nat.zero_le _, Nat.zero_le _⟩) (fun H locs hP hD hS => ?_)
  refine lv_lload_n hx hb dX9_xAt_25 rfl (lv_at hl 0 rfl) ?_
  refine lv_aload_n hx hb dX9_xAt_26 rfl (lv_at hl 1 rfl) ?_
  refine va_get (D := (dC, dI)) (ci := 8) (v := .ref (a0 6)) (C := RX9) (T := TX9) (N := 11) hx hb hta uw_X9 hown hK hP 0 rfl rfl 5 (by decide) (hta _ mA70) (fun _ h9 => h9) rfl dX9_xAt_27 ?_
  refine lv_iload_n hx hb dX9_xAt_30 rfl (lv_at hl 2 rfl) ?_
  obtain ⟨u_4, hu_4, hF⟩ := obd_some hF
  have hPc := hP.sub (ws' := (wd_X4_at cI (a0 6) 32 v0_5)) [3] rfl
  have hDc := hD.sub (ws' := (wd_X4_at cI (a0 6) 32 v0_5)) [3] rfl rfl
  refine q_calli (wc := (wd_X4_at cI (a0 6) 32 v0_5)) (w1 := (wd_X4_at cI (a0 6) 32 v0_5)) (ws' := (wd_X9_xAt cI a0 v0_10 v0_1 v0_3 v0_5)) hP hD hS hA [3] [0, 1, 2] [0, 1, 2, 3] rfl rfl rfl (by decide) rfl rfl (va_runS (As := [.ref (a0 6), .int p1]) (rest := [.long y_2, .int u_3]) ⟨hx, hb, hml, hown, hta⟩ (c_X4_at l dC dI cI H.size (a0 6) 32 v0_5 p1 u_4 hu_4) (va_cwS 2 hta (ga_S mA236 mA237 mA221 mA238) rfl rfl rfl (by decide +kernel) ⟨Nat.le_of_ble_eq_true rfl, Nat.le_of_ble_eq_true rfl⟩) ⟨q_fb, q_ps hPc hK hDc⟩ rfl rfl hl.1 rfl (lv_room (Nat.le_of_ble_eq_true rfl)) dX9_xAt_31 ⟨Nat.zero_le _, Nat.zero_le _⟩) (fun H locs hP hD hS => ?_)
  refine lv_i2l hx hb dX9_xAt_34 rfl ?_
  obtain ⟨u_5, hu_5, hF⟩ := obd_some hF
  have hPc := hP.sub (ws' := ([] : va_W)) [] rfl
  have hDc := hD.sub (ws' := ([] : va_W)) [] rfl rfl
  refine q_calli (wc := ([] : va_W)) (w1 := ([] : va_W)) (ws' := (wd_X9_xAt cI a0 v0_10 v0_1 v0_3 v0_5)) hP hD hS hA [] [0, 1, 2, 3] [0, 1, 2, 3] rfl rfl rfl (by decide) rfl rfl (va_runS (As := [.long y_2, .long u_4.toInt64]) (rest := [.int u_3]) ⟨hx, hb, hml, hown, hta⟩ (c_X4_round l dC dI cI H.size y_2 u_4.toInt64 u_5 hu_5) (va_cwS 2 hta (ga_S mA224 mA225 mA221 mA226) rfl rfl rfl (by decide +kernel) ⟨Nat.le_of_ble_eq_true rfl, Nat.le_of_ble_eq_true rfl⟩) ⟨q_fb, q_ps hPc hK hDc⟩ rfl rfl hl.1 rfl (lv_room (Nat.le_of_ble_eq_true rfl)) dX9_xAt_35 ⟨Nat.zero_le _, Nat.zero_le _⟩) (fun H locs hP hD hS => ?_)
  refine lv_iadd hx hb dX9_xAt_38 ?_
  obtain rfl := Option.some.inj hF
  exact W.iret (v := (u_3 + u_5)) hx hb hr (fun t ht hW => ⟨⟨(u_3 + u_5), (), rfl, rfl, by rw [ht]; exact hP, va_K.moved hW.alike hK, hD⟩, hS.F ht⟩) hS.2.2 dX9_xAt_39

-- StrokeOutliner$Segments.totalLength()I
def F_X9_totalLength_j26 (x1 : Int32) : Option (Int32) :=
  some x1
def F_X9_totalLength_b4 (v0_10 : Int32) (v0_5 : Nat → Int32) (s4 : Int32 × Int32) : Option (Sum (Int32 × Int32) (Int32)) :=
  if v0_10 ≤ s4.2 then some (.inr s4.1) else obd (F_X9_size v0_5 s4.2) (fun u_2 => lt (s4.1 + u_2) (fun y_3 => lt (s4.2 + 1) (fun y_4 => some (.inl (y_3, y_4)))))
def F_X9_totalLength_j4 (n : Nat) (v0_10 : Int32) (v0_5 : Nat → Int32) (x1 : Int32) (x2 : Int32) : Option (Int32) :=
  obd (lpq (F_X9_totalLength_b4 v0_10 v0_5) n (x1, x2)) (fun x_4 => F_X9_totalLength_j26 x_4)
def F_X9_totalLength (n : Nat) (v0_10 : Int32) (v0_5 : Nat → Int32) : Option (Int32) :=
  F_X9_totalLength_j4 n v0_10 v0_5 0 0
abbrev wd_X9_totalLength (cI : ClassId) (a0 : Nat → Nat) (v0_10 : Int32) (v0_5 : Nat → Int32) : va_W := [(a0 0, .inr (8, [.ref (a0 1), .ref (a0 2), .ref (a0 3), .ref (a0 4), .ref (a0 5), .ref (a0 6), .ref (a0 7), .ref (a0 8), .ref (a0 9), .ref (a0 10), .int v0_10])), (a0 6, .inl (cI, 32, .inl v0_5))]
abbrev wz_X9_totalLength : List Cond := .code yX9_totalLength cX9_totalLength 3 (some .int) :: wALL
abbrev rm_X9_totalLength : Room := { frames := 2, cells := 0, slots := 0, locals := 42 }
abbrev Q_X9_totalLength (dC : Nat → ClassId) (dI : Nat → Nat → Nat) (cI : ClassId) (a0 : Nat → Nat) (v0_10 : Int32) (v0_5 : Nat → Int32) (u : (Int32)) (A : Nat → Prop) : Array Value → State → Outcome → State → Prop := va_Qi (fun (r : Int32) (_ : Unit) => r = u) (fun _ => q_at dC dI cI A (wd_X9_totalLength cI a0 v0_10 v0_5)) A
set_option maxHeartbeats 4000000 in
set_option maxRecDepth 100000 in
theorem c_X9_totalLength (l : Launch) (dC : Nat → ClassId) (dI : Nat → Nat → Nat) (cI : ClassId) (sz : Nat) (a0 : Nat → Nat) (v0_10 : Int32) (v0_5 : Nat → Int32) (n : Nat) (u : (Int32)) (hF : F_X9_totalLength n v0_10 v0_5 = some u) : Met l yX9_totalLength wz_X9_totalLength rm_X9_totalLength (va_Pc [.ref (a0 0)] (q_pre dC dI cI (wd_X9_totalLength cI a0 v0_10 v0_5) sz)) (Q_X9_totalLength dC dI cI a0 v0_10 v0_5 u (va_A (wd_X9_totalLength cI a0 v0_10 v0_5) sz)) 0 0 (va_A (wd_X9_totalLength cI a0 v0_10 v0_5) sz) := by
  refine Met.ofW (cc := cX9_totalLength) (maxL := 3) (ret := (some .int)) (by decide) rfl ?_
  intro p e s m args below meth c s₁ B hml hv
  obtain ⟨rfl, hsz, hP, hK, hD0⟩ := hv
  have hx := B.exec
  have hb := B.bytes
  have hr := B.returns
  have hts := atoms_spec (ws := wz_X9_totalLength) B.pre
  have hta := wz_tl hts
  have hown : s.vm.findClass RX9 = some m.cls := findClass_of_methodNamed B.named
  have hlocks := B.notSynchronized
  subst hsz
  have hD := hD0.self (sz := s.heap.size)
  generalize hAe : va_A (wd_X9_totalLength cI a0 v0_10 v0_5) s.heap.size = A at hD ⊢
  have hA : ∀ q : Nat, s.heap.size ≤ q → A q := fun q h => by rw [← hAe]; exact Or.inr h
  have hS : va_S A s.heap s.heap [] := va_S.rf
  have hP : va_P (dC, dI) vwCl (wd_X9_totalLength cI a0 v0_10 v0_5) s.heap := hP
  have hl := lv_entry ([.ref (a0 0)]) (n := 3) (Nat.le_of_ble_eq_true rfl)
  rw [lg_entry_eq]
  generalize (lg_sl ([.ref (a0 0)]) ++ List.replicate (3 - (lg_sl ([.ref (a0 0)])).length) Slot.unset).toArray = ls at hl ⊢
  have hl : lv_has ls 3 [(0, .ref (a0 0))] := hl
  obtain ⟨H, hHe⟩ : ∃ H, H = s.heap := ⟨_, rfl⟩
  have hS : va_S A s.heap H [] := by rw [hHe]; exact hS
  have hP : va_P (dC, dI) vwCl (wd_X9_totalLength cI a0 v0_10 v0_5) H := by rw [hHe]; exact hP
  rw [← hHe]
  unfold F_X9_totalLength at hF
  have j26 : ∀ (x1 : Int32), F_X9_totalLength_j26 x1 = some u → ∀ (H : Heap) (locs : List Loc) (ls : Array Slot), va_P (dC, dI) vwCl (wd_X9_totalLength cI a0 v0_10 v0_5) H → va_D A (wd_X9_totalLength cI a0 v0_10 v0_5) → va_S A s.heap H locs → lv_has ls 3 [(1, .int x1)] → W p l e (headSpec wz_X9_totalLength rm_X9_totalLength).room s m [.ref (a0 0)].toArray below meth c H locs 0 0 (MQ below (Q_X9_totalLength dC dI cI a0 v0_10 v0_5 u A) [.ref (a0 0)].toArray s 0 0 A) (F0 m 26 ls []) := by
    intro x1 hF H locs ls hP hD hS hl
    unfold F_X9_totalLength_j26 at hF
    refine lv_iload_n hx hb dX9_totalLength_26 rfl (lv_at hl 0 rfl) ?_
    obtain rfl := Option.some.inj hF
    exact W.iret (v := x1) hx hb hr (fun t ht hW => ⟨⟨x1, (), rfl, rfl, by rw [ht]; exact hP, va_K.moved hW.alike hK, hD⟩, hS.F ht⟩) hS.2.2 dX9_totalLength_27
  have j4 : ∀ (x1 : Int32) (x2 : Int32), F_X9_totalLength_j4 n v0_10 v0_5 x1 x2 = some u → ∀ (H : Heap) (locs : List Loc) (ls : Array Slot), va_P (dC, dI) vwCl (wd_X9_totalLength cI a0 v0_10 v0_5) H → va_D A (wd_X9_totalLength cI a0 v0_10 v0_5) → va_S A s.heap H locs → lv_has ls 3 [(0, .ref (a0 0)), (1, .int x1), (2, .int x2)] → W p l e (headSpec wz_X9_totalLength rm_X9_totalLength).room s m [.ref (a0 0)].toArray below meth c H locs 0 0 (MQ below (Q_X9_totalLength dC dI cI a0 v0_10 v0_5 u A) [.ref (a0 0)].toArray s 0 0 A) (F0 m 4 ls []) := by
    intro x1 x2 hF H locs ls hP hD hS hl
    unfold F_X9_totalLength_j4 at hF
    obtain ⟨x_4, hL_4, hE_4⟩ := obd_some hF
    have kl_4 : ∀ (k : Nat) (s4 : Int32 × Int32), lpq (F_X9_totalLength_b4 v0_10 v0_5) k s4 = some x_4 → ∀ (H : Heap) (locs : List Loc) (ls : Array Slot), va_P (dC, dI) vwCl (wd_X9_totalLength cI a0 v0_10 v0_5) H → va_D A (wd_X9_totalLength cI a0 v0_10 v0_5) → va_S A s.heap H locs → lv_has ls 3 [(0, .ref (a0 0)), (1, .int s4.1), (2, .int s4.2)] → W p l e (headSpec wz_X9_totalLength rm_X9_totalLength).room s m [.ref (a0 0)].toArray below meth c H locs 0 0 (MQ below (Q_X9_totalLength dC dI cI a0 v0_10 v0_5 u A) [.ref (a0 0)].toArray s 0 0 A) (F0 m 4 ls []) := by
      intro k
      induction k with
      | zero => intro s4 h; exact absurd h lpq_zero
      | succ k ih_4 =>
        intro s4 h H locs ls hP hD hS hl
        obtain ⟨o_4, hF, hO_4⟩ := lpq_succ h
        unfold F_X9_totalLength_b4 at hF
        refine lv_iload_n hx hb dX9_totalLength_4 rfl (lv_at hl 2 rfl) ?_
        refine lv_aload_n hx hb dX9_totalLength_5 rfl (lv_at hl 0 rfl) ?_
        refine va_get (D := (dC, dI)) (ci := 8) (v := .int v0_10) (C := RX9) (T := TX9) (N := 11) hx hb hta uw_X9 hown hK hP 0 rfl rfl 10 (by decide) (hta _ mA200) (fun _ h9 => h9) rfl dX9_totalLength_6 ?_
        refine lv_icmp_ge (tgt := 26) hx hb dX9_totalLength_9 (by decide) (fun c_1 => ?_) (fun c_1 => ?_)
        · have hF := it_t hF c_1
          obtain rfl := Option.some.inj hF
          obtain rfl := lpq_x hO_4
          have hF := hE_4
          exact j26 s4.1 hF _ _ _ hP hD hS (lv_sub hl [1] rfl)
        · have hF := it_f hF c_1
          refine lv_iload_n hx hb dX9_totalLength_12 rfl (lv_at hl 1 rfl) ?_
          refine lv_aload_n hx hb dX9_totalLength_13 rfl (lv_at hl 0 rfl) ?_
          refine lv_iload_n hx hb dX9_totalLength_14 rfl (lv_at hl 2 rfl) ?_
          obtain ⟨u_2, hu_2, hF⟩ := obd_some hF
          have hPc := hP.sub (ws' := (wd_X9_size cI a0 v0_10 v0_5)) [0, 1] rfl
          have hDc := hD.sub (ws' := (wd_X9_size cI a0 v0_10 v0_5)) [0, 1] rfl rfl
          refine q_calli (wc := (wd_X9_size cI a0 v0_10 v0_5)) (w1 := (wd_X9_size cI a0 v0_10 v0_5)) (ws' := (wd_X9_totalLength cI a0 v0_10 v0_5)) hP hD hS hA [0, 1] [] [0, 1] rfl rfl rfl (by decide) rfl rfl (va_runV (As := [.int s4.2]) (rest := [.int s4.1]) ⟨hx, hb, hml, hown, hta⟩ (c_X9_size l dC dI cI H.size a0 v0_10 v0_5 s4.2 u_2 hu_2) (cwV 1 hta (ga_V mA329 mA330 mA331 mA52 mA332) rfl rfl rfl (by decide +kernel) ⟨Nat.le_of_ble_eq_true rfl, Nat.le_of_ble_eq_true rfl⟩) ⟨q_fb, va_recv hK hP (ci := 8) (q0 := 0) rfl rfl, q_ps hPc hK hDc⟩ rfl rfl hl.1 rfl (lv_room (Nat.le_of_ble_eq_true rfl)) dX9_totalLength_15 ⟨Nat.zero_le _, Nat.zero_le _⟩) (fun H locs hP hD hS => ?_)
          refine lv_iadd hx hb dX9_totalLength_18 ?_
          obtain ⟨y_3, ey_3, hF⟩ := lt_some hF
          refine lv_eqi ey_3 ?_
          refine lv_istore_n (lv' := [(1, .int y_3), (0, .ref (a0 0)), (2, .int s4.2)]) hx hb dX9_totalLength_19 rfl hl (by decide) rfl (fun ls hl => ?_)
          obtain ⟨y_4, ey_4, hF⟩ := lt_some hF
          refine lv_iinc (v := y_4) (lv' := [(2, .int y_4), (1, .int y_3), (0, .ref (a0 0))]) hx hb dX9_totalLength_20 hl (k := 2) rfl (by rw [ey_4]; rfl) (by decide) rfl (fun ls hl => ?_)
          refine lv_goto (tgt := 4) hx hb dX9_totalLength_23 (by decide) ?_
          obtain rfl := Option.some.inj hF
          exact ih_4 _ hO_4 _ _ _ hP hD hS (lv_sub hl [2, 1, 0] rfl)
    exact kl_4 n _ hL_4 _ _ _ hP hD hS hl
  refine lv_iconst (v := 0) hx hb dX9_totalLength_0 (by decide) ?_
  refine lv_istore_n (lv' := [(1, .int 0), (0, .ref (a0 0))]) hx hb dX9_totalLength_1 rfl hl (by decide) rfl (fun ls hl => ?_)
  refine lv_iconst (v := 0) hx hb dX9_totalLength_2 (by decide) ?_
  refine lv_istore_n (lv' := [(2, .int 0), (1, .int 0), (0, .ref (a0 0))]) hx hb dX9_totalLength_3 rfl hl (by decide) rfl (fun ls hl => ?_)
  exact j4 0 0 hF _ _ _ hP hD hS (lv_sub hl [2, 1, 0] rfl)

-- StrokeOutliner$Segments.normalX(I)I
def F_X9_normalX (v0_6 : Nat → Int32) (p1 : Int32) : Option (Int32) :=
  obd (F_X4_at 32 v0_6 p1) (fun u_1 => some u_1)
abbrev wd_X9_normalX (cI : ClassId) (a0 : Nat → Nat) (v0_10 : Int32) (v0_6 : Nat → Int32) : va_W := [(a0 0, .inr (8, [.ref (a0 1), .ref (a0 2), .ref (a0 3), .ref (a0 4), .ref (a0 5), .ref (a0 6), .ref (a0 7), .ref (a0 8), .ref (a0 9), .ref (a0 10), .int v0_10])), (a0 7, .inl (cI, 32, .inl v0_6))]
abbrev wz_X9_normalX : List Cond := .code yX9_normalX cX9_normalX 2 (some .int) :: wALL
abbrev rm_X9_normalX : Room := { frames := 1, cells := 0, slots := 0, locals := 21 }
abbrev Q_X9_normalX (dC : Nat → ClassId) (dI : Nat → Nat → Nat) (cI : ClassId) (a0 : Nat → Nat) (v0_10 : Int32) (v0_6 : Nat → Int32) (u : (Int32)) (A : Nat → Prop) : Array Value → State → Outcome → State → Prop := va_Qi (fun (r : Int32) (_ : Unit) => r = u) (fun _ => q_at dC dI cI A (wd_X9_normalX cI a0 v0_10 v0_6)) A
set_option maxHeartbeats 4000000 in
set_option maxRecDepth 100000 in
theorem c_X9_normalX (l : Launch) (dC : Nat → ClassId) (dI : Nat → Nat → Nat) (cI : ClassId) (sz : Nat) (a0 : Nat → Nat) (v0_10 : Int32) (v0_6 : Nat → Int32) (p1 : Int32) (u : (Int32)) (hF : F_X9_normalX v0_6 p1 = some u) : Met l yX9_normalX wz_X9_normalX rm_X9_normalX (va_Pc [.ref (a0 0), .int p1] (q_pre dC dI cI (wd_X9_normalX cI a0 v0_10 v0_6) sz)) (Q_X9_normalX dC dI cI a0 v0_10 v0_6 u (va_A (wd_X9_normalX cI a0 v0_10 v0_6) sz)) 0 0 (va_A (wd_X9_normalX cI a0 v0_10 v0_6) sz) := by
  refine Met.ofW (cc := cX9_normalX) (maxL := 2) (ret := (some .int)) (by decide) rfl ?_
  intro p e s m args below meth c s₁ B hml hv
  obtain ⟨rfl, hsz, hP, hK, hD0⟩ := hv
  have hx := B.exec
  have hb := B.bytes
  have hr := B.returns
  have hts := atoms_spec (ws := wz_X9_normalX) B.pre
  have hta := wz_tl hts
  have hown : s.vm.findClass RX9 = some m.cls := findClass_of_methodNamed B.named
  have hlocks := B.notSynchronized
  subst hsz
  have hD := hD0.self (sz := s.heap.size)
  generalize hAe : va_A (wd_X9_normalX cI a0 v0_10 v0_6) s.heap.size = A at hD ⊢
  have hA : ∀ q : Nat, s.heap.size ≤ q → A q := fun q h => by rw [← hAe]; exact Or.inr h
  have hS : va_S A s.heap s.heap [] := va_S.rf
  have hP : va_P (dC, dI) vwCl (wd_X9_normalX cI a0 v0_10 v0_6) s.heap := hP
  have hl := lv_entry ([.ref (a0 0), .int p1]) (n := 2) (Nat.le_of_ble_eq_true rfl)
  rw [lg_entry_eq]
  generalize (lg_sl ([.ref (a0 0), .int p1]) ++ List.replicate (2 - (lg_sl ([.ref (a0 0), .int p1])).length) Slot.unset).toArray = ls at hl ⊢
  have hl : lv_has ls 2 [(0, .ref (a0 0)), (1, .int p1)] := hl
  obtain ⟨H, hHe⟩ : ∃ H, H = s.heap := ⟨_, rfl⟩
  have hS : va_S A s.heap H [] := by rw [hHe]; exact hS
  have hP : va_P (dC, dI) vwCl (wd_X9_normalX cI a0 v0_10 v0_6) H := by rw [hHe]; exact hP
  rw [← hHe]
  unfold F_X9_normalX at hF
  refine lv_aload_n hx hb dX9_normalX_0 rfl (lv_at hl 0 rfl) ?_
  refine va_get (D := (dC, dI)) (ci := 8) (v := .ref (a0 7)) (C := RX9) (T := TX9) (N := 11) hx hb hta uw_X9 hown hK hP 0 rfl rfl 6 (by decide) (hta _ mA71) (fun _ h9 => h9) rfl dX9_normalX_1 ?_
  refine lv_iload_n hx hb dX9_normalX_4 rfl (lv_at hl 1 rfl) ?_
  obtain ⟨u_1, hu_1, hF⟩ := obd_some hF
  have hPc := hP.sub (ws' := (wd_X4_at cI (a0 7) 32 v0_6)) [1] rfl
  have hDc := hD.sub (ws' := (wd_X4_at cI (a0 7) 32 v0_6)) [1] rfl rfl
  refine q_calli (wc := (wd_X4_at cI (a0 7) 32 v0_6)) (w1 := (wd_X4_at cI (a0 7) 32 v0_6)) (ws' := (wd_X9_normalX cI a0 v0_10 v0_6)) hP hD hS hA [1] [0] [0, 1] rfl rfl rfl (by decide) rfl rfl (va_runS (As := [.ref (a0 7), .int p1]) (rest := []) ⟨hx, hb, hml, hown, hta⟩ (c_X4_at l dC dI cI H.size (a0 7) 32 v0_6 p1 u_1 hu_1) (va_cwS 2 hta (ga_S mA236 mA237 mA221 mA238) rfl rfl rfl (by decide +kernel) ⟨Nat.le_of_ble_eq_true rfl, Nat.le_of_ble_eq_true rfl⟩) ⟨q_fb, q_ps hPc hK hDc⟩ rfl rfl hl.1 rfl (lv_room (Nat.le_of_ble_eq_true rfl)) dX9_normalX_5 ⟨Nat.zero_le _, Nat.zero_le _⟩) (fun H locs hP hD hS => ?_)
  obtain rfl := Option.some.inj hF
  exact W.iret (v := u_1) hx hb hr (fun t ht hW => ⟨⟨u_1, (), rfl, rfl, by rw [ht]; exact hP, va_K.moved hW.alike hK, hD⟩, hS.F ht⟩) hS.2.2 dX9_normalX_8

-- StrokeOutliner$Segments.normalY(I)I
def F_X9_normalY (v0_7 : Nat → Int32) (p1 : Int32) : Option (Int32) :=
  obd (F_X4_at 32 v0_7 p1) (fun u_1 => some u_1)
abbrev wd_X9_normalY (cI : ClassId) (a0 : Nat → Nat) (v0_10 : Int32) (v0_7 : Nat → Int32) : va_W := [(a0 0, .inr (8, [.ref (a0 1), .ref (a0 2), .ref (a0 3), .ref (a0 4), .ref (a0 5), .ref (a0 6), .ref (a0 7), .ref (a0 8), .ref (a0 9), .ref (a0 10), .int v0_10])), (a0 8, .inl (cI, 32, .inl v0_7))]
abbrev wz_X9_normalY : List Cond := .code yX9_normalY cX9_normalY 2 (some .int) :: wALL
abbrev rm_X9_normalY : Room := { frames := 1, cells := 0, slots := 0, locals := 21 }
abbrev Q_X9_normalY (dC : Nat → ClassId) (dI : Nat → Nat → Nat) (cI : ClassId) (a0 : Nat → Nat) (v0_10 : Int32) (v0_7 : Nat → Int32) (u : (Int32)) (A : Nat → Prop) : Array Value → State → Outcome → State → Prop := va_Qi (fun (r : Int32) (_ : Unit) => r = u) (fun _ => q_at dC dI cI A (wd_X9_normalY cI a0 v0_10 v0_7)) A
set_option maxHeartbeats 4000000 in
set_option maxRecDepth 100000 in
theorem c_X9_normalY (l : Launch) (dC : Nat → ClassId) (dI : Nat → Nat → Nat) (cI : ClassId) (sz : Nat) (a0 : Nat → Nat) (v0_10 : Int32) (v0_7 : Nat → Int32) (p1 : Int32) (u : (Int32)) (hF : F_X9_normalY v0_7 p1 = some u) : Met l yX9_normalY wz_X9_normalY rm_X9_normalY (va_Pc [.ref (a0 0), .int p1] (q_pre dC dI cI (wd_X9_normalY cI a0 v0_10 v0_7) sz)) (Q_X9_normalY dC dI cI a0 v0_10 v0_7 u (va_A (wd_X9_normalY cI a0 v0_10 v0_7) sz)) 0 0 (va_A (wd_X9_normalY cI a0 v0_10 v0_7) sz) := by
  refine Met.ofW (cc := cX9_normalY) (maxL := 2) (ret := (some .int)) (by decide) rfl ?_
  intro p e s m args below meth c s₁ B hml hv
  obtain ⟨rfl, hsz, hP, hK, hD0⟩ := hv
  have hx := B.exec
  have hb := B.bytes
  have hr := B.returns
  have hts := atoms_spec (ws := wz_X9_normalY) B.pre
  have hta := wz_tl hts
  have hown : s.vm.findClass RX9 = some m.cls := findClass_of_methodNamed B.named
  have hlocks := B.notSynchronized
  subst hsz
  have hD := hD0.self (sz := s.heap.size)
  generalize hAe : va_A (wd_X9_normalY cI a0 v0_10 v0_7) s.heap.size = A at hD ⊢
  have hA : ∀ q : Nat, s.heap.size ≤ q → A q := fun q h => by rw [← hAe]; exact Or.inr h
  have hS : va_S A s.heap s.heap [] := va_S.rf
  have hP : va_P (dC, dI) vwCl (wd_X9_normalY cI a0 v0_10 v0_7) s.heap := hP
  have hl := lv_entry ([.ref (a0 0), .int p1]) (n := 2) (Nat.le_of_ble_eq_true rfl)
  rw [lg_entry_eq]
  generalize (lg_sl ([.ref (a0 0), .int p1]) ++ List.replicate (2 - (lg_sl ([.ref (a0 0), .int p1])).length) Slot.unset).toArray = ls at hl ⊢
  have hl : lv_has ls 2 [(0, .ref (a0 0)), (1, .int p1)] := hl
  obtain ⟨H, hHe⟩ : ∃ H, H = s.heap := ⟨_, rfl⟩
  have hS : va_S A s.heap H [] := by rw [hHe]; exact hS
  have hP : va_P (dC, dI) vwCl (wd_X9_normalY cI a0 v0_10 v0_7) H := by rw [hHe]; exact hP
  rw [← hHe]
  unfold F_X9_normalY at hF
  refine lv_aload_n hx hb dX9_normalY_0 rfl (lv_at hl 0 rfl) ?_
  refine va_get (D := (dC, dI)) (ci := 8) (v := .ref (a0 8)) (C := RX9) (T := TX9) (N := 11) hx hb hta uw_X9 hown hK hP 0 rfl rfl 7 (by decide) (hta _ mA72) (fun _ h9 => h9) rfl dX9_normalY_1 ?_
  refine lv_iload_n hx hb dX9_normalY_4 rfl (lv_at hl 1 rfl) ?_
  obtain ⟨u_1, hu_1, hF⟩ := obd_some hF
  have hPc := hP.sub (ws' := (wd_X4_at cI (a0 8) 32 v0_7)) [1] rfl
  have hDc := hD.sub (ws' := (wd_X4_at cI (a0 8) 32 v0_7)) [1] rfl rfl
  refine q_calli (wc := (wd_X4_at cI (a0 8) 32 v0_7)) (w1 := (wd_X4_at cI (a0 8) 32 v0_7)) (ws' := (wd_X9_normalY cI a0 v0_10 v0_7)) hP hD hS hA [1] [0] [0, 1] rfl rfl rfl (by decide) rfl rfl (va_runS (As := [.ref (a0 8), .int p1]) (rest := []) ⟨hx, hb, hml, hown, hta⟩ (c_X4_at l dC dI cI H.size (a0 8) 32 v0_7 p1 u_1 hu_1) (va_cwS 2 hta (ga_S mA236 mA237 mA221 mA238) rfl rfl rfl (by decide +kernel) ⟨Nat.le_of_ble_eq_true rfl, Nat.le_of_ble_eq_true rfl⟩) ⟨q_fb, q_ps hPc hK hDc⟩ rfl rfl hl.1 rfl (lv_room (Nat.le_of_ble_eq_true rfl)) dX9_normalY_5 ⟨Nat.zero_le _, Nat.zero_le _⟩) (fun H locs hP hD hS => ?_)
  obtain rfl := Option.some.inj hF
  exact W.iret (v := u_1) hx hb hr (fun t ht hW => ⟨⟨u_1, (), rfl, rfl, by rw [ht]; exact hP, va_K.moved hW.alike hK, hD⟩, hS.F ht⟩) hS.2.2 dX9_normalY_8

-- StrokeOutliner$Segments.cross(II)J
def F_X9_cross (v0_3 : Nat → Int32) (v0_4 : Nat → Int32) (p1 : Int32) (p2 : Int32) : Option (Int64) :=
  obd (F_X4_at 32 v0_3 p1) (fun u_1 => obd (F_X4_at 32 v0_4 p2) (fun u_2 => obd (F_X4_at 32 v0_4 p1) (fun u_3 => obd (F_X4_at 32 v0_3 p2) (fun u_4 => some ((u_1.toInt64 * u_2.toInt64) - (u_3.toInt64 * u_4.toInt64))))))
abbrev wd_X9_cross (cI : ClassId) (a0 : Nat → Nat) (v0_10 : Int32) (v0_3 : Nat → Int32) (v0_4 : Nat → Int32) : va_W := [(a0 0, .inr (8, [.ref (a0 1), .ref (a0 2), .ref (a0 3), .ref (a0 4), .ref (a0 5), .ref (a0 6), .ref (a0 7), .ref (a0 8), .ref (a0 9), .ref (a0 10), .int v0_10])), (a0 4, .inl (cI, 32, .inl v0_3)), (a0 5, .inl (cI, 32, .inl v0_4))]
abbrev wz_X9_cross : List Cond := .code yX9_cross cX9_cross 3 (some .long) :: wALL
abbrev rm_X9_cross : Room := { frames := 1, cells := 0, slots := 0, locals := 21 }
abbrev Q_X9_cross (dC : Nat → ClassId) (dI : Nat → Nat → Nat) (cI : ClassId) (a0 : Nat → Nat) (v0_10 : Int32) (v0_3 : Nat → Int32) (v0_4 : Nat → Int32) (u : (Int64)) (A : Nat → Prop) : Array Value → State → Outcome → State → Prop := va_Ql (fun (r : Int64) (_ : Unit) => r = u) (fun _ => q_at dC dI cI A (wd_X9_cross cI a0 v0_10 v0_3 v0_4)) A
set_option maxHeartbeats 4000000 in
set_option maxRecDepth 100000 in
theorem c_X9_cross (l : Launch) (dC : Nat → ClassId) (dI : Nat → Nat → Nat) (cI : ClassId) (sz : Nat) (a0 : Nat → Nat) (v0_10 : Int32) (v0_3 : Nat → Int32) (v0_4 : Nat → Int32) (p1 : Int32) (p2 : Int32) (u : (Int64)) (hF : F_X9_cross v0_3 v0_4 p1 p2 = some u) : Met l yX9_cross wz_X9_cross rm_X9_cross (va_Pc [.ref (a0 0), .int p1, .int p2] (q_pre dC dI cI (wd_X9_cross cI a0 v0_10 v0_3 v0_4) sz)) (Q_X9_cross dC dI cI a0 v0_10 v0_3 v0_4 u (va_A (wd_X9_cross cI a0 v0_10 v0_3 v0_4) sz)) 0 0 (va_A (wd_X9_cross cI a0 v0_10 v0_3 v0_4) sz) := by
  refine Met.ofW (cc := cX9_cross) (maxL := 3) (ret := (some .long)) (by decide) rfl ?_
  intro p e s m args below meth c s₁ B hml hv
  obtain ⟨rfl, hsz, hP, hK, hD0⟩ := hv
  have hx := B.exec
  have hb := B.bytes
  have hr := B.returns
  have hts := atoms_spec (ws := wz_X9_cross) B.pre
  have hta := wz_tl hts
  have hown : s.vm.findClass RX9 = some m.cls := findClass_of_methodNamed B.named
  have hlocks := B.notSynchronized
  subst hsz
  have hD := hD0.self (sz := s.heap.size)
  generalize hAe : va_A (wd_X9_cross cI a0 v0_10 v0_3 v0_4) s.heap.size = A at hD ⊢
  have hA : ∀ q : Nat, s.heap.size ≤ q → A q := fun q h => by rw [← hAe]; exact Or.inr h
  have hS : va_S A s.heap s.heap [] := va_S.rf
  have hP : va_P (dC, dI) vwCl (wd_X9_cross cI a0 v0_10 v0_3 v0_4) s.heap := hP
  have hl := lv_entry ([.ref (a0 0), .int p1, .int p2]) (n := 3) (Nat.le_of_ble_eq_true rfl)
  rw [lg_entry_eq]
  generalize (lg_sl ([.ref (a0 0), .int p1, .int p2]) ++ List.replicate (3 - (lg_sl ([.ref (a0 0), .int p1, .int p2])).length) Slot.unset).toArray = ls at hl ⊢
  have hl : lv_has ls 3 [(0, .ref (a0 0)), (1, .int p1), (2, .int p2)] := hl
  obtain ⟨H, hHe⟩ : ∃ H, H = s.heap := ⟨_, rfl⟩
  have hS : va_S A s.heap H [] := by rw [hHe]; exact hS
  have hP : va_P (dC, dI) vwCl (wd_X9_cross cI a0 v0_10 v0_3 v0_4) H := by rw [hHe]; exact hP
  rw [← hHe]
  unfold F_X9_cross at hF
  refine lv_aload_n hx hb dX9_cross_0 rfl (lv_at hl 0 rfl) ?_
  refine va_get (D := (dC, dI)) (ci := 8) (v := .ref (a0 4)) (C := RX9) (T := TX9) (N := 11) hx hb hta uw_X9 hown hK hP 0 rfl rfl 3 (by decide) (hta _ mA68) (fun _ h9 => h9) rfl dX9_cross_1 ?_
  refine lv_iload_n hx hb dX9_cross_4 rfl (lv_at hl 1 rfl) ?_
  obtain ⟨u_1, hu_1, hF⟩ := obd_some hF
  have hPc := hP.sub (ws' := (wd_X4_at cI (a0 4) 32 v0_3)) [1] rfl
  have hDc := hD.sub (ws' := (wd_X4_at cI (a0 4) 32 v0_3)) [1] rfl rfl
  refine q_calli (wc := (wd_X4_at cI (a0 4) 32 v0_3)) (w1 := (wd_X4_at cI (a0 4) 32 v0_3)) (ws' := (wd_X9_cross cI a0 v0_10 v0_3 v0_4)) hP hD hS hA [1] [0, 2] [0, 2, 1] rfl rfl rfl (by decide) rfl rfl (va_runS (As := [.ref (a0 4), .int p1]) (rest := []) ⟨hx, hb, hml, hown, hta⟩ (c_X4_at l dC dI cI H.size (a0 4) 32 v0_3 p1 u_1 hu_1) (va_cwS 2 hta (ga_S mA236 mA237 mA221 mA238) rfl rfl rfl (by decide +kernel) ⟨Nat.le_of_ble_eq_true rfl, Nat.le_of_ble_eq_true rfl⟩) ⟨q_fb, q_ps hPc hK hDc⟩ rfl rfl hl.1 rfl (lv_room (Nat.le_of_ble_eq_true rfl)) dX9_cross_5 ⟨Nat.zero_le _, Nat.zero_le _⟩) (fun H locs hP hD hS => ?_)
  refine lv_i2l hx hb dX9_cross_8 rfl ?_
  refine lv_aload_n hx hb dX9_cross_9 rfl (lv_at hl 0 rfl) ?_
  refine va_get (D := (dC, dI)) (ci := 8) (v := .ref (a0 5)) (C := RX9) (T := TX9) (N := 11) hx hb hta uw_X9 hown hK hP 0 rfl rfl 4 (by decide) (hta _ mA69) (fun _ h9 => h9) rfl dX9_cross_10 ?_
  refine lv_iload_n hx hb dX9_cross_13 rfl (lv_at hl 2 rfl) ?_
  obtain ⟨u_2, hu_2, hF⟩ := obd_some hF
  have hPc := hP.sub (ws' := (wd_X4_at cI (a0 5) 32 v0_4)) [2] rfl
  have hDc := hD.sub (ws' := (wd_X4_at cI (a0 5) 32 v0_4)) [2] rfl rfl
  refine q_calli (wc := (wd_X4_at cI (a0 5) 32 v0_4)) (w1 := (wd_X4_at cI (a0 5) 32 v0_4)) (ws' := (wd_X9_cross cI a0 v0_10 v0_3 v0_4)) hP hD hS hA [2] [0, 1] [0, 1, 2] rfl rfl rfl (by decide) rfl rfl (va_runS (As := [.ref (a0 5), .int p2]) (rest := [.long u_1.toInt64]) ⟨hx, hb, hml, hown, hta⟩ (c_X4_at l dC dI cI H.size (a0 5) 32 v0_4 p2 u_2 hu_2) (va_cwS 2 hta (ga_S mA236 mA237 mA221 mA238) rfl rfl rfl (by decide +kernel) ⟨Nat.le_of_ble_eq_true rfl, Nat.le_of_ble_eq_true rfl⟩) ⟨q_fb, q_ps hPc hK hDc⟩ rfl rfl hl.1 rfl (lv_room (Nat.le_of_ble_eq_true rfl)) dX9_cross_14 ⟨Nat.zero_le _, Nat.zero_le _⟩) (fun H locs hP hD hS => ?_)
  refine lv_i2l hx hb dX9_cross_17 rfl ?_
  refine lv_lmul hx hb dX9_cross_18 ?_
  refine lv_aload_n hx hb dX9_cross_19 rfl (lv_at hl 0 rfl) ?_
  refine va_get (D := (dC, dI)) (ci := 8) (v := .ref (a0 5)) (C := RX9) (T := TX9) (N := 11) hx hb hta uw_X9 hown hK hP 0 rfl rfl 4 (by decide) (hta _ mA69) (fun _ h9 => h9) rfl dX9_cross_20 ?_
  refine lv_iload_n hx hb dX9_cross_23 rfl (lv_at hl 1 rfl) ?_
  obtain ⟨u_3, hu_3, hF⟩ := obd_some hF
  have hPc := hP.sub (ws' := (wd_X4_at cI (a0 5) 32 v0_4)) [2] rfl
  have hDc := hD.sub (ws' := (wd_X4_at cI (a0 5) 32 v0_4)) [2] rfl rfl
  refine q_calli (wc := (wd_X4_at cI (a0 5) 32 v0_4)) (w1 := (wd_X4_at cI (a0 5) 32 v0_4)) (ws' := (wd_X9_cross cI a0 v0_10 v0_3 v0_4)) hP hD hS hA [2] [0, 1] [0, 1, 2] rfl rfl rfl (by decide) rfl rfl (va_runS (As := [.ref (a0 5), .int p1]) (rest := [.long (u_1.toInt64 * u_2.toInt64)]) ⟨hx, hb, hml, hown, hta⟩ (c_X4_at l dC dI cI H.size (a0 5) 32 v0_4 p1 u_3 hu_3) (va_cwS 2 hta (ga_S mA236 mA237 mA221 mA238) rfl rfl rfl (by decide +kernel) ⟨Nat.le_of_ble_eq_true rfl, Nat.le_of_ble_eq_true rfl⟩) ⟨q_fb, q_ps hPc hK hDc⟩ rfl rfl hl.1 rfl (lv_room (Nat.le_of_ble_eq_true rfl)) dX9_cross_24 ⟨Nat.zero_le _, Nat.zero_le _⟩) (fun H locs hP hD hS => ?_)
  refine lv_i2l hx hb dX9_cross_27 rfl ?_
  refine lv_aload_n hx hb dX9_cross_28 rfl (lv_at hl 0 rfl) ?_
  refine va_get (D := (dC, dI)) (ci := 8) (v := .ref (a0 4)) (C := RX9) (T := TX9) (N := 11) hx hb hta uw_X9 hown hK hP 0 rfl rfl 3 (by decide) (hta _ mA68) (fun _ h9 => h9) rfl dX9_cross_29 ?_
  refine lv_iload_n hx hb dX9_cross_32 rfl (lv_at hl 2 rfl) ?_
  obtain ⟨u_4, hu_4, hF⟩ := obd_some hF
  have hPc := hP.sub (ws' := (wd_X4_at cI (a0 4) 32 v0_3)) [1] rfl
  have hDc := hD.sub (ws' := (wd_X4_at cI (a0 4) 32 v0_3)) [1] rfl rfl
  refine q_calli (wc := (wd_X4_at cI (a0 4) 32 v0_3)) (w1 := (wd_X4_at cI (a0 4) 32 v0_3)) (ws' := (wd_X9_cross cI a0 v0_10 v0_3 v0_4)) hP hD hS hA [1] [0, 2] [0, 2, 1] rfl rfl rfl (by decide) rfl rfl (va_runS (As := [.ref (a0 4), .int p2]) (rest := [.long u_3.toInt64, .long (u_1.toInt64 * u_2.toInt64)]) ⟨hx, hb, hml, hown, hta⟩ (c_X4_at l dC dI cI H.size (a0 4) 32 v0_3 p2 u_4 hu_4) (va_cwS 2 hta (ga_S mA236 mA237 mA221 mA238) rfl rfl rfl (by decide +kernel) ⟨Nat.le_of_ble_eq_true rfl, Nat.le_of_ble_eq_true rfl⟩) ⟨q_fb, q_ps hPc hK hDc⟩ rfl rfl hl.1 rfl (lv_room (Nat.le_of_ble_eq_true rfl)) dX9_cross_33 ⟨Nat.zero_le _, Nat.zero_le _⟩) (fun H locs hP hD hS => ?_)
  refine lv_i2l hx hb dX9_cross_36 rfl ?_
  refine lv_lmul hx hb dX9_cross_37 ?_
  refine lv_lsub hx hb dX9_cross_38 ?_
  obtain rfl := Option.some.inj hF
  exact W.lret (v := ((u_1.toInt64 * u_2.toInt64) - (u_3.toInt64 * u_4.toInt64))) hx hb hr (fun t ht hW => ⟨⟨((u_1.toInt64 * u_2.toInt64) - (u_3.toInt64 * u_4.toInt64)), (), rfl, rfl, by rw [ht]; exact hP, va_K.moved hW.alike hK, hD⟩, hS.F ht⟩) hS.2.2 dX9_cross_39

-- StrokeOutliner$Segments.dot(II)J
def F_X9_dot (v0_3 : Nat → Int32) (v0_4 : Nat → Int32) (p1 : Int32) (p2 : Int32) : Option (Int64) :=
  obd (F_X4_at 32 v0_3 p1) (fun u_1 => obd (F_X4_at 32 v0_3 p2) (fun u_2 => obd (F_X4_at 32 v0_4 p1) (fun u_3 => obd (F_X4_at 32 v0_4 p2) (fun u_4 => some ((u_1.toInt64 * u_2.toInt64) + (u_3.toInt64 * u_4.toInt64))))))
abbrev wd_X9_dot (cI : ClassId) (a0 : Nat → Nat) (v0_10 : Int32) (v0_3 : Nat → Int32) (v0_4 : Nat → Int32) : va_W := [(a0 0, .inr (8, [.ref (a0 1), .ref (a0 2), .ref (a0 3), .ref (a0 4), .ref (a0 5), .ref (a0 6), .ref (a0 7), .ref (a0 8), .ref (a0 9), .ref (a0 10), .int v0_10])), (a0 4, .inl (cI, 32, .inl v0_3)), (a0 5, .inl (cI, 32, .inl v0_4))]
abbrev wz_X9_dot : List Cond := .code yX9_dot cX9_dot 3 (some .long) :: wALL
abbrev rm_X9_dot : Room := { frames := 1, cells := 0, slots := 0, locals := 21 }
abbrev Q_X9_dot (dC : Nat → ClassId) (dI : Nat → Nat → Nat) (cI : ClassId) (a0 : Nat → Nat) (v0_10 : Int32) (v0_3 : Nat → Int32) (v0_4 : Nat → Int32) (u : (Int64)) (A : Nat → Prop) : Array Value → State → Outcome → State → Prop := va_Ql (fun (r : Int64) (_ : Unit) => r = u) (fun _ => q_at dC dI cI A (wd_X9_dot cI a0 v0_10 v0_3 v0_4)) A
set_option maxHeartbeats 4000000 in
set_option maxRecDepth 100000 in
theorem c_X9_dot (l : Launch) (dC : Nat → ClassId) (dI : Nat → Nat → Nat) (cI : ClassId) (sz : Nat) (a0 : Nat → Nat) (v0_10 : Int32) (v0_3 : Nat → Int32) (v0_4 : Nat → Int32) (p1 : Int32) (p2 : Int32) (u : (Int64)) (hF : F_X9_dot v0_3 v0_4 p1 p2 = some u) : Met l yX9_dot wz_X9_dot rm_X9_dot (va_Pc [.ref (a0 0), .int p1, .int p2] (q_pre dC dI cI (wd_X9_dot cI a0 v0_10 v0_3 v0_4) sz)) (Q_X9_dot dC dI cI a0 v0_10 v0_3 v0_4 u (va_A (wd_X9_dot cI a0 v0_10 v0_3 v0_4) sz)) 0 0 (va_A (wd_X9_dot cI a0 v0_10 v0_3 v0_4) sz) := by
  refine Met.ofW (cc := cX9_dot) (maxL := 3) (ret := (some .long)) (by decide) rfl ?_
  intro p e s m args below meth c s₁ B hml hv
  obtain ⟨rfl, hsz, hP, hK, hD0⟩ := hv
  have hx := B.exec
  have hb := B.bytes
  have hr := B.returns
  have hts := atoms_spec (ws := wz_X9_dot) B.pre
  have hta := wz_tl hts
  have hown : s.vm.findClass RX9 = some m.cls := findClass_of_methodNamed B.named
  have hlocks := B.notSynchronized
  subst hsz
  have hD := hD0.self (sz := s.heap.size)
  generalize hAe : va_A (wd_X9_dot cI a0 v0_10 v0_3 v0_4) s.heap.size = A at hD ⊢
  have hA : ∀ q : Nat, s.heap.size ≤ q → A q := fun q h => by rw [← hAe]; exact Or.inr h
  have hS : va_S A s.heap s.heap [] := va_S.rf
  have hP : va_P (dC, dI) vwCl (wd_X9_dot cI a0 v0_10 v0_3 v0_4) s.heap := hP
  have hl := lv_entry ([.ref (a0 0), .int p1, .int p2]) (n := 3) (Nat.le_of_ble_eq_true rfl)
  rw [lg_entry_eq]
  generalize (lg_sl ([.ref (a0 0), .int p1, .int p2]) ++ List.replicate (3 - (lg_sl ([.ref (a0 0), .int p1, .int p2])).length) Slot.unset).toArray = ls at hl ⊢
  have hl : lv_has ls 3 [(0, .ref (a0 0)), (1, .int p1), (2, .int p2)] := hl
  obtain ⟨H, hHe⟩ : ∃ H, H = s.heap := ⟨_, rfl⟩
  have hS : va_S A s.heap H [] := by rw [hHe]; exact hS
  have hP : va_P (dC, dI) vwCl (wd_X9_dot cI a0 v0_10 v0_3 v0_4) H := by rw [hHe]; exact hP
  rw [← hHe]
  unfold F_X9_dot at hF
  refine lv_aload_n hx hb dX9_dot_0 rfl (lv_at hl 0 rfl) ?_
  refine va_get (D := (dC, dI)) (ci := 8) (v := .ref (a0 4)) (C := RX9) (T := TX9) (N := 11) hx hb hta uw_X9 hown hK hP 0 rfl rfl 3 (by decide) (hta _ mA68) (fun _ h9 => h9) rfl dX9_dot_1 ?_
  refine lv_iload_n hx hb dX9_dot_4 rfl (lv_at hl 1 rfl) ?_
  obtain ⟨u_1, hu_1, hF⟩ := obd_some hF
  have hPc := hP.sub (ws' := (wd_X4_at cI (a0 4) 32 v0_3)) [1] rfl
  have hDc := hD.sub (ws' := (wd_X4_at cI (a0 4) 32 v0_3)) [1] rfl rfl
  refine q_calli (wc := (wd_X4_at cI (a0 4) 32 v0_3)) (w1 := (wd_X4_at cI (a0 4) 32 v0_3)) (ws' := (wd_X9_dot cI a0 v0_10 v0_3 v0_4)) hP hD hS hA [1] [0, 2] [0, 2, 1] rfl rfl rfl (by decide) rfl rfl (va_runS (As := [.ref (a0 4), .int p1]) (rest := []) ⟨hx, hb, hml, hown, hta⟩ (c_X4_at l dC dI cI H.size (a0 4) 32 v0_3 p1 u_1 hu_1) (va_cwS 2 hta (ga_S mA236 mA237 mA221 mA238) rfl rfl rfl (by decide +kernel) ⟨Nat.le_of_ble_eq_true rfl, Nat.le_of_ble_eq_true rfl⟩) ⟨q_fb, q_ps hPc hK hDc⟩ rfl rfl hl.1 rfl (lv_room (Nat.le_of_ble_eq_true rfl)) dX9_dot_5 ⟨Nat.zero_le _, Nat.zero_le _⟩) (fun H locs hP hD hS => ?_)
  refine lv_i2l hx hb dX9_dot_8 rfl ?_
  refine lv_aload_n hx hb dX9_dot_9 rfl (lv_at hl 0 rfl) ?_
  refine va_get (D := (dC, dI)) (ci := 8) (v := .ref (a0 4)) (C := RX9) (T := TX9) (N := 11) hx hb hta uw_X9 hown hK hP 0 rfl rfl 3 (by decide) (hta _ mA68) (fun _ h9 => h9) rfl dX9_dot_10 ?_
  refine lv_iload_n hx hb dX9_dot_13 rfl (lv_at hl 2 rfl) ?_
  obtain ⟨u_2, hu_2, hF⟩ := obd_some hF
  have hPc := hP.sub (ws' := (wd_X4_at cI (a0 4) 32 v0_3)) [1] rfl
  have hDc := hD.sub (ws' := (wd_X4_at cI (a0 4) 32 v0_3)) [1] rfl rfl
  refine q_calli (wc := (wd_X4_at cI (a0 4) 32 v0_3)) (w1 := (wd_X4_at cI (a0 4) 32 v0_3)) (ws' := (wd_X9_dot cI a0 v0_10 v0_3 v0_4)) hP hD hS hA [1] [0, 2] [0, 2, 1] rfl rfl rfl (by decide) rfl rfl (va_runS (As := [.ref (a0 4), .int p2]) (rest := [.long u_1.toInt64]) ⟨hx, hb, hml, hown, hta⟩ (c_X4_at l dC dI cI H.size (a0 4) 32 v0_3 p2 u_2 hu_2) (va_cwS 2 hta (ga_S mA236 mA237 mA221 mA238) rfl rfl rfl (by decide +kernel) ⟨Nat.le_of_ble_eq_true rfl, Nat.le_of_ble_eq_true rfl⟩) ⟨q_fb, q_ps hPc hK hDc⟩ rfl rfl hl.1 rfl (lv_room (Nat.le_of_ble_eq_true rfl)) dX9_dot_14 ⟨Nat.zero_le _, Nat.zero_le _⟩) (fun H locs hP hD hS => ?_)
  refine lv_i2l hx hb dX9_dot_17 rfl ?_
  refine lv_lmul hx hb dX9_dot_18 ?_
  refine lv_aload_n hx hb dX9_dot_19 rfl (lv_at hl 0 rfl) ?_
  refine va_get (D := (dC, dI)) (ci := 8) (v := .ref (a0 5)) (C := RX9) (T := TX9) (N := 11) hx hb hta uw_X9 hown hK hP 0 rfl rfl 4 (by decide) (hta _ mA69) (fun _ h9 => h9) rfl dX9_dot_20 ?_
  refine lv_iload_n hx hb dX9_dot_23 rfl (lv_at hl 1 rfl) ?_
  obtain ⟨u_3, hu_3, hF⟩ := obd_some hF
  have hPc := hP.sub (ws' := (wd_X4_at cI (a0 5) 32 v0_4)) [2] rfl
  have hDc := hD.sub (ws' := (wd_X4_at cI (a0 5) 32 v0_4)) [2] rfl rfl
  refine q_calli (wc := (wd_X4_at cI (a0 5) 32 v0_4)) (w1 := (wd_X4_at cI (a0 5) 32 v0_4)) (ws' := (wd_X9_dot cI a0 v0_10 v0_3 v0_4)) hP hD hS hA [2] [0, 1] [0, 1, 2] rfl rfl rfl (by decide) rfl rfl (va_runS (As := [.ref (a0 5), .int p1]) (rest := [.long (u_1.toInt64 * u_2.toInt64)]) ⟨hx, hb, hml, hown, hta⟩ (c_X4_at l dC dI cI H.size (a0 5) 32 v0_4 p1 u_3 hu_3) (va_cwS 2 hta (ga_S mA236 mA237 mA221 mA238) rfl rfl rfl (by decide +kernel) ⟨Nat.le_of_ble_eq_true rfl, Nat.le_of_ble_eq_true rfl⟩) ⟨q_fb, q_ps hPc hK hDc⟩ rfl rfl hl.1 rfl (lv_room (Nat.le_of_ble_eq_true rfl)) dX9_dot_24 ⟨Nat.zero_le _, Nat.zero_le _⟩) (fun H locs hP hD hS => ?_)
  refine lv_i2l hx hb dX9_dot_27 rfl ?_
  refine lv_aload_n hx hb dX9_dot_28 rfl (lv_at hl 0 rfl) ?_
  refine va_get (D := (dC, dI)) (ci := 8) (v := .ref (a0 5)) (C := RX9) (T := TX9) (N := 11) hx hb hta uw_X9 hown hK hP 0 rfl rfl 4 (by decide) (hta _ mA69) (fun _ h9 => h9) rfl dX9_dot_29 ?_
  refine lv_iload_n hx hb dX9_dot_32 rfl (lv_at hl 2 rfl) ?_
  obtain ⟨u_4, hu_4, hF⟩ := obd_some hF
  have hPc := hP.sub (ws' := (wd_X4_at cI (a0 5) 32 v0_4)) [2] rfl
  have hDc := hD.sub (ws' := (wd_X4_at cI (a0 5) 32 v0_4)) [2] rfl rfl
  refine q_calli (wc := (wd_X4_at cI (a0 5) 32 v0_4)) (w1 := (wd_X4_at cI (a0 5) 32 v0_4)) (ws' := (wd_X9_dot cI a0 v0_10 v0_3 v0_4)) hP hD hS hA [2] [0, 1] [0, 1, 2] rfl rfl rfl (by decide) rfl rfl (va_runS (As := [.ref (a0 5), .int p2]) (rest := [.long u_3.toInt64, .long (u_1.toInt64 * u_2.toInt64)]) ⟨hx, hb, hml, hown, hta⟩ (c_X4_at l dC dI cI H.size (a0 5) 32 v0_4 p2 u_4 hu_4) (va_cwS 2 hta (ga_S mA236 mA237 mA221 mA238) rfl rfl rfl (by decide +kernel) ⟨Nat.le_of_ble_eq_true rfl, Nat.le_of_ble_eq_true rfl⟩) ⟨q_fb, q_ps hPc hK hDc⟩ rfl rfl hl.1 rfl (lv_room (Nat.le_of_ble_eq_true rfl)) dX9_dot_33 ⟨Nat.zero_le _, Nat.zero_le _⟩) (fun H locs hP hD hS => ?_)
  refine lv_i2l hx hb dX9_dot_36 rfl ?_
  refine lv_lmul hx hb dX9_dot_37 ?_
  refine lv_ladd hx hb dX9_dot_38 ?_
  obtain rfl := Option.some.inj hF
  exact W.lret (v := ((u_1.toInt64 * u_2.toInt64) + (u_3.toInt64 * u_4.toInt64))) hx hb hr (fun t ht hW => ⟨⟨((u_1.toInt64 * u_2.toInt64) + (u_3.toInt64 * u_4.toInt64)), (), rfl, rfl, by rw [ht]; exact hP, va_K.moved hW.alike hK, hD⟩, hS.F ht⟩) hS.2.2 dX9_dot_39

-- StrokeOutliner$Segments.alongX(I)I
def F_X9_alongX (v0_8 : Nat → Int32) (p1 : Int32) : Option (Int32) :=
  obd (F_X4_at 32 v0_8 p1) (fun u_1 => some u_1)
abbrev wd_X9_alongX (cI : ClassId) (a0 : Nat → Nat) (v0_10 : Int32) (v0_8 : Nat → Int32) : va_W := [(a0 0, .inr (8, [.ref (a0 1), .ref (a0 2), .ref (a0 3), .ref (a0 4), .ref (a0 5), .ref (a0 6), .ref (a0 7), .ref (a0 8), .ref (a0 9), .ref (a0 10), .int v0_10])), (a0 9, .inl (cI, 32, .inl v0_8))]
abbrev wz_X9_alongX : List Cond := .code yX9_alongX cX9_alongX 2 (some .int) :: wALL
abbrev rm_X9_alongX : Room := { frames := 1, cells := 0, slots := 0, locals := 21 }
abbrev Q_X9_alongX (dC : Nat → ClassId) (dI : Nat → Nat → Nat) (cI : ClassId) (a0 : Nat → Nat) (v0_10 : Int32) (v0_8 : Nat → Int32) (u : (Int32)) (A : Nat → Prop) : Array Value → State → Outcome → State → Prop := va_Qi (fun (r : Int32) (_ : Unit) => r = u) (fun _ => q_at dC dI cI A (wd_X9_alongX cI a0 v0_10 v0_8)) A
set_option maxHeartbeats 4000000 in
set_option maxRecDepth 100000 in
theorem c_X9_alongX (l : Launch) (dC : Nat → ClassId) (dI : Nat → Nat → Nat) (cI : ClassId) (sz : Nat) (a0 : Nat → Nat) (v0_10 : Int32) (v0_8 : Nat → Int32) (p1 : Int32) (u : (Int32)) (hF : F_X9_alongX v0_8 p1 = some u) : Met l yX9_alongX wz_X9_alongX rm_X9_alongX (va_Pc [.ref (a0 0), .int p1] (q_pre dC dI cI (wd_X9_alongX cI a0 v0_10 v0_8) sz)) (Q_X9_alongX dC dI cI a0 v0_10 v0_8 u (va_A (wd_X9_alongX cI a0 v0_10 v0_8) sz)) 0 0 (va_A (wd_X9_alongX cI a0 v0_10 v0_8) sz) := by
  refine Met.ofW (cc := cX9_alongX) (maxL := 2) (ret := (some .int)) (by decide) rfl ?_
  intro p e s m args below meth c s₁ B hml hv
  obtain ⟨rfl, hsz, hP, hK, hD0⟩ := hv
  have hx := B.exec
  have hb := B.bytes
  have hr := B.returns
  have hts := atoms_spec (ws := wz_X9_alongX) B.pre
  have hta := wz_tl hts
  have hown : s.vm.findClass RX9 = some m.cls := findClass_of_methodNamed B.named
  have hlocks := B.notSynchronized
  subst hsz
  have hD := hD0.self (sz := s.heap.size)
  generalize hAe : va_A (wd_X9_alongX cI a0 v0_10 v0_8) s.heap.size = A at hD ⊢
  have hA : ∀ q : Nat, s.heap.size ≤ q → A q := fun q h => by rw [← hAe]; exact Or.inr h
  have hS : va_S A s.heap s.heap [] := va_S.rf
  have hP : va_P (dC, dI) vwCl (wd_X9_alongX cI a0 v0_10 v0_8) s.heap := hP
  have hl := lv_entry ([.ref (a0 0), .int p1]) (n := 2) (Nat.le_of_ble_eq_true rfl)
  rw [lg_entry_eq]
  generalize (lg_sl ([.ref (a0 0), .int p1]) ++ List.replicate (2 - (lg_sl ([.ref (a0 0), .int p1])).length) Slot.unset).toArray = ls at hl ⊢
  have hl : lv_has ls 2 [(0, .ref (a0 0)), (1, .int p1)] := hl
  obtain ⟨H, hHe⟩ : ∃ H, H = s.heap := ⟨_, rfl⟩
  have hS : va_S A s.heap H [] := by rw [hHe]; exact hS
  have hP : va_P (dC, dI) vwCl (wd_X9_alongX cI a0 v0_10 v0_8) H := by rw [hHe]; exact hP
  rw [← hHe]
  unfold F_X9_alongX at hF
  refine lv_aload_n hx hb dX9_alongX_0 rfl (lv_at hl 0 rfl) ?_
  refine va_get (D := (dC, dI)) (ci := 8) (v := .ref (a0 9)) (C := RX9) (T := TX9) (N := 11) hx hb hta uw_X9 hown hK hP 0 rfl rfl 8 (by decide) (hta _ mA73) (fun _ h9 => h9) rfl dX9_alongX_1 ?_
  refine lv_iload_n hx hb dX9_alongX_4 rfl (lv_at hl 1 rfl) ?_
  obtain ⟨u_1, hu_1, hF⟩ := obd_some hF
  have hPc := hP.sub (ws' := (wd_X4_at cI (a0 9) 32 v0_8)) [1] rfl
  have hDc := hD.sub (ws' := (wd_X4_at cI (a0 9) 32 v0_8)) [1] rfl rfl
  refine q_calli (wc := (wd_X4_at cI (a0 9) 32 v0_8)) (w1 := (wd_X4_at cI (a0 9) 32 v0_8)) (ws' := (wd_X9_alongX cI a0 v0_10 v0_8)) hP hD hS hA [1] [0] [0, 1] rfl rfl rfl (by decide) rfl rfl (va_runS (As := [.ref (a0 9), .int p1]) (rest := []) ⟨hx, hb, hml, hown, hta⟩ (c_X4_at l dC dI cI H.size (a0 9) 32 v0_8 p1 u_1 hu_1) (va_cwS 2 hta (ga_S mA236 mA237 mA221 mA238) rfl rfl rfl (by decide +kernel) ⟨Nat.le_of_ble_eq_true rfl, Nat.le_of_ble_eq_true rfl⟩) ⟨q_fb, q_ps hPc hK hDc⟩ rfl rfl hl.1 rfl (lv_room (Nat.le_of_ble_eq_true rfl)) dX9_alongX_5 ⟨Nat.zero_le _, Nat.zero_le _⟩) (fun H locs hP hD hS => ?_)
  obtain rfl := Option.some.inj hF
  exact W.iret (v := u_1) hx hb hr (fun t ht hW => ⟨⟨u_1, (), rfl, rfl, by rw [ht]; exact hP, va_K.moved hW.alike hK, hD⟩, hS.F ht⟩) hS.2.2 dX9_alongX_8

-- StrokeOutliner$Segments.alongY(I)I
def F_X9_alongY (v0_9 : Nat → Int32) (p1 : Int32) : Option (Int32) :=
  obd (F_X4_at 32 v0_9 p1) (fun u_1 => some u_1)
abbrev wd_X9_alongY (cI : ClassId) (a0 : Nat → Nat) (v0_10 : Int32) (v0_9 : Nat → Int32) : va_W := [(a0 0, .inr (8, [.ref (a0 1), .ref (a0 2), .ref (a0 3), .ref (a0 4), .ref (a0 5), .ref (a0 6), .ref (a0 7), .ref (a0 8), .ref (a0 9), .ref (a0 10), .int v0_10])), (a0 10, .inl (cI, 32, .inl v0_9))]
abbrev wz_X9_alongY : List Cond := .code yX9_alongY cX9_alongY 2 (some .int) :: wALL
abbrev rm_X9_alongY : Room := { frames := 1, cells := 0, slots := 0, locals := 21 }
abbrev Q_X9_alongY (dC : Nat → ClassId) (dI : Nat → Nat → Nat) (cI : ClassId) (a0 : Nat → Nat) (v0_10 : Int32) (v0_9 : Nat → Int32) (u : (Int32)) (A : Nat → Prop) : Array Value → State → Outcome → State → Prop := va_Qi (fun (r : Int32) (_ : Unit) => r = u) (fun _ => q_at dC dI cI A (wd_X9_alongY cI a0 v0_10 v0_9)) A
set_option maxHeartbeats 4000000 in
set_option maxRecDepth 100000 in
theorem c_X9_alongY (l : Launch) (dC : Nat → ClassId) (dI : Nat → Nat → Nat) (cI : ClassId) (sz : Nat) (a0 : Nat → Nat) (v0_10 : Int32) (v0_9 : Nat → Int32) (p1 : Int32) (u : (Int32)) (hF : F_X9_alongY v0_9 p1 = some u) : Met l yX9_alongY wz_X9_alongY rm_X9_alongY (va_Pc [.ref (a0 0), .int p1] (q_pre dC dI cI (wd_X9_alongY cI a0 v0_10 v0_9) sz)) (Q_X9_alongY dC dI cI a0 v0_10 v0_9 u (va_A (wd_X9_alongY cI a0 v0_10 v0_9) sz)) 0 0 (va_A (wd_X9_alongY cI a0 v0_10 v0_9) sz) := by
  refine Met.ofW (cc := cX9_alongY) (maxL := 2) (ret := (some .int)) (by decide) rfl ?_
  intro p e s m args below meth c s₁ B hml hv
  obtain ⟨rfl, hsz, hP, hK, hD0⟩ := hv
  have hx := B.exec
  have hb := B.bytes
  have hr := B.returns
  have hts := atoms_spec (ws := wz_X9_alongY) B.pre
  have hta := wz_tl hts
  have hown : s.vm.findClass RX9 = some m.cls := findClass_of_methodNamed B.named
  have hlocks := B.notSynchronized
  subst hsz
  have hD := hD0.self (sz := s.heap.size)
  generalize hAe : va_A (wd_X9_alongY cI a0 v0_10 v0_9) s.heap.size = A at hD ⊢
  have hA : ∀ q : Nat, s.heap.size ≤ q → A q := fun q h => by rw [← hAe]; exact Or.inr h
  have hS : va_S A s.heap s.heap [] := va_S.rf
  have hP : va_P (dC, dI) vwCl (wd_X9_alongY cI a0 v0_10 v0_9) s.heap := hP
  have hl := lv_entry ([.ref (a0 0), .int p1]) (n := 2) (Nat.le_of_ble_eq_true rfl)
  rw [lg_entry_eq]
  generalize (lg_sl ([.ref (a0 0), .int p1]) ++ List.replicate (2 - (lg_sl ([.ref (a0 0), .int p1])).length) Slot.unset).toArray = ls at hl ⊢
  have hl : lv_has ls 2 [(0, .ref (a0 0)), (1, .int p1)] := hl
  obtain ⟨H, hHe⟩ : ∃ H, H = s.heap := ⟨_, rfl⟩
  have hS : va_S A s.heap H [] := by rw [hHe]; exact hS
  have hP : va_P (dC, dI) vwCl (wd_X9_alongY cI a0 v0_10 v0_9) H := by rw [hHe]; exact hP
  rw [← hHe]
  unfold F_X9_alongY at hF
  refine lv_aload_n hx hb dX9_alongY_0 rfl (lv_at hl 0 rfl) ?_
  refine va_get (D := (dC, dI)) (ci := 8) (v := .ref (a0 10)) (C := RX9) (T := TX9) (N := 11) hx hb hta uw_X9 hown hK hP 0 rfl rfl 9 (by decide) (hta _ mA74) (fun _ h9 => h9) rfl dX9_alongY_1 ?_
  refine lv_iload_n hx hb dX9_alongY_4 rfl (lv_at hl 1 rfl) ?_
  obtain ⟨u_1, hu_1, hF⟩ := obd_some hF
  have hPc := hP.sub (ws' := (wd_X4_at cI (a0 10) 32 v0_9)) [1] rfl
  have hDc := hD.sub (ws' := (wd_X4_at cI (a0 10) 32 v0_9)) [1] rfl rfl
  refine q_calli (wc := (wd_X4_at cI (a0 10) 32 v0_9)) (w1 := (wd_X4_at cI (a0 10) 32 v0_9)) (ws' := (wd_X9_alongY cI a0 v0_10 v0_9)) hP hD hS hA [1] [0] [0, 1] rfl rfl rfl (by decide) rfl rfl (va_runS (As := [.ref (a0 10), .int p1]) (rest := []) ⟨hx, hb, hml, hown, hta⟩ (c_X4_at l dC dI cI H.size (a0 10) 32 v0_9 p1 u_1 hu_1) (va_cwS 2 hta (ga_S mA236 mA237 mA221 mA238) rfl rfl rfl (by decide +kernel) ⟨Nat.le_of_ble_eq_true rfl, Nat.le_of_ble_eq_true rfl⟩) ⟨q_fb, q_ps hPc hK hDc⟩ rfl rfl hl.1 rfl (lv_room (Nat.le_of_ble_eq_true rfl)) dX9_alongY_5 ⟨Nat.zero_le _, Nat.zero_le _⟩) (fun H locs hP hD hS => ?_)
  obtain rfl := Option.some.inj hF
  exact W.iret (v := u_1) hx hb hr (fun t ht hW => ⟨⟨u_1, (), rfl, rfl, by rw [ht]; exact hP, va_K.moved hW.alike hK, hD⟩, hS.F ht⟩) hS.2.2 dX9_alongY_8
